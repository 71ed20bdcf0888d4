/-! ===== image and restore of the reference: the men ===== -/
theorem kv_m : ∀ a : Nat, a < 2 → (874 : Int32) * Int32.ofNat a = Int32.ofNat (874 * a)
  | 0, _ => by decide
  | 1, _ => by decide
theorem kv_n : ∀ a : Nat, a < 2 → (6 : Int32) * Int32.ofNat a = Int32.ofNat (6 * a)
  | 0, _ => by decide
  | 1, _ => by decide
theorem kv_in (a1 : Int32) (hp : xe_H) : (∃ a : Nat, a < 2 ∧ a1 = Int32.ofNat a ∧ fx_X13_isIn [.int (1 : Int32), .int (0 : Int32), .int a1] hp (some (.int 1)) hp) ∨ (¬ (a1 = 0 ∨ a1 = 1) ∧ fx_X13_isIn [.int (1 : Int32), .int (0 : Int32), .int a1] hp (some (.int 0)) hp) := by
  obtain ⟨I, L⟩ := hp
  cases h1 : xe_cmp .lt a1 (0 : Int32) with
  | true =>
    refine .inr ⟨?_, mk_X13_isIn (Or.inl rfl) (pt_X13_isIn_0 h1)⟩
    rintro (rfl | rfl) <;> cases h1
  | false =>
    cases h2 : xe_cmp .gt a1 (1 : Int32) with
    | true =>
      refine .inr ⟨?_, mk_X13_isIn (Or.inl rfl) (pt_X13_isIn_1 h1 h2)⟩
      rintro (rfl | rfl) <;> cases h2
    | false =>
      have q1 : ¬ a1 < (0 : Int32) := of_decide_eq_false h1
      have q2 : ¬ (1 : Int32) < a1 := of_decide_eq_false h2
      have z1 : ¬ a1.toInt < 0 := fun q => q1 (Int32.lt_iff_toInt_lt.mpr q)
      have z2 : ¬ 1 < a1.toInt := fun q => q2 (Int32.lt_iff_toInt_lt.mpr q)
      refine .inl ⟨a1.toInt.toNat, by omega, ofn (by omega), mk_X13_isIn (Or.inr rfl) (pt_X13_isIn_2 h1 h2)⟩
section KV
theorem kv_i1 {L : Nat → Nat → Int64} {a : Nat} (ha : a < 2) : ∀ (k i : Nat) (I : Nat → Nat → Int32), i + k = 874 → ∃ I' : Nat → Nat → Int32, (i = 0 → I' 33 (874 * a) = I 20 0) ∧ (0 < i → I' 33 (874 * a) = I 33 (874 * a)) ∧ (∀ b : Nat, b < 2 → b ≠ a → I' 33 (874 * b) = I 33 (874 * b)) ∧ (∀ g j, Nat.beq g 33 = false → I' g j = I g j) ∧ ∀ v hp9, (∃ n9, xr_X13_image n9 (51, [(0, .ref 18), (1, .int (Int32.ofNat a)), (2, .int (0 : Int32))], [], (I', L)) v hp9) → ∃ n9, xr_X13_image n9 (18, [(0, .ref 18), (1, .int (Int32.ofNat a)), (2, .int (Int32.ofNat i))], [], (I, L)) v hp9 := by
  intro k
  induction k with
  | zero =>
    intro i I hi
    exact ⟨I, fun h => by omega, fun _ => rfl, fun b _ _ => rfl, fun g j _ => rfl, fun v hp9 r => pt_X13_image_2 ((cmpN rfl (b := 874) rfl (by omega) (by omega)).trans (decide_eq_true (by omega))) r⟩
  | succ k ih =>
    intro i I hi
    have ei : (Int32.ofNat i).toInt.toNat = i := tin (by omega)
    have em : (874 : Int32) * Int32.ofNat a + Int32.ofNat i = Int32.ofNat (874 * a + i) := by rw [kv_m a ha, tadd]
    obtain ⟨I', a1, a2, a3, a4, r⟩ := ih (i + 1) (xu I 33 (874 * a + i) (I 20 i)) (by omega)
    refine ⟨I', fun h => ?_, fun h => ?_, fun b hb hne => ?_, fun g j hg => ?_, fun v hp9 r9 => pt_X13_image_3 ((cmpN rfl (b := 874) rfl (by omega) (by omega)).trans (decide_eq_false (by omega))) (xib (by omega) (by omega)) (by rw [em]; exact xib (by omega) (by omega)) ?_⟩
    · subst h
      rw [a2 (by omega)]
      exact xu_eq
    · rw [a2 (by omega), xu_ne (by rw [nb_F (a := 874 * a) (b := 874 * a + i) (by omega)]; rfl)]
    · rw [a3 b hb hne, xu_ne (by rw [nb_F (a := 874 * b) (b := 874 * a + i) (by omega)]; rfl)]
    · rw [a4 g j hg, xu_ne (by rw [hg]; rfl)]
    · rw [em, tin (by omega), ei, ti1]
      exact r v hp9 r9
theorem kv_i2 {I : Nat → Nat → Int32} {a : Nat} (ha : a < 2) : ∀ (k i : Nat) (L : Nat → Nat → Int64), i + k = 6 → ∃ L' : Nat → Nat → Int64, (∀ j, i ≤ j → j < 6 → L' 34 (6 * a + j) = L 23 j) ∧ (∀ j, j < 6 * a + i ∨ 6 * a + 6 ≤ j → L' 34 j = L 34 j) ∧ (∀ g j, Nat.beq g 34 = false → L' g j = L g j) ∧ ∃ n9, xr_X13_image n9 (51, [(0, .ref 18), (1, .int (Int32.ofNat a)), (2, .int (Int32.ofNat i))], [], (I, L)) (some (.int (1 : Int32))) (xu I 35 a (1 : Int32), L') := by
  intro k
  induction k with
  | zero =>
    intro i L hi
    refine ⟨L, fun j h1 h2 => by omega, fun j _ => rfl, fun g j _ => rfl, ?_⟩
    have ea : (Int32.ofNat a).toInt.toNat = a := tin (by omega)
    have r := pt_X13_image_4 (I := I) (L := L) (l1 := Int32.ofNat a) (l2 := Int32.ofNat i) ((cmpN rfl (b := 6) rfl (by omega) (by omega)).trans (decide_eq_true (by omega))) (by rw [xib ha (by omega)]; decide)
    rw [ea] at r
    exact r
  | succ k ih =>
    intro i L hi
    have ei : (Int32.ofNat i).toInt.toNat = i := tin (by omega)
    have em : (6 : Int32) * Int32.ofNat a + Int32.ofNat i = Int32.ofNat (6 * a + i) := by rw [kv_n a ha, tadd]
    obtain ⟨L', a1, a2, a3, r⟩ := ih (i + 1) (xul L 34 (6 * a + i) (L 23 i)) (by omega)
    refine ⟨L', fun j h1 h2 => ?_, fun j hj => ?_, fun g j hg => ?_, pt_X13_image_5 ((cmpN rfl (b := 6) rfl (by omega) (by omega)).trans (decide_eq_false (by omega))) (xib (by omega) (by omega)) (by rw [em]; exact xib (by omega) (by omega)) ?_⟩
    · by_cases e : j = i
      · rw [a2 (6 * a + j) (by omega), e]
        exact xul_eq
      · rw [a1 j (by omega) h2, xul_ne rfl]
    · rw [a2 j (by omega), xul_ne (by rw [nb_F (a := j) (b := 6 * a + i) (by omega)]; rfl)]
    · rw [a3 g j hg, xul_ne (by rw [hg]; rfl)]
    · rw [em, tin (by omega), ei, ti1]
      exact r
/-- what image leaves in the reference -/
theorem kv_image (a1 : Int32) (I : Nat → Nat → Int32) (L : Nat → Nat → Int64) : (∃ a : Nat, a < 2 ∧ a1 = Int32.ofNat a ∧ ∃ (I' : Nat → Nat → Int32) (L' : Nat → Nat → Int64), fx_X13_image [.int a1, .ref 18] (I, L) (some (.int 1)) (I', L') ∧ I' 33 (874 * a) = I 20 0 ∧ (∀ b : Nat, b < 2 → b ≠ a → I' 33 (874 * b) = I 33 (874 * b)) ∧ (∀ j, j < 6 → L' 34 (6 * a + j) = L 23 j) ∧ ∀ j, j < 6 * a ∨ 6 * a + 6 ≤ j → L' 34 j = L 34 j) ∨ (¬ (a1 = 0 ∨ a1 = 1) ∧ ∃ I' : Nat → Nat → Int32, fx_X13_image [.int a1, .ref 18] (I, L) (some (.int 0)) (I', L)) := by
  rcases kv_in a1 (xu I 18 0 0, L) with ⟨a, ha, ea, c1⟩ | ⟨hne, c1⟩
  · obtain ⟨I1, b1, b2, b3, b4, r1⟩ := kv_i1 (L := L) ha 874 0 (xu I 18 0 0) rfl
    obtain ⟨L2, d1, d2, d3, r2⟩ := kv_i2 (I := I1) ha 6 0 L rfl
    refine .inl ⟨a, ha, ea, xu I1 35 a 1, L2, mk_X13_image (Or.inr rfl) (pt_X13_image_0 c1 ?_), (b1 rfl).trans rfl, fun b hb hne => (b3 b hb hne).trans rfl, fun j hj => d1 j (Nat.zero_le _) hj, fun j hj => d2 j (by omega)⟩
    rw [ea]
    exact r1 _ _ r2
  · exact .inr ⟨hne, xu I 18 0 0, mk_X13_image (Or.inl rfl) (pt_X13_image_1 c1)⟩
theorem kv_r1 {L : Nat → Nat → Int64} {a : Nat} (ha : a < 2) : ∀ (k i : Nat) (I : Nat → Nat → Int32), i + k = 874 → ∃ I' : Nat → Nat → Int32, (i = 0 → I' 20 0 = I 33 (874 * a)) ∧ (0 < i → I' 20 0 = I 20 0) ∧ (∀ g j, Nat.beq g 20 = false → I' g j = I g j) ∧ ∀ v hp9, (∃ n9, xr_X13_restore n9 (60, [(0, .ref 18), (1, .int (Int32.ofNat a)), (2, .int (0 : Int32))], [], (I', L)) v hp9) → ∃ n9, xr_X13_restore n9 (27, [(0, .ref 18), (1, .int (Int32.ofNat a)), (2, .int (Int32.ofNat i))], [], (I, L)) v hp9 := by
  intro k
  induction k with
  | zero =>
    intro i I hi
    exact ⟨I, fun h => by omega, fun _ => rfl, fun g j _ => rfl, fun v hp9 r => pt_X13_restore_3 ((cmpN rfl (b := 874) rfl (by omega) (by omega)).trans (decide_eq_true (by omega))) r⟩
  | succ k ih =>
    intro i I hi
    have ei : (Int32.ofNat i).toInt.toNat = i := tin (by omega)
    have em : (874 : Int32) * Int32.ofNat a + Int32.ofNat i = Int32.ofNat (874 * a + i) := by rw [kv_m a ha, tadd]
    obtain ⟨I', a1, a2, a3, r⟩ := ih (i + 1) (xu I 20 i (I 33 (874 * a + i))) (by omega)
    refine ⟨I', fun h => ?_, fun h => ?_, fun g j hg => ?_, fun v hp9 r9 => pt_X13_restore_4 ((cmpN rfl (b := 874) rfl (by omega) (by omega)).trans (decide_eq_false (by omega))) (by rw [em]; exact xib (by omega) (by omega)) (xib (by omega) (by omega)) ?_⟩
    · subst h
      rw [a2 (by omega)]
      exact xu_eq
    · rw [a2 (by omega), xu_ne (by rw [nb_F (a := 0) (b := i) (by omega)]; rfl)]
    · rw [a3 g j hg, xu_ne (by rw [hg]; rfl)]
    · rw [em, ei, tin (by omega), ti1]
      exact r v hp9 r9
theorem kv_r2 {I : Nat → Nat → Int32} {a : Nat} (ha : a < 2) : ∀ (k i : Nat) (L : Nat → Nat → Int64), i + k = 6 → ∃ L' : Nat → Nat → Int64, (∀ j, i ≤ j → j < 6 → L' 23 j = L 34 (6 * a + j)) ∧ (∀ j, j < i → L' 23 j = L 23 j) ∧ (∀ g j, Nat.beq g 23 = false → L' g j = L g j) ∧ ∃ n9, xr_X13_restore n9 (60, [(0, .ref 18), (1, .int (Int32.ofNat a)), (2, .int (Int32.ofNat i))], [], (I, L)) (some (.int (1 : Int32))) (xu I 18 25 (0 : Int32), L') := by
  intro k
  induction k with
  | zero =>
    intro i L hi
    exact ⟨L, fun j h1 h2 => by omega, fun j _ => rfl, fun g j _ => rfl, pt_X13_restore_5 ((cmpN rfl (b := 6) rfl (by omega) (by omega)).trans (decide_eq_true (by omega)))⟩
  | succ k ih =>
    intro i L hi
    have ei : (Int32.ofNat i).toInt.toNat = i := tin (by omega)
    have em : (6 : Int32) * Int32.ofNat a + Int32.ofNat i = Int32.ofNat (6 * a + i) := by rw [kv_n a ha, tadd]
    obtain ⟨L', a1, a2, a3, r⟩ := ih (i + 1) (xul L 23 i (L 34 (6 * a + i))) (by omega)
    refine ⟨L', fun j h1 h2 => ?_, fun j hj => ?_, fun g j hg => ?_, pt_X13_restore_6 ((cmpN rfl (b := 6) rfl (by omega) (by omega)).trans (decide_eq_false (by omega))) (by rw [em]; exact xib (by omega) (by omega)) (xib (by omega) (by omega)) ?_⟩
    · by_cases e : j = i
      · rw [a2 j (by omega), e]
        exact xul_eq
      · rw [a1 j (by omega) h2, xul_ne rfl]
    · rw [a2 j (by omega), xul_ne (by rw [nb_F (a := j) (b := i) (by omega)]; rfl)]
    · rw [a3 g j hg, xul_ne (by rw [hg]; rfl)]
    · rw [em, ei, tin (by omega), ti1]
      exact r
/-- what restore leaves in the reference, of an image that is there -/
theorem kv_restore {a : Nat} (ha : a < 2) (I : Nat → Nat → Int32) (L : Nat → Nat → Int64) (h1 : I 35 a = 1) : ∃ (I' : Nat → Nat → Int32) (L' : Nat → Nat → Int64), fx_X13_restore [.int (Int32.ofNat a), .ref 18] (I, L) (some (.int 1)) (I', L') ∧ I' 20 0 = I 33 (874 * a) ∧ (∀ j, j < 6 → L' 23 j = L 34 (6 * a + j)) := by
  rcases kv_in (Int32.ofNat a) (xu I 18 0 0, L) with ⟨a', ha', ea, c1⟩ | ⟨hne, -⟩
  · obtain ⟨I1, b1, b2, b4, r1⟩ := kv_r1 (L := L) ha 874 0 (xu I 18 0 0) rfl
    obtain ⟨L2, d1, d2, d3, r2⟩ := kv_r2 (I := I1) ha 6 0 L rfl
    refine ⟨xu I1 18 25 0, L2, mk_X13_restore (Or.inr rfl) (pt_X13_restore_0 c1 (xib ha (by omega)) ?_ (r1 _ _ r2)), (b1 rfl).trans rfl, fun j hj => d1 j (Nat.zero_le _) hj⟩
    have e9 : xu I 18 0 (0 : Int32) 35 ((Int32.ofNat a).toInt.toNat) = 1 := by
      rw [tin (by omega), xu_ne rfl]
      exact h1
    rw [e9]
    decide
  · exfalso
    match a, ha, hne with
    | 0, _, hne => exact hne (.inl rfl)
    | 1, _, hne => exact hne (.inr rfl)
end KV
