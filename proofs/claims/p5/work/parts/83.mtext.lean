/-! ===== the reference's town: its loops, its answer ===== -/
def lp_S20 (g i : Nat) : Bool := Nat.beq g 20 && Nat.ble 87 i
theorem s20_T {i : Nat} (h : 87 ≤ i) : lp_S20 20 i = true := by
  show (Nat.beq 20 20 && Nat.ble 87 i) = true
  rw [Nat.ble_eq_true_of_le h]; rfl
theorem s20_F {i : Nat} (h : i < 87) : lp_S20 20 i = false := by
  show (Nat.beq 20 20 && Nat.ble 87 i) = false
  cases hb : Nat.ble 87 i
  · rfl
  · exact absurd (Nat.le_of_ble_eq_true hb) (by omega)
theorem ofn {x : Int32} (h : 0 ≤ x.toInt) : x = Int32.ofNat x.toInt.toNat := by
  have h2 : x.toInt < 2147483648 := by have := zi_hi x; omega
  exact Int32.toInt_inj.mp (by rw [ti (by omega)]; omega)
def lp_XM (g : Option Value → xe_H → Prop) (r : lp_rs) : Prop := match r with
  | .inl q => ∃ hp9 : xe_H, g (some (.int (Int32.ofInt (-1) - Int32.ofNat q.2))) hp9 ∧ hp9.1 18 15 = q.1
  | .inr q => ∃ hp9 : xe_H, g (some (.int (Int32.ofNat q.1))) hp9 ∧ hp9.1 18 15 = 0
section MT
variable {L : Nat → Nat → Int64}
theorem mt_ix (a l : Nat) (h : a + l < 2147483648) : (Int32.ofNat a + Int32.ofNat l).toInt.toNat = a + l := by rw [tadd]; exact tin h
theorem mt_ib (a l : Nat) {m : Nat} (h : a + l < m) (hm : m < 2147483648) : xe_ib (Int32.ofNat a + Int32.ofNat l) m = true := by rw [tadd]; exact xib h hm
theorem mt_L4 {l m : Nat} (hl : l < 16) (hm : m ≤ 12) : ∀ (k i : Nat) (I : Nat → Nat → Int32), i + k = m → I 20 (19 + l) = Int32.ofNat m → ∃ I' : Nat → Nat → Int32, fp lp_S20 I I' ∧ ∀ v hp9, (∃ n9, xr_X13_town n9 (188, [(0, .ref 18), (1, .int (Int32.ofNat (l + 1)))], [], (I', L)) v hp9) → ∃ n9, xr_X13_town n9 (254, [(0, .ref 18), (1, .int (Int32.ofNat l)), (2, .int (Int32.ofNat i))], [], (I, L)) v hp9 := by
  intro k
  induction k with
  | zero =>
    intro i I hi h19
    have e19 : I 20 (((19 : Int32) + Int32.ofNat l).toInt.toNat) = Int32.ofNat m := by
      have q19 : ((19 : Int32) + Int32.ofNat l).toInt.toNat = 19 + l := mt_ix 19 l (by omega)
      rw [q19]; exact h19
    refine ⟨I, fp.rf, fun v hp9 r => pt_X13_town_16 (mt_ib 19 l (by omega) (by omega)) ((cmpN rfl e19 (by omega) (by omega)).trans (decide_eq_true (by omega))) ?_⟩
    rw [ti1]
    exact r
  | succ k ih =>
    intro i I hi h19
    have e19 : I 20 (((19 : Int32) + Int32.ofNat l).toInt.toNat) = Int32.ofNat m := by
      have q19 : ((19 : Int32) + Int32.ofNat l).toInt.toNat = 19 + l := mt_ix 19 l (by omega)
      rw [q19]; exact h19
    have x0 : ((181 : Int32) + ((32 : Int32) * Int32.ofNat l)) + Int32.ofNat i = Int32.ofNat (181 + 32 * l + i) := by
      rw [show (181 : Int32) = Int32.ofNat 181 from rfl, show (32 : Int32) = Int32.ofNat 32 from rfl, tmul, tadd, tadd]
    have x1 : (((181 : Int32) + ((32 : Int32) * Int32.ofNat l)) + Int32.ofNat i).toInt.toNat = 181 + 32 * l + i := by rw [x0]; exact tin (by omega)
    obtain ⟨I', F, r⟩ := ih (i + 1) (xu I 20 (181 + 32 * l + i) ((I 20 (((35 : Int32) + Int32.ofNat l).toInt.toNat) >>> (((2 : Int32) * Int32.ofNat i) &&& 31)) &&& (3 : Int32))) (by omega) (by rw [xu_ne (by rw [nb_F (a := 19 + l) (b := 181 + 32 * l + i) (by omega)]; rfl)]; exact h19)
    refine ⟨I', (fp.rf.up (s20_T (by omega))).tr F, fun v hp9 r9 => pt_X13_town_17 (mt_ib 19 l (by omega) (by omega)) ((cmpN rfl e19 (by omega) (by omega)).trans (decide_eq_false (by omega))) (mt_ib 35 l (by omega) (by omega)) (by rw [x0]; exact xib (by omega) (by omega)) ?_⟩
    rw [ti1, x1]
    exact r v hp9 r9
theorem mt_L3 {nl : Nat} (hnl : nl ≤ 16) : ∀ (k i : Nat) (I : Nat → Nat → Int32), i + k = nl → I 20 1 = Int32.ofNat nl → (∀ j, j < 16 → 0 ≤ (I 20 (19 + j)).toInt ∧ (I 20 (19 + j)).toInt ≤ 12) → ∃ I' : Nat → Nat → Int32, fp lp_S20 I I' ∧ ∀ v hp9, (∃ n9, xr_X13_town n9 (311, [(0, .ref 18), (1, .int (0 : Int32))], [], (I', L)) v hp9) → ∃ n9, xr_X13_town n9 (188, [(0, .ref 18), (1, .int (Int32.ofNat i))], [], (I, L)) v hp9 := by
  intro k
  induction k with
  | zero =>
    intro i I hi h1 hb
    exact ⟨I, fp.rf, fun v hp9 r => pt_X13_town_12 ((cmpN rfl h1 (by omega) (by omega)).trans (decide_eq_true (by omega))) r⟩
  | succ k ih =>
    intro i I hi h1 hb
    have q91 := mt_ix 91 i (by omega)
    have q107 := mt_ix 107 i (by omega)
    have q123 := mt_ix 123 i (by omega)
    have run : ∃ I3 : Nat → Nat → Int32, fp lp_S20 I I3 ∧ ∀ v hp9, (∃ n9, xr_X13_town n9 (254, [(0, .ref 18), (1, .int (Int32.ofNat i)), (2, .int (0 : Int32))], [], (I3, L)) v hp9) → ∃ n9, xr_X13_town n9 (188, [(0, .ref 18), (1, .int (Int32.ofNat i))], [], (I, L)) v hp9 := by
      refine ⟨_, ?_, fun v hp9 r9 => pt_X13_town_13 ((cmpN rfl h1 (by omega) (by omega)).trans (decide_eq_false (by omega))) (mt_ib 3 i (by omega) (by omega)) (mt_ib 91 i (by omega) (by omega)) (mt_ib 19 i (by omega) (by omega)) (mt_ib 107 i (by omega) (by omega)) (mt_ib 3 i (by omega) (by omega)) (mt_ib 123 i (by omega) (by omega)) r9⟩
      exact ((fp.rf.up (s20_T (show 87 ≤ (Int32.ofNat 91 + Int32.ofNat i).toInt.toNat by omega))).up (s20_T (show 87 ≤ (Int32.ofNat 107 + Int32.ofNat i).toInt.toNat by omega))).up (s20_T (show 87 ≤ (Int32.ofNat 123 + Int32.ofNat i).toInt.toNat by omega))
    obtain ⟨I3, F3, r3⟩ := run
    have b3 := hb i (by omega)
    have e3 : I3 20 (19 + i) = Int32.ofNat (I 20 (19 + i)).toInt.toNat := by
      rw [F3 20 (19 + i) (s20_F (by omega))]
      exact ofn b3.1
    obtain ⟨I4, F4, r4⟩ := mt_L4 (L := L) (l := i) (m := (I 20 (19 + i)).toInt.toNat) (by omega) (by omega) (I 20 (19 + i)).toInt.toNat 0 I3 (Nat.zero_add _) e3
    obtain ⟨I5, F5, r5⟩ := ih (i + 1) I4 (by omega) (by rw [F4 20 1 (s20_F (by omega)), F3 20 1 (s20_F (by omega))]; exact h1) (fun j hj => by rw [F4 20 (19 + j) (s20_F (by omega)), F3 20 (19 + j) (s20_F (by omega))]; exact hb j hj)
    exact ⟨I5, (F3.tr F4).tr F5, fun v hp9 r9 => r3 v hp9 (r4 v hp9 (r5 v hp9 r9))⟩
theorem mt_L5 : ∀ (k i : Nat) (I : Nat → Nat → Int32), i + k = 36 → ∃ I' : Nat → Nat → Int32, I' 18 15 = I 18 15 ∧ ∃ n9, xr_X13_town n9 (311, [(0, .ref 18), (1, .int (Int32.ofNat i))], [], (I, L)) (some (.int (I 18 19))) (I', L) := by
  intro k
  induction k with
  | zero =>
    intro i I hi
    exact ⟨xu I 18 25 0, rfl, pt_X13_town_14 (I := I) (L := L) ((cmpN (a := i) rfl (b := 36) rfl (by omega) (by omega)).trans (decide_eq_true (by omega)))⟩
  | succ k ih =>
    intro i I hi
    obtain ⟨I', e, r⟩ := ih (i + 1) (xu I 20 (((139 : Int32) + Int32.ofNat i).toInt.toNat) (I 20 (((51 : Int32) + Int32.ofNat i).toInt.toNat))) (by omega)
    refine ⟨I', e, pt_X13_town_15 ((cmpN rfl (b := 36) rfl (by omega) (by omega)).trans (decide_eq_false (by omega))) (mt_ib 51 i (by omega) (by omega)) (mt_ib 139 i (by omega) (by omega)) ?_⟩
    rw [ti1]
    exact r
theorem mt_L2 {I : Nat → Nat → Int32} : ∀ (k i : Nat) (L : Nat → Nat → Int64), i + k = 6 → ∃ L' : Nat → Nat → Int64, ∀ v hp9, (∃ n9, xr_X13_town n9 (188, [(0, .ref 18), (1, .int (0 : Int32))], [], (xu I 20 87 (I 20 1), L')) v hp9) → ∃ n9, xr_X13_town n9 (146, [(0, .ref 18), (1, .int (Int32.ofNat i))], [], (I, L)) v hp9 := by
  intro k
  induction k with
  | zero =>
    intro i L hi
    exact ⟨L, fun v hp9 r => pt_X13_town_10 ((cmpN rfl (b := 6) rfl (by omega) (by omega)).trans (decide_eq_true (by omega))) r⟩
  | succ k ih =>
    intro i L hi
    obtain ⟨L', r⟩ := ih (i + 1) (xul L 23 ((Int32.ofNat i).toInt.toNat) (L 23 (((6 : Int32) + Int32.ofNat i).toInt.toNat))) (by omega)
    refine ⟨L', fun v hp9 r9 => pt_X13_town_11 ((cmpN rfl (b := 6) rfl (by omega) (by omega)).trans (decide_eq_false (by omega))) (mt_ib 6 i (by omega) (by omega)) (xib (by omega) (by omega)) ?_⟩
    rw [ti1]
    exact r v hp9 r9
theorem mt_L1 : ∀ (k i : Nat) (I : Nat → Nat → Int32), i + k = 874 → ∃ I' : Nat → Nat → Int32, (∀ j, i ≤ j → j < 87 → I' 20 j = I 21 j) ∧ (∀ j, j < i → I' 20 j = I 20 j) ∧ (∀ g j, Nat.beq g 20 = false → I' g j = I g j) ∧ ∀ v hp9, (∃ n9, xr_X13_town n9 (146, [(0, .ref 18), (1, .int (0 : Int32))], [], (I', L)) v hp9) → ∃ n9, xr_X13_town n9 (109, [(0, .ref 18), (1, .int (Int32.ofNat i))], [], (I, L)) v hp9 := by
  intro k
  induction k with
  | zero =>
    intro i I hi
    exact ⟨I, fun j h1 h2 => by omega, fun j _ => rfl, fun g j _ => rfl, fun v hp9 r => pt_X13_town_7 ((cmpN rfl (b := 874) rfl (by omega) (by omega)).trans (decide_eq_true (by omega))) r⟩
  | succ k ih =>
    intro i I hi
    have g1 : xe_cmp .ge (Int32.ofNat i) (874 : Int32) = false := (cmpN rfl (b := 874) rfl (by omega) (by omega)).trans (decide_eq_false (by omega))
    have ei : (Int32.ofNat i).toInt.toNat = i := tin (by omega)
    by_cases h87 : 87 ≤ i
    · obtain ⟨I', a1, a2, a3, r⟩ := ih (i + 1) (xu I 20 i 0) (by omega)
      refine ⟨I', fun j h1 h2 => by omega, fun j hj => ?_, fun g j hg => ?_, fun v hp9 r9 => pt_X13_town_8 g1 ((cmpN rfl (b := 87) rfl (by omega) (by omega)).trans (decide_eq_true h87)) (xib (by omega) (by omega)) ?_⟩
      · rw [a2 j (by omega), xu_ne (by rw [nb_F (a := j) (b := i) (by omega)]; rfl)]
      · rw [a3 g j hg, xu_ne (by rw [hg]; rfl)]
      · rw [ti1, ei]
        exact r v hp9 r9
    · obtain ⟨I', a1, a2, a3, r⟩ := ih (i + 1) (xu I 20 i (I 21 i)) (by omega)
      refine ⟨I', fun j h1 h2 => ?_, fun j hj => ?_, fun g j hg => ?_, fun v hp9 r9 => pt_X13_town_9 g1 ((cmpN rfl (b := 87) rfl (by omega) (by omega)).trans (decide_eq_false (by omega))) (xib (by omega) (by omega)) (xib (by omega) (by omega)) ?_⟩
      · by_cases e : j = i
        · rw [a2 j (by omega), e, xu_eq]
        · rw [a1 j (by omega) h2, xu_ne rfl]
      · rw [a2 j (by omega), xu_ne (by rw [nb_F (a := j) (b := i) (by omega)]; rfl)]
      · rw [a3 g j hg, xu_ne (by rw [hg]; rfl)]
      · rw [ti1, ei]
        exact r v hp9 r9
theorem mt_tail {I : Nat → Nat → Int32} {st : lp_st} (T : lp_TM st I L) (O : lp_ok st) : ∃ hp9 : xe_H, (∃ n9, xr_X13_town n9 (109, [(0, .ref 18), (1, .int (0 : Int32))], [], (I, L)) (some (.int (I 18 19))) hp9) ∧ hp9.1 18 15 = I 18 15 := by
  obtain ⟨I1, a1, a2, a3, r1⟩ := mt_L1 (L := L) 874 0 I rfl
  obtain ⟨L2, r2⟩ := mt_L2 (I := I1) 6 0 L rfl
  have h87 : ∀ j, j < 87 → xu I1 20 87 (I1 20 1) 20 j = I 21 j := fun j hj => by
    rw [xu_ne (by rw [nb_F (a := j) (b := 87) (by omega)]; rfl)]
    exact a1 j (Nat.zero_le _) hj
  obtain ⟨I3, F3, r3⟩ := mt_L3 (L := L2) (nl := st.2.1) O.2.2.1 st.2.1 0 (xu I1 20 87 (I1 20 1)) (Nat.zero_add _) (by rw [h87 1 (by decide)]; exact T.2.2.1) (fun j hj => by rw [h87 (19 + j) (by omega)]; exact T.2.2.2.2.2.2.2 j hj)
  obtain ⟨I5, e5, r5⟩ := mt_L5 (L := L2) 36 0 I3 rfl
  have e19 : I3 18 19 = I 18 19 := (F3 18 19 rfl).trans (a3 18 19 rfl)
  rw [e19] at r5
  exact ⟨_, r1 _ _ (r2 _ _ (r3 _ _ r5)), e5.trans ((F3 18 15 rfl).trans (a3 18 15 rfl))⟩
theorem mt_L0 : ∀ (k i : Nat) (I : Nat → Nat → Int32), i + k = 87 → ∃ I' : Nat → Nat → Int32, (∀ j, i ≤ j → j < 87 → I' 21 j = 0) ∧ (∀ j, j < i → I' 21 j = I 21 j) ∧ (∀ g j, Nat.beq g 21 = false → I' g j = I g j) ∧ ∀ v hp9, (∃ n9, xr_X13_town n9 (34, [(0, .ref 18), (1, .int (Int32.ofNat 87))], [], (I', L)) v hp9) → ∃ n9, xr_X13_town n9 (34, [(0, .ref 18), (1, .int (Int32.ofNat i))], [], (I, L)) v hp9 := by
  intro k
  induction k with
  | zero =>
    intro i I hi
    have e : i = 87 := hi
    subst e
    exact ⟨I, fun j h1 h2 => by omega, fun j _ => rfl, fun g j _ => rfl, fun v hp9 r => r⟩
  | succ k ih =>
    intro i I hi
    have ei : (Int32.ofNat i).toInt.toNat = i := tin (by omega)
    obtain ⟨I', a1, a2, a3, r⟩ := ih (i + 1) (xu I 21 i 0) (by omega)
    refine ⟨I', fun j h1 h2 => ?_, fun j hj => ?_, fun g j hg => ?_, fun v hp9 r9 => pt_X13_town_2 ((cmpN rfl (b := 87) rfl (by omega) (by omega)).trans (decide_eq_false (by omega))) (xib (by omega) (by omega)) ?_⟩
    · by_cases e : j = i
      · rw [a2 j (by omega), e, xu_eq]
      · exact a1 j (by omega) h2
    · rw [a2 j (by omega), xu_ne (by rw [nb_F (a := j) (b := i) (by omega)]; rfl)]
    · rw [a3 g j hg, xu_ne (by rw [hg]; rfl)]
    · rw [ti1, ei]
      exact r v hp9 r9
end MT
section MU
variable {B : Nat → Int32} {n : Nat}
theorem mt_text (hn : n ≤ 940) (hB0 : ∀ i, i < 940 → 0 ≤ (B i).toInt) (l1 : Int32) : ∀ (k p c : Nat) (st : lp_st) (J : Nat → Nat → Int32) (M : Nat → Nat → Int64), n < p + k → p ≤ n → EncM B n 900 p J M → lp_TM st J M → lp_ok st → J 18 19 = Int32.ofNat c → J 18 15 = 0 →
    lp_XM (fun v hp9 => ∃ n9, xr_X13_town n9 (64, [(0, .ref 18), (1, .int l1)], [], (J, M)) v hp9) (lp_tx B n k p c st) := by
  intro k
  induction k with
  | zero => intro p c st J M h1 h2; omega
  | succ k ih =>
    intro p c st J M hk hp E T O e19 e15
    have e11 : J 18 11 = Int32.ofNat (mK B n 900 p) := E.2.2.2.2.2.1
    obtain ⟨m1, m2, m0, m4, m3⟩ := mK_1 (B := B) (n := n) (lim := 900) (p := p)
    cases h0 : Nat.beq (tK B n 900 p) 0 with
    | true =>
      have e : lp_tx B n (k + 1) p c st = .inr (c, st) := by unfold lp_tx; rw [h0]; rfl
      rw [e]
      obtain ⟨hp9, r, e9⟩ := mt_tail T O
      rw [e19] at r
      exact ⟨hp9, pt_X13_town_3 ((cmpN e11 (b := 0) rfl (by omega) (by omega)).trans (decide_eq_true (m0.mpr (Nat.eq_of_beq_eq_true h0)))) r, e9.trans e15⟩
    | false =>
      have h0' := nb_ne h0
      have g2 : xe_cmp .eq (J 18 11) 0 = false := (cmpN e11 (b := 0) rfl (by omega) (by omega)).trans (decide_eq_false (fun q => h0' (m0.mp q)))
      have hr := ms_line hn hB0 hp E T O
      cases hx : lp_line B n p st with
      | inl q =>
        have e : lp_tx B n (k + 1) p c st = .inl q := by unfold lp_tx; rw [h0, hx]; rfl
        rw [e]
        rw [hx] at hr
        obtain ⟨J1, M1, c1, q1, q2⟩ := hr
        have r := pt_X13_town_6 (l1 := l1) g2 c1
        rw [q2] at r
        exact ⟨_, r, q1⟩
      | inr q =>
        obtain ⟨O1, a1, a2⟩ := lp_line_ok hp O hx
        rw [hx] at hr
        obtain ⟨J1, M1, c1, E1, T1, q1, q2⟩ := hr
        obtain ⟨s1, s2⟩ := ms_sign hn hB0 a2 E1
        cases hs : lp_sg B n q.1 with
        | false =>
          have e : lp_tx B n (k + 1) p c st = .inl (1, tA B n 900 q.1) := by
            unfold lp_tx; rw [h0, hx]
            show (bif lp_sg B n q.1 then lp_tx B n k (tN B n 900 q.1) (c + 1) q.2 else .inl (1, tA B n 900 q.1)) = _
            rw [hs]; rfl
          rw [e]
          obtain ⟨J2, M2, c2, u1, u2⟩ := s1 hs
          have r := pt_X13_town_5 (l1 := l1) g2 c1 c2
          rw [u2] at r
          exact ⟨_, r, u1⟩
        | true =>
          have e : lp_tx B n (k + 1) p c st = lp_tx B n k (tN B n 900 q.1) (c + 1) q.2 := by
            unfold lp_tx; rw [h0, hx]
            show (bif lp_sg B n q.1 then lp_tx B n k (tN B n 900 q.1) (c + 1) q.2 else .inl (1, tA B n 900 q.1)) = _
            rw [hs]
            cases k <;> rfl
          rw [e]
          obtain ⟨J2, M2, c2, E2, F1, F2⟩ := s2 hs
          have h3 : tK B n 900 q.1 = 3 := by
            unfold lp_sg at hs
            rw [Bool.and_eq_true] at hs
            exact Nat.eq_of_beq_eq_true hs.1
          have a3 := lp_adv a2 h3 (by decide) (by decide)
          have n2 := (tN_le (B := B) (lim := 900) a2).2.1
          have i19 : J2 18 19 = Int32.ofNat c := (F1 18 19 rfl).trans (q1.trans e19)
          have T2 := tm_fr T1 F1 F2
          have hh := ih (tN B n 900 q.1) (c + 1) q.2 (xu J2 18 19 (J2 18 19 + 1)) M2 (by omega) n2 (encM_up (g := 18) (i := 19) (x := J2 18 19 + 1) E2 rfl) ⟨T2.1, T2.2.1, T2.2.2.1, T2.2.2.2.1, T2.2.2.2.2.1, T2.2.2.2.2.2.1, T2.2.2.2.2.2.2.1, T2.2.2.2.2.2.2.2⟩ O1 (by show J2 18 19 + 1 = _; rw [i19]; exact ti1 _) ((F1 18 15 rfl).trans (q2.trans e15))
          cases hy : lp_tx B n k (tN B n 900 q.1) (c + 1) q.2 with
          | inl r =>
            rw [hy] at hh
            obtain ⟨hp9, r3, u⟩ := hh
            exact ⟨hp9, pt_X13_town_4 g2 c1 c2 r3, u⟩
          | inr r =>
            rw [hy] at hh
            obtain ⟨hp9, r3, u⟩ := hh
            exact ⟨hp9, pt_X13_town_4 g2 c1 c2 r3, u⟩
theorem mt_town (hn : n ≤ 940) (hB0 : ∀ i, i < 940 → 0 ≤ (B i).toInt) {J : Nat → Nat → Int32} {M : Nat → Nat → Int64} (h2 : J 18 2 = Int32.ofNat n) (hB : ∀ i, i < 940 → J 19 i &&& 255 = B i) (hR : ∀ j, j < 23 → M 24 j = rsv j) : lp_XM (fun v hp9 => fx_X13_town [.ref 18] (J, M) v hp9) (lp_tx B n (n + 1) 0 0 lp_s0) := by
  have c1 : fx_X13_taken [.int 900, .ref 18] (xu J 18 0 0, M) none (xu (xu (xu (xu (xu J 18 0 0) 18 3 (xu J 18 0 0 18 2)) 18 2 0) 18 4 0) 18 5 900, M) := mk_X13_taken trivial pt_X13_taken_0
  obtain ⟨J1, a1, a2, a3, r1⟩ := mt_L0 (L := M) 87 0 (xu (xu (xu (xu (xu (xu (xu (xu (xu J 18 0 0) 18 3 (xu J 18 0 0 18 2)) 18 2 0) 18 4 0) 18 5 900) 18 15 0) 18 19 0) 18 20 0) 18 21 0) rfl
  obtain ⟨J2, M2, c2, E2, s3, s4⟩ := sp_next (B := B) (n := n) (lim := 900) (p := 0) (I := xu J1 21 2 1) (L := M) hn (by decide) (Nat.zero_le _) ((a3 18 3 rfl).trans h2) (a3 18 4 rfl) (a3 18 5 rfl) (fun i hi => by
    have e : xu J1 21 2 1 19 i = J 19 i := a3 19 i rfl
    rw [e]; exact hB i hi) hB0
  have F : fp lp_S18 (xu J1 21 2 1) J2 := s3.mono (fun g i h => lp_SM h)
  have F2 : fpl lp_L18 M M2 := s4.mono (fun g i h => lp_LMm h)
  have z : ∀ j, j < 87 → j ≠ 2 → xu J1 21 2 1 21 j = 0 := fun j hj h2 => by
    rw [xu_ne (by rw [nb_F h2]; rfl)]
    exact a1 j (Nat.zero_le _) hj
  have T0 : lp_TM lp_s0 (xu J1 21 2 1) M := ⟨z 0 (by decide) (by decide), fun j hj => absurd hj (Nat.not_lt_zero _), z 1 (by decide) (by decide), fun j hj => z (51 + j) (by omega) (by omega), a3 18 20 rfl, a3 18 21 rfl, hR, fun j hj => by rw [z (19 + j) (by omega) (by omega)]; exact ⟨by decide, by decide⟩⟩
  have T2 := tm_fr T0 F F2
  have hh := mt_text (B := B) hn hB0 (Int32.ofNat 87) (n + 1) 0 0 lp_s0 J2 M2 (by omega) (Nat.zero_le _) E2 T2 lp_s0_ok ((F 18 19 rfl).trans (a3 18 19 rfl)) ((F 18 15 rfl).trans (a3 18 15 rfl))
  have go : ∀ v hp9, (∃ n9, xr_X13_town n9 (64, [(0, .ref 18), (1, .int (Int32.ofNat 87))], [], (J2, M2)) v hp9) → ∃ n9, xr_X13_town n9 (0, [(0, .ref 18)], [], (J, M)) v hp9 := fun v hp9 r => pt_X13_town_0 c1 (r1 v hp9 (pt_X13_town_1 (by decide) c2 r))
  cases hx : lp_tx B n (n + 1) 0 0 lp_s0 with
  | inl q =>
    rw [hx] at hh
    obtain ⟨hp9, r3, u⟩ := hh
    exact ⟨hp9, mk_X13_town trivial (go _ _ r3), u⟩
  | inr q =>
    rw [hx] at hh
    obtain ⟨hp9, r3, u⟩ := hh
    exact ⟨hp9, mk_X13_town trivial (go _ _ r3), u⟩
end MU
