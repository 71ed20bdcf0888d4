/-! ===== the class reads a text ===== -/
section CF
variable {B : Nat → Int32} {n : Nat}
theorem cs_fill73 (L : Nat → Nat → Int64) : ∀ (k i : Nat) (I : Nat → Nat → Int32), i + k = 36 → ∃ I' : Nat → Nat → Int32, (∃ n9, xr_J7_fill_53178 n9 (5, [(0, .ref 73), (1, .int 0), (2, .int (Int32.ofNat i)), (3, .int (36 : Int32))], [], (I, L)) none (I', L)) ∧ (∀ j, i ≤ j → j < 36 → I' 73 j = 0) ∧ (∀ g j, Nat.beq g 73 = false → I' g j = I g j) ∧ ∀ j, j < i → I' 73 j = I 73 j := by
  intro k
  induction k with
  | zero =>
    intro i I hi
    exact ⟨I, pt_J7_fill_53178_73_1 ((cmpN rfl (b := 36) rfl (by omega) (by omega)).trans (decide_eq_true (by omega))), fun j h1 h2 => by omega, fun g j _ => rfl, fun j _ => rfl⟩
  | succ k ih =>
    intro i I hi
    obtain ⟨I', r, h1, h2, h3⟩ := ih (i + 1) (xu I 73 i 0) (by omega)
    refine ⟨I', pt_J7_fill_53178_73_2 ((cmpN rfl (b := 36) rfl (by omega) (by omega)).trans (decide_eq_false (by omega))) (xib (by omega) (by omega)) ?_, fun j a b => ?_, fun g j hg => ?_, fun j hj => ?_⟩
    · rw [ti1, tin (by omega)]
      exact r
    · by_cases e : j = i
      · rw [h3 j (by omega), e, xu_eq]
      · exact h1 j (by omega) b
    · rw [h2 g j hg, xu_ne (by rw [hg]; rfl)]
    · rw [h3 j (by omega), xu_ne (by rw [nb_F (a := j) (b := i) (by omega)]; rfl)]
theorem cs_fill75 (L : Nat → Nat → Int64) : ∀ (k i : Nat) (I : Nat → Nat → Int32), i + k = 6 → ∃ I' : Nat → Nat → Int32, (∃ n9, xr_J7_fill_53178 n9 (5, [(0, .ref 75), (1, .int 0), (2, .int (Int32.ofNat i)), (3, .int (6 : Int32))], [], (I, L)) none (I', L)) ∧ ∀ g j, Nat.beq g 75 = false → I' g j = I g j := by
  intro k
  induction k with
  | zero =>
    intro i I hi
    exact ⟨I, pt_J7_fill_53178_75_1 ((cmpN rfl (b := 6) rfl (by omega) (by omega)).trans (decide_eq_true (by omega))), fun g j _ => rfl⟩
  | succ k ih =>
    intro i I hi
    obtain ⟨I', r, h2⟩ := ih (i + 1) (xu I 75 i 0) (by omega)
    refine ⟨I', pt_J7_fill_53178_75_2 ((cmpN rfl (b := 6) rfl (by omega) (by omega)).trans (decide_eq_false (by omega))) (xib (by omega) (by omega)) ?_, fun g j hg => ?_⟩
    · rw [ti1, tin (by omega)]
      exact r
    · rw [h2 g j hg, xu_ne (by rw [hg]; rfl)]
def lp_s0 : lp_st := ([], 0, fun _ => 0, 0, false)
theorem lp_s0_ok : lp_ok lp_s0 := ⟨by decide, fun j hj => absurd hj (Nat.not_lt_zero _), by decide, by decide, fun _ => (show (0 : Int) ≤ (0 : Int32).toInt by decide)⟩
theorem cs_clear (I : Nat → Nat → Int32) (L : Nat → Nat → Int64) : ∃ I' : Nat → Nat → Int32, fx_X10_clear [.ref 64] (I, L) none (I', L) ∧ I' 64 0 = 0 ∧ I' 66 0 = 0 ∧ (∀ j, j < 36 → I' 73 j = 0) ∧ ∀ g j, Nat.blt g 64 = true → I' g j = I g j := by
  obtain ⟨I1, r1, a1, a2, -⟩ := cs_fill73 L 36 0 (xu (xu I 64 0 0) 66 0 0) rfl
  obtain ⟨I2, r2, b2⟩ := cs_fill75 L 6 0 I1 rfl
  have c1 : fx_X1_clear [.ref 72] (xu (xu I 64 0 0) 66 0 0, L) none (I1, L) := mk_X1_clear trivial (pt_X1_clear_0 (mk_J7_fill_53178 trivial (pt_J7_fill_53178_73_0 r1)))
  have c2 : fx_J7_fill_53178 [.int 0, .ref 75] (I1, L) none (I2, L) := mk_J7_fill_53178 trivial (pt_J7_fill_53178_75_0 r2)
  refine ⟨_, mk_X10_clear trivial (pt_X10_clear_0 c1 c2), ?_, ?_, fun j hj => ?_, fun g j hg => ?_⟩
  · show I2 64 0 = 0
    rw [b2 64 0 rfl, a2 64 0 rfl]
    rfl
  · show I2 66 0 = 0
    rw [b2 66 0 rfl, a2 66 0 rfl]
    rfl
  · show I2 73 j = 0
    rw [b2 73 j rfl]
    exact a1 j (Nat.zero_le _) hj
  · have hg := zf_blt hg
    have q64 : Nat.beq g 64 = false := nb_F (by omega)
    have q66 : Nat.beq g 66 = false := nb_F (by omega)
    have q73 : Nat.beq g 73 = false := nb_F (by omega)
    have q75 : Nat.beq g 75 = false := nb_F (by omega)
    rw [xu_ne (by rw [q64]; rfl), xu_ne (by rw [q64]; rfl), xu_ne (by rw [q64]; rfl), xu_ne (by rw [q64]; rfl), b2 g j q75, a2 g j q73, xu_ne (by rw [q66]; rfl), xu_ne (by rw [q64]; rfl)]
theorem cs_read (hn : n ≤ 940) {I : Nat → Nat → Int32} {L : Nat → Nat → Int64} (h1 : I 1 1 = Int32.ofNat n) (hB : ∀ i, i < 940 → I 2 i = B i) : lp_XC (fun v hp9 => fx_X11_read [.ref 64, .ref 4] (I, L) v hp9) (lp_tx B n (n + 1) 0 0 lp_s0) := by
  obtain ⟨I1, c1, a1, a2, a3, a4⟩ := cs_clear I L
  obtain ⟨I2, L2, s1, E2, s3, s4⟩ := sp_step (B := B) (n := n) (lim := 900) (p := 0) (I := xu (xu (xu (xu (xu (xu I1 4 1 0) 4 2 0) 3 1 900) 3 3 0) 3 9 0) 3 10 0) (L := L) hn (by decide) (Nat.zero_le _) ((a4 1 1 rfl).trans h1) (fun i hi => (a4 2 i rfl).trans (hB i hi)) rfl rfl
  have c2 : fx_X7_open [.int 900, .ref 3] (xu (xu I1 4 1 0) 4 2 0, L) none (I2, L2) := mk_X7_open trivial (pt_X7_open_0 s1)
  have F : fp lp_S3 (xu (xu (xu (xu (xu (xu I1 4 1 0) 4 2 0) 3 1 900) 3 3 0) 3 9 0) 3 10 0) I2 := s3.mono (fun g i h => lp_SS h)
  have F2 : fpl lp_L3 L L2 := s4.mono (fun g i h => lp_LL h)
  have T0 : lp_TC lp_s0 (xu (xu (xu (xu (xu (xu I1 4 1 0) 4 2 0) 3 1 900) 3 3 0) 3 9 0) 3 10 0) L := ⟨a1, fun j hj => absurd hj (Nat.not_lt_zero _), a2, a3, rfl, rfl⟩
  have T2 := tc_fr T0 F F2
  have hh := cs_text (B := B) hn (n + 1) 0 0 lp_s0 (xu I2 4 3 0) L2 (by omega) (Nat.zero_le _) (Nat.zero_le _) (encT_up (g := 4) (i := 3) (x := 0) E2 rfl) ⟨T2.1, T2.2.1, T2.2.2.1, T2.2.2.2.1, T2.2.2.2.2.1, T2.2.2.2.2.2⟩ lp_s0_ok rfl (F 3 9 rfl)
  cases hx : lp_tx B n (n + 1) 0 0 lp_s0 with
  | inl q =>
    rw [hx] at hh
    obtain ⟨I3, L3, r3, u⟩ := hh
    exact ⟨I3, L3, mk_X11_read (Or.inl rfl) (pt_X11_read_0 c1 c2 r3), u⟩
  | inr q =>
    rw [hx] at hh
    obtain ⟨I3, L3, r3, u⟩ := hh
    exact ⟨I3, L3, mk_X11_read (Or.inr rfl) (pt_X11_read_0 c1 c2 r3), u⟩
end CF
