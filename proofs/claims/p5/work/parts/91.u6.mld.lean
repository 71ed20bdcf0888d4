/-! ===== the reference reads a LEDGER ===== -/
def lz_S (g i : Nat) : Bool := Nat.beq g 18 && (Nat.beq i 4 || Nat.beq i 11 || Nat.beq i 12 || Nat.beq i 13 || Nat.beq i 14 || Nat.beq i 18)
theorem lz_SM {g i : Nat} (h : lz_S g i = false) : SMn g i = false := by
  unfold lz_S at h
  unfold SMn
  cases hg : Nat.beq g 18
  · rfl
  · rw [hg, Bool.true_and, Bool.or_eq_false_iff] at h
    rw [Bool.true_and]
    exact h.1
theorem lz_l {g i : Nat} (h : lp_S18 g i = false) : lz_S g i = false := by
  unfold lp_S18 at h
  unfold lz_S
  cases hg : Nat.beq g 18
  · rfl
  · rw [hg, Bool.true_and, Bool.not_eq_false'] at h
    simp only [Bool.or_eq_true] at h
    rcases h with ((h | h) | h) | h <;> (rw [Nat.eq_of_beq_eq_true h]; rfl)
theorem xu22_ne {J : Nat → Nat → Int32} {i j : Nat} {x : Int32} (h : j ≠ i) : xu J 22 i x 22 j = J 22 j := xu_ne (by rw [nb_F h, Bool.and_false])
def lz_9 (g i : Nat) : Bool := Nat.beq g 22 || (Nat.beq g 18 && (Nat.ble i 5 || (Nat.ble 11 i && Nat.ble i 18) || Nat.beq i 34))
theorem lz_S9 {g i : Nat} (h : lz_9 g i = false) : lz_S g i = false := by
  unfold lz_9 at h
  unfold lz_S
  rw [Bool.or_eq_false_iff] at h
  cases hg : Nat.beq g 18
  · rfl
  · have h2 := h.2
    rw [hg, Bool.true_and, Bool.or_eq_false_iff, Bool.or_eq_false_iff] at h2
    obtain ⟨⟨h3, h4⟩, -⟩ := h2
    have n4 := nb_bF h3
    have nn : ∀ a, 11 ≤ a → a ≤ 18 → i ≠ a := fun a ha hb q => by
      subst q
      have e1 : Nat.ble 11 i = true := Nat.ble_eq.mpr ha
      have e2 : Nat.ble i 18 = true := Nat.ble_eq.mpr hb
      rw [e1, e2] at h4
      cases h4
    rw [Bool.true_and, nb_F (a := i) (b := 4) (by omega), nb_F (nn 11 (by decide) (by decide)), nb_F (nn 12 (by decide) (by decide)), nb_F (nn 13 (by decide) (by decide)), nb_F (nn 14 (by decide) (by decide)), nb_F (nn 18 (by decide) (by decide))]
    rfl
/-- the reference's token, and how long it may be -/
def EncR (B : Nat → Int32) (n p : Nat) (J : Nat → Nat → Int32) (M : Nat → Nat → Int64) : Prop := EncM B n 400 p J M ∧ 0 ≤ (J 18 13).toInt ∧ (J 18 13).toInt ≤ 940
def lm_d (k_z : Nat) : Int32 := bif ld_dd k_z then Int32.ofNat (k_z - 5) else Int32.ofInt (-1)
section MLD
variable {B : Nat → Int32} {n p c z_z : Nat} {J : Nat → Nat → Int32} {M : Nat → Nat → Int64} {nsv : List (List Int32)} {Kk : Nat → Nat → Int32}
theorem lv_num_in {lim : Nat} {lo hi x : Int32} (h : lv_num B n lim lo hi p = .inr x) : lo.toInt ≤ x.toInt ∧ x.toInt ≤ hi.toInt := by
  unfold lv_num at h
  cases hb : Nat.beq (tK B n lim p) 2 with
  | false => rw [hb] at h; cases h
  | true =>
    rw [hb] at h
    cases hc : xe_cmp .lt (tX B n p) lo with
    | true => rw [hc] at h; cases h
    | false =>
      rw [hc] at h
      cases hd : xe_cmp .le (tX B n p) hi with
      | false => rw [hd] at h; cases h
      | true =>
        rw [hd] at h
        cases h
        rw [xc] at hc hd
        have hc : ¬ (tX B n p).toInt < lo.toInt := of_decide_eq_false hc
        have hd : (tX B n p).toInt ≤ hi.toInt := of_decide_eq_true hd
        exact ⟨by omega, hd⟩
theorem mz_next (hn : n ≤ 940) (hB0 : ∀ i, i < 940 → 0 ≤ (B i).toInt) (hp : p ≤ n) (E : EncM B n 400 p J M) : ∃ (J' : Nat → Nat → Int32) (M' : Nat → Nat → Int64), fx_X13_next [.ref 18] (J, M) none (J', M') ∧ EncR B n (tN B n 400 p) J' M' ∧ fp lz_S J J' ∧ fpl lp_L18 M M' ∧ J' 18 18 = J 18 18 := by
  obtain ⟨h1, h2, h3, -, h5, -⟩ := E
  obtain ⟨I', L', a, b, c9, d, r9⟩ := sp_nextS (B := B) (n := n) (lim := 400) (p := tN B n 400 p) hn (by decide) (tN_le hp).2.1 h1 h5 h3 h2 hB0
  exact ⟨I', L', a, ⟨b, r9⟩, c9.mono (fun g i h => lz_SM h), d.mono (fun g i h => lp_LMm h), c9 18 18 rfl⟩
theorem mz_take (hn : n ≤ 940) (hB0 : ∀ i, i < 940 → 0 ≤ (B i).toInt) (hp : p ≤ n) (E : EncM B n 400 p J M) (T : lv_TM nsv J M) (O : lv_ok nsv) : (∀ f, lv_nm B n 400 nsv p = .inl f → ∃ (J' : Nat → Nat → Int32) (M' : Nat → Nat → Int64), fx_X13_takesName [.int (J 20 0), .int 0, .ref 18] (J, M) (some (.int 0)) (J', M') ∧ J' 18 15 = f) ∧ (∀ j, lv_nm B n 400 nsv p = .inr j → ∃ (J' : Nat → Nat → Int32) (M' : Nat → Nat → Int64), j < 6 ∧ fx_X13_takesName [.int (J 20 0), .int 0, .ref 18] (J, M) (some (.int 1)) (J', M') ∧ EncR B n (tN B n 400 p) J' M' ∧ J' 18 18 = Int32.ofNat j ∧ fp lz_S J J' ∧ fpl lp_L18 M M') := by
  obtain ⟨s1, s2⟩ := mw_looks hp E T O
  refine ⟨fun f h => ?_, fun j h => ?_⟩
  · obtain ⟨J', c1, q1, -⟩ := s1 f h
    exact ⟨J', M, mk_X13_takesName (Or.inl rfl) (pt_X13_takesName_1 c1), q1⟩
  · obtain ⟨hj, c1⟩ := s2 j h
    obtain ⟨J', M', c2, E2, F1, F2, e8⟩ := mz_next hn hB0 hp (enwM_up (g := 18) (i := 18) (x := Int32.ofNat j) E rfl)
    exact ⟨J', M', hj, mk_X13_takesName (Or.inr rfl) (pt_X13_takesName_0 c1 c2), E2, e8, (fp.rf.up rfl).tr F1, F2⟩
theorem mz_num (hn : n ≤ 940) (hB0 : ∀ i, i < 940 → 0 ≤ (B i).toInt) (hp : p ≤ n) (E : EncM B n 400 p J M) (lo hi : Int32) : (∀ f, lv_num B n 400 lo hi p = .inl f → ∃ (J' : Nat → Nat → Int32) (M' : Nat → Nat → Int64), fx_X13_takes [.int hi, .int lo, .ref 18] (J, M) (some (.int 0)) (J', M') ∧ J' 18 15 = f) ∧ (∀ x, lv_num B n 400 lo hi p = .inr x → ∃ (J' : Nat → Nat → Int32) (M' : Nat → Nat → Int64), fx_X13_takes [.int hi, .int lo, .ref 18] (J, M) (some (.int 1)) (J', M') ∧ EncR B n (tN B n 400 p) J' M' ∧ J' 18 18 = x ∧ fp lz_S J J' ∧ fpl lp_L18 M M') := by
  obtain ⟨w1, -⟩ := mw_num (lim := 400) (by decide) hn hB0 hp E lo hi
  refine ⟨fun f h => ?_, fun x h => ?_⟩
  · obtain ⟨J', M', c1, q1, -⟩ := w1 f h
    exact ⟨J', M', c1, q1⟩
  · have e11 : J 18 11 = Int32.ofNat (mK B n 400 p) := E.2.2.2.2.2.1
    obtain ⟨m1, m2, m0, m4, m3⟩ := mK_1 (B := B) (n := n) (lim := 400) (p := p)
    unfold lv_num at h
    cases hk : Nat.beq (tK B n 400 p) 2 with
    | false => rw [hk] at h; cases h
    | true =>
      have hk1 := Nat.eq_of_beq_eq_true hk
      have g1 : xe_cmp .eq (J 18 11) (2 : Int32) = true := (cmpN e11 (b := 2) rfl (by omega) (by omega)).trans (decide_eq_true (m2.mpr hk1))
      have eX : J 18 14 = tX B n p := E.2.2.2.2.2.2.2.1 hk1
      rw [hk] at h
      cases h1 : xe_cmp .lt (tX B n p) lo with
      | true => rw [h1] at h; cases h
      | false =>
        rw [h1] at h
        cases h2 : xe_cmp .le (tX B n p) hi with
        | false => rw [h2] at h; cases h
        | true =>
          rw [h2] at h
          cases h
          obtain ⟨J', M', c2, E2, F1, F2, e8⟩ := mz_next hn hB0 hp (enwM_up (g := 18) (i := 18) (x := J 18 14) E rfl)
          exact ⟨J', M', mk_X13_takes (Or.inr rfl) (pt_X13_takes_0 g1 (mk_X13_isIn (Or.inr rfl) (pt_X13_isIn_2 (by rw [eX]; exact h1) (by rw [eX, cmp_gt, h2]; rfl))) c2), E2, e8.trans eX, (fp.rf.up rfl).tr F1, F2⟩
theorem mz_sign (hn : n ≤ 940) (hB0 : ∀ i, i < 940 → 0 ≤ (B i).toInt) (hp : p ≤ n) (E : EncM B n 400 p J M) : (lv_sg B n 400 59 p = false → ∃ (J' : Nat → Nat → Int32) (M' : Nat → Nat → Int64), fx_X13_sign [.int 59, .ref 18] (J, M) (some (.int 0)) (J', M') ∧ J' 18 15 = 1) ∧ (lv_sg B n 400 59 p = true → ∃ (J' : Nat → Nat → Int32) (M' : Nat → Nat → Int64), fx_X13_sign [.int 59, .ref 18] (J, M) (some (.int 1)) (J', M') ∧ EncR B n (tN B n 400 p) J' M' ∧ fp lz_S J J' ∧ fpl lp_L18 M M') := by
  obtain ⟨w1, -⟩ := mw_sign (cc := 59) (lim := 400) (by decide) (by decide) hn hB0 hp E
  refine ⟨fun h => ?_, fun h => ?_⟩
  · obtain ⟨J', M', c1, q1, -⟩ := w1 h
    exact ⟨J', M', c1, q1⟩
  · have e11 : J 18 11 = Int32.ofNat (mK B n 400 p) := E.2.2.2.2.2.1
    obtain ⟨m1, m2, m0, m4, m3⟩ := mK_1 (B := B) (n := n) (lim := 400) (p := p)
    obtain ⟨hk3, hs⟩ := sg_3 h
    have hk : mK B n 400 p = 3 := m3.mpr ⟨hk3, by rw [hs]; decide⟩
    have g1 : xe_cmp .ne (J 18 11) (3 : Int32) = false := (cmpN e11 (b := 3) rfl (by omega) (by omega)).trans (decide_eq_false (fun q => q hk))
    have e14 : J 18 14 = tS B n 400 p := E.2.2.2.2.2.2.2.2 hk3
    obtain ⟨J', M', c2, E2, F1, F2, -⟩ := mz_next hn hB0 hp E
    exact ⟨J', M', mk_X13_sign (Or.inr rfl) (pt_X13_sign_0 (mk_X13_isSign (Or.inr rfl) (pt_X13_isSign_2 g1 (by rw [e14, hs]; decide))) c2), E2, F1, F2⟩
/-- the reference's world ahead of a token of a LEDGER: z lines stand in read -/
def lm_E (B : Nat → Int32) (n : Nat) (nsv : List (List Int32)) (p c z_z : Nat) (Kk : Nat → Nat → Int32) (J : Nat → Nat → Int32) (M : Nat → Nat → Int64) : Prop := EncR B n p J M ∧ lv_TM nsv J M ∧ J 18 34 = Int32.ofNat c ∧ J 18 15 = 0 ∧ J 18 2 = 0 ∧ fp lz_9 Kk J ∧ ∀ u, u < z_z → zg_ln (J 22) (4 * u)
theorem lm_mv {p' : Nat} {J' : Nat → Nat → Int32} {M' : Nat → Nat → Int64} (E2 : EncR B n p' J' M') (F : fp lz_S J J') (F2 : fpl lp_L18 M M') (E : lm_E B n nsv p c z_z Kk J M) : lm_E B n nsv p' c z_z Kk J' M' := by
  obtain ⟨E1, T, e34, e15, e2, eK, hz⟩ := E
  exact ⟨E2, tmw_fr T (F.mono (fun g i h => lz_l h)) F2, (F 18 34 rfl).trans e34, (F 18 15 rfl).trans e15, (F 18 2 rfl).trans e2, eK.tr (F.mono (fun g i h => lz_S9 h)), fun u hu => by rw [show J' 22 = J 22 from funext (fun i => F 22 i rfl)]; exact hz u hu⟩
theorem lm_22 {i : Nat} {x : Int32} (hi : 4 * z_z ≤ i) (E : lm_E B n nsv p c z_z Kk J M) : lm_E B n nsv p c z_z Kk (xu J 22 i x) M := by
  obtain ⟨E1, T, e34, e15, e2, eK, hz⟩ := E
  refine ⟨⟨enwM_up (g := 22) E1.1 rfl, E1.2⟩, ⟨T.1, T.2⟩, e34, e15, e2, eK.up rfl, fun u hu => ?_⟩
  have a0 : xu J 22 i x 22 (4 * u) = J 22 (4 * u) := xu22_ne (by omega)
  have a2 : xu J 22 i x 22 (4 * u + 2) = J 22 (4 * u + 2) := xu22_ne (by omega)
  have a3 : xu J 22 i x 22 (4 * u + 3) = J 22 (4 * u + 3) := xu22_ne (by omega)
  have h9 := hz u hu
  unfold zg_ln at h9 ⊢
  rw [a0, a2, a3]
  exact h9
theorem lm_ln (E : lm_E B n nsv p c c Kk J M) (h : zg_ln (J 22) (4 * c)) : lm_E B n nsv p c (c + 1) Kk J M := by
  obtain ⟨E1, T, e34, e15, e2, eK, hz⟩ := E
  refine ⟨E1, T, e34, e15, e2, eK, fun u hu => ?_⟩
  by_cases e : u = c
  · rw [e]; exact h
  · exact hz u (by omega)
/-- a fault, or behind the piece with one line more -/
def lm_R (B : Nat → Int32) (n : Nat) (nsv : List (List Int32)) (c : Nat) (Kk : Nat → Nat → Int32) (g : Option Value → xe_H → Prop) (r : ld_rs) : Prop := match r with
  | .inl f => ∃ (J' : Nat → Nat → Int32) (M' : Nat → Nat → Int64), g (some (.int 0)) (J', M') ∧ J' 18 15 = f
  | .inr q => ∃ (J' : Nat → Nat → Int32) (M' : Nat → Nat → Int64), g (some (.int 1)) (J', M') ∧ lm_E B n nsv q c (c + 1) Kk J' M'
theorem lm_1 (hn : n ≤ 940) (hB0 : ∀ i, i < 940 → 0 ≤ (B i).toInt) (O : lv_ok nsv) (hp : p ≤ n) {k_z : Nat} (h5 : 5 ≤ k_z) (h12 : k_z ≤ 12) (hc : c < 40) (E : lm_E B n nsv p c c Kk J M) (h3 : k_z = 5 → 0 ≤ (J 22 (4 * c + 3)).toInt ∧ (J 22 (4 * c + 3)).toInt ≤ 5) :
    lm_R B n nsv c Kk (fun v hp9 => ∃ n9, xr_X13_ledgerLine n9 (111, [(0, .ref 18), (1, .int (Int32.ofNat (4 * c))), (2, .int (Int32.ofNat (k_z - 5)))], [], (J, M)) v hp9) (ld_1 B n nsv k_z p) := by
  have i0 : (Int32.ofNat (4 * c)).toInt.toNat = 4 * c := tin (by omega)
  have i1 : (Int32.ofNat (4 * c) + (1 : Int32)).toInt.toNat = 4 * c + 1 := by rw [ti1]; exact tin (by omega)
  have i2 : (Int32.ofNat (4 * c) + (2 : Int32)).toInt.toNat = 4 * c + 2 := (congrArg (fun x : Int32 => x.toInt.toNat) (tadd (4 * c) 2)).trans (tin (by omega))
  have b0 : xe_ib (Int32.ofNat (4 * c)) 160 = true := xib (by omega) (by decide)
  have b1 : xe_ib (Int32.ofNat (4 * c) + (1 : Int32)) 160 = true := by rw [ti1]; exact xib (by omega) (by decide)
  have b2 : xe_ib (Int32.ofNat (4 * c) + (2 : Int32)) 160 = true := (congrArg (fun x : Int32 => xe_ib x 160) (tadd (4 * c) 2)).trans (xib (by omega) (by decide))
  have cw : ∀ (cn : ClassFile.Cond) (a : Nat), a < 8 → xe_cmp cn (Int32.ofNat (k_z - 5)) (Int32.ofNat a) = ncmp cn (k_z - 5) a := fun cn a ha => xn (by omega) (by omega)
  have D1 : lm_E B n nsv p c c Kk (xu J 22 ((Int32.ofNat (4 * c)).toInt.toNat) (Int32.ofNat (k_z - 5))) M := lm_22 (by rw [i0]; exact Nat.le_refl _) E
  by_cases h11 : k_z = 11
  · subst h11
    refine ⟨_, _, pt_X13_ledgerLine_10 b0 (by decide), lm_ln D1 ?_⟩
    have e0 : xu J 22 ((Int32.ofNat (4 * c)).toInt.toNat) (Int32.ofNat (11 - 5)) 22 (4 * c) = Int32.ofNat 6 := by rw [i0]; exact xu_eq
    unfold zg_ln
    rw [e0]
    exact ⟨by decide, by decide, fun h => absurd h (by decide), fun h => (by rcases h with h | h <;> exact absurd h (by decide))⟩
  · have hb11 : Nat.beq k_z 11 = false := nb_F h11
    have go141 : ∀ (v : Option Value) (hp9 : xe_H), (∃ n9, xr_X13_ledgerLine n9 (141, [(0, .ref 18), (1, .int (Int32.ofNat (4 * c))), (2, .int (Int32.ofNat (k_z - 5)))], [.int (ld_hi k_z), .int 0, .ref 18], (xu J 22 ((Int32.ofNat (4 * c)).toInt.toNat) (Int32.ofNat (k_z - 5)), M)) v hp9) → ∃ n9, xr_X13_ledgerLine n9 (111, [(0, .ref 18), (1, .int (Int32.ofNat (4 * c))), (2, .int (Int32.ofNat (k_z - 5)))], [], (J, M)) v hp9 := fun v hp9 r => by
      by_cases h12' : k_z = 12
      · have e : ld_hi k_z = 99 := by rw [h12']; rfl
        rw [e] at r
        exact pt_X13_ledgerLine_9 b0 ((cw .ne 6 (by decide)).trans (decide_eq_true (by omega))) ((cw .ne 7 (by decide)).trans (decide_eq_false (by omega))) r
      · have e : ld_hi k_z = 15 := by unfold ld_hi; rw [nb_F h12']; rfl
        rw [e] at r
        exact pt_X13_ledgerLine_8 b0 ((cw .ne 6 (by decide)).trans (decide_eq_true (by omega))) ((cw .ne 7 (by decide)).trans (decide_eq_true (by omega))) r
    obtain ⟨u1, u2⟩ := mz_num hn hB0 hp D1.1.1 0 (ld_hi k_z)
    cases hx : lv_num B n 400 0 (ld_hi k_z) p with
    | inl f =>
      have e : ld_1 B n nsv k_z p = .inl f := by unfold ld_1; rw [hb11, hx]; rfl
      rw [e]
      obtain ⟨J', M', c1, q1⟩ := u1 f hx
      exact ⟨J', M', go141 _ _ (pt_X13_ledgerLine_22 c1), q1⟩
    | inr x =>
      obtain ⟨J2, M2, c2, E2, x18, F1, F2⟩ := u2 x hx
      have D2 := lm_mv E2 F1 F2 D1
      have D3 : lm_E B n nsv (tN B n 400 p) c c Kk (xu J2 22 ((Int32.ofNat (4 * c) + (1 : Int32)).toInt.toNat) (J2 18 18)) M2 := lm_22 (by rw [i1]; omega) D2
      have f0 : xu J2 22 ((Int32.ofNat (4 * c) + (1 : Int32)).toInt.toNat) (J2 18 18) 22 (4 * c) = Int32.ofNat (k_z - 5) := by
        rw [i1, xu22_ne (by omega), F1 22 (4 * c) rfl, i0]
        exact xu_eq
      have f3 : xu J2 22 ((Int32.ofNat (4 * c) + (1 : Int32)).toInt.toNat) (J2 18 18) 22 (4 * c + 3) = J 22 (4 * c + 3) := by
        rw [i1, xu22_ne (by omega), F1 22 (4 * c + 3) rfl, i0, xu22_ne (by omega)]
      have e : ld_1 B n nsv k_z p = (bif Nat.beq k_z 8 || Nat.beq k_z 9 || Nat.beq k_z 12 then .inr (tN B n 400 p) else ld_2 B n nsv k_z (tN B n 400 p)) := by unfold ld_1; rw [hb11, hx]; rfl
      rw [e]
      by_cases h3' : k_z = 8 ∨ k_z = 9 ∨ k_z = 12
      · have e8 : (Nat.beq k_z 8 || Nat.beq k_z 9 || Nat.beq k_z 12) = true := by rcases h3' with h | h | h <;> rw [h] <;> rfl
        rw [e8]
        have hz : zg_ln (xu J2 22 ((Int32.ofNat (4 * c) + (1 : Int32)).toInt.toNat) (J2 18 18) 22) (4 * c) := by
          unfold zg_ln
          rw [f0, ti (by omega)]
          exact ⟨by omega, by omega, fun h => (by omega), fun h => (by omega)⟩
        rcases h3' with h | h | h
        · exact ⟨_, _, go141 _ _ (pt_X13_ledgerLine_13 c2 b1 ((cw .eq 3 (by decide)).trans (decide_eq_true (by omega)))), lm_ln D3 hz⟩
        · exact ⟨_, _, go141 _ _ (pt_X13_ledgerLine_14 c2 b1 ((cw .eq 3 (by decide)).trans (decide_eq_false (by omega))) ((cw .eq 4 (by decide)).trans (decide_eq_true (by omega)))), lm_ln D3 hz⟩
        · exact ⟨_, _, go141 _ _ (pt_X13_ledgerLine_21 c2 b1 ((cw .eq 3 (by decide)).trans (decide_eq_false (by omega))) ((cw .eq 4 (by decide)).trans (decide_eq_false (by omega))) ((cw .ne 7 (by decide)).trans (decide_eq_false (by omega)))), lm_ln D3 hz⟩
      · have e8 : (Nat.beq k_z 8 || Nat.beq k_z 9 || Nat.beq k_z 12) = false := by rw [nb_F (a := k_z) (b := 8) (by omega), nb_F (a := k_z) (b := 9) (by omega), nb_F (a := k_z) (b := 12) (by omega)]; rfl
        rw [e8]
        show lm_R B n nsv c Kk _ (ld_2 B n nsv k_z (tN B n 400 p))
        have g3 : xe_cmp .eq (Int32.ofNat (k_z - 5)) (3 : Int32) = false := (cw .eq 3 (by decide)).trans (decide_eq_false (by omega))
        have g4 : xe_cmp .eq (Int32.ofNat (k_z - 5)) (4 : Int32) = false := (cw .eq 4 (by decide)).trans (decide_eq_false (by omega))
        have g7 : xe_cmp .ne (Int32.ofNat (k_z - 5)) (7 : Int32) = true := (cw .ne 7 (by decide)).trans (decide_eq_true (by omega))
        have n1 := (tN_le (B := B) (lim := 400) hp).2.1
        have fin : ∀ (q : Nat) (J4 : Nat → Nat → Int32) (M4 : Nat → Nat → Int64), lm_E B n nsv q c c Kk J4 M4 → J4 22 (4 * c) = Int32.ofNat (k_z - 5) → J4 22 (4 * c + 3) = J 22 (4 * c + 3) → 0 ≤ (J4 18 18).toInt → (k_z = 5 → (J4 18 18).toInt ≤ 5) → (k_z = 6 ∨ k_z = 10 → (J4 18 18).toInt ≤ 31) → (∀ (v : Option Value) (hp9 : xe_H), (∃ n9, xr_X13_ledgerLine n9 (221, [(0, .ref 18), (1, .int (Int32.ofNat (4 * c))), (2, .int (Int32.ofNat (k_z - 5)))], [], (J4, M4)) v hp9) → ∃ n9, xr_X13_ledgerLine n9 (111, [(0, .ref 18), (1, .int (Int32.ofNat (4 * c))), (2, .int (Int32.ofNat (k_z - 5)))], [], (J, M)) v hp9) →
            lm_R B n nsv c Kk (fun v hp9 => ∃ n9, xr_X13_ledgerLine n9 (111, [(0, .ref 18), (1, .int (Int32.ofNat (4 * c))), (2, .int (Int32.ofNat (k_z - 5)))], [], (J, M)) v hp9) (.inr q) := by
          intro q J4 M4 D4 e0 e3 hl hu1 hu2 go
          have D5 : lm_E B n nsv q c c Kk (xu J4 22 ((Int32.ofNat (4 * c) + (2 : Int32)).toInt.toNat) (J4 18 18)) M4 := lm_22 (by rw [i2]; omega) D4
          refine ⟨_, _, go _ _ (pt_X13_ledgerLine_23 b2), lm_ln D5 ?_⟩
          have a0 : xu J4 22 ((Int32.ofNat (4 * c) + (2 : Int32)).toInt.toNat) (J4 18 18) 22 (4 * c) = Int32.ofNat (k_z - 5) := by rw [i2, xu22_ne (by omega)]; exact e0
          have a2 : xu J4 22 ((Int32.ofNat (4 * c) + (2 : Int32)).toInt.toNat) (J4 18 18) 22 (4 * c + 2) = J4 18 18 := by rw [i2]; exact xu_eq
          have a3 : xu J4 22 ((Int32.ofNat (4 * c) + (2 : Int32)).toInt.toNat) (J4 18 18) 22 (4 * c + 3) = J 22 (4 * c + 3) := by rw [i2, xu22_ne (by omega)]; exact e3
          unfold zg_ln
          rw [a0, a2, a3, ti (by omega)]
          exact ⟨by omega, by omega, fun h => ⟨hl, hu1 (by omega), h3 (by omega)⟩, fun h => ⟨hl, hu2 (by omega)⟩⟩
        by_cases h5' : k_z = 5
        · have e5 : Nat.beq k_z 5 = true := by rw [h5']; rfl
          have g0 : xe_cmp .ne (Int32.ofNat (k_z - 5)) 0 = false := (cw .ne 0 (by decide)).trans (decide_eq_false (by omega))
          obtain ⟨t1, t2⟩ := mz_take hn hB0 n1 D3.1.1 D3.2.1 O
          cases hm : lv_nm B n 400 nsv (tN B n 400 p) with
          | inl f =>
            have e : ld_2 B n nsv k_z (tN B n 400 p) = .inl f := by unfold ld_2; rw [e5, hm]; rfl
            rw [e]
            obtain ⟨J', M', c5, q1⟩ := t1 f hm
            exact ⟨J', M', go141 _ _ (pt_X13_ledgerLine_20 c2 b1 g3 g4 g7 g0 c5), q1⟩
          | inr j =>
            have e : ld_2 B n nsv k_z (tN B n 400 p) = .inr (tN B n 400 (tN B n 400 p)) := by unfold ld_2; rw [e5, hm]; rfl
            rw [e]
            obtain ⟨J4, M4, hj, c5, E5, e18, G1, G2⟩ := t2 j hm
            have hv : (J4 18 18).toInt = (j : Int) := by rw [e18]; exact ti (by omega)
            exact fin _ J4 M4 (lm_mv E5 G1 G2 D3) ((G1 22 (4 * c) rfl).trans f0) ((G1 22 (4 * c + 3) rfl).trans f3) (by omega) (fun _ => by omega) (fun _ => by omega) (fun v hp9 r => go141 v hp9 (pt_X13_ledgerLine_19 c2 b1 g3 g4 g7 g0 c5 r))
        · have e5 : Nat.beq k_z 5 = false := nb_F h5'
          have g0 : xe_cmp .ne (Int32.ofNat (k_z - 5)) 0 = true := (cw .ne 0 (by decide)).trans (decide_eq_true (by omega))
          obtain ⟨v1, v2⟩ := mz_num hn hB0 n1 D3.1.1 0 (ld_h2 k_z)
          have z0 : (0 : Int32).toInt = 0 := by decide
          by_cases h7 : k_z = 7
          · have g2 : xe_cmp .ne (Int32.ofNat (k_z - 5)) (2 : Int32) = false := (cw .ne 2 (by decide)).trans (decide_eq_false (by omega))
            have eh : ld_h2 k_z = 15 := by rw [h7]; rfl
            rw [eh] at v1 v2
            cases hy : lv_num B n 400 0 15 (tN B n 400 p) with
            | inl f =>
              have e : ld_2 B n nsv k_z (tN B n 400 p) = .inl f := by unfold ld_2; rw [e5, eh, hy]; rfl
              rw [e]
              obtain ⟨J', M', c5, q1⟩ := v1 f hy
              exact ⟨J', M', go141 _ _ (pt_X13_ledgerLine_18 c2 b1 g3 g4 g7 g0 g2 c5), q1⟩
            | inr y =>
              have e : ld_2 B n nsv k_z (tN B n 400 p) = .inr (tN B n 400 (tN B n 400 p)) := by unfold ld_2; rw [e5, eh, hy]; rfl
              rw [e]
              obtain ⟨J4, M4, c5, E5, e18, G1, G2⟩ := v2 y hy
              have hv := lv_num_in hy
              rw [z0] at hv
              exact fin _ J4 M4 (lm_mv E5 G1 G2 D3) ((G1 22 (4 * c) rfl).trans f0) ((G1 22 (4 * c + 3) rfl).trans f3) (by rw [e18]; exact hv.1) (fun _ => by omega) (fun _ => by omega) (fun v hp9 r => go141 v hp9 (pt_X13_ledgerLine_17 c2 b1 g3 g4 g7 g0 g2 c5 r))
          · have g2 : xe_cmp .ne (Int32.ofNat (k_z - 5)) (2 : Int32) = true := (cw .ne 2 (by decide)).trans (decide_eq_true (by omega))
            have eh : ld_h2 k_z = 31 := by unfold ld_h2; rw [nb_F h7]; rfl
            rw [eh] at v1 v2
            cases hy : lv_num B n 400 0 31 (tN B n 400 p) with
            | inl f =>
              have e : ld_2 B n nsv k_z (tN B n 400 p) = .inl f := by unfold ld_2; rw [e5, eh, hy]; rfl
              rw [e]
              obtain ⟨J', M', c5, q1⟩ := v1 f hy
              exact ⟨J', M', go141 _ _ (pt_X13_ledgerLine_16 c2 b1 g3 g4 g7 g0 g2 c5), q1⟩
            | inr y =>
              have e : ld_2 B n nsv k_z (tN B n 400 p) = .inr (tN B n 400 (tN B n 400 p)) := by unfold ld_2; rw [e5, eh, hy]; rfl
              rw [e]
              obtain ⟨J4, M4, c5, E5, e18, G1, G2⟩ := v2 y hy
              have hv := lv_num_in hy
              rw [z0] at hv
              have z31 : (31 : Int32).toInt = 31 := by decide
              rw [z31] at hv
              exact fin _ J4 M4 (lm_mv E5 G1 G2 D3) ((G1 22 (4 * c) rfl).trans f0) ((G1 22 (4 * c + 3) rfl).trans f3) (by rw [e18]; exact hv.1) (fun _ => by omega) (fun _ => by rw [e18]; exact hv.2) (fun v hp9 r => go141 v hp9 (pt_X13_ledgerLine_15 c2 b1 g3 g4 g7 g0 g2 c5 r))
theorem lm_deed (hp : p ≤ n) (E : EncM B n 400 p J M) : fx_X13_deedOf [.ref 18] (J, M) (some (.int (lm_d (kyw (tW B n 400 p))))) (J, M) := by
  have hk := kyw_lt (B := B) (n := n) (lim := 400) hp
  have w6 := mw_isWord (i := 6) (c := 1935767411) (by decide) (by decide) rfl (by decide +kernel) hp E
  have w7 := mw_isWord (i := 7) (c := 32493233248626035) (by decide) (by decide) rfl (by decide +kernel) hp E
  have w9 := mw_isWord (i := 9) (c := 422877228659) (by decide) (by decide) rfl (by decide +kernel) hp E
  have w10 := mw_isWord (i := 10) (c := 123563682985075) (by decide) (by decide) rfl (by decide +kernel) hp E
  have w11 := mw_isWord (i := 11) (c := 499851486579) (by decide) (by decide) rfl (by decide +kernel) hp E
  have w12 := mw_isWord (i := 12) (c := 131294708393330) (by decide) (by decide) rfl (by decide +kernel) hp E
  generalize kyw (tW B n 400 p) = K9 at *
  cases hd : ld_dd K9 with
  | false =>
    have hnd : ¬ (K9 = 6 ∨ K9 = 7 ∨ K9 = 9 ∨ K9 = 10 ∨ K9 = 11 ∨ K9 = 12) := fun q => by rw [ld_dd_iff.mpr q] at hd; cases hd
    have e : lm_d K9 = Int32.ofInt (-1) := by unfold lm_d; rw [hd]; rfl
    rw [e]
    rw [nb_F (a := K9) (b := 6) (by omega)] at w6
    rw [nb_F (a := K9) (b := 7) (by omega)] at w7
    rw [nb_F (a := K9) (b := 9) (by omega)] at w9
    rw [nb_F (a := K9) (b := 10) (by omega)] at w10
    rw [nb_F (a := K9) (b := 11) (by omega)] at w11
    rw [nb_F (a := K9) (b := 12) (by omega)] at w12
    exact mk_X13_deedOf trivial (pt_X13_deedOf_6 w6 w7 w9 w10 w11 w12)
  | true =>
    rcases ld_dd_iff.mp hd with rfl | rfl | rfl | rfl | rfl | rfl
    · exact mk_X13_deedOf trivial (pt_X13_deedOf_0 w6)
    · exact mk_X13_deedOf trivial (pt_X13_deedOf_1 w6 w7)
    · exact mk_X13_deedOf trivial (pt_X13_deedOf_2 w6 w7 w9)
    · exact mk_X13_deedOf trivial (pt_X13_deedOf_3 w6 w7 w9 w10)
    · exact mk_X13_deedOf trivial (pt_X13_deedOf_4 w6 w7 w9 w10 w11)
    · exact mk_X13_deedOf trivial (pt_X13_deedOf_5 w6 w7 w9 w10 w11 w12)
theorem lm_line (hn : n ≤ 940) (hB0 : ∀ i, i < 940 → 0 ≤ (B i).toInt) (O : lv_ok nsv) (hp : p ≤ n) (hc : c ≤ 40) (E : lm_E B n nsv p c c Kk J M) : lm_R B n nsv c Kk (fun v hp9 => fx_X13_ledgerLine [.ref 18] (J, M) v hp9) (ld_line B n nsv p c) := by
  have l1 : (4 : Int32) * J 18 34 = Int32.ofNat (4 * c) := by rw [E.2.2.1]; exact tmul 4 c
  have cd := lm_deed hp E.1.1
  have n1 := (tN_le (B := B) (lim := 400) hp).2.1
  have i3 : (Int32.ofNat (4 * c) + (3 : Int32)).toInt.toNat = 4 * c + 3 := (congrArg (fun x : Int32 => x.toInt.toNat) (tadd (4 * c) 3)).trans (tin (by omega))
  have b3 : c < 40 → xe_ib (Int32.ofNat (4 * c) + (3 : Int32)) 160 = true := fun h => (congrArg (fun x : Int32 => xe_ib x 160) (tadd (4 * c) 3)).trans (xib (by omega) (by decide))
  have ge1 : xe_cmp .ge (Int32.ofInt (-1)) 0 = false := by decide
  cases h0 : Nat.beq (kyw (tW B n 400 p)) 0 with
  | true =>
    have e0 := Nat.eq_of_beq_eq_true h0
    have ed : lm_d (kyw (tW B n 400 p)) = Int32.ofInt (-1) := by rw [e0]; rfl
    rw [ed] at cd
    obtain ⟨s1, s2⟩ := mw_looks hp E.1.1 E.2.1 O
    cases hm : lv_nm B n 400 nsv p with
    | inl f =>
      have e : ld_line B n nsv p c = .inl f := by unfold ld_line; rw [h0, hm]; rfl
      rw [e]
      obtain ⟨J2, c2, q1, -⟩ := s1 f hm
      exact ⟨J2, M, mk_X13_ledgerLine (Or.inl rfl) (pt_X13_ledgerLine_2 cd ge1 c2), q1⟩
    | inr j =>
      obtain ⟨hj, c2⟩ := s2 j hm
      have D2 : lm_E B n nsv p c c Kk (xu J 18 18 (Int32.ofNat j)) M := ⟨⟨enwM_up (g := 18) (i := 18) E.1.1 rfl, E.1.2⟩, ⟨E.2.1.1, E.2.1.2⟩, E.2.2.1, E.2.2.2.1, E.2.2.2.2.1, E.2.2.2.2.2.1.up rfl, E.2.2.2.2.2.2⟩
      have e : ld_line B n nsv p c = (bif Nat.beq c 40 then .inl 4 else ld_man B n nsv (tN B n 400 p)) := by unfold ld_line; rw [h0, hm]; rfl
      rw [e]
      have go32 : ∀ (v : Option Value) (hp9 : xe_H), (∃ n9, xr_X13_ledgerLine n9 (32, [(0, .ref 18), (1, .int (Int32.ofNat (4 * c))), (2, .int (Int32.ofInt (-1)))], [], (xu J 18 18 (Int32.ofNat j), M)) v hp9) → ∃ n9, xr_X13_ledgerLine n9 (0, [(0, .ref 18)], [], (J, M)) v hp9 := fun v hp9 r => by
        refine pt_X13_ledgerLine_1 cd ge1 c2 ?_
        rw [l1]
        exact r
      cases h4 : Nat.beq c 40 with
      | true =>
        have e40 := Nat.eq_of_beq_eq_true h4
        exact ⟨_, _, mk_X13_ledgerLine (Or.inl rfl) (go32 _ _ (pt_X13_ledgerLine_7 ((cmpN D2.2.2.1 (b := 40) rfl (by omega) (by omega)).trans (decide_eq_false (by omega))) (ms_bad 4))), rfl⟩
      | false =>
        have hc' : c < 40 := by have := nb_ne h4; omega
        have hne : xe_cmp .ne (xu J 18 18 (Int32.ofNat j) 18 34) (40 : Int32) = true := (cmpN D2.2.2.1 (b := 40) rfl (by omega) (by omega)).trans (decide_eq_true (by omega))
        show lm_R B n nsv c Kk _ (ld_man B n nsv (tN B n 400 p))
        have D3 : lm_E B n nsv p c c Kk (xu (xu J 18 18 (Int32.ofNat j)) 22 ((Int32.ofNat (4 * c) + (3 : Int32)).toInt.toNat) (xu J 18 18 (Int32.ofNat j) 18 18)) M := lm_22 (by rw [i3]; omega) D2
        obtain ⟨J4, M4, c4, E4, F1, F2, -⟩ := mz_next hn hB0 hp D3.1.1
        have D4 := lm_mv E4 F1 F2 D3
        have f3 : J4 22 (4 * c + 3) = Int32.ofNat j := by
          rw [F1 22 (4 * c + 3) rfl, i3, xu_eq, xu_eq]
        have n2 := (tN_le (B := B) (lim := 400) n1).2.1
        have w5 := mw_isWord (i := 5) (c := 1885436275) (by decide) (by decide) rfl (by decide +kernel) n1 D4.1.1
        have w8 := mw_isWord (i := 8) (c := 109317276394099) (by decide) (by decide) rfl (by decide +kernel) n1 D4.1.1
        cases h5 : Nat.beq (kyw (tW B n 400 (tN B n 400 p))) 5 with
        | true =>
          have e5 := Nat.eq_of_beq_eq_true h5
          rw [h5] at w5
          have e : ld_man B n nsv (tN B n 400 p) = ld_1 B n nsv 5 (tN B n 400 (tN B n 400 p)) := by unfold ld_man; rw [h5, e5]; rfl
          rw [e]
          obtain ⟨J5, M5, c5, E5, G1, G2, -⟩ := mz_next hn hB0 n1 D4.1.1
          have D5 := lm_mv E5 G1 G2 D4
          have f5 : (J5 22 (4 * c + 3)).toInt = (j : Int) := by rw [G1 22 (4 * c + 3) rfl, f3]; exact ti (by omega)
          have hr := lm_1 (k_z := 5) hn hB0 O n2 (by decide) (by decide) hc' D5 (fun _ => by omega)
          cases hx : ld_1 B n nsv 5 (tN B n 400 (tN B n 400 p)) with
          | inl f =>
            rw [hx] at hr
            obtain ⟨J6, M6, r6, q1⟩ := hr
            exact ⟨J6, M6, mk_X13_ledgerLine (Or.inl rfl) (go32 _ _ (pt_X13_ledgerLine_4 hne (b3 hc') c4 ge1 w5 (pt_X13_ledgerLine_11 (by decide) c5 r6))), q1⟩
          | inr q =>
            rw [hx] at hr
            obtain ⟨J6, M6, r6, q1⟩ := hr
            exact ⟨J6, M6, mk_X13_ledgerLine (Or.inr rfl) (go32 _ _ (pt_X13_ledgerLine_4 hne (b3 hc') c4 ge1 w5 (pt_X13_ledgerLine_11 (by decide) c5 r6))), q1⟩
        | false =>
          rw [h5] at w5
          cases h8 : Nat.beq (kyw (tW B n 400 (tN B n 400 p))) 8 with
          | true =>
            have e8 := Nat.eq_of_beq_eq_true h8
            rw [h8] at w8
            have e : ld_man B n nsv (tN B n 400 p) = ld_1 B n nsv 8 (tN B n 400 (tN B n 400 p)) := by unfold ld_man; rw [h5, h8, e8]; rfl
            rw [e]
            obtain ⟨J5, M5, c5, E5, G1, G2, -⟩ := mz_next hn hB0 n1 D4.1.1
            have D5 := lm_mv E5 G1 G2 D4
            have hr := lm_1 (k_z := 8) hn hB0 O n2 (by decide) (by decide) hc' D5 (fun h => absurd h (by decide))
            cases hx : ld_1 B n nsv 8 (tN B n 400 (tN B n 400 p)) with
            | inl f =>
              rw [hx] at hr
              obtain ⟨J6, M6, r6, q1⟩ := hr
              exact ⟨J6, M6, mk_X13_ledgerLine (Or.inl rfl) (go32 _ _ (pt_X13_ledgerLine_5 hne (b3 hc') c4 ge1 w5 w8 (pt_X13_ledgerLine_11 (by decide) c5 r6))), q1⟩
            | inr q =>
              rw [hx] at hr
              obtain ⟨J6, M6, r6, q1⟩ := hr
              exact ⟨J6, M6, mk_X13_ledgerLine (Or.inr rfl) (go32 _ _ (pt_X13_ledgerLine_5 hne (b3 hc') c4 ge1 w5 w8 (pt_X13_ledgerLine_11 (by decide) c5 r6))), q1⟩
          | false =>
            rw [h8] at w8
            have e : ld_man B n nsv (tN B n 400 p) = .inl 1 := by unfold ld_man; rw [h5, h8]; rfl
            rw [e]
            exact ⟨_, _, mk_X13_ledgerLine (Or.inl rfl) (go32 _ _ (pt_X13_ledgerLine_6 hne (b3 hc') c4 ge1 w5 w8 (pt_X13_ledgerLine_12 (by decide) (ms_bad 1)))), rfl⟩
  | false =>
    have e : ld_line B n nsv p c = (bif ld_dd (kyw (tW B n 400 p)) then (bif Nat.beq c 40 then .inl 4 else ld_1 B n nsv (kyw (tW B n 400 p)) (tN B n 400 p)) else .inl 1) := by unfold ld_line; rw [h0]; rfl
    rw [e]
    cases hd : ld_dd (kyw (tW B n 400 p)) with
    | false =>
      have ed : lm_d (kyw (tW B n 400 p)) = Int32.ofInt (-1) := by unfold lm_d; rw [hd]; rfl
      rw [ed] at cd
      obtain ⟨s1, s2⟩ := mw_looks hp E.1.1 E.2.1 O
      have hm : lv_nm B n 400 nsv p = .inl 1 := by
        unfold lv_nm
        have hi : lv_isn B n 400 p = false := by unfold lv_isn; rw [h0, Bool.and_false]
        rw [hi]; rfl
      obtain ⟨J2, c2, q1, -⟩ := s1 1 hm
      exact ⟨J2, M, mk_X13_ledgerLine (Or.inl rfl) (pt_X13_ledgerLine_2 cd ge1 c2), q1⟩
    | true =>
      have hk := ld_dd_iff.mp hd
      have ed : lm_d (kyw (tW B n 400 p)) = Int32.ofNat (kyw (tW B n 400 p) - 5) := by unfold lm_d; rw [hd]; rfl
      rw [ed] at cd
      have ge2 : xe_cmp .ge (Int32.ofNat (kyw (tW B n 400 p) - 5)) 0 = true := (cmpN (a := kyw (tW B n 400 p) - 5) rfl (b := 0) rfl (by omega) (by omega)).trans (decide_eq_true (Nat.zero_le (kyw (tW B n 400 p) - 5)))
      have go32 : ∀ (v : Option Value) (hp9 : xe_H), (∃ n9, xr_X13_ledgerLine n9 (32, [(0, .ref 18), (1, .int (Int32.ofNat (4 * c))), (2, .int (Int32.ofNat (kyw (tW B n 400 p) - 5)))], [], (J, M)) v hp9) → ∃ n9, xr_X13_ledgerLine n9 (0, [(0, .ref 18)], [], (J, M)) v hp9 := fun v hp9 r => by
        refine pt_X13_ledgerLine_0 cd ge2 ?_
        rw [l1]
        exact r
      cases h4 : Nat.beq c 40 with
      | true =>
        have e40 := Nat.eq_of_beq_eq_true h4
        exact ⟨_, _, mk_X13_ledgerLine (Or.inl rfl) (go32 _ _ (pt_X13_ledgerLine_7 ((cmpN E.2.2.1 (b := 40) rfl (by omega) (by omega)).trans (decide_eq_false (by omega))) (ms_bad 4))), rfl⟩
      | false =>
        have hc' : c < 40 := by have := nb_ne h4; omega
        have hne : xe_cmp .ne (J 18 34) (40 : Int32) = true := (cmpN E.2.2.1 (b := 40) rfl (by omega) (by omega)).trans (decide_eq_true (by omega))
        show lm_R B n nsv c Kk _ (ld_1 B n nsv (kyw (tW B n 400 p)) (tN B n 400 p))
        have D3 : lm_E B n nsv p c c Kk (xu J 22 ((Int32.ofNat (4 * c) + (3 : Int32)).toInt.toNat) (J 18 18)) M := lm_22 (by rw [i3]; omega) E
        obtain ⟨J4, M4, c4, E4, F1, F2, -⟩ := mz_next hn hB0 hp D3.1.1
        have D4 := lm_mv E4 F1 F2 D3
        have hr := lm_1 (k_z := kyw (tW B n 400 p)) hn hB0 O n1 (by omega) (by omega) hc' D4 (fun h => by omega)
        cases hx : ld_1 B n nsv (kyw (tW B n 400 p)) (tN B n 400 p) with
        | inl f =>
          rw [hx] at hr
          obtain ⟨J6, M6, r6, q1⟩ := hr
          exact ⟨J6, M6, mk_X13_ledgerLine (Or.inl rfl) (go32 _ _ (pt_X13_ledgerLine_3 hne (b3 hc') c4 ge2 r6)), q1⟩
        | inr q =>
          rw [hx] at hr
          obtain ⟨J6, M6, r6, q1⟩ := hr
          exact ⟨J6, M6, mk_X13_ledgerLine (Or.inr rfl) (go32 _ _ (pt_X13_ledgerLine_3 hne (b3 hc') c4 ge2 r6)), q1⟩
/-- the loop over the lines: a fault, or behind the last one -/
def lm_Z (B : Nat → Int32) (n : Nat) (nsv : List (List Int32)) (Kk : Nat → Nat → Int32) (a1 : Int32) (pc0 : Nat) (J : Nat → Nat → Int32) (M : Nat → Nat → Int64) (r : ld_rs) : Prop := match r with
  | .inl f => ∃ (v9 : Int32) (J' : Nat → Nat → Int32) (M' : Nat → Nat → Int64), (∃ n9, yr_X13_ledger (.inl (some (.int v9), (J', M'))) n9 (pc0, [(0, .ref 18), (1, .int a1)], [], (J, M))) ∧ J' 18 15 = f
  | .inr c' => c' ≤ 40 ∧ ∃ (q : Nat) (J' : Nat → Nat → Int32) (M' : Nat → Nat → Int64), q ≤ n ∧ (∃ n9, yr_X13_ledger (.inr (83, [(0, .ref 18), (1, .int a1)], [], (J', M'))) n9 (pc0, [(0, .ref 18), (1, .int a1)], [], (J, M))) ∧ lm_E B n nsv q c' c' Kk J' M'
theorem lm_loop (hn : n ≤ 940) (hB0 : ∀ i, i < 940 → 0 ≤ (B i).toInt) (O : lv_ok nsv) {a1 : Int32} : ∀ (m_z p c : Nat) (J : Nat → Nat → Int32) (M : Nat → Nat → Int64), n < p + m_z → p ≤ n → c ≤ 40 → lm_E B n nsv p c c Kk J M → lm_Z B n nsv Kk a1 39 J M (ld_tx B n nsv m_z p c) := by
  intro m_z
  induction m_z with
  | zero => intro p c J M h1 h2; omega
  | succ m_z ih =>
    intro p c J M hk hp hc E
    have e11 : J 18 11 = Int32.ofNat (mK B n 400 p) := E.1.1.2.2.2.2.2.1
    obtain ⟨m1, m2, m0, m4, m3⟩ := mK_1 (B := B) (n := n) (lim := 400) (p := p)
    cases h0 : Nat.beq (tK B n 400 p) 0 with
    | true =>
      have e : ld_tx B n nsv (m_z + 1) p c = .inr c := by unfold ld_tx; rw [h0]; rfl
      rw [e]
      exact ⟨hc, p, J, M, hp, pt_X13_ledger_2 ((cmpN e11 (b := 0) rfl (by omega) (by omega)).trans (decide_eq_true (m0.mpr (Nat.eq_of_beq_eq_true h0)))) ye_at, E⟩
    | false =>
      have g2 : xe_cmp .eq (J 18 11) 0 = false := (cmpN e11 (b := 0) rfl (by omega) (by omega)).trans (decide_eq_false (fun q => nb_ne h0 (m0.mp q)))
      have hr := lm_line hn hB0 O hp hc E
      cases hx : ld_line B n nsv p c with
      | inl f =>
        have e : ld_tx B n nsv (m_z + 1) p c = .inl f := by unfold ld_tx; rw [h0, hx]; rfl
        rw [e]
        rw [hx] at hr
        obtain ⟨J1, M1, c1, q1⟩ := hr
        exact ⟨_, J1, M1, pt_X13_ledger_5 g2 c1, q1⟩
      | inr q =>
        obtain ⟨a1', a2, a3⟩ := ld_line_ok hp hx
        rw [hx] at hr
        obtain ⟨J1, M1, c1, E1⟩ := hr
        obtain ⟨s1, s2⟩ := mz_sign hn hB0 a2 E1.1.1
        have et : ld_tx B n nsv (m_z + 1) p c = (bif lv_sg B n 400 59 q then ld_tx B n nsv m_z (tN B n 400 q) (c + 1) else .inl 1) := by unfold ld_tx; rw [h0, hx]; cases m_z <;> rfl
        rw [et]
        cases hs : lv_sg B n 400 59 q with
        | false =>
          obtain ⟨J2, M2, c2, u1⟩ := s1 hs
          exact ⟨_, J2, M2, pt_X13_ledger_4 g2 c1 c2, u1⟩
        | true =>
          obtain ⟨J2, M2, c2, E2, F1, F2⟩ := s2 hs
          have h3 : tK B n 400 q = 3 := (sg_3 hs).1
          have a4 := ld_adv a2 h3 (by decide) (by decide)
          have n2 := (tN_le (B := B) (lim := 400) a2).2.1
          have D2 := lm_mv E2 F1 F2 E1
          have D3 : lm_E B n nsv (tN B n 400 q) (c + 1) (c + 1) Kk (xu J2 18 34 (J2 18 34 + 1)) M2 := ⟨⟨enwM_up (g := 18) (i := 34) D2.1.1 rfl, D2.1.2⟩, ⟨D2.2.1.1, D2.2.1.2⟩, (show J2 18 34 + 1 = Int32.ofNat (c + 1) by rw [D2.2.2.1]; exact ti1 _), D2.2.2.2.1, D2.2.2.2.2.1, D2.2.2.2.2.2.1.up rfl, D2.2.2.2.2.2.2⟩
          have hh := ih (tN B n 400 q) (c + 1) _ M2 (by omega) n2 (by omega) D3
          show lm_Z B n nsv Kk a1 39 J M (ld_tx B n nsv m_z (tN B n 400 q) (c + 1))
          cases hy : ld_tx B n nsv m_z (tN B n 400 q) (c + 1) with
          | inl f =>
            rw [hy] at hh
            obtain ⟨v9, J3, M3, r3, u⟩ := hh
            exact ⟨v9, J3, M3, pt_X13_ledger_3 g2 c1 c2 r3, u⟩
          | inr c' =>
            rw [hy] at hh
            obtain ⟨hc9, q9, J3, M3, hq9, r3, u⟩ := hh
            exact ⟨hc9, q9, J3, M3, hq9, pt_X13_ledger_3 g2 c1 c2 r3, u⟩
theorem lm_start (hn : n ≤ 940) (hB0 : ∀ i, i < 940 → 0 ≤ (B i).toInt) (O : lv_ok nsv) {a1 : Int32} (ha : a1 = 0 ∨ a1 = 1) (h2 : J 18 2 = Int32.ofNat n) (hB : ∀ i, i < 940 → J 19 i &&& 255 = B i) (T : lv_TM nsv J M) : lm_Z B n nsv J a1 0 J M (ld_tx B n nsv (n + 1) 0 0) := by
  have cI : fx_X13_isIn [.int (1 : Int32), .int (0 : Int32), .int a1] (xu J 18 0 0, M) (some (.int 1)) (xu J 18 0 0, M) := by
    rcases ha with rfl | rfl
    · exact mk_X13_isIn (Or.inr rfl) (pt_X13_isIn_2 (by decide) (by decide))
    · exact mk_X13_isIn (Or.inr rfl) (pt_X13_isIn_2 (by decide) (by decide))
  have c1 : fx_X13_taken [.int 400, .ref 18] (xu J 18 0 0, M) none (xu (xu (xu (xu (xu J 18 0 0) 18 3 (xu J 18 0 0 18 2)) 18 2 0) 18 4 0) 18 5 400, M) := mk_X13_taken trivial pt_X13_taken_0
  obtain ⟨J2, M2, c2, E2, s3, s4, r9⟩ := sp_nextS (B := B) (n := n) (lim := 400) (p := 0) (I := xu (xu (xu (xu (xu (xu (xu J 18 0 0) 18 3 (xu J 18 0 0 18 2)) 18 2 0) 18 4 0) 18 5 400) 18 15 0) 18 34 0) (L := M) hn (by decide) (Nat.zero_le _) h2 rfl rfl hB hB0
  have E : lm_E B n nsv 0 0 0 J J2 M2 := ⟨⟨E2, r9⟩, ⟨(s3 20 0 rfl).trans T.1, fun j hj => (s4 23 j rfl).trans (T.2.1 j hj), fun j hj => (s4 24 j rfl).trans (T.2.2 j hj)⟩, s3 18 34 rfl, s3 18 15 rfl, s3 18 2 rfl, (((((((fp.rf.up rfl).up rfl).up rfl).up rfl).up rfl).up rfl).up rfl).tr (s3.mono (fun g i h => lz_SM (lz_S9 h))), fun u hu => absurd hu (Nat.not_lt_zero _)⟩
  have hh := lm_loop hn hB0 O (a1 := a1) (n + 1) 0 0 J2 M2 (by omega) (Nat.zero_le _) (by decide) E
  cases hy : ld_tx B n nsv (n + 1) 0 0 with
  | inl f =>
    rw [hy] at hh
    obtain ⟨v9, J3, M3, r3, u⟩ := hh
    exact ⟨v9, J3, M3, pt_X13_ledger_0 cI c1 c2 r3, u⟩
  | inr c' =>
    rw [hy] at hh
    obtain ⟨hc9, q9, J3, M3, hq9, r3, u⟩ := hh
    exact ⟨hc9, q9, J3, M3, hq9, pt_X13_ledger_0 cI c1 c2 r3, u⟩
theorem lm_no {a1 : Int32} (ha : a1 ≠ 0) (ha' : a1 ≠ 1) : ∃ n9, yr_X13_ledger (.inl (some (.int (Int32.ofInt (-1000))), (xu J 18 0 0, M))) n9 (0, [(0, .ref 18), (1, .int a1)], [], (J, M)) := by
  have cI : fx_X13_isIn [.int (1 : Int32), .int (0 : Int32), .int a1] (xu J 18 0 0, M) (some (.int 0)) (xu J 18 0 0, M) := by
    by_cases hl : a1.toInt < 0
    · exact mk_X13_isIn (Or.inl rfl) (pt_X13_isIn_0 (by rw [xc]; exact decide_eq_true hl))
    · have h1 : ¬ a1.toInt = 0 := fun q => ha (Int32.toInt_inj.mp q)
      have h2 : ¬ a1.toInt = 1 := fun q => ha' (Int32.toInt_inj.mp q)
      exact mk_X13_isIn (Or.inl rfl) (pt_X13_isIn_1 (by rw [xc]; exact decide_eq_false hl) (by rw [xc]; exact decide_eq_true (show (1 : Int) < a1.toInt by omega)))
  exact pt_X13_ledger_1 cI
end MLD
