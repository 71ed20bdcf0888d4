/-! ===== the class reads a SENTENCE ===== -/
theorem xk200 (k_z : Nat) : Nat.beq (xe_k (200 + k_z)) 128 = true := by
  unfold xe_k
  rw [zf_nblt (by omega)]
  rfl
theorem nb_bF {a b : Nat} (h : Nat.ble a b = false) : b < a := by
  rcases Nat.lt_or_ge b a with q | q
  · exact q
  · rw [Nat.ble_eq_true_of_le q] at h
    cases h
theorem nb_bN {a b : Nat} (h : b < a) : Nat.ble a b = false := by
  cases hq : Nat.ble a b with
  | false => rfl
  | true =>
    have := Nat.le_of_ble_eq_true hq
    omega
def sk_z (I : Nat → Nat → Int32) : Prop := ∃ z_z : Nat, z_z ≤ 40 ∧ I 76 4 = Int32.ofNat z_z
def sk_E (B : Nat → Int32) (n : Nat) (nsv : List (List Int32)) (p o_z : Nat) (I : Nat → Nat → Int32) (L : Nat → Nat → Int64) : Prop := EncT B n 200 p I L ∧ lv_TC nsv I L ∧ I 76 5 = Int32.ofNat o_z ∧ I 3 9 = 0 ∧ sk_z I
/-- what a method does that reads a piece: it fails as the machine does, or ends where the machine stands, NOTs left on top -/
def sk_R (B : Nat → Int32) (n : Nat) (nsv : List (List Int32)) (f : xe_F) (us : List Value) (I : Nat → Nat → Int32) (L : Nat → Nat → Int64) (s : sv_st) (N_z : Nat → Prop) : Prop :=
  (∃ q : Int32 × Nat, sv_ends B n nsv s (.inl q) ∧ ∃ (I' : Nat → Nat → Int32) (L' : Nat → Nat → Int64), f us (I, L) (some (.int 0)) (I', L') ∧ I' 3 9 = q.1 ∧ I' 3 10 = Int32.ofNat q.2 ∧ sk_z I') ∨
  ∃ (p' o' : Nat) (T : List Bool), p' ≤ n ∧ s.2.1 < o' ∧ o' ≤ 20 ∧ sv_dn T = [] ∧ sv_go B n nsv s (p', o', T ++ s.2.2.1, true) ∧ N_z p' ∧ ∃ (I' : Nat → Nat → Int32) (L' : Nat → Nat → Int64), f us (I, L) (some (.int 1)) (I', L') ∧ sk_E B n nsv p' o' I' L'
def sk_P (B : Nat → Int32) (n : Nat) (nsv : List (List Int32)) (f : xe_F) (j_z : Nat) (C_z : List Bool → Prop) (N_z : Nat → Prop) : Prop := ∀ (p o_z : Nat) (S : List Bool) (I : Nat → Nat → Int32) (L : Nat → Nat → Int64), p ≤ n → o_z ≤ 20 → C_z S → S.length + j_z = 9 → S.length ≤ 8 → sk_E B n nsv p o_z I L → sk_R B n nsv f [.int (Int32.ofNat (S.length + 1)), .ref 64, .ref 3, .ref 76] I L (p, o_z, S, false) N_z
section CV
variable {B : Nat → Int32} {n lim p o_z : Nat} {I : Nat → Nat → Int32} {L : Nat → Nat → Int64} {nsv : List (List Int32)}
theorem kyw_lt (hp : p ≤ n) : kyw (tW B n lim p) < 24 := by
  rw [← ky_w (tW_ok hp).1 (tW_ok hp).2]
  exact ky_lt _
theorem cw_isS {cc : Int32} (E : EncT B n lim p I L) : fx_X7_isSign [.int cc, .ref 3] (I, L) (some (.int (b2i (lv_sg B n lim cc p)))) (I, L) := by
  have e4 : I 3 4 = Int32.ofNat (tK B n lim p) := E.2.2.2.2.2.1
  have hk4 := tK_le (B := B) (n := n) (lim := lim) (p := p)
  have e7 : I 3 7 = tS B n lim p := E.2.2.2.2.2.2.2.2
  unfold lv_sg
  cases hk : Nat.beq (tK B n lim p) 3 with
  | false => exact mk_X7_isSign (Or.inl rfl) (pt_X7_isSign_0 ((cmpN e4 (b := 3) rfl (by omega) (by omega)).trans (decide_eq_true (nb_ne hk))))
  | true =>
    have hk1 := Nat.eq_of_beq_eq_true hk
    have g1 : xe_cmp .ne (I 3 4) (3 : Int32) = false := (cmpN e4 (b := 3) rfl (by omega) (by omega)).trans (decide_eq_false (fun q => q hk1))
    cases hs : decide (tS B n lim p = cc) with
    | false => exact mk_X7_isSign (Or.inl rfl) (pt_X7_isSign_1 g1 (by rw [e7]; exact decide_eq_true (of_decide_eq_false hs)))
    | true => exact mk_X7_isSign (Or.inr rfl) (pt_X7_isSign_2 g1 (by rw [e7]; exact decide_eq_false (fun q => q (of_decide_eq_true hs))))
theorem cw_isT {cc : Int32} (E : EncT B n lim p I L) (h : lv_sg B n lim cc p = true) : fx_X7_isSign [.int cc, .ref 3] (I, L) (some (.int 1)) (I, L) := by
  have q := cw_isS (cc := cc) E
  rw [h] at q
  exact q
theorem cw_isF {cc : Int32} (E : EncT B n lim p I L) (h : lv_sg B n lim cc p = false) : fx_X7_isSign [.int cc, .ref 3] (I, L) (some (.int 0)) (I, L) := by
  have q := cw_isS (cc := cc) E
  rw [h] at q
  exact q
theorem cw_cmp (hn : n ≤ 940) (hp : p ≤ n) (E : EncT B n 200 p I L) : (sv_cm B n p = false → ∃ (I' : Nat → Nat → Int32) (L' : Nat → Nat → Int64), fx_X7_takeCompare [.ref 3] (I, L) (some (.int 0)) (I', L') ∧ I' 3 9 = 1 ∧ I' 3 10 = Int32.ofNat (tA B n 200 p) ∧ ∀ i9, I' 76 i9 = I 76 i9) ∧ (sv_cm B n p = true → ∃ (I' : Nat → Nat → Int32) (L' : Nat → Nat → Int64), fx_X7_takeCompare [.ref 3] (I, L) (some (.int 1)) (I', L') ∧ EncT B n 200 (tN B n 200 p) I' L' ∧ fp lp_S3 I I' ∧ fpl lp_L3 L L') := by
  have a2 : I 3 2 = Int32.ofNat (tA B n 200 p) := E.2.2.2.1
  refine ⟨fun h => ?_, fun h => ?_⟩
  · unfold sv_cm at h
    rw [Bool.or_eq_false_iff, Bool.or_eq_false_iff] at h
    exact ⟨_, _, mk_X7_takeCompare (Or.inl rfl) (pt_X7_takeCompare_3 (cw_isF E h.1.1) (cw_isF E h.1.2) (cw_isF E h.2) (cs_fail 1)), rfl, a2, fun _ => rfl⟩
  · unfold sv_cm at h
    obtain ⟨I', L', c2, E2, F1, F2, -⟩ := cw_step (by decide) hn hp (enwT_up (g := 3) (i := 8) (x := I 3 7) E rfl)
    have F3 : fp lp_S3 I I' := (fp.rf.up rfl).tr F1
    cases h0 : lv_sg B n 200 60 p with
    | true => exact ⟨I', L', mk_X7_takeCompare (Or.inr rfl) (pt_X7_takeCompare_0 (cw_isT E h0) c2), E2, F3, F2⟩
    | false =>
      cases h1 : lv_sg B n 200 61 p with
      | true => exact ⟨I', L', mk_X7_takeCompare (Or.inr rfl) (pt_X7_takeCompare_1 (cw_isF E h0) (cw_isT E h1) c2), E2, F3, F2⟩
      | false =>
        rw [h0, h1] at h
        have h2 : lv_sg B n 200 62 p = true := h
        exact ⟨I', L', mk_X7_takeCompare (Or.inr rfl) (pt_X7_takeCompare_2 (cw_isF E h0) (cw_isF E h1) (cw_isT E h2) c2), E2, F3, F2⟩
theorem num_2 (h : tK B n lim p = 2) : lv_num B n lim 0 999 p = .inr (tX B n p) := by
  have h2 : Nat.beq (tK B n lim p) 2 = true := by rw [h]; rfl
  obtain ⟨v_z, e, hv⟩ := tX_v h
  have a1 : xe_cmp .lt (tX B n p) 0 = false := (cmpN e (b := 0) rfl (by omega) (by omega)).trans (show decide (v_z < 0) = false from decide_eq_false (Nat.not_lt_zero _))
  have a2 : xe_cmp .le (tX B n p) 999 = true := (cmpN e (b := 999) rfl (by omega) (by omega)).trans (decide_eq_true (by omega))
  unfold lv_num
  rw [h2, a1, a2]
  rfl
theorem num_n (h : Nat.beq (tK B n lim p) 2 = false) : lv_num B n lim 0 999 p = .inl 1 := by
  unfold lv_num
  rw [h]
  rfl
theorem cv_pl (k_z : Nat) : fx_X2_isPlain [.ref (200 + k_z)] (I, L) (some (.int (b2i (Nat.beq k_z 16 || Nat.beq k_z 17 || Nat.beq k_z 18)))) (I, L) := by
  cases h1 : Nat.beq k_z 16 with
  | true => exact mk_X2_isPlain (xk200 k_z) (Or.inr rfl) (pt_X2_isPlain_0 ((nb200 16).trans h1))
  | false =>
    cases h2 : Nat.beq k_z 17 with
    | true => exact mk_X2_isPlain (xk200 k_z) (Or.inr rfl) (pt_X2_isPlain_1 ((nb200 16).trans h1) ((nb200 17).trans h2))
    | false =>
      cases h3 : Nat.beq k_z 18 with
      | true => exact mk_X2_isPlain (xk200 k_z) (Or.inr rfl) (pt_X2_isPlain_2 ((nb200 16).trans h1) ((nb200 17).trans h2) ((nb200 18).trans h3))
      | false => exact mk_X2_isPlain (xk200 k_z) (Or.inl rfl) (pt_X2_isPlain_3 ((nb200 16).trans h1) ((nb200 17).trans h2) ((nb200 18).trans h3))
theorem cv_plT {k_z : Nat} (h1 : 16 ≤ k_z) (h2 : k_z ≤ 18) : fx_X2_isPlain [.ref (200 + k_z)] (I, L) (some (.int 1)) (I, L) := by
  have q := cv_pl (I := I) (L := L) k_z
  have e : (Nat.beq k_z 16 || Nat.beq k_z 17 || Nat.beq k_z 18) = true := by
    rcases (by omega : k_z = 16 ∨ k_z = 17 ∨ k_z = 18) with h | h | h <;> rw [h] <;> rfl
  rw [e] at q
  exact q
theorem cv_plF {k_z : Nat} (h : ¬ (16 ≤ k_z ∧ k_z ≤ 18)) : fx_X2_isPlain [.ref (200 + k_z)] (I, L) (some (.int 0)) (I, L) := by
  have q := cv_pl (I := I) (L := L) k_z
  rw [nb_F (a := k_z) (b := 16) (by omega), nb_F (a := k_z) (b := 17) (by omega), nb_F (a := k_z) (b := 18) (by omega)] at q
  exact q
theorem cv_me (k_z : Nat) : fx_X2_isMeasure [.ref (200 + k_z)] (I, L) (some (.int (b2i (Nat.beq k_z 20 || Nat.beq k_z 21 || Nat.beq k_z 22 || Nat.beq k_z 23)))) (I, L) := by
  cases h1 : Nat.beq k_z 20 with
  | true => exact mk_X2_isMeasure (xk200 k_z) (Or.inr rfl) (pt_X2_isMeasure_0 ((nb200 20).trans h1))
  | false =>
    cases h2 : Nat.beq k_z 21 with
    | true => exact mk_X2_isMeasure (xk200 k_z) (Or.inr rfl) (pt_X2_isMeasure_1 ((nb200 20).trans h1) ((nb200 21).trans h2))
    | false =>
      cases h3 : Nat.beq k_z 22 with
      | true => exact mk_X2_isMeasure (xk200 k_z) (Or.inr rfl) (pt_X2_isMeasure_2 ((nb200 20).trans h1) ((nb200 21).trans h2) ((nb200 22).trans h3))
      | false =>
        cases h4 : Nat.beq k_z 23 with
        | true => exact mk_X2_isMeasure (xk200 k_z) (Or.inr rfl) (pt_X2_isMeasure_3 ((nb200 20).trans h1) ((nb200 21).trans h2) ((nb200 22).trans h3) ((nb200 23).trans h4))
        | false => exact mk_X2_isMeasure (xk200 k_z) (Or.inl rfl) (pt_X2_isMeasure_4 ((nb200 20).trans h1) ((nb200 21).trans h2) ((nb200 22).trans h3) ((nb200 23).trans h4))
theorem cv_meT {k_z : Nat} (h1 : 20 ≤ k_z) (h2 : k_z < 24) : fx_X2_isMeasure [.ref (200 + k_z)] (I, L) (some (.int 1)) (I, L) := by
  have q := cv_me (I := I) (L := L) k_z
  have e : (Nat.beq k_z 20 || Nat.beq k_z 21 || Nat.beq k_z 22 || Nat.beq k_z 23) = true := by
    rcases (by omega : k_z = 20 ∨ k_z = 21 ∨ k_z = 22 ∨ k_z = 23) with h | h | h | h <;> rw [h] <;> rfl
  rw [e] at q
  exact q
theorem cv_meF {k_z : Nat} (h : k_z < 20) : fx_X2_isMeasure [.ref (200 + k_z)] (I, L) (some (.int 0)) (I, L) := by
  have q := cv_me (I := I) (L := L) k_z
  rw [nb_F (a := k_z) (b := 20) (by omega), nb_F (a := k_z) (b := 21) (by omega), nb_F (a := k_z) (b := 22) (by omega), nb_F (a := k_z) (b := 23) (by omega)] at q
  exact q
theorem cv_add {k_z : Nat} (z : sk_z I) (hk : Nat.beq (xe_k k_z) 128 = true) (a2 a3 : Int32) : ∃ I' : Nat → Nat → Int32, fx_X8_add [.int a3, .int a2, .ref k_z, .ref 76] (I, L) none (I', L) ∧ sk_z I' ∧ I' 76 5 = I 76 5 ∧ ∀ g i, Nat.blt g 76 = true → I' g i = I g i := by
  obtain ⟨z_z, h1, h2⟩ := z
  by_cases h : z_z = 40
  · exact ⟨I, mk_X8_add trivial (pt_X8_add_0 ((cmpN h2 (b := 40) rfl (by omega) (by omega)).trans (decide_eq_true (by omega)))), ⟨z_z, h1, h2⟩, rfl, fun _ _ _ => rfl⟩
  · have hib : xe_ib (I 76 4) 40 = true := by rw [h2]; exact xib (by omega) (by omega)
    refine ⟨_, mk_X8_add trivial (pt_X8_add_1 ((cmpN h2 (b := 40) rfl (by omega) (by omega)).trans (decide_eq_false (by omega))) (by rw [hib, hk]; rfl) hib hib), ⟨z_z + 1, by omega, ?_⟩, rfl, fun g i hg => ?_⟩
    · show I 76 4 + 1 = Int32.ofNat (z_z + 1)
      rw [h2]
      exact ti1 _
    · have hg := zf_blt hg
      rw [xu_ne (by rw [nb_F (a := g) (b := 76) (by omega)]; rfl), xu_ne (by rw [nb_F (a := g) (b := 79) (by omega)]; rfl), xu_ne (by rw [nb_F (a := g) (b := 78) (by omega)]; rfl)]
theorem sk_add {k_z : Nat} (E : sk_E B n nsv p o_z I L) (hk : Nat.beq (xe_k k_z) 128 = true) (a2 a3 : Int32) : ∃ I' : Nat → Nat → Int32, fx_X8_add [.int a3, .int a2, .ref k_z, .ref 76] (I, L) none (I', L) ∧ sk_E B n nsv p o_z I' L := by
  obtain ⟨E1, T, e5, e9, z⟩ := E
  obtain ⟨I', c, z', f5, g⟩ := cv_add (L := L) z hk a2 a3
  obtain ⟨h1, h2, h3, h4, h5, h6, h7, h8, h9⟩ := E1
  exact ⟨I', c, ⟨(g 1 1 rfl).trans h1, fun i hi => (g 2 i rfl).trans (h2 i hi), (g 3 1 rfl).trans h3, (g 3 2 rfl).trans h4, (g 3 3 rfl).trans h5, (g 3 4 rfl).trans h6, h7, fun hk => (g 3 6 rfl).trans (h8 hk), (g 3 7 rfl).trans h9⟩, ⟨(g 64 0 rfl).trans T.1, T.2⟩, f5.trans e5, (g 3 9 rfl).trans e9, z'⟩
theorem sk_zf {I' : Nat → Nat → Int32} (F : I' 76 4 = I 76 4) (z : sk_z I) : sk_z I' := by
  obtain ⟨z_z, h1, h2⟩ := z
  exact ⟨z_z, h1, F.trans h2⟩
theorem sk_mv {p' : Nat} {I' : Nat → Nat → Int32} {L' : Nat → Nat → Int64} (E2 : EncT B n 200 p' I' L') (F : fp lp_S3 I I') (F2 : fpl lp_L3 L L') (E : sk_E B n nsv p o_z I L) : sk_E B n nsv p' o_z I' L' := ⟨E2, tcw_fr E.2.1 F F2, (F 76 5 rfl).trans E.2.2.1, (F 3 9 rfl).trans E.2.2.2.1, sk_zf (F 76 4 rfl) E.2.2.2.2⟩
/-- gone, bears, false; of a man; a measure -/
theorem cv_simple (hn : n ≤ 940) (hp : p ≤ n) (E : sk_E B n nsv p o_z I L) (O : lv_ok nsv) {k_z : Nat} (h16 : 16 ≤ k_z) (h23 : k_z < 24) :
    (∀ q, sv_leaf B n nsv k_z p = .inl q → ∃ (I' : Nat → Nat → Int32) (L' : Nat → Nat → Int64), fx_X8_readSimple [.ref (200 + k_z), .ref 64, .ref 3, .ref 76] (I, L) (some (.int 0)) (I', L') ∧ I' 3 9 = q.1 ∧ I' 3 10 = Int32.ofNat q.2 ∧ sk_z I') ∧
    (∀ p', sv_leaf B n nsv k_z p = .inr p' → p' ≤ n ∧ ∃ (I' : Nat → Nat → Int32) (L' : Nat → Nat → Int64), fx_X8_readSimple [.ref (200 + k_z), .ref 64, .ref 3, .ref 76] (I, L) (some (.int 1)) (I', L') ∧ sk_E B n nsv p' o_z I' L') := by
  obtain ⟨E1, T, e5, e9, z⟩ := id E
  cases h18 : Nat.ble k_z 18 with
  | true =>
    have e : sv_leaf B n nsv k_z p = .inr p := by unfold sv_leaf; rw [h18]; rfl
    have h18 := Nat.le_of_ble_eq_true h18
    rw [e]
    refine ⟨fun q h => (by cases h), fun p' h => ?_⟩
    cases h
    obtain ⟨I', c, E'⟩ := sk_add E (xk200 k_z) 0 0
    exact ⟨hp, I', L, mk_X8_readSimple (Or.inr rfl) (pt_X8_readSimple_5 ((nb200 19).trans (nb_F (by omega))) (cv_meF (by omega)) c), E'⟩
  | false =>
    have h18' := nb_bF h18
    cases h19 : Nat.beq k_z 19 with
    | true =>
      obtain ⟨t1, t2⟩ := cw_take (by decide) hn hp E1 T O
      cases hm : lv_nm B n 200 nsv p with
      | inl f =>
        have e : sv_leaf B n nsv k_z p = .inl (f, tA B n 200 p) := by unfold sv_leaf; rw [h18, h19, hm]; rfl
        rw [e]
        refine ⟨fun q h => ?_, fun p' h => (by cases h)⟩
        cases h
        obtain ⟨I1, L1, c1, q1, q2, q3⟩ := t1 f hm
        exact ⟨I1, L1, mk_X8_readSimple (Or.inl rfl) (pt_X8_readSimple_1 ((nb200 19).trans h19) c1), q1, q2, sk_zf (q3 4) z⟩
      | inr j =>
        have e : sv_leaf B n nsv k_z p = .inr (tN B n 200 p) := by unfold sv_leaf; rw [h18, h19, hm]; rfl
        rw [e]
        refine ⟨fun q h => (by cases h), fun p' h => ?_⟩
        cases h
        obtain ⟨I1, L1, hj, c1, E2, e8, F1, F2⟩ := t2 j hm
        obtain ⟨I2, c2, E3⟩ := sk_add (sk_mv E2 F1 F2 E) (xk200 k_z) 0 (I1 3 8)
        exact ⟨(tN_le (B := B) (lim := 200) hp).2.1, I2, L1, mk_X8_readSimple (Or.inr rfl) (pt_X8_readSimple_0 ((nb200 19).trans h19) c1 c2), E3⟩
    | false =>
      have h20 : 20 ≤ k_z := by have := nb_ne h19; omega
      have cm := cv_meT (I := I) (L := L) h20 h23
      have n19 : Nat.beq (200 + k_z) 219 = false := (nb200 19).trans h19
      obtain ⟨t1, t2⟩ := cw_cmp hn hp E1
      cases hc : sv_cm B n p with
      | false =>
        have e : sv_leaf B n nsv k_z p = .inl (1, tA B n 200 p) := by unfold sv_leaf; rw [h18, h19, hc]; rfl
        rw [e]
        refine ⟨fun q h => ?_, fun p' h => (by cases h)⟩
        cases h
        obtain ⟨I1, L1, c1, q1, q2, q3⟩ := t1 hc
        exact ⟨I1, L1, mk_X8_readSimple (Or.inl rfl) (pt_X8_readSimple_4 n19 cm c1), q1, q2, sk_zf (q3 4) z⟩
      | true =>
        obtain ⟨I1, L1, c1, E2, F1, F2⟩ := t2 hc
        have E3 := sk_mv E2 F1 F2 E
        have hp1 := (tN_le (B := B) (lim := 200) hp).2.1
        obtain ⟨u1, u2⟩ := cw_num (by decide) hn hp1 E2 0 999
        cases h2 : Nat.beq (tK B n 200 (tN B n 200 p)) 2 with
        | false =>
          have e : sv_leaf B n nsv k_z p = .inl (1, tA B n 200 (tN B n 200 p)) := by unfold sv_leaf; rw [h18, h19, hc, h2]; rfl
          rw [e]
          refine ⟨fun q h => ?_, fun p' h => (by cases h)⟩
          cases h
          obtain ⟨I2, L2, c2, q1, q2, q3⟩ := u1 1 (num_n h2)
          exact ⟨I2, L2, mk_X8_readSimple (Or.inl rfl) (pt_X8_readSimple_3 n19 cm c1 c2), q1, q2, sk_zf (q3 4) E3.2.2.2.2⟩
        | true =>
          have e : sv_leaf B n nsv k_z p = .inr (tN B n 200 (tN B n 200 p)) := by unfold sv_leaf; rw [h18, h19, hc, h2]; rfl
          rw [e]
          refine ⟨fun q h => (by cases h), fun p' h => ?_⟩
          cases h
          obtain ⟨I2, L2, c2, E4, e8, G1, G2⟩ := u2 _ (num_2 (Nat.eq_of_beq_eq_true h2))
          obtain ⟨I3, c3, E5⟩ := sk_add (sk_mv E4 G1 G2 E3) (xk200 k_z) (I1 3 8) (I2 3 8)
          exact ⟨(tN_le (B := B) (lim := 200) hp1).2.1, I3, L2, mk_X8_readSimple (Or.inr rfl) (pt_X8_readSimple_2 n19 cm c1 c2 c3), E5⟩
/-! what the machine does at an operand -/
theorem so_no {S : List Bool} (hb : lv_sg B n 200 40 p = false) (h : kyw (tW B n 200 p) < 15) : sv_op B n nsv p o_z S = .inr (.inl (1, tA B n 200 p)) := by
  unfold sv_op
  rw [hb, nb_bN h]
  rfl
theorem so_or {a b : Bool} (h : a = true ∨ b = true) : (a || b) = true := by
  rcases h with h | h <;> rw [h]
  · rfl
  · exact Bool.or_true a
theorem so_many {S : List Bool} (h : lv_sg B n 200 40 p = true ∨ 15 ≤ kyw (tW B n 200 p)) (hM : o_z = 20 ∨ 8 ≤ S.length) : sv_op B n nsv p o_z S = .inr (.inl (4, tA B n 200 p)) := by
  unfold sv_op
  rw [so_or (h.imp id Nat.ble_eq_true_of_le), so_or (a := Nat.beq o_z 20) (hM.imp (fun q => by rw [q]; rfl) Nat.ble_eq_true_of_le)]
  rfl
theorem so_br {S : List Bool} (hb : lv_sg B n 200 40 p = true) (h1 : o_z ≠ 20) (h2 : S.length < 8) : sv_op B n nsv p o_z S = .inl (tN B n 200 p, o_z + 1, true :: S, false) := by
  unfold sv_op
  rw [hb, nb_F h1, nb_bN h2]
  rfl
theorem so_not {S : List Bool} (hb : lv_sg B n 200 40 p = false) (hk : kyw (tW B n 200 p) = 15) (h1 : o_z ≠ 20) (h2 : S.length < 8) : sv_op B n nsv p o_z S = .inl (tN B n 200 p, o_z + 1, false :: S, false) := by
  unfold sv_op
  rw [hb, hk, nb_F h1, nb_bN h2]
  rfl
theorem so_lfF {S : List Bool} {q : Int32 × Nat} (hb : lv_sg B n 200 40 p = false) (hk : 16 ≤ kyw (tW B n 200 p)) (h1 : o_z ≠ 20) (h2 : S.length < 8) (hl : sv_leaf B n nsv (kyw (tW B n 200 p)) (tN B n 200 p) = .inl q) : sv_op B n nsv p o_z S = .inr (.inl q) := by
  unfold sv_op
  rw [hb, Nat.ble_eq_true_of_le (Nat.le_trans (by decide : 15 ≤ 16) hk), nb_F h1, nb_bN h2, nb_F (a := kyw (tW B n 200 p)) (b := 15) (by omega), hl]
  rfl
theorem so_lfT {S : List Bool} {p' : Nat} (hb : lv_sg B n 200 40 p = false) (hk : 16 ≤ kyw (tW B n 200 p)) (h1 : o_z ≠ 20) (h2 : S.length < 8) (hl : sv_leaf B n nsv (kyw (tW B n 200 p)) (tN B n 200 p) = .inr p') : sv_op B n nsv p o_z S = .inl (p', o_z + 1, S, true) := by
  unfold sv_op
  rw [hb, Nat.ble_eq_true_of_le (Nat.le_trans (by decide : 15 ≤ 16) hk), nb_F h1, nb_bN h2, nb_F (a := kyw (tW B n 200 p)) (b := 15) (by omega), hl]
  rfl
theorem cv_one (hn : n ≤ 940) (O : lv_ok nsv) {fC fO : xe_F} {j_z : Nat} (hC : sk_P B n nsv fC j_z (fun S => sv_dn S = S) (fun p' => kyw (tW B n 200 p') ≠ 13 ∧ kyw (tW B n 200 p') ≠ 14)) (hO : sk_P B n nsv fO j_z (fun _ => True) (fun _ => True)) : sk_P B n nsv (fx_X8_readOne fC fO) (j_z + 1) (fun _ => True) (fun _ => True) := by
  intro p o_z S I L hp ho _ h9 h8 E
  obtain ⟨E1, T, e5, e9, z⟩ := id E
  have ck := cw_key hp E1
  have hk24 := kyw_lt (B := B) (lim := 200) hp
  obtain ⟨I3, L3, c3, E3, F1, F2, -⟩ := cw_step (by decide) hn hp (enwT_up (g := 76) (i := 5) (x := I 76 5 + 1) E1 rfl)
  have E4 : sk_E B n nsv (tN B n 200 p) (o_z + 1) I3 L3 := sk_mv (p := p) (I := xu I 76 5 (I 76 5 + 1)) (L := L) E3 F1 F2 ⟨enwT_up (g := 76) (i := 5) (x := I 76 5 + 1) E1 rfl, T, by show I 76 5 + 1 = _; rw [e5]; exact ti1 _, e9, z⟩
  have hp1 := (tN_le (B := B) (lim := 200) hp).2.1
  cases hb : lv_sg B n 200 40 p with
  | true =>
    have s2 := cw_isT E1 hb
    by_cases hM : o_z = 20 ∨ 8 ≤ S.length
    · refine Or.inl ⟨(4, tA B n 200 p), sv_e1 (sv_1F.trans (so_many (Or.inl hb) hM)), ?_⟩
      by_cases h20 : o_z = 20
      · exact ⟨_, _, mk_X8_readOne (Or.inl rfl) (pt_X8_readOne_0 ck s2 ((cmpN e5 (b := 20) rfl (by omega) (by omega)).trans (decide_eq_true (by omega))) (cs_fail 4)), rfl, E1.2.2.2.1, z⟩
      · exact ⟨_, _, mk_X8_readOne (Or.inl rfl) (pt_X8_readOne_4 ck s2 ((cmpN e5 (b := 20) rfl (by omega) (by omega)).trans (decide_eq_false (by omega))) ((cmpN rfl (b := 8) rfl (by omega) (by omega)).trans (decide_eq_false (by omega))) (cs_fail 4)), rfl, E1.2.2.2.1, z⟩
    have hM1 : o_z ≠ 20 := fun q => hM (Or.inl q)
    have hM2 : S.length < 8 := Nat.lt_of_not_le (fun q => hM (Or.inr q))
    have g20 : xe_cmp .ge (I 76 5) (20 : Int32) = false := (cmpN e5 (b := 20) rfl (by omega) (by omega)).trans (decide_eq_false (by omega))
    have g8 : xe_cmp .le (Int32.ofNat (S.length + 1)) (8 : Int32) = true := (cmpN rfl (b := 8) rfl (by omega) (by omega)).trans (decide_eq_true (by omega))
    have hgo := sv_g1 (sv_1F.trans (so_br (nsv := nsv) hb hM1 hM2))
    rcases hC _ (o_z + 1) (true :: S) I3 L3 hp1 (by omega) rfl (by show S.length + 1 + j_z = 9; omega) (by show S.length + 1 ≤ 8; omega) E4 with ⟨q, r1, I5, L5, c5, f1, f2, f3⟩ | ⟨p', o', T', r1, r2, r3, r4, r5, r6, I5, L5, c5, E5⟩
    · have c5 : fC [.int (Int32.ofNat (S.length + 1) + 1), .ref 64, .ref 3, .ref 76] (I3, L3) (some (.int 0)) (I5, L5) := by rw [ti1]; exact c5
      exact Or.inl ⟨q, sv_ge hgo r1, I5, L5, mk_X8_readOne (Or.inl rfl) (pt_X8_readOne_3 ck s2 g20 g8 c3 c5), f1, f2, f3⟩
    · have c5 : fC [.int (Int32.ofNat (S.length + 1) + 1), .ref 64, .ref 3, .ref 76] (I3, L3) (some (.int 1)) (I5, L5) := by rw [ti1]; exact c5
      have r2 : o_z + 1 < o' := r2
      have hgo2 := sv_gt hgo r5
      have hdn : sv_dn (T' ++ true :: S) = true :: S := (sv_dn_app r4).trans rfl
      obtain ⟨g1, g2⟩ := cw_sign (cc := 41) (by decide) hn r1 E5.1
      cases h41 : lv_sg B n 200 41 p' with
      | false =>
        obtain ⟨I6, L6, c6, q1, q2, q3⟩ := g1 h41
        exact Or.inl ⟨(1, tA B n 200 p'), sv_ge hgo2 (sv_e1 (sv_b3 hdn h41 r6.1 r6.2)), I6, L6, mk_X8_readOne (Or.inl rfl) (pt_X8_readOne_2 ck s2 g20 g8 c3 c5 c6), q1, q2, sk_zf (q3 4) E5.2.2.2.2⟩
      | true =>
        obtain ⟨I6, L6, c6, E6, F3, F4⟩ := g2 h41
        exact Or.inr ⟨tN B n 200 p', o', [], (tN_le (B := B) (lim := 200) r1).2.1, by show o_z < o'; omega, r3, rfl, sv_gt hgo2 (sv_g1 (sv_b2 hdn h41)), trivial, I6, L6, mk_X8_readOne (Or.inr rfl) (pt_X8_readOne_1 ck s2 g20 g8 c3 c5 c6), sk_mv E6 F3 F4 E5⟩
  | false =>
    have s2 := cw_isF E1 hb
    by_cases hlo : kyw (tW B n 200 p) < 15
    · exact Or.inl ⟨(1, tA B n 200 p), sv_e1 (sv_1F.trans (so_no hb hlo)), _, _, mk_X8_readOne (Or.inl rfl) (pt_X8_readOne_29 ck s2 ((nb200 15).trans (nb_F (by omega))) ((nb200 19).trans (nb_F (by omega))) (cv_plF (by omega)) (cv_meF (by omega)) (cs_fail 1)), rfl, E1.2.2.2.1, z⟩
    have hor : 15 ≤ kyw (tW B n 200 p) := Nat.le_of_not_lt hlo
    by_cases h15 : kyw (tW B n 200 p) = 15
    · have k15 : Nat.beq (200 + kyw (tW B n 200 p)) 215 = true := (nb200 15).trans (by rw [h15]; rfl)
      by_cases hM : o_z = 20 ∨ 8 ≤ S.length
      · refine Or.inl ⟨(4, tA B n 200 p), sv_e1 (sv_1F.trans (so_many (Or.inr hor) hM)), ?_⟩
        by_cases h20 : o_z = 20
        · exact ⟨_, _, mk_X8_readOne (Or.inl rfl) (pt_X8_readOne_5 ck s2 k15 ((cmpN e5 (b := 20) rfl (by omega) (by omega)).trans (decide_eq_true (by omega))) (cs_fail 4)), rfl, E1.2.2.2.1, z⟩
        · exact ⟨_, _, mk_X8_readOne (Or.inl rfl) (pt_X8_readOne_10 ck s2 k15 ((cmpN e5 (b := 20) rfl (by omega) (by omega)).trans (decide_eq_false (by omega))) ((cmpN rfl (b := 8) rfl (by omega) (by omega)).trans (decide_eq_false (by omega))) (cs_fail 4)), rfl, E1.2.2.2.1, z⟩
      have hM1 : o_z ≠ 20 := fun q => hM (Or.inl q)
      have hM2 : S.length < 8 := Nat.lt_of_not_le (fun q => hM (Or.inr q))
      have g20 : xe_cmp .ge (I 76 5) (20 : Int32) = false := (cmpN e5 (b := 20) rfl (by omega) (by omega)).trans (decide_eq_false (by omega))
      have g8 : xe_cmp .le (Int32.ofNat (S.length + 1)) (8 : Int32) = true := (cmpN rfl (b := 8) rfl (by omega) (by omega)).trans (decide_eq_true (by omega))
      have hgo := sv_g1 (sv_1F.trans (so_not (nsv := nsv) hb h15 hM1 hM2))
      rcases hO _ (o_z + 1) (false :: S) I3 L3 hp1 (by omega) trivial (by show S.length + 1 + j_z = 9; omega) (by show S.length + 1 ≤ 8; omega) E4 with ⟨q, r1, I5, L5, c5, f1, f2, f3⟩ | ⟨p', o', T', r1, r2, r3, r4, r5, r6, I5, L5, c5, E5⟩
      · have c5 : fO [.int (Int32.ofNat (S.length + 1) + 1), .ref 64, .ref 3, .ref 76] (I3, L3) (some (.int 0)) (I5, L5) := by rw [ti1]; exact c5
        obtain ⟨I6, c6, z6, -, g6⟩ := cv_add (L := L5) f3 (xk200 15) 0 0
        exact Or.inl ⟨q, sv_ge hgo r1, I6, L5, mk_X8_readOne (Or.inl rfl) (pt_X8_readOne_7 ck s2 k15 g20 g8 c3 k15 c5 c6), (g6 3 9 rfl).trans f1, (g6 3 10 rfl).trans f2, z6⟩
      · have c5 : fO [.int (Int32.ofNat (S.length + 1) + 1), .ref 64, .ref 3, .ref 76] (I3, L3) (some (.int 1)) (I5, L5) := by rw [ti1]; exact c5
        have r2 : o_z + 1 < o' := r2
        obtain ⟨I6, c6, E6⟩ := sk_add E5 (xk200 15) 0 0
        have r5 : sv_go B n nsv (tN B n 200 p, o_z + 1, false :: S, false) (p', o', (T' ++ [false]) ++ S, true) := by rw [List.append_assoc]; exact r5
        exact Or.inr ⟨p', o', T' ++ [false], r1, by show o_z < o'; omega, r3, (sv_dn_app r4).trans rfl, sv_gt hgo r5, trivial, I6, L5, mk_X8_readOne (Or.inr rfl) (pt_X8_readOne_6 ck s2 k15 g20 g8 c3 k15 c5 c6), E6⟩
    have k15 : Nat.beq (200 + kyw (tW B n 200 p)) 215 = false := (nb200 15).trans (nb_F h15)
    have h16 : 16 ≤ kyw (tW B n 200 p) := by omega
    obtain ⟨u1, u2⟩ := cv_simple hn hp1 E4 O h16 hk24
    by_cases h19 : kyw (tW B n 200 p) = 19
    · have k19 : Nat.beq (200 + kyw (tW B n 200 p)) 219 = true := (nb200 19).trans (by rw [h19]; rfl)
      by_cases hM : o_z = 20 ∨ 8 ≤ S.length
      · refine Or.inl ⟨(4, tA B n 200 p), sv_e1 (sv_1F.trans (so_many (Or.inr hor) hM)), ?_⟩
        by_cases h20 : o_z = 20
        · exact ⟨_, _, mk_X8_readOne (Or.inl rfl) (pt_X8_readOne_11 ck s2 k15 k19 ((cmpN e5 (b := 20) rfl (by omega) (by omega)).trans (decide_eq_true (by omega))) (cs_fail 4)), rfl, E1.2.2.2.1, z⟩
        · exact ⟨_, _, mk_X8_readOne (Or.inl rfl) (pt_X8_readOne_16 ck s2 k15 k19 ((cmpN e5 (b := 20) rfl (by omega) (by omega)).trans (decide_eq_false (by omega))) ((cmpN rfl (b := 8) rfl (by omega) (by omega)).trans (decide_eq_false (by omega))) (cs_fail 4)), rfl, E1.2.2.2.1, z⟩
      have hM1 : o_z ≠ 20 := fun q => hM (Or.inl q)
      have hM2 : S.length < 8 := Nat.lt_of_not_le (fun q => hM (Or.inr q))
      have g20 : xe_cmp .ge (I 76 5) (20 : Int32) = false := (cmpN e5 (b := 20) rfl (by omega) (by omega)).trans (decide_eq_false (by omega))
      have g8 : xe_cmp .le (Int32.ofNat (S.length + 1)) (8 : Int32) = true := (cmpN rfl (b := 8) rfl (by omega) (by omega)).trans (decide_eq_true (by omega))
      cases hl : sv_leaf B n nsv (kyw (tW B n 200 p)) (tN B n 200 p) with
      | inl q =>
        obtain ⟨I5, L5, c5, f1, f2, f3⟩ := u1 q hl
        exact Or.inl ⟨q, sv_e1 (sv_1F.trans (so_lfF hb h16 hM1 hM2 hl)), I5, L5, mk_X8_readOne (Or.inl rfl) (pt_X8_readOne_15 ck s2 k15 k19 g20 g8 c3 k15 c5), f1, f2, f3⟩
      | inr p' =>
        obtain ⟨hp', I5, L5, c5, E5⟩ := u2 p' hl
        exact Or.inr ⟨p', o_z + 1, [], hp', by show o_z < o_z + 1; omega, by omega, rfl, sv_g1 (sv_1F.trans (so_lfT hb h16 hM1 hM2 hl)), trivial, I5, L5, mk_X8_readOne (Or.inr rfl) (pt_X8_readOne_14 ck s2 k15 k19 g20 g8 c3 k15 c5), E5⟩
    have k19 : Nat.beq (200 + kyw (tW B n 200 p)) 219 = false := (nb200 19).trans (nb_F h19)
    by_cases h18 : kyw (tW B n 200 p) ≤ 18
    · have cp := cv_plT (I := I) (L := L) h16 h18
      by_cases hM : o_z = 20 ∨ 8 ≤ S.length
      · refine Or.inl ⟨(4, tA B n 200 p), sv_e1 (sv_1F.trans (so_many (Or.inr hor) hM)), ?_⟩
        by_cases h20 : o_z = 20
        · exact ⟨_, _, mk_X8_readOne (Or.inl rfl) (pt_X8_readOne_17 ck s2 k15 k19 cp ((cmpN e5 (b := 20) rfl (by omega) (by omega)).trans (decide_eq_true (by omega))) (cs_fail 4)), rfl, E1.2.2.2.1, z⟩
        · exact ⟨_, _, mk_X8_readOne (Or.inl rfl) (pt_X8_readOne_22 ck s2 k15 k19 cp ((cmpN e5 (b := 20) rfl (by omega) (by omega)).trans (decide_eq_false (by omega))) ((cmpN rfl (b := 8) rfl (by omega) (by omega)).trans (decide_eq_false (by omega))) (cs_fail 4)), rfl, E1.2.2.2.1, z⟩
      have hM1 : o_z ≠ 20 := fun q => hM (Or.inl q)
      have hM2 : S.length < 8 := Nat.lt_of_not_le (fun q => hM (Or.inr q))
      have g20 : xe_cmp .ge (I 76 5) (20 : Int32) = false := (cmpN e5 (b := 20) rfl (by omega) (by omega)).trans (decide_eq_false (by omega))
      have g8 : xe_cmp .le (Int32.ofNat (S.length + 1)) (8 : Int32) = true := (cmpN rfl (b := 8) rfl (by omega) (by omega)).trans (decide_eq_true (by omega))
      cases hl : sv_leaf B n nsv (kyw (tW B n 200 p)) (tN B n 200 p) with
      | inl q =>
        obtain ⟨I5, L5, c5, f1, f2, f3⟩ := u1 q hl
        exact Or.inl ⟨q, sv_e1 (sv_1F.trans (so_lfF hb h16 hM1 hM2 hl)), I5, L5, mk_X8_readOne (Or.inl rfl) (pt_X8_readOne_21 ck s2 k15 k19 cp g20 g8 c3 k15 c5), f1, f2, f3⟩
      | inr p' =>
        obtain ⟨hp', I5, L5, c5, E5⟩ := u2 p' hl
        exact Or.inr ⟨p', o_z + 1, [], hp', by show o_z < o_z + 1; omega, by omega, rfl, sv_g1 (sv_1F.trans (so_lfT hb h16 hM1 hM2 hl)), trivial, I5, L5, mk_X8_readOne (Or.inr rfl) (pt_X8_readOne_20 ck s2 k15 k19 cp g20 g8 c3 k15 c5), E5⟩
    have cp := cv_plF (I := I) (L := L) (k_z := kyw (tW B n 200 p)) (by omega)
    have cm := cv_meT (I := I) (L := L) (k_z := kyw (tW B n 200 p)) (by omega) hk24
    by_cases hM : o_z = 20 ∨ 8 ≤ S.length
    · refine Or.inl ⟨(4, tA B n 200 p), sv_e1 (sv_1F.trans (so_many (Or.inr hor) hM)), ?_⟩
      by_cases h20 : o_z = 20
      · exact ⟨_, _, mk_X8_readOne (Or.inl rfl) (pt_X8_readOne_23 ck s2 k15 k19 cp cm ((cmpN e5 (b := 20) rfl (by omega) (by omega)).trans (decide_eq_true (by omega))) (cs_fail 4)), rfl, E1.2.2.2.1, z⟩
      · exact ⟨_, _, mk_X8_readOne (Or.inl rfl) (pt_X8_readOne_28 ck s2 k15 k19 cp cm ((cmpN e5 (b := 20) rfl (by omega) (by omega)).trans (decide_eq_false (by omega))) ((cmpN rfl (b := 8) rfl (by omega) (by omega)).trans (decide_eq_false (by omega))) (cs_fail 4)), rfl, E1.2.2.2.1, z⟩
    have hM1 : o_z ≠ 20 := fun q => hM (Or.inl q)
    have hM2 : S.length < 8 := Nat.lt_of_not_le (fun q => hM (Or.inr q))
    have g20 : xe_cmp .ge (I 76 5) (20 : Int32) = false := (cmpN e5 (b := 20) rfl (by omega) (by omega)).trans (decide_eq_false (by omega))
    have g8 : xe_cmp .le (Int32.ofNat (S.length + 1)) (8 : Int32) = true := (cmpN rfl (b := 8) rfl (by omega) (by omega)).trans (decide_eq_true (by omega))
    cases hl : sv_leaf B n nsv (kyw (tW B n 200 p)) (tN B n 200 p) with
    | inl q =>
      obtain ⟨I5, L5, c5, f1, f2, f3⟩ := u1 q hl
      exact Or.inl ⟨q, sv_e1 (sv_1F.trans (so_lfF hb h16 hM1 hM2 hl)), I5, L5, mk_X8_readOne (Or.inl rfl) (pt_X8_readOne_27 ck s2 k15 k19 cp cm g20 g8 c3 k15 c5), f1, f2, f3⟩
    | inr p' =>
      obtain ⟨hp', I5, L5, c5, E5⟩ := u2 p' hl
      exact Or.inr ⟨p', o_z + 1, [], hp', by show o_z < o_z + 1; omega, by omega, rfl, sv_g1 (sv_1F.trans (so_lfT hb h16 hM1 hM2 hl)), trivial, I5, L5, mk_X8_readOne (Or.inr rfl) (pt_X8_readOne_26 ck s2 k15 k19 cp cm g20 g8 c3 k15 c5), E5⟩
theorem cv_allL (hn : n ≤ 940) {fO : xe_F} {j_z : Nat} (hO : sk_P B n nsv fO j_z (fun _ => True) (fun _ => True)) {S : List Bool} (hS : sv_dn S = S) (h9 : S.length + j_z = 9) (h8 : S.length ≤ 8) : ∀ (k_z p o_z i : Nat) (T : List Bool) (I : Nat → Nat → Int32) (L : Nat → Nat → Int64), 20 - o_z < k_z → p ≤ n → o_z ≤ 20 → i < o_z → sv_dn T = [] → sk_E B n nsv p o_z I L →
    (∃ q : Int32 × Nat, sv_ends B n nsv (p, o_z, T ++ S, true) (.inl q) ∧ ∃ (I' : Nat → Nat → Int32) (L' : Nat → Nat → Int64), (∃ n9, xr_X8_readAll fO n9 (15, [(0, .ref 76), (1, .ref 3), (2, .ref 64), (3, .int (Int32.ofNat (S.length + 1))), (4, .int (Int32.ofNat i))], [], (I, L)) (some (.int 0)) (I', L')) ∧ I' 3 9 = q.1 ∧ I' 3 10 = Int32.ofNat q.2 ∧ sk_z I') ∨
    ∃ (p' o' : Nat) (T' : List Bool), p' ≤ n ∧ o_z ≤ o' ∧ o' ≤ 20 ∧ sv_dn T' = [] ∧ sv_go B n nsv (p, o_z, T ++ S, true) (p', o', T' ++ S, true) ∧ kyw (tW B n 200 p') ≠ 14 ∧ ∃ (I' : Nat → Nat → Int32) (L' : Nat → Nat → Int64), (∃ n9, xr_X8_readAll fO n9 (15, [(0, .ref 76), (1, .ref 3), (2, .ref 64), (3, .int (Int32.ofNat (S.length + 1))), (4, .int (Int32.ofNat i))], [], (I, L)) (some (.int 1)) (I', L')) ∧ sk_E B n nsv p' o' I' L' := by
  intro k_z
  induction k_z with
  | zero => intro p o_z i T I L h; omega
  | succ k_z ih =>
    intro p o_z i T I L hk hp ho hi hT E
    have ck := cw_key hp E.1
    have g1 : xe_cmp .ge (Int32.ofNat i) (20 : Int32) = false := (cmpN rfl (b := 20) rfl (by omega) (by omega)).trans (decide_eq_false (by omega))
    cases h14 : Nat.beq (kyw (tW B n 200 p)) 14 with
    | false => exact Or.inr ⟨p, o_z, T, hp, Nat.le_refl _, ho, hT, sv_g0, nb_ne h14, I, L, pt_X8_readAll_5 g1 ck ((nb200 14).trans h14), E⟩
    | true =>
      have k14 : Nat.beq (200 + kyw (tW B n 200 p)) 214 = true := (nb200 14).trans h14
      have h14 := Nat.eq_of_beq_eq_true h14
      obtain ⟨I2, L2, c2, E2, F1, F2, -⟩ := cw_step (by decide) hn hp E.1
      have E3 := sk_mv E2 F1 F2 E
      have hp1 := (tN_le (B := B) (lim := 200) hp).2.1
      have hgo : sv_go B n nsv (p, o_z, T ++ S, true) (tN B n 200 p, o_z, S, false) := by
        have q := sv_g1 (sv_b1 (B := B) (n := n) (nsv := nsv) (p := p) (o_z := o_z) (S := T ++ S) (Or.inr h14))
        rw [sv_dn_app hT, hS] at q
        exact q
      rcases hO (tN B n 200 p) o_z S I2 L2 hp1 ho trivial h9 h8 E3 with ⟨q, r1, I3, L3, c3, f1, f2, f3⟩ | ⟨p', o', T', r1, r2, r3, r4, r5, r6, I3, L3, c3, E4⟩
      · exact Or.inl ⟨q, sv_ge hgo r1, I3, L3, pt_X8_readAll_4 g1 ck k14 c2 c3, f1, f2, f3⟩
      · obtain ⟨I4, c4, E5⟩ := sk_add E4 (xk200 14) 0 0
        have r2 : o_z < o' := r2
        rcases ih p' o' (i + 1) T' I4 L3 (by omega) r1 r3 (by omega) r4 E5 with ⟨q, a1, I6, L6, a2, f1, f2, f3⟩ | ⟨p2, o2, T2, b1, b2, b3, b4, b5, b6, I6, L6, a2, E6⟩
        · exact Or.inl ⟨q, sv_ge (sv_gt hgo r5) a1, I6, L6, pt_X8_readAll_3 g1 ck k14 c2 c3 c4 (by rw [ti1]; exact a2), f1, f2, f3⟩
        · exact Or.inr ⟨p2, o2, T2, b1, by omega, b3, b4, sv_gt (sv_gt hgo r5) b5, b6, I6, L6, pt_X8_readAll_3 g1 ck k14 c2 c3 c4 (by rw [ti1]; exact a2), E6⟩
theorem cv_all (hn : n ≤ 940) {fO : xe_F} {j_z : Nat} (hO : sk_P B n nsv fO j_z (fun _ => True) (fun _ => True)) : sk_P B n nsv (fx_X8_readAll fO) j_z (fun S => sv_dn S = S) (fun p' => kyw (tW B n 200 p') ≠ 14) := by
  intro p o_z S I L hp ho hS h9 h8 E
  rcases hO p o_z S I L hp ho trivial h9 h8 E with ⟨q, r1, I3, L3, c3, f1, f2, f3⟩ | ⟨p', o', T', r1, r2, r3, r4, r5, r6, I3, L3, c3, E4⟩
  · exact Or.inl ⟨q, r1, I3, L3, mk_X8_readAll (Or.inl rfl) (pt_X8_readAll_1 c3), f1, f2, f3⟩
  · have r2 : o_z < o' := r2
    rcases cv_allL hn hO hS h9 h8 21 p' o' 0 T' I3 L3 (by omega) r1 r3 (by omega) r4 E4 with ⟨q, a1, I6, L6, a2, f1, f2, f3⟩ | ⟨p2, o2, T2, b1, b2, b3, b4, b5, b6, I6, L6, a2, E6⟩
    · exact Or.inl ⟨q, sv_ge r5 a1, I6, L6, mk_X8_readAll (Or.inl rfl) (pt_X8_readAll_0 c3 a2), f1, f2, f3⟩
    · exact Or.inr ⟨p2, o2, T2, b1, by show o_z < o2; omega, b3, b4, sv_gt r5 b5, b6, I6, L6, mk_X8_readAll (Or.inr rfl) (pt_X8_readAll_0 c3 a2), E6⟩
theorem cv_condL (hn : n ≤ 940) {fA : xe_F} {j_z : Nat} (hO : sk_P B n nsv fA j_z (fun S => sv_dn S = S) (fun p' => kyw (tW B n 200 p') ≠ 14)) {S : List Bool} (hS : sv_dn S = S) (h9 : S.length + j_z = 9) (h8 : S.length ≤ 8) : ∀ (k_z p o_z i : Nat) (T : List Bool) (I : Nat → Nat → Int32) (L : Nat → Nat → Int64), 20 - o_z < k_z → p ≤ n → o_z ≤ 20 → i < o_z → sv_dn T = [] → sk_E B n nsv p o_z I L → kyw (tW B n 200 p) ≠ 14 →
    (∃ q : Int32 × Nat, sv_ends B n nsv (p, o_z, T ++ S, true) (.inl q) ∧ ∃ (I' : Nat → Nat → Int32) (L' : Nat → Nat → Int64), (∃ n9, xr_X8_readCond fA n9 (15, [(0, .ref 76), (1, .ref 3), (2, .ref 64), (3, .int (Int32.ofNat (S.length + 1))), (4, .int (Int32.ofNat i))], [], (I, L)) (some (.int 0)) (I', L')) ∧ I' 3 9 = q.1 ∧ I' 3 10 = Int32.ofNat q.2 ∧ sk_z I') ∨
    ∃ (p' o' : Nat) (T' : List Bool), p' ≤ n ∧ o_z ≤ o' ∧ o' ≤ 20 ∧ sv_dn T' = [] ∧ sv_go B n nsv (p, o_z, T ++ S, true) (p', o', T' ++ S, true) ∧ (kyw (tW B n 200 p') ≠ 13 ∧ kyw (tW B n 200 p') ≠ 14) ∧ ∃ (I' : Nat → Nat → Int32) (L' : Nat → Nat → Int64), (∃ n9, xr_X8_readCond fA n9 (15, [(0, .ref 76), (1, .ref 3), (2, .ref 64), (3, .int (Int32.ofNat (S.length + 1))), (4, .int (Int32.ofNat i))], [], (I, L)) (some (.int 1)) (I', L')) ∧ sk_E B n nsv p' o' I' L' := by
  intro k_z
  induction k_z with
  | zero => intro p o_z i T I L h; omega
  | succ k_z ih =>
    intro p o_z i T I L hk hp ho hi hT E h0
    have ck := cw_key hp E.1
    have g1 : xe_cmp .ge (Int32.ofNat i) (20 : Int32) = false := (cmpN rfl (b := 20) rfl (by omega) (by omega)).trans (decide_eq_false (by omega))
    cases h14 : Nat.beq (kyw (tW B n 200 p)) 13 with
    | false => exact Or.inr ⟨p, o_z, T, hp, Nat.le_refl _, ho, hT, sv_g0, ⟨nb_ne h14, h0⟩, I, L, pt_X8_readCond_5 g1 ck ((nb200 13).trans h14), E⟩
    | true =>
      have k14 : Nat.beq (200 + kyw (tW B n 200 p)) 213 = true := (nb200 13).trans h14
      have h14 := Nat.eq_of_beq_eq_true h14
      obtain ⟨I2, L2, c2, E2, F1, F2, -⟩ := cw_step (by decide) hn hp E.1
      have E3 := sk_mv E2 F1 F2 E
      have hp1 := (tN_le (B := B) (lim := 200) hp).2.1
      have hgo : sv_go B n nsv (p, o_z, T ++ S, true) (tN B n 200 p, o_z, S, false) := by
        have q := sv_g1 (sv_b1 (B := B) (n := n) (nsv := nsv) (p := p) (o_z := o_z) (S := T ++ S) (Or.inl h14))
        rw [sv_dn_app hT, hS] at q
        exact q
      rcases hO (tN B n 200 p) o_z S I2 L2 hp1 ho hS h9 h8 E3 with ⟨q, r1, I3, L3, c3, f1, f2, f3⟩ | ⟨p', o', T', r1, r2, r3, r4, r5, r6, I3, L3, c3, E4⟩
      · exact Or.inl ⟨q, sv_ge hgo r1, I3, L3, pt_X8_readCond_4 g1 ck k14 c2 c3, f1, f2, f3⟩
      · obtain ⟨I4, c4, E5⟩ := sk_add E4 (xk200 13) 0 0
        have r2 : o_z < o' := r2
        rcases ih p' o' (i + 1) T' I4 L3 (by omega) r1 r3 (by omega) r4 E5 r6 with ⟨q, a1, I6, L6, a2, f1, f2, f3⟩ | ⟨p2, o2, T2, b1, b2, b3, b4, b5, b6, I6, L6, a2, E6⟩
        · exact Or.inl ⟨q, sv_ge (sv_gt hgo r5) a1, I6, L6, pt_X8_readCond_3 g1 ck k14 c2 c3 c4 (by rw [ti1]; exact a2), f1, f2, f3⟩
        · exact Or.inr ⟨p2, o2, T2, b1, by omega, b3, b4, sv_gt (sv_gt hgo r5) b5, b6, I6, L6, pt_X8_readCond_3 g1 ck k14 c2 c3 c4 (by rw [ti1]; exact a2), E6⟩
theorem cv_cond (hn : n ≤ 940) {fA : xe_F} {j_z : Nat} (hO : sk_P B n nsv fA j_z (fun S => sv_dn S = S) (fun p' => kyw (tW B n 200 p') ≠ 14)) : sk_P B n nsv (fx_X8_readCond fA) j_z (fun S => sv_dn S = S) (fun p' => (kyw (tW B n 200 p') ≠ 13 ∧ kyw (tW B n 200 p') ≠ 14)) := by
  intro p o_z S I L hp ho hS h9 h8 E
  rcases hO p o_z S I L hp ho hS h9 h8 E with ⟨q, r1, I3, L3, c3, f1, f2, f3⟩ | ⟨p', o', T', r1, r2, r3, r4, r5, r6, I3, L3, c3, E4⟩
  · exact Or.inl ⟨q, r1, I3, L3, mk_X8_readCond (Or.inl rfl) (pt_X8_readCond_1 c3), f1, f2, f3⟩
  · have r2 : o_z < o' := r2
    rcases cv_condL hn hO hS h9 h8 21 p' o' 0 T' I3 L3 (by omega) r1 r3 (by omega) r4 E4 r6 with ⟨q, a1, I6, L6, a2, f1, f2, f3⟩ | ⟨p2, o2, T2, b1, b2, b3, b4, b5, b6, I6, L6, a2, E6⟩
    · exact Or.inl ⟨q, sv_ge r5 a1, I6, L6, mk_X8_readCond (Or.inl rfl) (pt_X8_readCond_0 c3 a2), f1, f2, f3⟩
    · exact Or.inr ⟨p2, o2, T2, b1, by show o_z < o2; omega, b3, b4, sv_gt r5 b5, b6, I6, L6, mk_X8_readCond (Or.inr rfl) (pt_X8_readCond_0 c3 a2), E6⟩
/-- a level of the three methods, within one another -/
def rv_F : Nat → xe_F × xe_F × xe_F
  | 0 => (fun _ _ _ _ => False, fun _ _ _ _ => False, fun _ _ _ _ => False)
  | j_z + 1 => (fx_X8_readOne (rv_F j_z).2.2 (rv_F j_z).1, fx_X8_readAll (fx_X8_readOne (rv_F j_z).2.2 (rv_F j_z).1), fx_X8_readCond (fx_X8_readAll (fx_X8_readOne (rv_F j_z).2.2 (rv_F j_z).1)))
theorem rv_P (hn : n ≤ 940) (O : lv_ok nsv) : ∀ j_z : Nat, sk_P B n nsv (rv_F j_z).1 j_z (fun _ => True) (fun _ => True) ∧ sk_P B n nsv (rv_F j_z).2.2 j_z (fun S => sv_dn S = S) (fun p' => kyw (tW B n 200 p') ≠ 13 ∧ kyw (tW B n 200 p') ≠ 14)
  | 0 => ⟨fun p o_z S I L _ _ _ h9 h8 _ => (by omega), fun p o_z S I L _ _ _ h9 h8 _ => (by omega)⟩
  | j_z + 1 => by
    obtain ⟨h1, h2⟩ := rv_P hn O j_z
    have h3 := cv_one hn O h2 h1
    exact ⟨h3, cv_cond hn (cv_all hn h3)⟩
theorem cv_read (hn : n ≤ 940) (O : lv_ok nsv) (h1 : I 1 1 = Int32.ofNat n) (hB : ∀ i, i < 940 → I 2 i = B i) (T : lv_TC nsv I L) :
    (∃ q : Int32 × Nat, sv_ends B n nsv (0, 0, [], false) (.inl q) ∧ ∃ (I' : Nat → Nat → Int32) (L' : Nat → Nat → Int64), fx_X8_read (rv_F 9).2.2 [.ref 64, .ref 3, .ref 76] (I, L) (some (.int 0)) (I', L') ∧ I' 3 9 = q.1 ∧ I' 3 10 = Int32.ofNat q.2) ∨
    ∃ o' : Nat, o' ≤ 20 ∧ sv_ends B n nsv (0, 0, [], false) (.inr o') ∧ ∃ (I' : Nat → Nat → Int32) (L' : Nat → Nat → Int64), fx_X8_read (rv_F 9).2.2 [.ref 64, .ref 3, .ref 76] (I, L) (some (.int 1)) (I', L') ∧ I' 3 9 = 0 ∧ I' 76 5 = Int32.ofNat o' := by
  have c1 : fx_X8_forget [.ref 76] (I, L) none (xu (xu I 76 4 0) 76 5 0, L) := mk_X8_forget trivial pt_X8_forget_0
  obtain ⟨I2, L2, s1, E2, s3, s4⟩ := sp_step (B := B) (n := n) (lim := 200) (p := 0) (I := xu (xu (xu (xu (xu (xu I 76 4 0) 76 5 0) 3 1 200) 3 3 0) 3 9 0) 3 10 0) (L := L) hn (by decide) (Nat.zero_le _) h1 hB rfl rfl
  have c2 : fx_X7_open [.int 200, .ref 3] (xu (xu I 76 4 0) 76 5 0, L) none (I2, L2) := mk_X7_open trivial (pt_X7_open_0 s1)
  have F : fp lp_S3 (xu (xu (xu (xu (xu (xu I 76 4 0) 76 5 0) 3 1 200) 3 3 0) 3 9 0) 3 10 0) I2 := s3.mono (fun g i h => lp_SS h)
  have F2 : fpl lp_L3 L L2 := s4.mono (fun g i h => lp_LL h)
  have T2 : lv_TC nsv I2 L2 := tcw_fr (I := xu (xu (xu (xu (xu (xu I 76 4 0) 76 5 0) 3 1 200) 3 3 0) 3 9 0) 3 10 0) (L := L) T F F2
  have E : sk_E B n nsv 0 0 I2 L2 := ⟨E2, T2, F 76 5 rfl, F 3 9 rfl, ⟨0, Nat.zero_le _, F 76 4 rfl⟩⟩
  rcases (rv_P hn O 9).2 0 0 [] I2 L2 (Nat.zero_le _) (Nat.zero_le _) rfl rfl (Nat.zero_le _) E with ⟨q, r1, I3, L3, c3, f1, f2, f3⟩ | ⟨p', o', T', r1, r2, r3, r4, r5, r6, I3, L3, c3, E4⟩
  · exact Or.inl ⟨q, r1, I3, L3, mk_X8_read (Or.inl rfl) (pt_X8_read_2 c1 c2 c3), f1, f2⟩
  · have hdn : sv_dn (T' ++ []) = [] := sv_dn_app r4
    have e4 : I3 3 4 = Int32.ofNat (tK B n 200 p') := E4.1.2.2.2.2.2.1
    have hk4 := tK_le (B := B) (n := n) (lim := 200) (p := p')
    by_cases h0 : tK B n 200 p' = 0
    · exact Or.inr ⟨o', r3, sv_ge r5 (sv_e1 (sv_b4 hdn h0)), I3, L3, mk_X8_read (Or.inr rfl) (pt_X8_read_0 c1 c2 c3 ((cmpN e4 (b := 0) rfl (by omega) (by omega)).trans (decide_eq_true h0))), E4.2.2.2.1, E4.2.2.1⟩
    · exact Or.inl ⟨(1, tA B n 200 p'), sv_ge r5 (sv_e1 (sv_b5 hdn h0 r6.1 r6.2)), _, _, mk_X8_read (Or.inl rfl) (pt_X8_read_1 c1 c2 c3 ((cmpN e4 (b := 0) rfl (by omega) (by omega)).trans (decide_eq_false h0)) (cs_fail 1)), rfl, E4.1.2.2.2.1⟩
end CV
