/-! ===== the reference's lines ===== -/
section MM
variable {B : Nat → Int32} {n p : Nat} {J : Nat → Nat → Int32} {M : Nat → Nat → Int64} {st : lp_st}
theorem ms_oct (hn : n ≤ 940) (E : EncM B n 900 p J M) {i : Nat} (hi : i < 940) : fx_X13_octet [.int (Int32.ofNat i), .ref 18] (J, M) (some (.int (B i))) (J, M) := by
  have e : J 19 ((Int32.ofNat i).toInt.toNat) &&& 255 = B i := by rw [tin (by omega)]; exact E.2.1 i hi
  rw [← e]
  exact mk_X13_octet trivial (pt_X13_octet_0 (xib (by omega) (by omega)))
theorem ms_kd1 {c : Int32} (h : lp_rg c = true) : ∃ r : Int32, xe_cmp .ge r 0 = true ∧ fx_X13_kindOf [.int c] (J, M) (some (.int r)) (J, M) := by
  rcases rg_cases h with q | q | q
  · rw [q]; exact ⟨0, by decide, mk_X13_kindOf trivial pt_X13_kindOf_1⟩
  · rw [q]; exact ⟨2, by decide, mk_X13_kindOf trivial pt_X13_kindOf_4⟩
  · rw [q]; exact ⟨1, by decide, mk_X13_kindOf trivial pt_X13_kindOf_2⟩
theorem ms_kd0 {c : Int32} (h : lp_rg c = false) : fx_X13_kindOf [.int c] (J, M) (some (.int (Int32.ofInt (-1)))) (J, M) := by
  obtain ⟨q1, q2, q3⟩ := rg_no h
  by_cases h3 : c = 113
  · rw [h3]; exact mk_X13_kindOf trivial pt_X13_kindOf_3
  · refine mk_X13_kindOf trivial (pt_X13_kindOf_0 ?_)
    have t : ∀ k : Int32, c ≠ k → c.toInt ≠ k.toInt := fun k hk e => hk (Int32.toInt_inj.mp e)
    have t1 : c.toInt ≠ 115 := t 115 q1
    have t2 : c.toInt ≠ 112 := t 112 q2
    have t3 : c.toInt ≠ 114 := t 114 q3
    have t4 : c.toInt ≠ 113 := t 113 h3
    by_cases a : c.toInt < 112
    · rw [decide_eq_true a]; rfl
    · rw [decide_eq_false a, decide_eq_true (by omega)]; rfl
theorem ms_rgL (hn : n ≤ 940) (hp : p ≤ n) (hk : tK B n 900 p = 1) (E : EncM B n 900 p J M) : ∀ (k i : Nat) (l1 : Int32), i + k = tN B n 900 p - tA B n 900 p →
    (lp_al B (tA B n 900 p) k i = true → ∃ l1' : Int32, ∀ v hp9, (∃ n9, xr_X13_readRungs n9 (18, [(0, .ref 18), (1, .int l1'), (2, .int (Int32.ofNat (tN B n 900 p - tA B n 900 p)))], [], (J, M)) v hp9) → ∃ n9, xr_X13_readRungs n9 (18, [(0, .ref 18), (1, .int l1), (2, .int (Int32.ofNat i))], [], (J, M)) v hp9) ∧
    (lp_al B (tA B n 900 p) k i = false → ∃ n9, xr_X13_readRungs n9 (18, [(0, .ref 18), (1, .int l1), (2, .int (Int32.ofNat i))], [], (J, M)) (some (.int 0)) (xu (xu J 18 15 3) 18 16 (J 18 12), M)) := by
  obtain ⟨w1, w2, w3, w4, w5, w6, w7⟩ := tk_1 (B := B) (lim := 900) hp hk
  have e13 : J 18 13 = Int32.ofNat (tN B n 900 p - tA B n 900 p) := by rw [← w7]; exact (E.2.2.2.2.2.2.1 hk).2
  have e12 : J 18 12 = Int32.ofNat (tA B n 900 p) := E.2.2.2.1
  intro k
  induction k with
  | zero =>
    intro i l1 hi
    refine ⟨fun _ => ⟨l1, fun v hp9 r => ?_⟩, fun h => by cases h⟩
    have e : i = tN B n 900 p - tA B n 900 p := hi
    rw [e]
    exact r
  | succ k ih =>
    intro i l1 hi
    have g1 : xe_cmp .ge (Int32.ofNat i) (J 18 13) = false := (cmpN rfl e13 (by omega) (by omega)).trans (decide_eq_false (by omega))
    have c1 : fx_X13_octet [.int (J 18 12 + Int32.ofNat i), .ref 18] (J, M) (some (.int (B (tA B n 900 p + i)))) (J, M) := by
      rw [e12, tadd]
      exact ms_oct hn E (by omega)
    cases hr : lp_rg (B (tA B n 900 p + i)) with
    | false =>
      rw [lp_alF hr]
      refine ⟨fun h => (by cases h), fun _ => ?_⟩
      exact pt_X13_readRungs_4 g1 c1 (ms_kd0 hr) (by decide) (ms_bad 3)
    | true =>
      rw [lp_alT hr]
      obtain ⟨r2, h2, c2⟩ := ms_kd1 (J := J) (M := M) hr
      obtain ⟨a1, a2⟩ := ih (i + 1) (l1 ||| (r2 <<< (((2 : Int32) * Int32.ofNat i) &&& 31))) (by omega)
      refine ⟨fun h => ?_, fun h => ?_⟩
      · obtain ⟨l1', r⟩ := a1 h
        refine ⟨l1', fun v hp9 r9 => pt_X13_readRungs_3 g1 c1 c2 h2 ?_⟩
        rw [ti1]
        exact r v hp9 r9
      · refine pt_X13_readRungs_3 g1 c1 c2 h2 ?_
        rw [ti1]
        exact a2 h
theorem ms_rung (hn : n ≤ 940) (hB0 : ∀ i, i < 940 → 0 ≤ (B i).toInt) (hp : p ≤ n) (E : EncM B n 900 p J M) (T : lp_TM st J M) (hlt : st.2.1 < 16) : lp_RM B n fx_X13_readRungs [.ref 18] J M (lp_rung B n p st) := by
  have e11 : J 18 11 = Int32.ofNat (mK B n 900 p) := E.2.2.2.2.2.1
  obtain ⟨m1, m2, m0, m4, m3⟩ := mK_1 (B := B) (n := n) (lim := 900) (p := p)
  cases hk : Nat.beq (tK B n 900 p) 1 with
  | false =>
    have hk1 := nb_ne hk
    have e : lp_rung B n p st = .inl (1, tA B n 900 p) := by unfold lp_rung; rw [hk]; rfl
    rw [e]
    exact rm_f E (mk_X13_readRungs (Or.inl rfl) (pt_X13_readRungs_1 ((cmpN e11 (b := 1) rfl (by omega) (by omega)).trans (decide_eq_false (fun q => hk1 (m1.mp q)))) (ms_bad 1)))
  | true =>
    have hk1 := Nat.eq_of_beq_eq_true hk
    have g1 : xe_cmp .eq (J 18 11) (1 : Int32) = true := (cmpN e11 (b := 1) rfl (by omega) (by omega)).trans (decide_eq_true (m1.mpr hk1))
    obtain ⟨r1, r2⟩ := ms_rgL hn hp hk1 E (tN B n 900 p - tA B n 900 p) 0 0 (Nat.zero_add _)
    obtain ⟨w1, w2, w3, w4, w5, w6, w7⟩ := tk_1 (B := B) (lim := 900) hp hk1
    cases hl : lp_al B (tA B n 900 p) (tN B n 900 p - tA B n 900 p) 0 with
    | false =>
      have e : lp_rung B n p st = .inl (3, tA B n 900 p) := by unfold lp_rung; rw [hk, hl]; rfl
      rw [e]
      exact rm_f E (mk_X13_readRungs (Or.inl rfl) (pt_X13_readRungs_0 g1 (r2 hl)))
    | true =>
      have e : lp_rung B n p st = .inr (tN B n 900 p, (st.1, st.2.1 + 1, st.2.2)) := by unfold lp_rung; rw [hk, hl]; rfl
      rw [e]
      obtain ⟨l1, r⟩ := r1 hl
      have e13 : J 18 13 = Int32.ofNat (tN B n 900 p - tA B n 900 p) := by rw [← w7]; exact (E.2.2.2.2.2.2.1 hk1).2
      have i1 : J 21 1 = Int32.ofNat st.2.1 := T.2.2.1
      have x19 : (19 : Int32) + J 21 1 = Int32.ofNat (19 + st.2.1) := by rw [i1]; exact tadd 19 _
      have x19n : ((19 : Int32) + J 21 1).toInt.toNat = 19 + st.2.1 := by rw [x19]; exact tin (by omega)
      have y1 : (xu J 21 (((19 : Int32) + J 21 1).toInt.toNat) (J 18 13)) 21 1 = J 21 1 := by
        rw [x19n, xu_ne (by rw [nb_F (a := 1) (b := 19 + st.2.1) (by omega)]; rfl)]
      have x35 : (35 : Int32) + (xu J 21 (((19 : Int32) + J 21 1).toInt.toNat) (J 18 13)) 21 1 = Int32.ofNat (35 + st.2.1) := by rw [y1, i1]; exact tadd 35 _
      have x35n : ((35 : Int32) + (xu J 21 (((19 : Int32) + J 21 1).toInt.toNat) (J 18 13)) 21 1).toInt.toNat = 35 + st.2.1 := by rw [x35]; exact tin (by omega)
      obtain ⟨J4, M4, c4, E4, G1, G2, -⟩ := ms_next hn hB0 hp (encM_up (g := 21) (i := ((35 : Int32) + (xu J 21 (((19 : Int32) + J 21 1).toInt.toNat) (J 18 13)) 21 1).toInt.toNat) (x := l1) (encM_up (g := 21) (i := ((19 : Int32) + J 21 1).toInt.toNat) (x := J 18 13) E rfl) rfl)
      have run := pt_X13_readRungs_2 (l1 := l1) (l2 := Int32.ofNat (tN B n 900 p - tA B n 900 p)) ((cmpN rfl e13 (by omega) (by omega)).trans (decide_eq_true (Nat.le_refl _))) (by rw [x19]; exact xib (by omega) (by omega)) (by rw [x35]; exact xib (by omega) (by omega)) c4
      rw [x35n, x19n] at G1
      have k21 : ∀ j, j ≠ 19 + st.2.1 → j ≠ 35 + st.2.1 → J4 21 j = J 21 j := fun j a b => by
        rw [G1 21 j rfl, xu_ne (by rw [nb_F b]; rfl), xu_ne (by rw [nb_F a]; rfl)]
      refine ⟨_, M4, mk_X13_readRungs (Or.inr rfl) (pt_X13_readRungs_0 g1 (r _ _ run)), encM_up E4 rfl, ⟨?_, fun j hj => (G2 23 (6 + j) rfl).trans (T.2.1 j hj), ?_, fun j hj => ?_, (G1 18 20 rfl).trans T.2.2.2.2.1, (G1 18 21 rfl).trans T.2.2.2.2.2.1, fun j hj => (G2 24 j rfl).trans (T.2.2.2.2.2.2.1 j hj), fun j hj => ?_⟩, G1 18 19 rfl, G1 18 15 rfl⟩
      · show J4 21 0 = _
        rw [k21 0 (by omega) (by omega)]
        exact T.1
      · show J4 21 1 + 1 = Int32.ofNat (st.2.1 + 1)
        rw [k21 1 (by omega) (by omega), i1]
        exact ti1 _
      · show xu J4 21 1 (J4 21 1 + 1) 21 (51 + j) = st.2.2.1 j
        rw [xu_ne (by rw [nb_F (a := 51 + j) (b := 1) (by omega)]; rfl), k21 _ (by omega) (by omega)]
        exact T.2.2.2.1 j hj
      · show 0 ≤ (xu J4 21 1 (J4 21 1 + 1) 21 (19 + j)).toInt ∧ _
        rw [xu_ne (by rw [nb_F (a := 19 + j) (b := 1) (by omega)]; rfl)]
        by_cases ej : j = st.2.1
        · have e9 : J4 21 (19 + j) = J 18 13 := by
            rw [G1 21 _ rfl, ej, xu_ne (by rw [nb_F (a := 19 + st.2.1) (b := 35 + st.2.1) (by omega)]; rfl), xu_eq]
          rw [e9, e13, ti (by omega)]
          omega
        · rw [k21 _ (by omega) (by omega)]
          exact T.2.2.2.2.2.2.2 j hj
theorem ms_man (hn : n ≤ 940) (hB0 : ∀ i, i < 940 → 0 ≤ (B i).toInt) (hp : p ≤ n) (E : EncM B n 900 p J M) (T : lp_TM st J M) (O : lp_ok st) (cw : fx_X13_isWord [.long (7168366 : Int64), .ref 18] (J, M) (some (.int 1)) (J, M)) : lp_RM B n fx_X13_line [.ref 18] J M (lp_man B n p st) := by
  have hl := O.1
  cases h6 : Nat.beq st.1.length 6 with
  | true =>
    have e : lp_man B n p st = .inl (4, tA B n 900 p) := by unfold lp_man; rw [h6]; rfl
    have e6 := Nat.eq_of_beq_eq_true h6
    rw [e]
    exact rm_f E (mk_X13_line (Or.inl rfl) (pt_X13_line_4 cw ((cmpN T.1 (b := 6) rfl (by omega) (by omega)).trans (decide_eq_false (fun q => q e6))) (ms_bad 4)))
  | false =>
    have hne := nb_ne h6
    have g1 : xe_cmp .ne (J 21 0) (6 : Int32) = true := (cmpN T.1 (b := 6) rfl (by omega) (by omega)).trans (decide_eq_true hne)
    obtain ⟨J1, M1, c1, E1, F1, F2, -⟩ := ms_next hn hB0 hp E
    have T1 := tm_fr T F1 F2
    have hp1 := (tN_le (B := B) (lim := 900) hp).2.1
    generalize hq : tN B n 900 p = p1 at E1 hp1
    have cN := ms_isName hp1 E1 T1.2.2.2.2.2.2.1
    cases hi : lp_isn B n p1 with
    | false =>
      have e : lp_man B n p st = .inl (1, tA B n 900 p1) := by unfold lp_man; rw [hq, h6, hi]; rfl
      rw [e]
      rw [hi] at cN
      exact rm_f E1 (mk_X13_line (Or.inl rfl) (pt_X13_line_3 cw g1 c1 cN (ms_bad 1)))
    | true =>
      rw [hi] at cN
      have hk1 : tK B n 900 p1 = 1 := by
        unfold lp_isn at hi
        rw [Bool.and_eq_true] at hi
        exact Nat.eq_of_beq_eq_true hi.1
      obtain ⟨w1, w2, w3, w4, w5, w6, w7⟩ := tk_1 (B := B) (lim := 900) hp1 hk1
      have e13 : J1 18 13 = Int32.ofNat (tW B n 900 p1).length := (E1.2.2.2.2.2.2.1 hk1).2
      cases h7 : Nat.blt 7 (tW B n 900 p1).length with
      | true =>
        have e : lp_man B n p st = .inl (3, tA B n 900 p1) := by unfold lp_man; rw [hq, h6, hi, h7]; rfl
        have h7' := zf_blt h7
        rw [e]
        exact rm_f E1 (mk_X13_line (Or.inl rfl) (pt_X13_line_0 cw g1 c1 cN ((cmpN e13 (b := 7) rfl (by omega) (by omega)).trans (decide_eq_true h7')) (ms_bad 3)))
      | false =>
        have h7' : ¬ 7 < (tW B n 900 p1).length := fun q => by rw [zf_blt' q] at h7; cases h7
        have g4 : xe_cmp .gt (J1 18 13) (7 : Int32) = false := (cmpN e13 (b := 7) rfl (by omega) (by omega)).trans (decide_eq_false h7')
        have c4 := ms_find hp1 hk1 E1 T1 O
        cases hf : lp_nf (tW B n 900 p1) st.1 st.1.length 0 with
        | some j =>
          have e : lp_man B n p st = .inl (3, tA B n 900 p1) := by unfold lp_man; rw [hq, h6, hi, h7, hf]; rfl
          have hj := lp_nf_in hf
          rw [e]
          rw [hf] at c4
          exact rm_f E1 (mk_X13_line (Or.inl rfl) (pt_X13_line_2 cw g1 c1 cN g4 c4 ((cmpN (a := j) rfl (b := 0) rfl (by omega) (by omega)).trans rfl) (ms_bad 3)))
        | none =>
          have e : lp_man B n p st = .inr (tN B n 900 p1, (st.1 ++ [tW B n 900 p1], st.2)) := by unfold lp_man; rw [hq, h6, hi, h7, hf]; rfl
          rw [e]
          rw [hf] at c4
          have i0 : J1 21 0 = Int32.ofNat st.1.length := T1.1
          have x6 : (6 : Int32) + J1 21 0 = Int32.ofNat (6 + st.1.length) := by rw [i0]; exact tadd 6 _
          have x6n : ((6 : Int32) + J1 21 0).toInt.toNat = 6 + st.1.length := by rw [x6]; exact tin (by omega)
          obtain ⟨J6, M6, c6, E6, G1, G2, -⟩ := ms_next hn hB0 hp1 (encM_upl (g := 23) (i := ((6 : Int32) + J1 21 0).toInt.toNat) (x := M1 18 17) E1 rfl)
          have run := pt_X13_line_1 cw g1 c1 cN g4 c4 (by decide) (by rw [x6]; exact xib (by omega) (by omega)) c6
          rw [x6n] at G2
          refine ⟨_, M6, mk_X13_line (Or.inr rfl) run, encM_up E6 rfl, ⟨?_, fun j hj => ?_, (G1 21 1 rfl).trans T1.2.2.1, fun j hj => ?_, (G1 18 20 rfl).trans T1.2.2.2.2.1, (G1 18 21 rfl).trans T1.2.2.2.2.2.1, fun j hj => (G2 24 j rfl).trans (T1.2.2.2.2.2.2.1 j hj), fun j hj => ?_⟩, (G1 18 19 rfl).trans (F1 18 19 rfl), (G1 18 15 rfl).trans (F1 18 15 rfl)⟩
          · show J6 21 0 + 1 = Int32.ofNat (st.1 ++ [tW B n 900 p1]).length
            rw [lp_gln, G1 21 0 rfl, i0]
            exact ti1 _
          · have hj : j < (st.1 ++ [tW B n 900 p1]).length := hj
            rw [lp_gln] at hj
            rw [G2 23 (6 + j) rfl]
            show xul M1 23 (6 + st.1.length) (M1 18 17) 23 (6 + j) = c256 ((st.1 ++ [tW B n 900 p1]).getD j [])
            by_cases e9 : j < st.1.length
            · rw [lp_gl e9, xul_ne (by rw [nb_F (a := 6 + j) (b := 6 + st.1.length) (by omega)]; rfl)]
              exact T1.2.1 j e9
            · have e9 : j = st.1.length := by omega
              rw [e9, lp_gr, xul_eq, (E1.2.2.2.2.2.2.1 hk1).1, m256_c (by omega)]
          · show xu J6 21 0 (J6 21 0 + 1) 21 (51 + j) = st.2.2.1 j
            rw [xu_ne (by rw [nb_F (a := 51 + j) (b := 0) (by omega)]; rfl), G1 21 _ rfl]
            exact T1.2.2.2.1 j hj
          · show 0 ≤ (xu J6 21 0 (J6 21 0 + 1) 21 (19 + j)).toInt ∧ _
            rw [xu_ne (by rw [nb_F (a := 19 + j) (b := 0) (by omega)]; rfl), G1 21 _ rfl]
            exact T1.2.2.2.2.2.2.2 j hj
theorem ms_lad (hn : n ≤ 940) (hB0 : ∀ i, i < 940 → 0 ≤ (B i).toInt) (hp : p ≤ n) (E : EncM B n 900 p J M) (T : lp_TM st J M) (O : lp_ok st) (cw : fx_X13_isWord [.long (7168366 : Int64), .ref 18] (J, M) (some (.int 0)) (J, M)) (cw2 : fx_X13_isWord [.long (119165551928690 : Int64), .ref 18] (J, M) (some (.int 1)) (J, M)) : lp_RM B n fx_X13_line [.ref 18] J M (lp_lad B n p st) := by
  have hl := O.2.2.1
  have i0 : J 21 1 = Int32.ofNat st.2.1 := T.2.2.1
  cases h6 : Nat.beq st.2.1 16 with
  | true =>
    have e : lp_lad B n p st = .inl (4, tA B n 900 p) := by unfold lp_lad; rw [h6]; rfl
    have e6 := Nat.eq_of_beq_eq_true h6
    rw [e]
    exact rm_f E (mk_X13_line (Or.inl rfl) (pt_X13_line_8 cw cw2 ((cmpN i0 (b := 16) rfl (by omega) (by omega)).trans (decide_eq_false (fun q => q e6))) (ms_bad 4)))
  | false =>
    have hne := nb_ne h6
    have g1 : xe_cmp .ne (J 21 1) (16 : Int32) = true := (cmpN i0 (b := 16) rfl (by omega) (by omega)).trans (decide_eq_true hne)
    obtain ⟨J1, M1, c1, E1, F1, F2, -⟩ := ms_next hn hB0 hp E
    have T1 := tm_fr T F1 F2
    have hp1 := (tN_le (B := B) (lim := 900) hp).2.1
    obtain ⟨t1, t2⟩ := ms_take hn hB0 hp1 E1 T1 O
    cases hm : lp_nm B n st.1 (tN B n 900 p) with
    | inl f =>
      have e : lp_lad B n p st = .inl (f, tA B n 900 (tN B n 900 p)) := by unfold lp_lad; rw [h6, hm]; rfl
      rw [e]
      obtain ⟨J2, M2, c2, q1, q2⟩ := t1 f hm
      exact rm_g (mk_X13_line (Or.inl rfl) (pt_X13_line_7 cw cw2 g1 c1 c2)) q1 q2
    | inr j =>
      have e : lp_lad B n p st = lp_rung B n (tN B n 900 (tN B n 900 p)) st := by unfold lp_lad; rw [h6, hm]; rfl
      rw [e]
      obtain ⟨J2, M2, hj, c2, E2, e8, G1, G2⟩ := t2 j hm
      have T2 := tm_fr T1 G1 G2
      have hp2 := (tN_le (B := B) (lim := 900) hp1).2.1
      have i2 : J2 21 1 = Int32.ofNat st.2.1 := T2.2.2.1
      have x3 : (3 : Int32) + J2 21 1 = Int32.ofNat (3 + st.2.1) := by rw [i2]; exact tadd 3 _
      have x3n : ((3 : Int32) + J2 21 1).toInt.toNat = 3 + st.2.1 := by rw [x3]; exact tin (by omega)
      have h3 : xe_ib ((3 : Int32) + J2 21 1) 87 = true := by rw [x3]; exact xib (by omega) (by omega)
      have T3 : lp_TM st (xu J2 21 (((3 : Int32) + J2 21 1).toInt.toNat) (J2 18 18)) M2 := by
        rw [x3n]
        refine ⟨?_, T2.2.1, ?_, fun k hk => ?_, T2.2.2.2.2.1, T2.2.2.2.2.2.1, T2.2.2.2.2.2.2.1, fun k hk => ?_⟩
        · rw [xu_ne (by rw [nb_F (a := 0) (b := 3 + st.2.1) (by omega)]; rfl)]; exact T2.1
        · rw [xu_ne (by rw [nb_F (a := 1) (b := 3 + st.2.1) (by omega)]; rfl)]; exact i2
        · rw [xu_ne (by rw [nb_F (a := 51 + k) (b := 3 + st.2.1) (by omega)]; rfl)]; exact T2.2.2.2.1 k hk
        · rw [xu_ne (by rw [nb_F (a := 19 + k) (b := 3 + st.2.1) (by omega)]; rfl)]; exact T2.2.2.2.2.2.2.2 k hk
      have hr := ms_rung hn hB0 hp2 (encM_up (g := 21) (i := ((3 : Int32) + J2 21 1).toInt.toNat) (x := J2 18 18) E2 rfl) T3 (by omega)
      cases hx : lp_rung B n (tN B n 900 (tN B n 900 p)) st with
      | inl q =>
        rw [hx] at hr
        obtain ⟨J3, M3, c3, q1, q2⟩ := hr
        exact ⟨J3, M3, mk_X13_line (Or.inl rfl) (pt_X13_line_6 cw cw2 g1 c1 c2 h3 c3), q1, q2⟩
      | inr q =>
        rw [hx] at hr
        obtain ⟨J3, M3, c3, E3, T4, q1, q2⟩ := hr
        exact ⟨J3, M3, mk_X13_line (Or.inr rfl) (pt_X13_line_5 cw cw2 g1 c1 c2 h3 c3), E3, T4, q1.trans ((G1 18 19 rfl).trans (F1 18 19 rfl)), q2.trans ((G1 18 15 rfl).trans (F1 18 15 rfl))⟩
theorem ms_debt (hn : n ≤ 940) (hB0 : ∀ i, i < 940 → 0 ≤ (B i).toInt) (hp : p ≤ n) (E : EncM B n 900 p J M) (T : lp_TM st J M) (O : lp_ok st) : lp_RM B n fx_X13_readDebt [.ref 18] J M (lp_debt B n p st) := by
  have hl := O.2.2.2.1
  have hl6 := O.1
  have i0 : J 18 20 = Int32.ofNat st.2.2.2.1 := T.2.2.2.2.1
  cases h6 : Nat.beq st.2.2.2.1 20 with
  | true =>
    have e : lp_debt B n p st = .inl (4, tA B n 900 p) := by unfold lp_debt; rw [h6]; rfl
    have e6 := Nat.eq_of_beq_eq_true h6
    rw [e]
    exact rm_f E (mk_X13_readDebt (Or.inl rfl) (pt_X13_readDebt_6 ((cmpN i0 (b := 20) rfl (by omega) (by omega)).trans (decide_eq_false (fun q => q e6))) (ms_bad 4)))
  | false =>
    have hne := nb_ne h6
    have g1 : xe_cmp .ne (J 18 20) (20 : Int32) = true := (cmpN i0 (b := 20) rfl (by omega) (by omega)).trans (decide_eq_true hne)
    obtain ⟨J1, M1, c1, E1, F1, F2, -⟩ := ms_next hn hB0 hp E
    have T1 := tm_fr T F1 F2
    have hp1 := (tN_le (B := B) (lim := 900) hp).2.1
    obtain ⟨t1, t2⟩ := ms_take hn hB0 hp1 E1 T1 O
    cases hm : lp_nm B n st.1 (tN B n 900 p) with
    | inl f =>
      have e : lp_debt B n p st = .inl (f, tA B n 900 (tN B n 900 p)) := by unfold lp_debt; rw [h6, hm]; rfl
      rw [e]
      obtain ⟨J2, M2, c2, q1, q2⟩ := t1 f hm
      exact rm_g (mk_X13_readDebt (Or.inl rfl) (pt_X13_readDebt_5 g1 c1 c2)) q1 q2
    | inr m =>
      have e : lp_debt B n p st = lp_debt2 B n (tN B n 900 (tN B n 900 p)) st m := by unfold lp_debt; rw [h6, hm]; rfl
      rw [e]
      obtain ⟨J2, M2, hm6, c2, E2, e8, G1, G2⟩ := t2 m hm
      have T2 := tm_fr T1 G1 G2
      have hp2 := (tN_le (B := B) (lim := 900) hp1).2.1
      generalize tN B n 900 (tN B n 900 p) = p2 at E2 hp2
      obtain ⟨s1, s2⟩ := ms_looks hp2 E2 T2 O
      cases ho : lp_nm B n st.1 p2 with
      | inl f =>
        have e : lp_debt2 B n p2 st m = .inl (f, tA B n 900 p2) := by unfold lp_debt2; rw [ho]
        rw [e]
        obtain ⟨J3, c3, q1, q2⟩ := s1 f ho
        exact rm_g (mk_X13_readDebt (Or.inl rfl) (pt_X13_readDebt_4 g1 c1 c2 c3)) q1 q2
      | inr o =>
        have e : lp_debt2 B n p2 st m = (bif Nat.beq m o then .inl (3, tA B n 900 p2) else bif decide (st.2.2.1 (m * 6 + o) = 0) then lp_debt3 B n (tN B n 900 p2) st (m * 6 + o) else .inl (3, tA B n 900 p2)) := by unfold lp_debt2; rw [ho]
        rw [e]
        obtain ⟨ho6, c3⟩ := s2 o ho
        have E3 : EncM B n 900 p2 (xu J2 18 18 (Int32.ofNat o)) M2 := encM_up (g := 18) (i := 18) (x := Int32.ofNat o) E2 rfl
        have T3 : lp_TM st (xu J2 18 18 (Int32.ofNat o)) M2 := tm_fr T2 (fp.rf.up rfl) fpl.rf
        generalize hJ3 : xu J2 18 18 (Int32.ofNat o) = J3 at c3 E3 T3
        have e83 : J3 18 18 = Int32.ofNat o := by rw [← hJ3]; rfl
        have H1 : fp lp_S18 J2 J3 := by rw [← hJ3]; exact fp.rf.up rfl
        cases he : Nat.beq m o with
        | true =>
          have hmo := Nat.eq_of_beq_eq_true he
          exact rm_f E3 (mk_X13_readDebt (Or.inl rfl) (pt_X13_readDebt_0 g1 c1 c2 c3 ((cmpN e83 e8 (by omega) (by omega)).trans (decide_eq_true hmo.symm)) (ms_bad 3)))
        | false =>
          have g2 : xe_cmp .eq (J3 18 18) (J2 18 18) = false := (cmpN e83 e8 (by omega) (by omega)).trans (decide_eq_false (fun q => nb_ne he q.symm))
          have xc9 : ((51 : Int32) + ((6 : Int32) * (J2 18 18))) + (J3 18 18) = Int32.ofNat (51 + 6 * m + o) := by
            rw [e8, e83, show (6 : Int32) = Int32.ofNat 6 from rfl, show (51 : Int32) = Int32.ofNat 51 from rfl, tmul, tadd, tadd]
          have xcn : (((51 : Int32) + ((6 : Int32) * (J2 18 18))) + (J3 18 18)).toInt.toNat = 51 + (m * 6 + o) := by rw [xc9, tin (by omega)]; omega
          have hib : xe_ib (((51 : Int32) + ((6 : Int32) * (J2 18 18))) + (J3 18 18)) 87 = true := by rw [xc9]; exact xib (by omega) (by omega)
          have e21 : J3 21 ((((51 : Int32) + ((6 : Int32) * (J2 18 18))) + (J3 18 18)).toInt.toNat) = st.2.2.1 (m * 6 + o) := by rw [xcn]; exact T3.2.2.2.1 _ (by omega)
          have hpos := O.2.2.2.2 (m * 6 + o)
          cases hz : decide (st.2.2.1 (m * 6 + o) = 0) with
          | false =>
            have hz' := of_decide_eq_false hz
            have hne0 : (st.2.2.1 (m * 6 + o)).toInt ≠ 0 := fun q => hz' (Int32.toInt_inj.mp q)
            refine rm_f E3 (mk_X13_readDebt (Or.inl rfl) (pt_X13_readDebt_3 g1 c1 c2 c3 g2 hib ?_ (ms_bad 3)))
            rw [e21, xc]
            exact decide_eq_false (by show ¬ (st.2.2.1 (m * 6 + o)).toInt ≤ 0; omega)
          | true =>
            have hz' := of_decide_eq_true hz
            have g3 : xe_cmp .le (J3 21 ((((51 : Int32) + ((6 : Int32) * (J2 18 18))) + (J3 18 18)).toInt.toNat)) 0 = true := by rw [e21, hz']; decide
            obtain ⟨J5, M5, c5, E5, K1, K2, -⟩ := ms_next hn hB0 hp2 E3
            have T5 := tm_fr T3 K1 K2
            have hp3 := (tN_le (B := B) (lim := 900) hp2).2.1
            obtain ⟨u1, u2⟩ := ms_num hn hB0 hp3 E5 1 250
            show lp_RM B n fx_X13_readDebt [.ref 18] J M (lp_debt3 B n (tN B n 900 p2) st (m * 6 + o))
            cases hx : lp_num B n 1 250 (tN B n 900 p2) with
            | inl f =>
              have e : lp_debt3 B n (tN B n 900 p2) st (m * 6 + o) = .inl (f, tA B n 900 (tN B n 900 p2)) := by unfold lp_debt3; rw [hx]
              rw [e]
              obtain ⟨J6, M6, c6, q1, q2⟩ := u1 f hx
              exact rm_g (mk_X13_readDebt (Or.inl rfl) (pt_X13_readDebt_2 g1 c1 c2 c3 g2 hib g3 c5 c6)) q1 q2
            | inr x =>
              have e : lp_debt3 B n (tN B n 900 p2) st (m * 6 + o) = .inr (tN B n 900 (tN B n 900 p2), (st.1, st.2.1, lp_up st.2.2.1 (m * 6 + o) x, st.2.2.2.1 + 1, st.2.2.2.2)) := by unfold lp_debt3; rw [hx]
              rw [e]
              obtain ⟨J6, M6, c6, E6, x8, N1, N2⟩ := u2 x hx
              have T6 := tm_fr T5 N1 N2
              have run := pt_X13_readDebt_1 g1 c1 c2 c3 g2 hib g3 c5 c6 hib
              rw [xcn, x8] at run
              refine ⟨_, M6, mk_X13_readDebt (Or.inr rfl) run, encM_up (encM_up E6 rfl) rfl, ⟨?_, T6.2.1, ?_, fun j hj => ?_, ?_, T6.2.2.2.2.2.1, T6.2.2.2.2.2.2.1, fun j hj => ?_⟩, ?_, ?_⟩
              · show xu J6 21 (51 + (m * 6 + o)) x 21 0 = _
                rw [xu_ne (by rw [nb_F (a := 0) (b := 51 + (m * 6 + o)) (by omega)]; rfl)]
                exact T6.1
              · show xu J6 21 (51 + (m * 6 + o)) x 21 1 = _
                rw [xu_ne (by rw [nb_F (a := 1) (b := 51 + (m * 6 + o)) (by omega)]; rfl)]
                exact T6.2.2.1
              · show xu J6 21 (51 + (m * 6 + o)) x 21 (51 + j) = lp_up st.2.2.1 (m * 6 + o) x j
                by_cases ej : j = m * 6 + o
                · rw [ej, xu_eq, lp_up_eq]
                · rw [lp_up_ne ej, xu_ne (by rw [nb_F (a := 51 + j) (b := 51 + (m * 6 + o)) (by omega)]; rfl)]
                  exact T6.2.2.2.1 j hj
              · show J6 18 20 + 1 = Int32.ofNat (st.2.2.2.1 + 1)
                rw [T6.2.2.2.2.1]
                exact ti1 _
              · show 0 ≤ (xu J6 21 (51 + (m * 6 + o)) x 21 (19 + j)).toInt ∧ (xu J6 21 (51 + (m * 6 + o)) x 21 (19 + j)).toInt ≤ 12
                rw [xu_ne (by rw [nb_F (a := 19 + j) (b := 51 + (m * 6 + o)) (by omega)]; rfl)]
                exact T6.2.2.2.2.2.2.2 j hj
              · exact (N1 18 19 rfl).trans ((K1 18 19 rfl).trans ((H1 18 19 rfl).trans ((G1 18 19 rfl).trans (F1 18 19 rfl))))
              · exact (N1 18 15 rfl).trans ((K1 18 15 rfl).trans ((H1 18 15 rfl).trans ((G1 18 15 rfl).trans (F1 18 15 rfl))))
theorem ms_rot (hn : n ≤ 940) (hB0 : ∀ i, i < 940 → 0 ≤ (B i).toInt) (hp : p ≤ n) (E : EncM B n 900 p J M) (T : lp_TM st J M) (cw : fx_X13_isWord [.long (7168366 : Int64), .ref 18] (J, M) (some (.int 0)) (J, M)) (cw2 : fx_X13_isWord [.long (119165551928690 : Int64), .ref 18] (J, M) (some (.int 0)) (J, M)) (cw3 : fx_X13_isWord [.long (1684365940 : Int64), .ref 18] (J, M) (some (.int 0)) (J, M)) (cw4 : fx_X13_isWord [.long (7499636 : Int64), .ref 18] (J, M) (some (.int 1)) (J, M)) : lp_RM B n fx_X13_line [.ref 18] J M (lp_rot B n p st) := by
  have i0 : J 18 21 = b2i st.2.2.2.2 := T.2.2.2.2.2.1
  cases hr : st.2.2.2.2 with
  | true =>
    have e : lp_rot B n p st = .inl (3, tA B n 900 p) := by unfold lp_rot; rw [hr]; rfl
    rw [e]
    exact rm_f E (mk_X13_line (Or.inl rfl) (pt_X13_line_13 cw cw2 cw3 cw4 (by rw [i0, hr]; decide) (ms_bad 3)))
  | false =>
    have g1 : xe_cmp .eq (J 18 21) 0 = true := by rw [i0, hr]; decide
    have T0 : lp_TM (st.1, st.2.1, st.2.2.1, st.2.2.2.1, true) (xu J 18 21 1) M := ⟨T.1, T.2.1, T.2.2.1, T.2.2.2.1, T.2.2.2.2.1, rfl, T.2.2.2.2.2.2.1, T.2.2.2.2.2.2.2⟩
    obtain ⟨J1, M1, c1, E1, F1, F2, -⟩ := ms_next hn hB0 hp (encM_up (g := 18) (i := 21) (x := 1) E rfl)
    have T1 := tm_fr T0 F1 F2
    have hp1 := (tN_le (B := B) (lim := 900) hp).2.1
    obtain ⟨u1, u2⟩ := ms_num hn hB0 hp1 E1 0 12
    cases hx : lp_num B n 0 12 (tN B n 900 p) with
    | inl f =>
      have e : lp_rot B n p st = .inl (f, tA B n 900 (tN B n 900 p)) := by unfold lp_rot; rw [hr, hx]; rfl
      rw [e]
      obtain ⟨J2, M2, c2, q1, q2⟩ := u1 f hx
      exact rm_g (mk_X13_line (Or.inl rfl) (pt_X13_line_12 cw cw2 cw3 cw4 g1 c1 c2)) q1 q2
    | inr x =>
      have e : lp_rot B n p st = .inr (tN B n 900 (tN B n 900 p), (st.1, st.2.1, st.2.2.1, st.2.2.2.1, true)) := by unfold lp_rot; rw [hr, hx]; rfl
      rw [e]
      obtain ⟨J2, M2, c2, E2, x8, G1, G2⟩ := u2 x hx
      have T2 := tm_fr T1 G1 G2
      refine ⟨_, _, mk_X13_line (Or.inr rfl) (pt_X13_line_11 cw cw2 cw3 cw4 g1 c1 c2), encM_up E2 rfl, ⟨T2.1, T2.2.1, T2.2.2.1, fun j hj => ?_, T2.2.2.2.2.1, T2.2.2.2.2.2.1, T2.2.2.2.2.2.2.1, fun j hj => ?_⟩, (G1 18 19 rfl).trans (F1 18 19 rfl), (G1 18 15 rfl).trans (F1 18 15 rfl)⟩
      · show xu J2 21 2 (J2 18 18) 21 (51 + j) = st.2.2.1 j
        rw [xu_ne (by rw [nb_F (a := 51 + j) (b := 2) (by omega)]; rfl)]
        exact T2.2.2.2.1 j hj
      · show 0 ≤ (xu J2 21 2 (J2 18 18) 21 (19 + j)).toInt ∧ _
        rw [xu_ne (by rw [nb_F (a := 19 + j) (b := 2) (by omega)]; rfl)]
        exact T2.2.2.2.2.2.2.2 j hj
theorem ms_line (hn : n ≤ 940) (hB0 : ∀ i, i < 940 → 0 ≤ (B i).toInt) (hp : p ≤ n) (E : EncM B n 900 p J M) (T : lp_TM st J M) (O : lp_ok st) : lp_RM B n fx_X13_line [.ref 18] J M (lp_line B n p st) := by
  have w1 := ms_isWord (i := 1) (c := 7168366) (by decide) (by decide) rfl (by decide +kernel) hp E
  have w2 := ms_isWord (i := 2) (c := 119165551928690) (by decide) (by decide) rfl (by decide +kernel) hp E
  have w3 := ms_isWord (i := 3) (c := 1684365940) (by decide) (by decide) rfl (by decide +kernel) hp E
  have w4 := ms_isWord (i := 4) (c := 7499636) (by decide) (by decide) rfl (by decide +kernel) hp E
  cases h1 : Nat.beq (kyw (tW B n 900 p)) 1 with
  | true =>
    have e : lp_line B n p st = lp_man B n p st := by unfold lp_line; rw [h1]; rfl
    rw [e]
    rw [h1] at w1
    exact ms_man hn hB0 hp E T O w1
  | false =>
    rw [h1] at w1
    cases h2 : Nat.beq (kyw (tW B n 900 p)) 2 with
    | true =>
      have e : lp_line B n p st = lp_lad B n p st := by unfold lp_line; rw [h1, h2]; rfl
      rw [e]
      rw [h2] at w2
      exact ms_lad hn hB0 hp E T O w1 w2
    | false =>
      rw [h2] at w2
      cases h3 : Nat.beq (kyw (tW B n 900 p)) 3 with
      | true =>
        have e : lp_line B n p st = lp_debt B n p st := by unfold lp_line; rw [h1, h2, h3]; rfl
        rw [e]
        rw [h3] at w3
        have hr := ms_debt hn hB0 hp E T O
        cases hx : lp_debt B n p st with
        | inl q =>
          rw [hx] at hr
          obtain ⟨J3, M3, c3, q1, q2⟩ := hr
          exact ⟨J3, M3, mk_X13_line (Or.inl rfl) (pt_X13_line_10 w1 w2 w3 c3), q1, q2⟩
        | inr q =>
          rw [hx] at hr
          obtain ⟨J3, M3, c3, q1⟩ := hr
          exact ⟨J3, M3, mk_X13_line (Or.inr rfl) (pt_X13_line_9 w1 w2 w3 c3), q1⟩
      | false =>
        rw [h3] at w3
        cases h4 : Nat.beq (kyw (tW B n 900 p)) 4 with
        | true =>
          have e : lp_line B n p st = lp_rot B n p st := by unfold lp_line; rw [h1, h2, h3, h4]; rfl
          rw [e]
          rw [h4] at w4
          exact ms_rot hn hB0 hp E T w1 w2 w3 w4
        | false =>
          rw [h4] at w4
          have e : lp_line B n p st = .inl (1, tA B n 900 p) := by unfold lp_line; rw [h1, h2, h3, h4]; rfl
          rw [e]
          exact rm_f E (mk_X13_line (Or.inl rfl) (pt_X13_line_14 w1 w2 w3 w4 (ms_bad 1)))
end MM
