/-! ===== the class reads lines: ladders, debts, rot; a line; a text ===== -/
section CM
variable {B : Nat → Int32} {n p : Nat} {I : Nat → Nat → Int32} {L : Nat → Nat → Int64} {st : lp_st}
theorem cs_len (hn : n ≤ 940) (hp : p ≤ n) (hk : tK B n 900 p = 1) (E : EncT B n 900 p I L) : fx_X7_length [.ref 3] (I, L) (some (.int (Int32.ofNat (tN B n 900 p - tA B n 900 p)))) (I, L) := by
  obtain ⟨w1, w2, w3, w4, w5, w6, w7⟩ := tk_1 (B := B) (lim := 900) hp hk
  have e9 : I 3 3 - I 3 2 = Int32.ofNat (tN B n 900 p - tA B n 900 p) := by
    rw [E.2.2.2.2.1, E.2.2.2.1, tsub (by omega) (by omega)]
  rw [← e9]
  exact mk_X7_length trivial pt_X7_length_0
theorem cs_let (hn : n ≤ 940) (hp : p ≤ n) (hk : tK B n 900 p = 1) (E : EncT B n 900 p I L) {i : Nat} (hi : i < tN B n 900 p - tA B n 900 p) : fx_X7_letter [.int (Int32.ofNat i), .ref 3] (I, L) (some (.int (B (tA B n 900 p + i)))) (I, L) := by
  obtain ⟨w1, w2, w3, w4, w5, w6, w7⟩ := tk_1 (B := B) (lim := 900) hp hk
  have e2 : I 3 2 = Int32.ofNat (tA B n 900 p) := E.2.2.2.1
  have e1 : I 1 1 = Int32.ofNat n := E.1
  have e3 : I 3 2 + Int32.ofNat i = Int32.ofNat (tA B n 900 p + i) := by rw [e2]; exact tadd _ _
  have e5 : I 1 1 - I 3 2 = Int32.ofNat (n - tA B n 900 p) := by rw [e1, e2]; exact tsub (by omega) (by omega)
  have e4 : I 2 ((I 3 2 + Int32.ofNat i).toInt.toNat) = B (tA B n 900 p + i) := by
    rw [e3, tin (by omega)]
    exact E.2.1 _ (by omega)
  rw [← e4]
  refine mk_X7_letter trivial (pt_X7_letter_2 ?_ ?_ ?_)
  · exact (cmpN rfl (b := 0) rfl (by omega) (by omega)).trans rfl
  · exact (cmpN rfl e5 (by omega) (by omega)).trans (decide_eq_false (by omega))
  · rw [e3]; exact xib (by omega) (by omega)
theorem rg_cases {c : Int32} (h : lp_rg c = true) : c = 115 ∨ c = 112 ∨ c = 114 := by
  unfold lp_rg at h
  simp only [Bool.or_eq_true, decide_eq_true_eq] at h
  rcases h with (h | h) | h
  · exact Or.inl h
  · exact Or.inr (Or.inl h)
  · exact Or.inr (Or.inr h)
theorem rg_no {c : Int32} (h : lp_rg c = false) : c ≠ 115 ∧ c ≠ 112 ∧ c ≠ 114 := by
  unfold lp_rg at h
  simp only [Bool.or_eq_false_iff, decide_eq_false_iff_not] at h
  exact ⟨h.1.1, h.1.2, h.2⟩
theorem cs_rgL (hn : n ≤ 940) (hp : p ≤ n) (hk : tK B n 900 p = 1) (E : EncT B n 900 p I L) (a2 : Int32) : ∀ (k i : Nat) (l3 l4 : Int32), i + k = tN B n 900 p - tA B n 900 p →
    (lp_al B (tA B n 900 p) k i = true → ∃ l3' l4' : Int32, ∀ v hp9, (∃ n9, xr_X11_readRungs n9 (28, [(0, .ref 4), (1, .ref 66), (2, .int a2), (3, .int l3'), (4, .int l4'), (5, .int (Int32.ofNat (tN B n 900 p - tA B n 900 p)))], [], (I, L)) v hp9) → ∃ n9, xr_X11_readRungs n9 (28, [(0, .ref 4), (1, .ref 66), (2, .int a2), (3, .int l3), (4, .int l4), (5, .int (Int32.ofNat i))], [], (I, L)) v hp9) ∧
    (lp_al B (tA B n 900 p) k i = false → ∃ n9, xr_X11_readRungs n9 (28, [(0, .ref 4), (1, .ref 66), (2, .int a2), (3, .int l3), (4, .int l4), (5, .int (Int32.ofNat i))], [], (I, L)) (some (.int 0)) (xu (xu I 3 9 3) 3 10 (I 3 2), L)) := by
  have hlen := cs_len hn hp hk E
  obtain ⟨w1, w2, w3, w4, w5, w6, w7⟩ := tk_1 (B := B) (lim := 900) hp hk
  intro k
  induction k with
  | zero =>
    intro i l3 l4 hi
    refine ⟨fun _ => ⟨l3, l4, fun v hp9 r => ?_⟩, fun h => by cases h⟩
    have e : i = tN B n 900 p - tA B n 900 p := hi
    rw [e]
    exact r
  | succ k ih =>
    intro i l3 l4 hi
    have g1 : xe_cmp .ge (Int32.ofNat i) (Int32.ofNat (tN B n 900 p - tA B n 900 p)) = false := (cmpN rfl rfl (by omega) (by omega)).trans (decide_eq_false (by omega))
    have hlet := cs_let hn hp hk E (i := i) (by omega)
    cases hr : lp_rg (B (tA B n 900 p + i)) with
    | false =>
      rw [lp_alF hr]
      refine ⟨fun h => (by cases h), fun _ => ?_⟩
      obtain ⟨q1, q2, q3⟩ := rg_no hr
      exact pt_X11_readRungs_4 hlen g1 hlet (decide_eq_true q1) (decide_eq_true q2) (decide_eq_false q3) (cs_fail 3)
    | true =>
      rw [lp_alT hr]
      rcases rg_cases hr with q | q | q
      · obtain ⟨h1, h2⟩ := ih (i + 1) (l3 ||| ((1 : Int32) <<< (Int32.ofNat i &&& 31))) l4 (by omega)
        refine ⟨fun h => ?_, fun h => ?_⟩
        · obtain ⟨l3', l4', r⟩ := h1 h
          refine ⟨l3', l4', fun v hp9 r9 => pt_X11_readRungs_6 hlen g1 hlet (decide_eq_false (fun z => z q)) ?_⟩
          rw [ti1]
          exact r v hp9 r9
        · refine pt_X11_readRungs_6 hlen g1 hlet (decide_eq_false (fun z => z q)) ?_
          rw [ti1]
          exact h2 h
      · have q1 : ¬ B (tA B n 900 p + i) = 115 := by rw [q]; decide
        obtain ⟨h1, h2⟩ := ih (i + 1) l3 (l4 ||| ((1 : Int32) <<< (Int32.ofNat i &&& 31))) (by omega)
        refine ⟨fun h => ?_, fun h => ?_⟩
        · obtain ⟨l3', l4', r⟩ := h1 h
          refine ⟨l3', l4', fun v hp9 r9 => pt_X11_readRungs_5 hlen g1 hlet (decide_eq_true q1) (decide_eq_false (fun z => z q)) ?_⟩
          rw [ti1]
          exact r v hp9 r9
        · refine pt_X11_readRungs_5 hlen g1 hlet (decide_eq_true q1) (decide_eq_false (fun z => z q)) ?_
          rw [ti1]
          exact h2 h
      · have q1 : ¬ B (tA B n 900 p + i) = 115 := by rw [q]; decide
        have q2 : ¬ B (tA B n 900 p + i) = 112 := by rw [q]; decide
        obtain ⟨h1, h2⟩ := ih (i + 1) l3 l4 (by omega)
        refine ⟨fun h => ?_, fun h => ?_⟩
        · obtain ⟨l3', l4', r⟩ := h1 h
          refine ⟨l3', l4', fun v hp9 r9 => pt_X11_readRungs_3 hlen g1 hlet (decide_eq_true q1) (decide_eq_true q2) (decide_eq_true q) ?_⟩
          rw [ti1]
          exact r v hp9 r9
        · refine pt_X11_readRungs_3 hlen g1 hlet (decide_eq_true q1) (decide_eq_true q2) (decide_eq_true q) ?_
          rw [ti1]
          exact h2 h
theorem cs_rung (hn : n ≤ 940) (hp : p ≤ n) (E : EncT B n 900 p I L) (T : lp_TC st I L) (hlt : st.2.1 < 16) (a2 : Int32) : lp_RC B n fx_X11_readRungs [.int a2, .ref 66, .ref 4] I L (lp_rung B n p st) := by
  have e4 : I 3 4 = Int32.ofNat (tK B n 900 p) := E.2.2.2.2.2.1
  have hk4 := tK_le (B := B) (n := n) (lim := 900) (p := p)
  cases hk : Nat.beq (tK B n 900 p) 1 with
  | false =>
    have e : lp_rung B n p st = .inl (1, tA B n 900 p) := by unfold lp_rung; rw [hk]; rfl
    rw [e]
    exact rc_f E (mk_X11_readRungs (Or.inl rfl) (pt_X11_readRungs_1 ((cmpN e4 (b := 1) rfl (by omega) (by omega)).trans (decide_eq_false (nb_ne hk))) (cs_fail 1)))
  | true =>
    have hk1 := Nat.eq_of_beq_eq_true hk
    have g1 : xe_cmp .eq (I 3 4) (1 : Int32) = true := (cmpN e4 (b := 1) rfl (by omega) (by omega)).trans (decide_eq_true hk1)
    obtain ⟨r1, r2⟩ := cs_rgL hn hp hk1 E a2 (tN B n 900 p - tA B n 900 p) 0 0 0 (Nat.zero_add _)
    obtain ⟨w1, w2, w3, w4, w5, w6, w7⟩ := tk_1 (B := B) (lim := 900) hp hk1
    cases hl : lp_al B (tA B n 900 p) (tN B n 900 p - tA B n 900 p) 0 with
    | false =>
      have e : lp_rung B n p st = .inl (3, tA B n 900 p) := by unfold lp_rung; rw [hk, hl]; rfl
      rw [e]
      exact rc_f E (mk_X11_readRungs (Or.inl rfl) (pt_X11_readRungs_0 g1 (r2 hl)))
    | true =>
      have e : lp_rung B n p st = .inr (tN B n 900 p, (st.1, st.2.1 + 1, st.2.2)) := by unfold lp_rung; rw [hk, hl]; rfl
      rw [e]
      obtain ⟨l3, l4, r⟩ := r1 hl
      have hlen := cs_len hn hp hk1 E
      have i0 : I 66 0 = Int32.ofNat st.2.1 := T.2.2.1
      have hib : xe_ib (I 66 0) 16 = true := by rw [i0]; exact xib (by omega) (by omega)
      have c3 := mk_X3_add (a1 := a2) (a2 := Int32.ofNat (tN B n 900 p - tA B n 900 p)) (a3 := l3) (a4 := l4) (a5 := (1 : Int32) <<< (a2 &&& 31)) (v := none) trivial (pt_X3_add_1 (I := I) (L := L) ((cmpN i0 (b := 16) rfl (by omega) (by omega)).trans (decide_eq_false (by omega))) hib hib hib hib hib)
      obtain ⟨I4, L4, c4, E4, G1, G2, -⟩ := cs_step hn hp (encT_up (g := 66) (i := 0) (x := I 66 0 + 1) (encT_up (g := 71) (i := (I 66 0).toInt.toNat) (x := (1 : Int32) <<< (a2 &&& 31)) (encT_up (g := 70) (i := (I 66 0).toInt.toNat) (x := l4) (encT_up (g := 69) (i := (I 66 0).toInt.toNat) (x := l3) (encT_up (g := 68) (i := (I 66 0).toInt.toNat) (x := Int32.ofNat (tN B n 900 p - tA B n 900 p)) (encT_up (g := 67) (i := (I 66 0).toInt.toNat) (x := a2) E rfl) rfl) rfl) rfl) rfl) rfl)
      refine ⟨I4, L4, mk_X11_readRungs (Or.inr rfl) (pt_X11_readRungs_0 g1 (r _ _ (pt_X11_readRungs_2 hlen ((cmpN rfl rfl (by omega) (by omega)).trans (decide_eq_true (Nat.le_refl _))) hlen c3 c4))), E4, tc_fq G1 G2 ⟨T.1, T.2.1, ?_, T.2.2.2.1, T.2.2.2.2.1, T.2.2.2.2.2⟩, G1 4 3 rfl, G1 3 9 rfl⟩
      show I 66 0 + 1 = Int32.ofNat (st.2.1 + 1)
      rw [i0]
      exact ti1 _
theorem cs_lad (hn : n ≤ 940) (hp : p ≤ n) (E : EncT B n 900 p I L) (T : lp_TC st I L) (O : lp_ok st) : lp_RC B n fx_X11_readLadder [.ref 64, .ref 4] I L (lp_lad B n p st) := by
  have hl := O.2.2.1
  have i0 : I 66 0 = Int32.ofNat st.2.1 := T.2.2.1
  cases h6 : Nat.beq st.2.1 16 with
  | true =>
    have e : lp_lad B n p st = .inl (4, tA B n 900 p) := by unfold lp_lad; rw [h6]; rfl
    have e6 := Nat.eq_of_beq_eq_true h6
    rw [e]
    exact rc_f E (mk_X11_readLadder (Or.inl rfl) (pt_X11_readLadder_3 ((cmpN i0 (b := 16) rfl (by omega) (by omega)).trans (decide_eq_false (by omega))) (cs_fail 4)))
  | false =>
    have hne := nb_ne h6
    have g1 : xe_cmp .lt (I 66 0) (16 : Int32) = true := (cmpN i0 (b := 16) rfl (by omega) (by omega)).trans (decide_eq_true (by omega))
    obtain ⟨I1, L1, c1, E1, F1, F2, -⟩ := cs_step hn hp E
    have T1 := tc_fr T F1 F2
    have hp1 := (tN_le (B := B) (lim := 900) hp).2.1
    obtain ⟨t1, t2⟩ := cs_take hn hp1 E1 T1 O
    cases hm : lp_nm B n st.1 (tN B n 900 p) with
    | inl f =>
      have e : lp_lad B n p st = .inl (f, tA B n 900 (tN B n 900 p)) := by unfold lp_lad; rw [h6, hm]; rfl
      rw [e]
      obtain ⟨I2, L2, c2, q1, q2⟩ := t1 f hm
      exact rc_g (mk_X11_readLadder (Or.inl rfl) (pt_X11_readLadder_2 g1 c1 c2)) q1 q2
    | inr j =>
      have e : lp_lad B n p st = lp_rung B n (tN B n 900 (tN B n 900 p)) st := by unfold lp_lad; rw [h6, hm]; rfl
      rw [e]
      obtain ⟨I2, L2, hj, c2, E2, e8, G1, G2⟩ := t2 j hm
      have T2 := tc_fr T1 G1 G2
      have hp2 := (tN_le (B := B) (lim := 900) hp1).2.1
      have hr := cs_rung hn hp2 E2 T2 (by omega) (I2 3 8)
      cases hx : lp_rung B n (tN B n 900 (tN B n 900 p)) st with
      | inl q =>
        rw [hx] at hr
        obtain ⟨I3, L3, c3, q1, q2⟩ := hr
        exact ⟨I3, L3, mk_X11_readLadder (Or.inl rfl) (pt_X11_readLadder_1 g1 c1 c2 c3), q1, q2⟩
      | inr q =>
        rw [hx] at hr
        obtain ⟨I3, L3, c3, E3, T3, q1, q2⟩ := hr
        exact ⟨I3, L3, mk_X11_readLadder (Or.inr rfl) (pt_X11_readLadder_0 g1 c1 c2 c3), E3, T3, q1.trans ((G1 4 3 rfl).trans (F1 4 3 rfl)), q2.trans ((G1 3 9 rfl).trans (F1 3 9 rfl))⟩
theorem cs_pair {m o : Nat} (hm : m < 6) (ho : o < 6) : fx_X1_isPair [.int (Int32.ofNat o), .int (Int32.ofNat m)] (I, L) (some (.int 1)) (I, L) := mk_X1_isPair (Or.inr rfl) (pt_X1_isPair_4 ((cmpN rfl (b := 0) rfl (by omega) (by omega)).trans rfl) ((cmpN rfl (b := 6) rfl (by omega) (by omega)).trans (decide_eq_false (by omega))) ((cmpN rfl (b := 0) rfl (by omega) (by omega)).trans rfl) ((cmpN rfl (b := 6) rfl (by omega) (by omega)).trans (decide_eq_false (by omega))))
theorem cs_ix {m o : Nat} (hm : m < 6) (ho : o < 6) : Int32.ofNat m * 6 + Int32.ofNat o = Int32.ofNat (m * 6 + o) := by
  rw [show (6 : Int32) = Int32.ofNat 6 from rfl, tmul, tadd]
theorem cs_of {m o : Nat} (hm : m < 6) (ho : o < 6) : fx_X1_of [.int (Int32.ofNat o), .int (Int32.ofNat m), .ref 72] (I, L) (some (.int (I 73 (m * 6 + o)))) (I, L) := by
  have e := cs_ix hm ho
  have e2 : I 73 ((Int32.ofNat m * 6 + Int32.ofNat o).toInt.toNat) = I 73 (m * 6 + o) := by rw [e, tin (by omega)]
  rw [← e2]
  exact mk_X1_of trivial (pt_X1_of_0 (cs_pair hm ho) (by rw [e]; exact xib (by omega) (by omega)))
theorem cs_put {m o : Nat} {x : Int32} (hm : m < 6) (ho : o < 6) : fx_X1_put [.int x, .int (Int32.ofNat o), .int (Int32.ofNat m), .ref 72] (I, L) none (xu I 73 (m * 6 + o) x, L) := by
  have e := cs_ix hm ho
  have e2 : (Int32.ofNat m * 6 + Int32.ofNat o).toInt.toNat = m * 6 + o := by rw [e, tin (by omega)]
  rw [← e2]
  exact mk_X1_put trivial (pt_X1_put_0 (cs_pair hm ho) (by rw [e]; exact xib (by omega) (by omega)))
theorem lp_up_eq {db : Nat → Int32} {i : Nat} {x : Int32} : lp_up db i x i = x := by unfold lp_up; rw [Nat.beq_refl]; rfl
theorem lp_up_ne {db : Nat → Int32} {i j : Nat} {x : Int32} (h : j ≠ i) : lp_up db i x j = db j := by unfold lp_up; rw [nb_F h]; rfl
theorem cs_debt (hn : n ≤ 940) (hp : p ≤ n) (E : EncT B n 900 p I L) (T : lp_TC st I L) (O : lp_ok st) : lp_RC B n fx_X11_readDebt [.ref 64, .ref 4] I L (lp_debt B n p st) := by
  have hl := O.2.2.2.1
  have hl6 := O.1
  have i0 : I 4 1 = Int32.ofNat st.2.2.2.1 := T.2.2.2.2.1
  cases h6 : Nat.beq st.2.2.2.1 20 with
  | true =>
    have e : lp_debt B n p st = .inl (4, tA B n 900 p) := by unfold lp_debt; rw [h6]; rfl
    have e6 := Nat.eq_of_beq_eq_true h6
    rw [e]
    exact rc_f E (mk_X11_readDebt (Or.inl rfl) (pt_X11_readDebt_6 ((cmpN i0 (b := 20) rfl (by omega) (by omega)).trans (decide_eq_false (by omega))) (cs_fail 4)))
  | false =>
    have hne := nb_ne h6
    have g1 : xe_cmp .lt (I 4 1) (20 : Int32) = true := (cmpN i0 (b := 20) rfl (by omega) (by omega)).trans (decide_eq_true (by omega))
    -- the debts are counted at once
    have T0 : lp_TC (st.1, st.2.1, st.2.2.1, st.2.2.2.1 + 1, st.2.2.2.2) (xu I 4 1 (I 4 1 + 1)) L := ⟨T.1, T.2.1, T.2.2.1, T.2.2.2.1, (show I 4 1 + 1 = Int32.ofNat (st.2.2.2.1 + 1) by rw [i0]; exact ti1 _), T.2.2.2.2.2⟩
    have O0 : lp_ok (st.1, st.2.1, st.2.2.1, st.2.2.2.1 + 1, st.2.2.2.2) := ⟨O.1, O.2.1, O.2.2.1, (show st.2.2.2.1 + 1 ≤ 20 by omega), O.2.2.2.2⟩
    obtain ⟨I1, L1, c1, E1, F1, F2, -⟩ := cs_step hn hp (encT_up (g := 4) (i := 1) (x := I 4 1 + 1) E rfl)
    have T1 := tc_fr T0 F1 F2
    have hp1 := (tN_le (B := B) (lim := 900) hp).2.1
    obtain ⟨t1, t2⟩ := cs_take hn hp1 E1 T1 O0
    cases hm : lp_nm B n st.1 (tN B n 900 p) with
    | inl f =>
      have e : lp_debt B n p st = .inl (f, tA B n 900 (tN B n 900 p)) := by unfold lp_debt; rw [h6, hm]; rfl
      rw [e]
      obtain ⟨I2, L2, c2, q1, q2⟩ := t1 f hm
      exact rc_g (mk_X11_readDebt (Or.inl rfl) (pt_X11_readDebt_5 g1 c1 c2)) q1 q2
    | inr m =>
      have e : lp_debt B n p st = lp_debt2 B n (tN B n 900 (tN B n 900 p)) st m := by unfold lp_debt; rw [h6, hm]; rfl
      rw [e]
      obtain ⟨I2, L2, hm6, c2, E2, e8, G1, G2⟩ := t2 m hm
      have T2 := tc_fr T1 G1 G2
      have hp2 := (tN_le (B := B) (lim := 900) hp1).2.1
      generalize tN B n 900 (tN B n 900 p) = p2 at E2 hp2
      obtain ⟨s1, s2⟩ := cs_sees hp2 E2 T2 O0
      cases ho : lp_nm B n st.1 p2 with
      | inl f =>
        have e : lp_debt2 B n p2 st m = .inl (f, tA B n 900 p2) := by unfold lp_debt2; rw [ho]
        rw [e]
        obtain ⟨I3, c3, q1, q2⟩ := s1 f ho
        exact rc_g (mk_X11_readDebt (Or.inl rfl) (pt_X11_readDebt_4 g1 c1 c2 c3)) q1 q2
      | inr o =>
        have e : lp_debt2 B n p2 st m = (bif Nat.beq m o then .inl (3, tA B n 900 p2) else bif decide (st.2.2.1 (m * 6 + o) = 0) then lp_debt3 B n (tN B n 900 p2) st (m * 6 + o) else .inl (3, tA B n 900 p2)) := by unfold lp_debt2; rw [ho]
        rw [e]
        obtain ⟨ho6, c3⟩ := s2 o ho
        have E3 : EncT B n 900 p2 (xu I2 3 8 (Int32.ofNat o)) L2 := encT_up (g := 3) (i := 8) (x := Int32.ofNat o) E2 rfl
        have T3 : lp_TC (st.1, st.2.1, st.2.2.1, st.2.2.2.1 + 1, st.2.2.2.2) (xu I2 3 8 (Int32.ofNat o)) L2 := tc_fr T2 (fp.rf.up rfl) fpl.rf
        generalize hI3 : xu I2 3 8 (Int32.ofNat o) = I3 at c3 E3 T3
        have e83 : I3 3 8 = Int32.ofNat o := by rw [← hI3]; rfl
        have H1 : fp lp_S3 I2 I3 := by rw [← hI3]; exact fp.rf.up rfl
        cases he : Nat.beq m o with
        | true =>
          have hmo := Nat.eq_of_beq_eq_true he
          exact rc_f E3 (mk_X11_readDebt (Or.inl rfl) (pt_X11_readDebt_0 g1 c1 c2 c3 ((cmpN e8 e83 (by omega) (by omega)).trans (decide_eq_true hmo)) (cs_fail 3)))
        | false =>
          have g2 : xe_cmp .eq (I2 3 8) (I3 3 8) = false := (cmpN e8 e83 (by omega) (by omega)).trans (decide_eq_false (nb_ne he))
          have c4 : fx_X1_of [.int (I3 3 8), .int (I2 3 8), .ref 72] (I3, L2) (some (.int (I3 73 (m * 6 + o)))) (I3, L2) := by
            rw [e83, e8]
            exact cs_of hm6 ho6
          have e73 : I3 73 (m * 6 + o) = st.2.2.1 (m * 6 + o) := T3.2.2.2.1 _ (by omega)
          cases hz : decide (st.2.2.1 (m * 6 + o) = 0) with
          | false => exact rc_f E3 (mk_X11_readDebt (Or.inl rfl) (pt_X11_readDebt_3 g1 c1 c2 c3 g2 c4 (by rw [e73]; exact decide_eq_false (of_decide_eq_false hz)) (cs_fail 3)))
          | true =>
            have g3 : xe_cmp .eq (I3 73 (m * 6 + o)) 0 = true := by rw [e73]; exact decide_eq_true (of_decide_eq_true hz)
            obtain ⟨I5, L5, c5, E5, K1, K2, -⟩ := cs_step hn hp2 E3
            have T5 := tc_fr T3 K1 K2
            have hp3 := (tN_le (B := B) (lim := 900) hp2).2.1
            obtain ⟨u1, u2⟩ := cs_num hn hp3 E5 1 250
            show lp_RC B n fx_X11_readDebt [.ref 64, .ref 4] I L (lp_debt3 B n (tN B n 900 p2) st (m * 6 + o))
            cases hx : lp_num B n 1 250 (tN B n 900 p2) with
            | inl f =>
              have e : lp_debt3 B n (tN B n 900 p2) st (m * 6 + o) = .inl (f, tA B n 900 (tN B n 900 p2)) := by unfold lp_debt3; rw [hx]
              rw [e]
              obtain ⟨I6, L6, c6, q1, q2⟩ := u1 f hx
              exact rc_g (mk_X11_readDebt (Or.inl rfl) (pt_X11_readDebt_2 g1 c1 c2 c3 g2 c4 g3 c5 c6)) q1 q2
            | inr x =>
              have e : lp_debt3 B n (tN B n 900 p2) st (m * 6 + o) = .inr (tN B n 900 (tN B n 900 p2), (st.1, st.2.1, lp_up st.2.2.1 (m * 6 + o) x, st.2.2.2.1 + 1, st.2.2.2.2)) := by unfold lp_debt3; rw [hx]
              rw [e]
              obtain ⟨I6, L6, c6, E6, x8, M1, M2⟩ := u2 x hx
              have T6 := tc_fr T5 M1 M2
              have c7 : fx_X1_put [.int (I6 3 8), .int (I3 3 8), .int (I2 3 8), .ref 72] (I6, L6) none (xu I6 73 (m * 6 + o) x, L6) := by
                rw [x8, e83, e8]
                exact cs_put hm6 ho6
              refine ⟨_, _, mk_X11_readDebt (Or.inr rfl) (pt_X11_readDebt_1 g1 c1 c2 c3 g2 c4 g3 c5 c6 c7), encT_up E6 rfl, ⟨T6.1, T6.2.1, T6.2.2.1, fun j hj => ?_, T6.2.2.2.2.1, T6.2.2.2.2.2⟩, ?_, ?_⟩
              · show xu I6 73 (m * 6 + o) x 73 j = lp_up st.2.2.1 (m * 6 + o) x j
                by_cases ej : j = m * 6 + o
                · rw [ej, xu_eq, lp_up_eq]
                · rw [lp_up_ne ej, xu_ne (by rw [nb_F ej]; rfl)]
                  exact T6.2.2.2.1 j hj
              · exact (M1 4 3 rfl).trans ((K1 4 3 rfl).trans ((H1 4 3 rfl).trans ((G1 4 3 rfl).trans (F1 4 3 rfl))))
              · exact (M1 3 9 rfl).trans ((K1 3 9 rfl).trans ((H1 3 9 rfl).trans ((G1 3 9 rfl).trans (F1 3 9 rfl))))
theorem cs_rot (hn : n ≤ 940) (hp : p ≤ n) (E : EncT B n 900 p I L) (T : lp_TC st I L) : lp_RC B n fx_X11_readRot [.ref 64, .ref 4] I L (lp_rot B n p st) := by
  have i0 : I 4 2 = b2i st.2.2.2.2 := T.2.2.2.2.2
  cases hr : st.2.2.2.2 with
  | true =>
    have e : lp_rot B n p st = .inl (3, tA B n 900 p) := by unfold lp_rot; rw [hr]; rfl
    rw [e]
    exact rc_f E (mk_X11_readRot (Or.inl rfl) (pt_X11_readRot_2 (by rw [i0, hr]; decide) (cs_fail 3)))
  | false =>
    have g1 : xe_cmp .eq (I 4 2) 0 = true := by rw [i0, hr]; decide
    have T0 : lp_TC (st.1, st.2.1, st.2.2.1, st.2.2.2.1, true) (xu I 4 2 1) L := ⟨T.1, T.2.1, T.2.2.1, T.2.2.2.1, T.2.2.2.2.1, rfl⟩
    obtain ⟨I1, L1, c1, E1, F1, F2, -⟩ := cs_step hn hp (encT_up (g := 4) (i := 2) (x := 1) E rfl)
    have T1 := tc_fr T0 F1 F2
    have hp1 := (tN_le (B := B) (lim := 900) hp).2.1
    obtain ⟨u1, u2⟩ := cs_num hn hp1 E1 0 12
    cases hx : lp_num B n 0 12 (tN B n 900 p) with
    | inl f =>
      have e : lp_rot B n p st = .inl (f, tA B n 900 (tN B n 900 p)) := by unfold lp_rot; rw [hr, hx]; rfl
      rw [e]
      obtain ⟨I2, L2, c2, q1, q2⟩ := u1 f hx
      exact rc_g (mk_X11_readRot (Or.inl rfl) (pt_X11_readRot_1 g1 c1 c2)) q1 q2
    | inr x =>
      have e : lp_rot B n p st = .inr (tN B n 900 (tN B n 900 p), (st.1, st.2.1, st.2.2.1, st.2.2.2.1, true)) := by unfold lp_rot; rw [hr, hx]; rfl
      rw [e]
      obtain ⟨I2, L2, c2, E2, x8, G1, G2⟩ := u2 x hx
      have T2 := tc_fr T1 G1 G2
      exact ⟨_, _, mk_X11_readRot (Or.inr rfl) (pt_X11_readRot_0 g1 c1 c2), encT_up E2 rfl, ⟨T2.1, T2.2.1, T2.2.2.1, T2.2.2.2.1, T2.2.2.2.2.1, T2.2.2.2.2.2⟩, (G1 4 3 rfl).trans (F1 4 3 rfl), (G1 3 9 rfl).trans (F1 3 9 rfl)⟩
theorem cs_line (hn : n ≤ 940) (hp : p ≤ n) (E : EncT B n 900 p I L) (T : lp_TC st I L) (O : lp_ok st) : lp_RC B n fx_X11_readLine [.ref 64, .ref 4] I L (lp_line B n p st) := by
  have ck := cs_key hp E
  cases h1 : Nat.beq (kyw (tW B n 900 p)) 1 with
  | true =>
    have e : lp_line B n p st = lp_man B n p st := by unfold lp_line; rw [h1]; rfl
    have hr := cs_man hn hp E T O
    rw [e]
    cases hx : lp_man B n p st with
    | inl q =>
      rw [hx] at hr
      obtain ⟨I3, L3, c3, q1, q2⟩ := hr
      exact ⟨I3, L3, mk_X11_readLine (Or.inl rfl) (pt_X11_readLine_1 ck ((nb200 1).trans h1) c3), q1, q2⟩
    | inr q =>
      rw [hx] at hr
      obtain ⟨I3, L3, c3, q1⟩ := hr
      exact ⟨I3, L3, mk_X11_readLine (Or.inr rfl) (pt_X11_readLine_0 ck ((nb200 1).trans h1) c3), q1⟩
  | false =>
    cases h2 : Nat.beq (kyw (tW B n 900 p)) 2 with
    | true =>
      have e : lp_line B n p st = lp_lad B n p st := by unfold lp_line; rw [h1, h2]; rfl
      have hr := cs_lad hn hp E T O
      rw [e]
      cases hx : lp_lad B n p st with
      | inl q =>
        rw [hx] at hr
        obtain ⟨I3, L3, c3, q1, q2⟩ := hr
        exact ⟨I3, L3, mk_X11_readLine (Or.inl rfl) (pt_X11_readLine_3 ck ((nb200 1).trans h1) ((nb200 2).trans h2) c3), q1, q2⟩
      | inr q =>
        rw [hx] at hr
        obtain ⟨I3, L3, c3, q1⟩ := hr
        exact ⟨I3, L3, mk_X11_readLine (Or.inr rfl) (pt_X11_readLine_2 ck ((nb200 1).trans h1) ((nb200 2).trans h2) c3), q1⟩
    | false =>
      cases h3 : Nat.beq (kyw (tW B n 900 p)) 3 with
      | true =>
        have e : lp_line B n p st = lp_debt B n p st := by unfold lp_line; rw [h1, h2, h3]; rfl
        have hr := cs_debt hn hp E T O
        rw [e]
        cases hx : lp_debt B n p st with
        | inl q =>
          rw [hx] at hr
          obtain ⟨I3, L3, c3, q1, q2⟩ := hr
          exact ⟨I3, L3, mk_X11_readLine (Or.inl rfl) (pt_X11_readLine_5 ck ((nb200 1).trans h1) ((nb200 2).trans h2) ((nb200 3).trans h3) c3), q1, q2⟩
        | inr q =>
          rw [hx] at hr
          obtain ⟨I3, L3, c3, q1⟩ := hr
          exact ⟨I3, L3, mk_X11_readLine (Or.inr rfl) (pt_X11_readLine_4 ck ((nb200 1).trans h1) ((nb200 2).trans h2) ((nb200 3).trans h3) c3), q1⟩
      | false =>
        cases h4 : Nat.beq (kyw (tW B n 900 p)) 4 with
        | true =>
          have e : lp_line B n p st = lp_rot B n p st := by unfold lp_line; rw [h1, h2, h3, h4]; rfl
          have hr := cs_rot hn hp E T
          rw [e]
          cases hx : lp_rot B n p st with
          | inl q =>
            rw [hx] at hr
            obtain ⟨I3, L3, c3, q1, q2⟩ := hr
            exact ⟨I3, L3, mk_X11_readLine (Or.inl rfl) (pt_X11_readLine_7 ck ((nb200 1).trans h1) ((nb200 2).trans h2) ((nb200 3).trans h3) ((nb200 4).trans h4) c3), q1, q2⟩
          | inr q =>
            rw [hx] at hr
            obtain ⟨I3, L3, c3, q1⟩ := hr
            exact ⟨I3, L3, mk_X11_readLine (Or.inr rfl) (pt_X11_readLine_6 ck ((nb200 1).trans h1) ((nb200 2).trans h2) ((nb200 3).trans h3) ((nb200 4).trans h4) c3), q1⟩
        | false =>
          have e : lp_line B n p st = .inl (1, tA B n 900 p) := by unfold lp_line; rw [h1, h2, h3, h4]; rfl
          rw [e]
          exact rc_f E (mk_X11_readLine (Or.inl rfl) (pt_X11_readLine_8 ck ((nb200 1).trans h1) ((nb200 2).trans h2) ((nb200 3).trans h3) ((nb200 4).trans h4) (cs_fail 1)))
/-- what a text leaves -/
def lp_XC (g : Option Value → xe_H → Prop) (r : lp_rs) : Prop := match r with
  | .inl q => ∃ (I' : Nat → Nat → Int32) (L' : Nat → Nat → Int64), g (some (.int 0)) (I', L') ∧ I' 3 9 = q.1 ∧ I' 3 10 = Int32.ofNat q.2
  | .inr q => ∃ (I' : Nat → Nat → Int32) (L' : Nat → Nat → Int64), g (some (.int 1)) (I', L') ∧ I' 4 3 = Int32.ofNat q.1 ∧ I' 3 9 = 0 ∧ lp_TC q.2 I' L'
theorem cs_text (hn : n ≤ 940) : ∀ (k p c : Nat) (st : lp_st) (I : Nat → Nat → Int32) (L : Nat → Nat → Int64), n < p + k → p ≤ n → 2 * c ≤ p → EncT B n 900 p I L → lp_TC st I L → lp_ok st → I 4 3 = Int32.ofNat c → I 3 9 = 0 →
    lp_XC (fun v hp9 => ∃ n9, xr_X11_read n9 (29, [(0, .ref 4), (1, .ref 64)], [], (I, L)) v hp9) (lp_tx B n k p c st) := by
  intro k
  induction k with
  | zero => intro p c st I L h1 h2; omega
  | succ k ih =>
    intro p c st I L hk hp hc E T O e43 e39
    have e4 : I 3 4 = Int32.ofNat (tK B n 900 p) := E.2.2.2.2.2.1
    have hk4 := tK_le (B := B) (n := n) (lim := 900) (p := p)
    have g1 : xe_cmp .ge (I 4 3) (900 : Int32) = false := (cmpN e43 (b := 900) rfl (by omega) (by omega)).trans (decide_eq_false (by omega))
    cases h0 : Nat.beq (tK B n 900 p) 0 with
    | true =>
      have e : lp_tx B n (k + 1) p c st = .inr (c, st) := by unfold lp_tx; rw [h0]; rfl
      rw [e]
      exact ⟨I, L, pt_X11_read_2 g1 ((cmpN e4 (b := 0) rfl (by omega) (by omega)).trans (decide_eq_true (Nat.eq_of_beq_eq_true h0))), e43, e39, T⟩
    | false =>
      have g2 : xe_cmp .eq (I 3 4) 0 = false := (cmpN e4 (b := 0) rfl (by omega) (by omega)).trans (decide_eq_false (nb_ne h0))
      have hr := cs_line hn hp E T O
      cases hx : lp_line B n p st with
      | inl q =>
        have e : lp_tx B n (k + 1) p c st = .inl q := by unfold lp_tx; rw [h0, hx]; rfl
        rw [e]
        rw [hx] at hr
        obtain ⟨I1, L1, c1, q1, q2⟩ := hr
        exact ⟨I1, L1, pt_X11_read_5 g1 g2 c1, q1, q2⟩
      | inr q =>
        obtain ⟨O1, a1, a2⟩ := lp_line_ok hp O hx
        rw [hx] at hr
        obtain ⟨I1, L1, c1, E1, T1, q1, q2⟩ := hr
        obtain ⟨s1, s2⟩ := cs_sign hn a2 E1
        cases hs : lp_sg B n q.1 with
        | false =>
          have e : lp_tx B n (k + 1) p c st = .inl (1, tA B n 900 q.1) := by
            unfold lp_tx; rw [h0, hx]
            show (bif lp_sg B n q.1 then lp_tx B n k (tN B n 900 q.1) (c + 1) q.2 else .inl (1, tA B n 900 q.1)) = _
            rw [hs]; rfl
          rw [e]
          obtain ⟨I2, L2, c2, u1, u2⟩ := s1 hs
          exact ⟨I2, L2, pt_X11_read_4 g1 g2 c1 c2, u1, u2⟩
        | true =>
          have e : lp_tx B n (k + 1) p c st = lp_tx B n k (tN B n 900 q.1) (c + 1) q.2 := by
            unfold lp_tx; rw [h0, hx]
            show (bif lp_sg B n q.1 then lp_tx B n k (tN B n 900 q.1) (c + 1) q.2 else .inl (1, tA B n 900 q.1)) = _
            rw [hs]
            cases k <;> rfl
          rw [e]
          obtain ⟨I2, L2, c2, E2, F1, F2⟩ := s2 hs
          have h3 : tK B n 900 q.1 = 3 := by
            unfold lp_sg at hs
            rw [Bool.and_eq_true] at hs
            exact Nat.eq_of_beq_eq_true hs.1
          have a3 := lp_adv a2 h3 (by decide) (by decide)
          have n2 := (tN_le (B := B) (lim := 900) a2).2.1
          have i43 : I2 4 3 = Int32.ofNat c := (F1 4 3 rfl).trans (q1.trans e43)
          have hh := ih (tN B n 900 q.1) (c + 1) q.2 (xu I2 4 3 (I2 4 3 + 1)) L2 (by omega) n2 (by omega) (encT_up (g := 4) (i := 3) (x := I2 4 3 + 1) E2 rfl) (by
            have T2 := tc_fr T1 F1 F2
            exact ⟨T2.1, T2.2.1, T2.2.2.1, T2.2.2.2.1, T2.2.2.2.2.1, T2.2.2.2.2.2⟩) O1 (by show I2 4 3 + 1 = _; rw [i43]; exact ti1 _) ((F1 3 9 rfl).trans (q2.trans e39))
          cases hy : lp_tx B n k (tN B n 900 q.1) (c + 1) q.2 with
          | inl r =>
            rw [hy] at hh
            obtain ⟨I3, L3, r3, u⟩ := hh
            exact ⟨I3, L3, pt_X11_read_3 g1 g2 c1 c2 r3, u⟩
          | inr r =>
            rw [hy] at hh
            obtain ⟨I3, L3, r3, u⟩ := hh
            exact ⟨I3, L3, pt_X11_read_3 g1 g2 c1 c2 r3, u⟩
end CM
