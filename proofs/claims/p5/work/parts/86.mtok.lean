/-! ===== the reference: tokens of any limit ===== -/
section MW
variable {B : Nat → Int32} {n lim p : Nat} {J : Nat → Nat → Int32} {M : Nat → Nat → Int64} {nsv : List (List Int32)}
theorem enwM_up {g i : Nat} {x : Int32} (E : EncM B n lim p J M) (hg : SEM g i = false) : EncM B n lim p (xu J g i x) M := by
  obtain ⟨h1, h2, h3, h4, h5, h6, h7, h8, h9⟩ := E
  refine ⟨?_, ?_, ?_, ?_, ?_, ?_, ?_, ?_, ?_⟩
  · rw [xu_ne (nbS hg rfl)]; exact h1
  · intro j hj; rw [xu_ne (nbS hg rfl)]; exact h2 j hj
  · rw [xu_ne (nbS hg rfl)]; exact h3
  · rw [xu_ne (nbS hg rfl)]; exact h4
  · rw [xu_ne (nbS hg rfl)]; exact h5
  · rw [xu_ne (nbS hg rfl)]; exact h6
  · intro hk; rw [xu_ne (nbS hg rfl)]; exact h7 hk
  · intro hk; rw [xu_ne (nbS hg rfl)]; exact h8 hk
  · intro hk; rw [xu_ne (nbS hg rfl)]; exact h9 hk
theorem enwM_upl {g i : Nat} {x : Int64} (E : EncM B n lim p J M) (hg : Nat.beq 18 g = false) : EncM B n lim p J (xul M g i x) := by
  obtain ⟨h1, h2, h3, h4, h5, h6, h7, h8, h9⟩ := E
  refine ⟨h1, h2, h3, h4, h5, h6, ?_, h8, h9⟩
  rw [xul_ne (by rw [hg]; rfl)]
  exact h7
theorem tmw_fr {J' : Nat → Nat → Int32} {M' : Nat → Nat → Int64} (T : lv_TM nsv J M) (F : fp lp_S18 J J') (F2 : fpl lp_L18 M M') : lv_TM nsv J' M' := ⟨(F 20 0 rfl).trans T.1, fun j hj => (F2 23 j rfl).trans (T.2.1 j hj), fun j hj => (F2 24 j rfl).trans (T.2.2 j hj)⟩
theorem mw_next (hm : lim ≤ 940) (hn : n ≤ 940) (hB0 : ∀ i, i < 940 → 0 ≤ (B i).toInt) (hp : p ≤ n) (E : EncM B n lim p J M) : ∃ (J' : Nat → Nat → Int32) (M' : Nat → Nat → Int64), fx_X13_next [.ref 18] (J, M) none (J', M') ∧ EncM B n lim (tN B n lim p) J' M' ∧ fp lp_S18 J J' ∧ fpl lp_L18 M M' ∧ J' 18 18 = J 18 18 := by
  obtain ⟨h1, h2, h3, -, h5, -⟩ := E
  obtain ⟨I', L', a, b, c, d⟩ := sp_next (B := B) (n := n) (lim := lim) (p := tN B n lim p) hn hm (tN_le hp).2.1 h1 h5 h3 h2 hB0
  exact ⟨I', L', a, b, c.mono (fun g i h => lp_SM h), d.mono (fun g i h => lp_LMm h), c 18 18 rfl⟩
theorem mw_isWord {i : Nat} {w : List Int32} {c : Int64} (h0 : 0 < i) (hi : i < 24) (hw : kw[i]? = some w) (hc : c = c256 w) (hp : p ≤ n) (E : EncM B n lim p J M) : fx_X13_isWord [.long c, .ref 18] (J, M) (some (.int (b2i (Nat.beq (kyw (tW B n lim p)) i)))) (J, M) := by
  have e11 : J 18 11 = Int32.ofNat (mK B n lim p) := E.2.2.2.2.2.1
  obtain ⟨m1, m2, m0, m4, m3⟩ := mK_1 (B := B) (n := n) (lim := lim) (p := p)
  have hwo := kw_len i hi w hw
  cases hk : Nat.beq (tK B n lim p) 1 with
  | false =>
    have hk1 := nb_ne hk
    have e : Nat.beq (kyw (tW B n lim p)) i = false := nb_F (fun q => by
      have : tK B n lim p = 1 := kyw_T (nb_F (by omega))
      exact hk1 this)
    rw [e]
    exact mk_X13_isWord (Or.inl rfl) (pt_X13_isWord_0 ((cmpN e11 (b := 1) rfl (by omega) (by omega)).trans (decide_eq_true (fun q => hk1 (m1.mp q)))))
  | true =>
    have hk1 := Nat.eq_of_beq_eq_true hk
    have g1 : xe_cmp .ne (J 18 11) (1 : Int32) = false := (cmpN e11 (b := 1) rfl (by omega) (by omega)).trans (decide_eq_false (fun q => q (m1.mpr hk1)))
    have eW : M 18 17 = m256 (tW B n lim p) := (E.2.2.2.2.2.2.1 hk1).1
    cases he : Nat.beq (kyw (tW B n lim p)) i with
    | true =>
      have hq := (kyw_iff h0 hi).mp (Nat.eq_of_beq_eq_true he)
      have ew : tW B n lim p = w := Option.some.inj (hq.symm.trans hw)
      refine mk_X13_isWord (Or.inr rfl) (pt_X13_isWord_2 g1 ?_)
      rw [eW, ew, m256_c hwo.2, hc, lg0.mpr rfl]
      rfl
    | false =>
      refine mk_X13_isWord (Or.inl rfl) (pt_X13_isWord_1 g1 (decide_eq_true (fun q => ?_)))
      have q := lg0.mp q
      rw [eW, hc] at q
      have ew := m256_inj (tW_ok hp).1 hwo.1 hwo.2 q
      exact nb_ne he ((kyw_iff h0 hi).mpr (by rw [ew]; exact hw))
theorem mw_isName (hp : p ≤ n) (E : EncM B n lim p J M) (hR : ∀ j, j < 23 → M 24 j = rsv j) : fx_X13_isName [.ref 18] (J, M) (some (.int (b2i (lv_isn B n lim p)))) (J, M) := by
  have e11 : J 18 11 = Int32.ofNat (mK B n lim p) := E.2.2.2.2.2.1
  obtain ⟨m1, m2, m0, m4, m3⟩ := mK_1 (B := B) (n := n) (lim := lim) (p := p)
  have hb : ∀ b : Bool, xe_rt (some .boolean) (some (.int (b2i b))) := fun b => by
    cases b
    · exact Or.inl rfl
    · exact Or.inr rfl
  cases hk : Nat.beq (tK B n lim p) 1 with
  | false =>
    have hk1 := nb_ne hk
    have e : lv_isn B n lim p = (false && lp_nr (M 18 17) (M 24) 23 0) := by unfold lv_isn; rw [hk]; rfl
    rw [e]
    exact mk_X13_isName (hb _) (pt_X13_isName_0 ((cmpN e11 (b := 1) rfl (by omega) (by omega)).trans (decide_eq_true (fun q => hk1 (m1.mp q)))) (ms_nameL 23 0 false rfl))
  | true =>
    have hk1 := Nat.eq_of_beq_eq_true hk
    obtain ⟨w1, w2, w3, w4, w5, w6, w7⟩ := tk_1 (B := B) (lim := lim) hp hk1
    have eW : M 18 17 = m256 (tW B n lim p) := (E.2.2.2.2.2.2.1 hk1).1
    have e : lv_isn B n lim p = (true && lp_nr (M 18 17) (M 24) 23 0) := by
      unfold lv_isn
      rw [hk]
      show (true && Nat.beq (kyw (tW B n lim p)) 0) = (true && lp_nr (M 18 17) (M 24) 23 0)
      rw [Bool.true_and, Bool.true_and, Bool.eq_iff_iff, lp_nr_ok]
      have hne : tW B n lim p ≠ [] := fun q => by rw [q] at w7; have w7 : 0 = _ := w7; omega
      constructor
      · intro h j h1 h2 q
        have h := (kyw_0 hne).mp (Nat.eq_of_beq_eq_true h)
        have ho := rw9_ok j (by omega)
        rw [eW, hR j (by omega), rsv_c j (by omega)] at q
        rw [m256_inj w2 ho.1 ho.2.1 q] at h
        exact h ho.2.2
      · intro h
        have hn9 : tW B n lim p ∉ rw9 := fun q => by
          obtain ⟨j, hj, ej⟩ := rw9_in q
          have ho := rw9_ok j hj
          refine h j (Nat.zero_le _) (by omega) ?_
          rw [eW, hR j hj, rsv_c j hj, ej, m256_c]
          rw [← ej]; exact ho.2.1
        rw [(kyw_0 hne).mpr hn9]
        rfl
    rw [e]
    exact mk_X13_isName (hb _) (pt_X13_isName_1 ((cmpN e11 (b := 1) rfl (by omega) (by omega)).trans (decide_eq_false (fun q => q (m1.mpr hk1)))) (ms_nameL 23 0 true rfl))
theorem mw_findL {w : List Int32} (hw : w.all tx_sm = true) (eW : M 18 17 = m256 w) (T : lv_TM nsv J M) (O : lv_ok nsv) : ∀ (k i : Nat), i + k = nsv.length → ∃ n9, xr_X13_find n9 (2, [(0, .ref 18), (1, .int (0 : Int32)), (2, .int (J 20 0)), (3, .int (Int32.ofNat i))], [], (J, M)) (some (.int (lp_vi (lp_nf w nsv k i)))) (J, M) := by
  have hl := O.1
  intro k
  induction k with
  | zero =>
    intro i hi
    exact pt_X13_find_1 ((cmpN rfl T.1 (by omega) (by omega)).trans (decide_eq_true (by omega)))
  | succ k ih =>
    intro i hi
    have h1 : xe_cmp .ge (Int32.ofNat i) (J 20 0) = false := (cmpN rfl T.1 (by omega) (by omega)).trans (decide_eq_false (by omega))
    have e6 : (0 : Int32) + Int32.ofNat i = Int32.ofNat i := (tadd 0 i).trans (congrArg Int32.ofNat (Nat.zero_add i))
    have h2 : xe_ib ((0 : Int32) + Int32.ofNat i) 12 = true := by rw [e6]; exact xib (by omega) (by omega)
    have e1 : M 23 (((0 : Int32) + Int32.ofNat i).toInt.toNat) = c256 (nsv.getD i []) := by rw [e6, tin (by omega)]; exact T.2.1 i (by omega)
    have o := O.2 i (by omega)
    cases hd : decide (nsv.getD i [] = w) with
    | true =>
      have ew := of_decide_eq_true hd
      have e : lp_nf w nsv (k + 1) i = some i := by unfold lp_nf; rw [hd]; rfl
      rw [e]
      refine pt_X13_find_3 h1 h2 ?_
      rw [e1, eW, ← ew, m256_c o.2, lg0.mpr rfl]
      rfl
    | false =>
      have e : lp_nf w nsv (k + 1) i = lp_nf w nsv k (i + 1) := by
        show (bif decide (nsv.getD i [] = w) then some i else lp_nf w nsv k (i + 1)) = _
        rw [hd]; rfl
      rw [e]
      refine pt_X13_find_2 h1 h2 ?_ ?_
      · rw [e1, eW]
        exact decide_eq_true (fun q => of_decide_eq_false hd (m256_inj hw o.1 o.2 (lg0.mp q).symm).symm)
      · rw [ti1]
        exact ih (i + 1) (by omega)
theorem mw_find (hp : p ≤ n) (hk : tK B n lim p = 1) (E : EncM B n lim p J M) (T : lv_TM nsv J M) (O : lv_ok nsv) : fx_X13_find [.int (J 20 0), .int 0, .ref 18] (J, M) (some (.int (lp_vi (lp_nf (tW B n lim p) nsv nsv.length 0)))) (J, M) := mk_X13_find trivial (pt_X13_find_0 (mw_findL (tW_ok hp).1 (E.2.2.2.2.2.2.1 hk).1 T O nsv.length 0 (Nat.zero_add _)))
theorem mw_looks (hp : p ≤ n) (E : EncM B n lim p J M) (T : lv_TM nsv J M) (O : lv_ok nsv) : (∀ f, lv_nm B n lim nsv p = .inl f → ∃ J' : Nat → Nat → Int32, fx_X13_looksAt [.int (J 20 0), .int 0, .ref 18] (J, M) (some (.int 0)) (J', M) ∧ J' 18 15 = f ∧ J' 18 16 = Int32.ofNat (tA B n lim p)) ∧ (∀ j, lv_nm B n lim nsv p = .inr j → j < 6 ∧ fx_X13_looksAt [.int (J 20 0), .int 0, .ref 18] (J, M) (some (.int 1)) (xu J 18 18 (Int32.ofNat j), M)) := by
  have a2 : J 18 12 = Int32.ofNat (tA B n lim p) := E.2.2.2.1
  have cN := mw_isName hp E T.2.2
  cases hi : lv_isn B n lim p with
  | false =>
    have e : lv_nm B n lim nsv p = .inl 1 := by unfold lv_nm; rw [hi]; rfl
    rw [e]
    rw [hi] at cN
    refine ⟨fun f h => ?_, fun j h => by cases h⟩
    cases h
    exact ⟨_, mk_X13_looksAt (Or.inl rfl) (pt_X13_looksAt_2 cN (ms_bad 1)), rfl, a2⟩
  | true =>
    rw [hi] at cN
    have hk : tK B n lim p = 1 := by
      unfold lv_isn at hi
      rw [Bool.and_eq_true] at hi
      exact Nat.eq_of_beq_eq_true hi.1
    have c2 := mw_find hp hk E T O
    cases hf : lp_nf (tW B n lim p) nsv nsv.length 0 with
    | none =>
      have e : lv_nm B n lim nsv p = .inl 3 := by unfold lv_nm; rw [hi, hf]; rfl
      rw [e]
      rw [hf] at c2
      refine ⟨fun f h => ?_, fun j h => by cases h⟩
      cases h
      exact ⟨_, mk_X13_looksAt (Or.inl rfl) (pt_X13_looksAt_1 cN c2 (by decide) (ms_bad 3)), rfl, a2⟩
    | some j =>
      have e : lv_nm B n lim nsv p = .inr j := by unfold lv_nm; rw [hi, hf]; rfl
      have hj := lp_nf_in hf
      have hl := O.1
      rw [e]
      rw [hf] at c2
      refine ⟨fun f h => (by cases h), fun j' h => ?_⟩
      cases h
      exact ⟨by omega, mk_X13_looksAt (Or.inr rfl) (pt_X13_looksAt_0 cN c2 ((cmpN (a := j) rfl (b := 0) rfl (by omega) (by omega)).trans rfl))⟩
theorem mw_take (hm : lim ≤ 940) (hn : n ≤ 940) (hB0 : ∀ i, i < 940 → 0 ≤ (B i).toInt) (hp : p ≤ n) (E : EncM B n lim p J M) (T : lv_TM nsv J M) (O : lv_ok nsv) : (∀ f, lv_nm B n lim nsv p = .inl f → ∃ (J' : Nat → Nat → Int32) (M' : Nat → Nat → Int64), fx_X13_takesName [.int (J 20 0), .int 0, .ref 18] (J, M) (some (.int 0)) (J', M') ∧ J' 18 15 = f ∧ J' 18 16 = Int32.ofNat (tA B n lim p)) ∧ (∀ j, lv_nm B n lim nsv p = .inr j → ∃ (J' : Nat → Nat → Int32) (M' : Nat → Nat → Int64), j < 6 ∧ fx_X13_takesName [.int (J 20 0), .int 0, .ref 18] (J, M) (some (.int 1)) (J', M') ∧ EncM B n lim (tN B n lim p) J' M' ∧ J' 18 18 = Int32.ofNat j ∧ fp lp_S18 J J' ∧ fpl lp_L18 M M') := by
  obtain ⟨s1, s2⟩ := mw_looks hp E T O
  refine ⟨fun f h => ?_, fun j h => ?_⟩
  · obtain ⟨J', c1, q1, q2⟩ := s1 f h
    exact ⟨J', M, mk_X13_takesName (Or.inl rfl) (pt_X13_takesName_1 c1), q1, q2⟩
  · obtain ⟨hj, c1⟩ := s2 j h
    obtain ⟨J', M', c2, E2, F1, F2, e8⟩ := mw_next hm hn hB0 hp (enwM_up (g := 18) (i := 18) (x := Int32.ofNat j) E rfl)
    exact ⟨J', M', hj, mk_X13_takesName (Or.inr rfl) (pt_X13_takesName_0 c1 c2), E2, e8, (fp.rf.up rfl).tr F1, F2⟩
theorem mw_num (hm : lim ≤ 940) (hn : n ≤ 940) (hB0 : ∀ i, i < 940 → 0 ≤ (B i).toInt) (hp : p ≤ n) (E : EncM B n lim p J M) (lo hi : Int32) : (∀ f, lv_num B n lim lo hi p = .inl f → ∃ (J' : Nat → Nat → Int32) (M' : Nat → Nat → Int64), fx_X13_takes [.int hi, .int lo, .ref 18] (J, M) (some (.int 0)) (J', M') ∧ J' 18 15 = f ∧ J' 18 16 = Int32.ofNat (tA B n lim p)) ∧ (∀ x, lv_num B n lim lo hi p = .inr x → ∃ (J' : Nat → Nat → Int32) (M' : Nat → Nat → Int64), fx_X13_takes [.int hi, .int lo, .ref 18] (J, M) (some (.int 1)) (J', M') ∧ EncM B n lim (tN B n lim p) J' M' ∧ J' 18 18 = x ∧ fp lp_S18 J J' ∧ fpl lp_L18 M M') := by
  have e11 : J 18 11 = Int32.ofNat (mK B n lim p) := E.2.2.2.2.2.1
  obtain ⟨m1, m2, m0, m4, m3⟩ := mK_1 (B := B) (n := n) (lim := lim) (p := p)
  have a2 : J 18 12 = Int32.ofNat (tA B n lim p) := E.2.2.2.1
  cases hk : Nat.beq (tK B n lim p) 2 with
  | false =>
    have hk1 := nb_ne hk
    have e : lv_num B n lim lo hi p = .inl 1 := by unfold lv_num; rw [hk]; rfl
    rw [e]
    refine ⟨fun f h => ?_, fun j h => by cases h⟩
    cases h
    exact ⟨_, _, mk_X13_takes (Or.inl rfl) (pt_X13_takes_2 ((cmpN e11 (b := 2) rfl (by omega) (by omega)).trans (decide_eq_false (fun q => hk1 (m2.mp q)))) (ms_bad 1)), rfl, a2⟩
  | true =>
    have hk1 := Nat.eq_of_beq_eq_true hk
    have g1 : xe_cmp .eq (J 18 11) (2 : Int32) = true := (cmpN e11 (b := 2) rfl (by omega) (by omega)).trans (decide_eq_true (m2.mpr hk1))
    have eX : J 18 14 = tX B n p := E.2.2.2.2.2.2.2.1 hk1
    cases h1 : xe_cmp .lt (tX B n p) lo with
    | true =>
      have e : lv_num B n lim lo hi p = .inl 2 := by unfold lv_num; rw [hk, h1]; rfl
      rw [e]
      refine ⟨fun f h => ?_, fun j h => by cases h⟩
      cases h
      exact ⟨_, _, mk_X13_takes (Or.inl rfl) (pt_X13_takes_1 g1 (mk_X13_isIn (Or.inl rfl) (pt_X13_isIn_0 (by rw [eX]; exact h1))) (ms_bad 2)), rfl, a2⟩
    | false =>
      cases h2 : xe_cmp .le (tX B n p) hi with
      | false =>
        have e : lv_num B n lim lo hi p = .inl 2 := by unfold lv_num; rw [hk, h1, h2]; rfl
        rw [e]
        refine ⟨fun f h => ?_, fun j h => by cases h⟩
        cases h
        exact ⟨_, _, mk_X13_takes (Or.inl rfl) (pt_X13_takes_1 g1 (mk_X13_isIn (Or.inl rfl) (pt_X13_isIn_1 (by rw [eX]; exact h1) (by rw [eX, cmp_gt, h2]; rfl))) (ms_bad 2)), rfl, a2⟩
      | true =>
        have e : lv_num B n lim lo hi p = .inr (tX B n p) := by unfold lv_num; rw [hk, h1, h2]; rfl
        rw [e]
        refine ⟨fun f h => (by cases h), fun x h => ?_⟩
        cases h
        obtain ⟨J', M', c2, E2, F1, F2, e8⟩ := mw_next hm hn hB0 hp (enwM_up (g := 18) (i := 18) (x := J 18 14) E rfl)
        exact ⟨J', M', mk_X13_takes (Or.inr rfl) (pt_X13_takes_0 g1 (mk_X13_isIn (Or.inr rfl) (pt_X13_isIn_2 (by rw [eX]; exact h1) (by rw [eX, cmp_gt, h2]; rfl))) c2), E2, e8.trans eX, (fp.rf.up rfl).tr F1, F2⟩
theorem mw_sign {cc : Int32} (h6 : sg6 cc = true) (hm : lim ≤ 940) (hn : n ≤ 940) (hB0 : ∀ i, i < 940 → 0 ≤ (B i).toInt) (hp : p ≤ n) (E : EncM B n lim p J M) : (lv_sg B n lim cc p = false → ∃ (J' : Nat → Nat → Int32) (M' : Nat → Nat → Int64), fx_X13_sign [.int cc, .ref 18] (J, M) (some (.int 0)) (J', M') ∧ J' 18 15 = 1 ∧ J' 18 16 = Int32.ofNat (tA B n lim p)) ∧ (lv_sg B n lim cc p = true → ∃ (J' : Nat → Nat → Int32) (M' : Nat → Nat → Int64), fx_X13_sign [.int cc, .ref 18] (J, M) (some (.int 1)) (J', M') ∧ EncM B n lim (tN B n lim p) J' M' ∧ fp lp_S18 J J' ∧ fpl lp_L18 M M') := by
  have e11 : J 18 11 = Int32.ofNat (mK B n lim p) := E.2.2.2.2.2.1
  obtain ⟨m1, m2, m0, m4, m3⟩ := mK_1 (B := B) (n := n) (lim := lim) (p := p)
  have a2 : J 18 12 = Int32.ofNat (tA B n lim p) := E.2.2.2.1
  unfold lv_sg
  by_cases hk : mK B n lim p = 3
  · have hk3 := (m3.mp hk).1
    have g1 : xe_cmp .ne (J 18 11) (3 : Int32) = false := (cmpN e11 (b := 3) rfl (by omega) (by omega)).trans (decide_eq_false (fun q => q hk))
    have e14 : J 18 14 = tS B n lim p := E.2.2.2.2.2.2.2.2 hk3
    rw [hk3]
    cases hs : decide (tS B n lim p = cc) with
    | false =>
      refine ⟨fun _ => ?_, fun h => by cases h⟩
      exact ⟨_, _, mk_X13_sign (Or.inl rfl) (pt_X13_sign_1 (mk_X13_isSign (Or.inl rfl) (pt_X13_isSign_1 g1 (by rw [e14]; exact decide_eq_true (of_decide_eq_false hs)))) (ms_bad 1)), rfl, a2⟩
    | true =>
      refine ⟨fun h => (by cases h), fun _ => ?_⟩
      obtain ⟨J', M', c2, E2, F1, F2, -⟩ := mw_next hm hn hB0 hp E
      exact ⟨J', M', mk_X13_sign (Or.inr rfl) (pt_X13_sign_0 (mk_X13_isSign (Or.inr rfl) (pt_X13_isSign_2 g1 (by rw [e14]; exact decide_eq_false (fun q => q (of_decide_eq_true hs))))) c2), E2, F1, F2⟩
  · have e : (Nat.beq (tK B n lim p) 3 && decide (tS B n lim p = cc)) = false := by
      cases hb : Nat.beq (tK B n lim p) 3 with
      | false => rfl
      | true =>
        show decide (tS B n lim p = cc) = false
        refine decide_eq_false (fun q => hk (m3.mpr ⟨Nat.eq_of_beq_eq_true hb, ?_⟩))
        rw [q]; exact h6
    rw [e]
    refine ⟨fun _ => ?_, fun h => by cases h⟩
    exact ⟨_, _, mk_X13_sign (Or.inl rfl) (pt_X13_sign_1 (mk_X13_isSign (Or.inl rfl) (pt_X13_isSign_0 ((cmpN e11 (b := 3) rfl (by omega) (by omega)).trans (decide_eq_true hk)))) (ms_bad 1)), rfl, a2⟩
end MW
