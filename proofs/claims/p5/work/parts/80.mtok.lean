/-! ===== the reference reads lines ===== -/
def lp_S18 (g i : Nat) : Bool := Nat.beq g 18 && !(Nat.beq i 15 || Nat.beq i 19 || Nat.beq i 20 || Nat.beq i 21)
def lp_L18 (g _ : Nat) : Bool := Nat.beq g 18
def lp_TM (st : lp_st) (J : Nat → Nat → Int32) (M : Nat → Nat → Int64) : Prop := J 21 0 = Int32.ofNat st.1.length ∧ (∀ j, j < st.1.length → M 23 (6 + j) = c256 (st.1.getD j [])) ∧ J 21 1 = Int32.ofNat st.2.1 ∧ (∀ j, j < 36 → J 21 (51 + j) = st.2.2.1 j) ∧ J 18 20 = Int32.ofNat st.2.2.2.1 ∧ J 18 21 = b2i st.2.2.2.2 ∧ (∀ j, j < 23 → M 24 j = rsv j) ∧ ∀ j, j < 16 → 0 ≤ (J 21 (19 + j)).toInt ∧ (J 21 (19 + j)).toInt ≤ 12
def lp_RM (B : Nat → Int32) (n : Nat) (f : xe_F) (us : List Value) (J : Nat → Nat → Int32) (M : Nat → Nat → Int64) (r : lp_rs) : Prop := match r with
  | .inl q => ∃ (J' : Nat → Nat → Int32) (M' : Nat → Nat → Int64), f us (J, M) (some (.int 0)) (J', M') ∧ J' 18 15 = q.1 ∧ J' 18 16 = Int32.ofNat q.2
  | .inr q => ∃ (J' : Nat → Nat → Int32) (M' : Nat → Nat → Int64), f us (J, M) (some (.int 1)) (J', M') ∧ EncM B n 900 q.1 J' M' ∧ lp_TM q.2 J' M' ∧ J' 18 19 = J 18 19 ∧ J' 18 15 = J 18 15
theorem lp_SM {g i : Nat} (h : lp_S18 g i = false) : SMn g i = false := by
  unfold lp_S18 at h
  unfold SMn
  cases hg : Nat.beq g 18
  · rfl
  · rw [hg, Bool.true_and, Bool.not_eq_false'] at h
    simp only [Bool.or_eq_true] at h
    rcases h with ((h | h) | h) | h <;> (rw [Nat.eq_of_beq_eq_true h]; rfl)
theorem lp_LMm {g i : Nat} (h : lp_L18 g i = false) : LM g i = false := by
  unfold lp_L18 at h
  unfold LM
  rw [h]; rfl
def SEM (g i : Nat) : Bool := Nat.beq g 19 || (Nat.beq g 18 && Nat.ble i 14)
/-- a token's sort, as the reference has it -/
theorem mK_1 {B : Nat → Int32} {n lim p : Nat} : (mK B n lim p = 1 ↔ tK B n lim p = 1) ∧ (mK B n lim p = 2 ↔ tK B n lim p = 2) ∧ (mK B n lim p = 0 ↔ tK B n lim p = 0) ∧ mK B n lim p ≤ 4 ∧ (mK B n lim p = 3 ↔ tK B n lim p = 3 ∧ sg6 (tS B n lim p) = true) := by
  have h4 := tK_le (B := B) (n := n) (lim := lim) (p := p)
  by_cases h3 : tK B n lim p = 3
  · cases hs : sg6 (tS B n lim p) with
    | true =>
      have e : mK B n lim p = 3 := by unfold mK; rw [hs, h3]; rfl
      rw [e, h3]
      refine ⟨by decide, by decide, by decide, by decide, ⟨fun _ => ⟨rfl, rfl⟩, fun _ => rfl⟩⟩
    | false =>
      have e : mK B n lim p = 4 := by unfold mK; rw [hs, h3]; rfl
      rw [e, h3]
      refine ⟨by decide, by decide, by decide, by decide, ⟨fun h => absurd h (by decide), fun h => absurd h.2 (by decide)⟩⟩
  · have e := mK_ne h3
    rw [e]
    exact ⟨Iff.rfl, Iff.rfl, Iff.rfl, h4, ⟨fun h => absurd h h3, fun h => h.1⟩⟩
section ML
variable {B : Nat → Int32} {n p : Nat} {J : Nat → Nat → Int32} {M : Nat → Nat → Int64} {st : lp_st}
theorem encM_up {g i : Nat} {x : Int32} (E : EncM B n 900 p J M) (hg : SEM g i = false) : EncM B n 900 p (xu J g i x) M := by
  obtain ⟨h1, h2, h3, h4, h5, h6, h7, h8, h9⟩ := E
  refine ⟨?_, ?_, ?_, ?_, ?_, ?_, ?_, ?_, ?_⟩
  · rw [xu_ne (nbS hg rfl)]; exact h1
  · intro j hj; rw [xu_ne (nbS hg rfl)]; exact h2 j hj
  · rw [xu_ne (nbS hg rfl)]; exact h3
  · rw [xu_ne (nbS hg rfl)]; exact h4
  · rw [xu_ne (nbS hg rfl)]; exact h5
  · rw [xu_ne (nbS hg rfl)]; exact h6
  · intro hk; rw [xu_ne (nbS hg rfl)]; exact h7 hk
  · intro hk; rw [xu_ne (nbS hg rfl)]; exact h8 hk
  · intro hk; rw [xu_ne (nbS hg rfl)]; exact h9 hk
theorem encM_upl {g i : Nat} {x : Int64} (E : EncM B n 900 p J M) (hg : Nat.beq 18 g = false) : EncM B n 900 p J (xul M g i x) := by
  obtain ⟨h1, h2, h3, h4, h5, h6, h7, h8, h9⟩ := E
  refine ⟨h1, h2, h3, h4, h5, h6, ?_, h8, h9⟩
  rw [xul_ne (by rw [hg]; rfl)]
  exact h7
theorem tm_fr {J' : Nat → Nat → Int32} {M' : Nat → Nat → Int64} (T : lp_TM st J M) (F : fp lp_S18 J J') (F2 : fpl lp_L18 M M') : lp_TM st J' M' := by
  obtain ⟨t1, t2, t3, t4, t5, t6, t7, t8⟩ := T
  exact ⟨(F 21 0 rfl).trans t1, fun j hj => (F2 23 (6 + j) rfl).trans (t2 j hj), (F 21 1 rfl).trans t3, fun j hj => (F 21 (51 + j) rfl).trans (t4 j hj), (F 18 20 rfl).trans t5, (F 18 21 rfl).trans t6, fun j hj => (F2 24 j rfl).trans (t7 j hj), fun j hj => by rw [F 21 (19 + j) rfl]; exact t8 j hj⟩
theorem ms_next (hn : n ≤ 940) (hB0 : ∀ i, i < 940 → 0 ≤ (B i).toInt) (hp : p ≤ n) (E : EncM B n 900 p J M) : ∃ (J' : Nat → Nat → Int32) (M' : Nat → Nat → Int64), fx_X13_next [.ref 18] (J, M) none (J', M') ∧ EncM B n 900 (tN B n 900 p) J' M' ∧ fp lp_S18 J J' ∧ fpl lp_L18 M M' ∧ J' 18 18 = J 18 18 := by
  obtain ⟨h1, h2, h3, -, h5, -⟩ := E
  obtain ⟨I', L', a, b, c, d⟩ := sp_next (B := B) (n := n) (lim := 900) (p := tN B n 900 p) hn (by decide) (tN_le hp).2.1 h1 h5 h3 h2 hB0
  exact ⟨I', L', a, b, c.mono (fun g i h => lp_SM h), d.mono (fun g i h => lp_LMm h), c 18 18 rfl⟩
theorem ms_bad (f : Int32) : fx_X13_bad [.int f, .ref 18] (J, M) (some (.int 0)) (xu (xu J 18 15 f) 18 16 (J 18 12), M) := mk_X13_bad (Or.inl rfl) pt_X13_bad_0
theorem rm_f {f9 : xe_F} {us : List Value} {J1 : Nat → Nat → Int32} {M1 : Nat → Nat → Int64} {f : Int32} (E1 : EncM B n 900 p J1 M1) (h : f9 us (J, M) (some (.int 0)) (xu (xu J1 18 15 f) 18 16 (J1 18 12), M1)) : lp_RM B n f9 us J M (.inl (f, tA B n 900 p)) := ⟨_, _, h, rfl, E1.2.2.2.1⟩
theorem rm_g {f9 : xe_F} {us : List Value} {J1 : Nat → Nat → Int32} {M1 : Nat → Nat → Int64} {f : Int32} {a : Nat} (h : f9 us (J, M) (some (.int 0)) (J1, M1)) (h1 : J1 18 15 = f) (h2 : J1 18 16 = Int32.ofNat a) : lp_RM B n f9 us J M (.inl (f, a)) := ⟨_, _, h, h1, h2⟩
theorem m256_c {w : List Int32} (h : w.length ≤ 7) : m256 w = c256 w := by unfold m256; rw [decide_eq_true h]; rfl
theorem kw_len : ∀ i, i < 24 → ∀ w, kw[i]? = some w → w.all tx_sm = true ∧ w.length ≤ 7 := fun i _ w h => kw_ok w (List.mem_of_getElem? h)
theorem ms_isWord {i : Nat} {w : List Int32} {c : Int64} (h0 : 0 < i) (hi : i < 24) (hw : kw[i]? = some w) (hc : c = c256 w) (hp : p ≤ n) (E : EncM B n 900 p J M) : fx_X13_isWord [.long c, .ref 18] (J, M) (some (.int (b2i (Nat.beq (kyw (tW B n 900 p)) i)))) (J, M) := by
  have e11 : J 18 11 = Int32.ofNat (mK B n 900 p) := E.2.2.2.2.2.1
  obtain ⟨m1, m2, m0, m4, m3⟩ := mK_1 (B := B) (n := n) (lim := 900) (p := p)
  have hwo := kw_len i hi w hw
  cases hk : Nat.beq (tK B n 900 p) 1 with
  | false =>
    have hk1 := nb_ne hk
    have e : Nat.beq (kyw (tW B n 900 p)) i = false := nb_F (fun q => by
      have : tK B n 900 p = 1 := kyw_T (nb_F (by omega))
      exact hk1 this)
    rw [e]
    exact mk_X13_isWord (Or.inl rfl) (pt_X13_isWord_0 ((cmpN e11 (b := 1) rfl (by omega) (by omega)).trans (decide_eq_true (fun q => hk1 (m1.mp q)))))
  | true =>
    have hk1 := Nat.eq_of_beq_eq_true hk
    have g1 : xe_cmp .ne (J 18 11) (1 : Int32) = false := (cmpN e11 (b := 1) rfl (by omega) (by omega)).trans (decide_eq_false (fun q => q (m1.mpr hk1)))
    have eW : M 18 17 = m256 (tW B n 900 p) := (E.2.2.2.2.2.2.1 hk1).1
    cases he : Nat.beq (kyw (tW B n 900 p)) i with
    | true =>
      have hq := (kyw_iff h0 hi).mp (Nat.eq_of_beq_eq_true he)
      have ew : tW B n 900 p = w := Option.some.inj (hq.symm.trans hw)
      refine mk_X13_isWord (Or.inr rfl) (pt_X13_isWord_2 g1 ?_)
      rw [eW, ew, m256_c hwo.2, hc, lg0.mpr rfl]
      rfl
    | false =>
      refine mk_X13_isWord (Or.inl rfl) (pt_X13_isWord_1 g1 (decide_eq_true (fun q => ?_)))
      have q := lg0.mp q
      rw [eW, hc] at q
      have ew := m256_inj (tW_ok hp).1 hwo.1 hwo.2 q
      exact nb_ne he ((kyw_iff h0 hi).mpr (by rw [ew]; exact hw))
def lp_nr (x : Int64) (f : Nat → Int64) : Nat → Nat → Bool
  | 0, _ => true
  | k + 1, i => bif decide (x = f i) then false else lp_nr x f k (i + 1)
theorem lp_nr_ok {x : Int64} {f : Nat → Int64} : ∀ {k i : Nat}, lp_nr x f k i = true ↔ ∀ j, i ≤ j → j < i + k → x ≠ f j
  | 0, i => ⟨fun _ j h1 h2 => by omega, fun _ => rfl⟩
  | k + 1, i => by
    show (bif decide (x = f i) then false else lp_nr x f k (i + 1)) = true ↔ _
    cases hd : decide (x = f i) with
    | true =>
      refine ⟨fun h => (by cases h), fun h => absurd (of_decide_eq_true hd) (h i (Nat.le_refl _) (by omega))⟩
    | false =>
      show lp_nr x f k (i + 1) = true ↔ _
      rw [lp_nr_ok (k := k) (i := i + 1)]
      constructor
      · intro h j h1 h2
        by_cases e : j = i
        · rw [e]; exact of_decide_eq_false hd
        · exact h j (by omega) (by omega)
      · intro h j h1 h2
        exact h j (by omega) (by omega)
theorem ms_nameL : ∀ (k i : Nat) (b : Bool), i + k = 23 → ∃ n9, xr_X13_isName n9 (16, [(0, .ref 18), (1, .int (b2i b)), (2, .int (Int32.ofNat i))], [], (J, M)) (some (.int (b2i (b && lp_nr (M 18 17) (M 24) k i)))) (J, M) := by
  intro k
  induction k with
  | zero =>
    intro i b hi
    have e : (b && lp_nr (M 18 17) (M 24) 0 i) = b := Bool.and_true b
    rw [e]
    exact pt_X13_isName_2 ((cmpN rfl (b := 23) rfl (by omega) (by omega)).trans (decide_eq_true (by omega)))
  | succ k ih =>
    intro i b hi
    have g1 : xe_cmp .ge (Int32.ofNat i) (23 : Int32) = false := (cmpN rfl (b := 23) rfl (by omega) (by omega)).trans (decide_eq_false (by omega))
    have g2 : xe_ib (Int32.ofNat i) 23 = true := xib (by omega) (by omega)
    have ei : (Int32.ofNat i).toInt.toNat = i := tin (by omega)
    cases b with
    | false =>
      refine pt_X13_isName_3 g1 (by decide) ?_
      rw [ti1]
      exact ih (i + 1) false (by omega)
    | true =>
      cases hd : decide (M 18 17 = M 24 i) with
      | true =>
        have e : (true && lp_nr (M 18 17) (M 24) (k + 1) i) = (false && lp_nr (M 18 17) (M 24) k (i + 1)) := by
          show (true && (bif decide (M 18 17 = M 24 i) then false else lp_nr (M 18 17) (M 24) k (i + 1))) = _
          rw [hd]; rfl
        rw [e]
        refine pt_X13_isName_4 g1 (by decide) g2 (by rw [ei]; exact decide_eq_true (lg0.mpr (of_decide_eq_true hd))) ?_
        rw [ti1]
        exact ih (i + 1) false (by omega)
      | false =>
        have e : (true && lp_nr (M 18 17) (M 24) (k + 1) i) = (true && lp_nr (M 18 17) (M 24) k (i + 1)) := by
          show (true && (bif decide (M 18 17 = M 24 i) then false else lp_nr (M 18 17) (M 24) k (i + 1))) = _
          rw [hd]; rfl
        rw [e]
        refine pt_X13_isName_5 g1 (by decide) g2 (by rw [ei]; exact decide_eq_false (fun q => of_decide_eq_false hd (lg0.mp q))) ?_
        rw [ti1]
        exact ih (i + 1) true (by omega)
theorem rsv_c : ∀ j, j < 23 → rsv j = c256 (rw9.getD j []) := by decide +kernel
theorem rw9_ok : ∀ j, j < 23 → (rw9.getD j []).all tx_sm = true ∧ (rw9.getD j []).length ≤ 7 ∧ rw9.getD j [] ∈ rw9 := by decide +kernel
theorem rw9_in {w : List Int32} (h : w ∈ rw9) : ∃ j, j < 23 ∧ rw9.getD j [] = w := by
  obtain ⟨j, hj, e⟩ := List.getElem_of_mem h
  exact ⟨j, hj, by rw [List.getD_eq_getElem?_getD, List.getElem?_eq_getElem hj, e]; rfl⟩
theorem ms_isName (hp : p ≤ n) (E : EncM B n 900 p J M) (hR : ∀ j, j < 23 → M 24 j = rsv j) : fx_X13_isName [.ref 18] (J, M) (some (.int (b2i (lp_isn B n p)))) (J, M) := by
  have e11 : J 18 11 = Int32.ofNat (mK B n 900 p) := E.2.2.2.2.2.1
  obtain ⟨m1, m2, m0, m4, m3⟩ := mK_1 (B := B) (n := n) (lim := 900) (p := p)
  have hb : ∀ b : Bool, xe_rt (some .boolean) (some (.int (b2i b))) := fun b => by
    cases b
    · exact Or.inl rfl
    · exact Or.inr rfl
  cases hk : Nat.beq (tK B n 900 p) 1 with
  | false =>
    have hk1 := nb_ne hk
    have e : lp_isn B n p = (false && lp_nr (M 18 17) (M 24) 23 0) := by unfold lp_isn; rw [hk]; rfl
    rw [e]
    exact mk_X13_isName (hb _) (pt_X13_isName_0 ((cmpN e11 (b := 1) rfl (by omega) (by omega)).trans (decide_eq_true (fun q => hk1 (m1.mp q)))) (ms_nameL 23 0 false rfl))
  | true =>
    have hk1 := Nat.eq_of_beq_eq_true hk
    obtain ⟨w1, w2, w3, w4, w5, w6, w7⟩ := tk_1 (B := B) (lim := 900) hp hk1
    have eW : M 18 17 = m256 (tW B n 900 p) := (E.2.2.2.2.2.2.1 hk1).1
    have e : lp_isn B n p = (true && lp_nr (M 18 17) (M 24) 23 0) := by
      unfold lp_isn
      rw [hk]
      show (true && Nat.beq (kyw (tW B n 900 p)) 0) = (true && lp_nr (M 18 17) (M 24) 23 0)
      rw [Bool.true_and, Bool.true_and, Bool.eq_iff_iff, lp_nr_ok]
      have hne : tW B n 900 p ≠ [] := fun q => by rw [q] at w7; have w7 : 0 = _ := w7; omega
      constructor
      · intro h j h1 h2 q
        have h := (kyw_0 hne).mp (Nat.eq_of_beq_eq_true h)
        have ho := rw9_ok j (by omega)
        rw [eW, hR j (by omega), rsv_c j (by omega)] at q
        rw [m256_inj w2 ho.1 ho.2.1 q] at h
        exact h ho.2.2
      · intro h
        have hn9 : tW B n 900 p ∉ rw9 := fun q => by
          obtain ⟨j, hj, ej⟩ := rw9_in q
          have ho := rw9_ok j hj
          refine h j (Nat.zero_le _) (by omega) ?_
          rw [eW, hR j hj, rsv_c j hj, ej, m256_c]
          rw [← ej]; exact ho.2.1
        rw [(kyw_0 hne).mpr hn9]
        rfl
    rw [e]
    exact mk_X13_isName (hb _) (pt_X13_isName_1 ((cmpN e11 (b := 1) rfl (by omega) (by omega)).trans (decide_eq_false (fun q => q (m1.mpr hk1)))) (ms_nameL 23 0 true rfl))
theorem ms_findL {w : List Int32} (hw : w.all tx_sm = true) (eW : M 18 17 = m256 w) (T : lp_TM st J M) (O : lp_ok st) : ∀ (k i : Nat), i + k = st.1.length → ∃ n9, xr_X13_find n9 (2, [(0, .ref 18), (1, .int (6 : Int32)), (2, .int (J 21 0)), (3, .int (Int32.ofNat i))], [], (J, M)) (some (.int (lp_vi (lp_nf w st.1 k i)))) (J, M) := by
  have hl := O.1
  intro k
  induction k with
  | zero =>
    intro i hi
    exact pt_X13_find_1 ((cmpN rfl T.1 (by omega) (by omega)).trans (decide_eq_true (by omega)))
  | succ k ih =>
    intro i hi
    have h1 : xe_cmp .ge (Int32.ofNat i) (J 21 0) = false := (cmpN rfl T.1 (by omega) (by omega)).trans (decide_eq_false (by omega))
    have e6 : (6 : Int32) + Int32.ofNat i = Int32.ofNat (6 + i) := tadd 6 i
    have h2 : xe_ib ((6 : Int32) + Int32.ofNat i) 12 = true := by rw [e6]; exact xib (by omega) (by omega)
    have e1 : M 23 (((6 : Int32) + Int32.ofNat i).toInt.toNat) = c256 (st.1.getD i []) := by rw [e6, tin (by omega)]; exact T.2.1 i (by omega)
    have o := O.2.1 i (by omega)
    cases hd : decide (st.1.getD i [] = w) with
    | true =>
      have ew := of_decide_eq_true hd
      have e : lp_nf w st.1 (k + 1) i = some i := by unfold lp_nf; rw [hd]; rfl
      rw [e]
      refine pt_X13_find_3 h1 h2 ?_
      rw [e1, eW, ← ew, m256_c o.2, lg0.mpr rfl]
      rfl
    | false =>
      have e : lp_nf w st.1 (k + 1) i = lp_nf w st.1 k (i + 1) := by
        show (bif decide (st.1.getD i [] = w) then some i else lp_nf w st.1 k (i + 1)) = _
        rw [hd]; rfl
      rw [e]
      refine pt_X13_find_2 h1 h2 ?_ ?_
      · rw [e1, eW]
        exact decide_eq_true (fun q => of_decide_eq_false hd (m256_inj hw o.1 o.2 (lg0.mp q).symm).symm)
      · rw [ti1]
        exact ih (i + 1) (by omega)
theorem ms_find (hp : p ≤ n) (hk : tK B n 900 p = 1) (E : EncM B n 900 p J M) (T : lp_TM st J M) (O : lp_ok st) : fx_X13_find [.int (J 21 0), .int 6, .ref 18] (J, M) (some (.int (lp_vi (lp_nf (tW B n 900 p) st.1 st.1.length 0)))) (J, M) := mk_X13_find trivial (pt_X13_find_0 (ms_findL (tW_ok hp).1 (E.2.2.2.2.2.2.1 hk).1 T O st.1.length 0 (Nat.zero_add _)))
theorem ms_looks (hp : p ≤ n) (E : EncM B n 900 p J M) (T : lp_TM st J M) (O : lp_ok st) : (∀ f, lp_nm B n st.1 p = .inl f → ∃ J' : Nat → Nat → Int32, fx_X13_looksAt [.int (J 21 0), .int 6, .ref 18] (J, M) (some (.int 0)) (J', M) ∧ J' 18 15 = f ∧ J' 18 16 = Int32.ofNat (tA B n 900 p)) ∧ (∀ j, lp_nm B n st.1 p = .inr j → j < 6 ∧ fx_X13_looksAt [.int (J 21 0), .int 6, .ref 18] (J, M) (some (.int 1)) (xu J 18 18 (Int32.ofNat j), M)) := by
  have a2 : J 18 12 = Int32.ofNat (tA B n 900 p) := E.2.2.2.1
  have cN := ms_isName hp E T.2.2.2.2.2.2.1
  cases hi : lp_isn B n p with
  | false =>
    have e : lp_nm B n st.1 p = .inl 1 := by unfold lp_nm; rw [hi]; rfl
    rw [e]
    rw [hi] at cN
    refine ⟨fun f h => ?_, fun j h => by cases h⟩
    cases h
    exact ⟨_, mk_X13_looksAt (Or.inl rfl) (pt_X13_looksAt_2 cN (ms_bad 1)), rfl, a2⟩
  | true =>
    rw [hi] at cN
    have hk : tK B n 900 p = 1 := by
      unfold lp_isn at hi
      rw [Bool.and_eq_true] at hi
      exact Nat.eq_of_beq_eq_true hi.1
    have c2 := ms_find hp hk E T O
    cases hf : lp_nf (tW B n 900 p) st.1 st.1.length 0 with
    | none =>
      have e : lp_nm B n st.1 p = .inl 3 := by unfold lp_nm; rw [hi, hf]; rfl
      rw [e]
      rw [hf] at c2
      refine ⟨fun f h => ?_, fun j h => by cases h⟩
      cases h
      exact ⟨_, mk_X13_looksAt (Or.inl rfl) (pt_X13_looksAt_1 cN c2 (by decide) (ms_bad 3)), rfl, a2⟩
    | some j =>
      have e : lp_nm B n st.1 p = .inr j := by unfold lp_nm; rw [hi, hf]; rfl
      have hj := lp_nf_in hf
      have hl := O.1
      rw [e]
      rw [hf] at c2
      refine ⟨fun f h => (by cases h), fun j' h => ?_⟩
      cases h
      exact ⟨by omega, mk_X13_looksAt (Or.inr rfl) (pt_X13_looksAt_0 cN c2 ((cmpN (a := j) rfl (b := 0) rfl (by omega) (by omega)).trans rfl))⟩
theorem ms_take (hn : n ≤ 940) (hB0 : ∀ i, i < 940 → 0 ≤ (B i).toInt) (hp : p ≤ n) (E : EncM B n 900 p J M) (T : lp_TM st J M) (O : lp_ok st) : (∀ f, lp_nm B n st.1 p = .inl f → ∃ (J' : Nat → Nat → Int32) (M' : Nat → Nat → Int64), fx_X13_takesName [.int (J 21 0), .int 6, .ref 18] (J, M) (some (.int 0)) (J', M') ∧ J' 18 15 = f ∧ J' 18 16 = Int32.ofNat (tA B n 900 p)) ∧ (∀ j, lp_nm B n st.1 p = .inr j → ∃ (J' : Nat → Nat → Int32) (M' : Nat → Nat → Int64), j < 6 ∧ fx_X13_takesName [.int (J 21 0), .int 6, .ref 18] (J, M) (some (.int 1)) (J', M') ∧ EncM B n 900 (tN B n 900 p) J' M' ∧ J' 18 18 = Int32.ofNat j ∧ fp lp_S18 J J' ∧ fpl lp_L18 M M') := by
  obtain ⟨s1, s2⟩ := ms_looks hp E T O
  refine ⟨fun f h => ?_, fun j h => ?_⟩
  · obtain ⟨J', c1, q1, q2⟩ := s1 f h
    exact ⟨J', M, mk_X13_takesName (Or.inl rfl) (pt_X13_takesName_1 c1), q1, q2⟩
  · obtain ⟨hj, c1⟩ := s2 j h
    obtain ⟨J', M', c2, E2, F1, F2, e8⟩ := ms_next hn hB0 hp (encM_up (g := 18) (i := 18) (x := Int32.ofNat j) E rfl)
    exact ⟨J', M', hj, mk_X13_takesName (Or.inr rfl) (pt_X13_takesName_0 c1 c2), E2, e8, (fp.rf.up rfl).tr F1, F2⟩
theorem cmp_gt {x y : Int32} : xe_cmp .gt x y = !(xe_cmp .le x y) := by
  rw [xc, xc]
  show decide (y.toInt < x.toInt) = !(decide (x.toInt ≤ y.toInt))
  by_cases h : x.toInt ≤ y.toInt
  · rw [decide_eq_true h, decide_eq_false (by omega)]; rfl
  · rw [decide_eq_false h, decide_eq_true (by omega)]; rfl
theorem ms_num (hn : n ≤ 940) (hB0 : ∀ i, i < 940 → 0 ≤ (B i).toInt) (hp : p ≤ n) (E : EncM B n 900 p J M) (lo hi : Int32) : (∀ f, lp_num B n lo hi p = .inl f → ∃ (J' : Nat → Nat → Int32) (M' : Nat → Nat → Int64), fx_X13_takes [.int hi, .int lo, .ref 18] (J, M) (some (.int 0)) (J', M') ∧ J' 18 15 = f ∧ J' 18 16 = Int32.ofNat (tA B n 900 p)) ∧ (∀ x, lp_num B n lo hi p = .inr x → ∃ (J' : Nat → Nat → Int32) (M' : Nat → Nat → Int64), fx_X13_takes [.int hi, .int lo, .ref 18] (J, M) (some (.int 1)) (J', M') ∧ EncM B n 900 (tN B n 900 p) J' M' ∧ J' 18 18 = x ∧ fp lp_S18 J J' ∧ fpl lp_L18 M M') := by
  have e11 : J 18 11 = Int32.ofNat (mK B n 900 p) := E.2.2.2.2.2.1
  obtain ⟨m1, m2, m0, m4, m3⟩ := mK_1 (B := B) (n := n) (lim := 900) (p := p)
  have a2 : J 18 12 = Int32.ofNat (tA B n 900 p) := E.2.2.2.1
  cases hk : Nat.beq (tK B n 900 p) 2 with
  | false =>
    have hk1 := nb_ne hk
    have e : lp_num B n lo hi p = .inl 1 := by unfold lp_num; rw [hk]; rfl
    rw [e]
    refine ⟨fun f h => ?_, fun j h => by cases h⟩
    cases h
    exact ⟨_, _, mk_X13_takes (Or.inl rfl) (pt_X13_takes_2 ((cmpN e11 (b := 2) rfl (by omega) (by omega)).trans (decide_eq_false (fun q => hk1 (m2.mp q)))) (ms_bad 1)), rfl, a2⟩
  | true =>
    have hk1 := Nat.eq_of_beq_eq_true hk
    have g1 : xe_cmp .eq (J 18 11) (2 : Int32) = true := (cmpN e11 (b := 2) rfl (by omega) (by omega)).trans (decide_eq_true (m2.mpr hk1))
    have eX : J 18 14 = tX B n p := E.2.2.2.2.2.2.2.1 hk1
    cases h1 : xe_cmp .lt (tX B n p) lo with
    | true =>
      have e : lp_num B n lo hi p = .inl 2 := by unfold lp_num; rw [hk, h1]; rfl
      rw [e]
      refine ⟨fun f h => ?_, fun j h => by cases h⟩
      cases h
      exact ⟨_, _, mk_X13_takes (Or.inl rfl) (pt_X13_takes_1 g1 (mk_X13_isIn (Or.inl rfl) (pt_X13_isIn_0 (by rw [eX]; exact h1))) (ms_bad 2)), rfl, a2⟩
    | false =>
      cases h2 : xe_cmp .le (tX B n p) hi with
      | false =>
        have e : lp_num B n lo hi p = .inl 2 := by unfold lp_num; rw [hk, h1, h2]; rfl
        rw [e]
        refine ⟨fun f h => ?_, fun j h => by cases h⟩
        cases h
        exact ⟨_, _, mk_X13_takes (Or.inl rfl) (pt_X13_takes_1 g1 (mk_X13_isIn (Or.inl rfl) (pt_X13_isIn_1 (by rw [eX]; exact h1) (by rw [eX, cmp_gt, h2]; rfl))) (ms_bad 2)), rfl, a2⟩
      | true =>
        have e : lp_num B n lo hi p = .inr (tX B n p) := by unfold lp_num; rw [hk, h1, h2]; rfl
        rw [e]
        refine ⟨fun f h => (by cases h), fun x h => ?_⟩
        cases h
        obtain ⟨J', M', c2, E2, F1, F2, e8⟩ := ms_next hn hB0 hp (encM_up (g := 18) (i := 18) (x := J 18 14) E rfl)
        exact ⟨J', M', mk_X13_takes (Or.inr rfl) (pt_X13_takes_0 g1 (mk_X13_isIn (Or.inr rfl) (pt_X13_isIn_2 (by rw [eX]; exact h1) (by rw [eX, cmp_gt, h2]; rfl))) c2), E2, e8.trans eX, (fp.rf.up rfl).tr F1, F2⟩
theorem ms_sign (hn : n ≤ 940) (hB0 : ∀ i, i < 940 → 0 ≤ (B i).toInt) (hp : p ≤ n) (E : EncM B n 900 p J M) : (lp_sg B n p = false → ∃ (J' : Nat → Nat → Int32) (M' : Nat → Nat → Int64), fx_X13_sign [.int 59, .ref 18] (J, M) (some (.int 0)) (J', M') ∧ J' 18 15 = 1 ∧ J' 18 16 = Int32.ofNat (tA B n 900 p)) ∧ (lp_sg B n p = true → ∃ (J' : Nat → Nat → Int32) (M' : Nat → Nat → Int64), fx_X13_sign [.int 59, .ref 18] (J, M) (some (.int 1)) (J', M') ∧ EncM B n 900 (tN B n 900 p) J' M' ∧ fp lp_S18 J J' ∧ fpl lp_L18 M M') := by
  have e11 : J 18 11 = Int32.ofNat (mK B n 900 p) := E.2.2.2.2.2.1
  obtain ⟨m1, m2, m0, m4, m3⟩ := mK_1 (B := B) (n := n) (lim := 900) (p := p)
  have a2 : J 18 12 = Int32.ofNat (tA B n 900 p) := E.2.2.2.1
  unfold lp_sg
  by_cases hk : mK B n 900 p = 3
  · have hk3 := (m3.mp hk).1
    have g1 : xe_cmp .ne (J 18 11) (3 : Int32) = false := (cmpN e11 (b := 3) rfl (by omega) (by omega)).trans (decide_eq_false (fun q => q hk))
    have e14 : J 18 14 = tS B n 900 p := E.2.2.2.2.2.2.2.2 hk3
    rw [hk3]
    cases hs : decide (tS B n 900 p = 59) with
    | false =>
      refine ⟨fun _ => ?_, fun h => by cases h⟩
      exact ⟨_, _, mk_X13_sign (Or.inl rfl) (pt_X13_sign_1 (mk_X13_isSign (Or.inl rfl) (pt_X13_isSign_1 g1 (by rw [e14]; exact decide_eq_true (of_decide_eq_false hs)))) (ms_bad 1)), rfl, a2⟩
    | true =>
      refine ⟨fun h => (by cases h), fun _ => ?_⟩
      obtain ⟨J', M', c2, E2, F1, F2, -⟩ := ms_next hn hB0 hp E
      exact ⟨J', M', mk_X13_sign (Or.inr rfl) (pt_X13_sign_0 (mk_X13_isSign (Or.inr rfl) (pt_X13_isSign_2 g1 (by rw [e14]; exact decide_eq_false (fun q => q (of_decide_eq_true hs))))) c2), E2, F1, F2⟩
  · have e : (Nat.beq (tK B n 900 p) 3 && decide (tS B n 900 p = 59)) = false := by
      cases hb : Nat.beq (tK B n 900 p) 3 with
      | false => rfl
      | true =>
        show decide (tS B n 900 p = 59) = false
        refine decide_eq_false (fun q => hk (m3.mpr ⟨Nat.eq_of_beq_eq_true hb, ?_⟩))
        rw [q]; decide
    rw [e]
    refine ⟨fun _ => ?_, fun h => by cases h⟩
    exact ⟨_, _, mk_X13_sign (Or.inl rfl) (pt_X13_sign_1 (mk_X13_isSign (Or.inl rfl) (pt_X13_isSign_0 ((cmpN e11 (b := 3) rfl (by omega) (by omega)).trans (decide_eq_true hk)))) (ms_bad 1)), rfl, a2⟩
end ML
