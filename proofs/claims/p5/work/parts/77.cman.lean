/-! ===== the class reads lines ===== -/
def lp_S3 (g i : Nat) : Bool := Nat.beq g 3 && !(Nat.beq i 9)
def lp_L3 (g _ : Nat) : Bool := Nat.beq g 3
def lp_TC (st : lp_st) (I : Nat → Nat → Int32) (L : Nat → Nat → Int64) : Prop := I 64 0 = Int32.ofNat st.1.length ∧ (∀ j, j < st.1.length → L 65 j = c32 (st.1.getD j [])) ∧ I 66 0 = Int32.ofNat st.2.1 ∧ (∀ j, j < 36 → I 73 j = st.2.2.1 j) ∧ I 4 1 = Int32.ofNat st.2.2.2.1 ∧ I 4 2 = b2i st.2.2.2.2
def lp_RC (B : Nat → Int32) (n : Nat) (f : xe_F) (us : List Value) (I : Nat → Nat → Int32) (L : Nat → Nat → Int64) (r : lp_rs) : Prop := match r with
  | .inl q => ∃ (I' : Nat → Nat → Int32) (L' : Nat → Nat → Int64), f us (I, L) (some (.int 0)) (I', L') ∧ I' 3 9 = q.1 ∧ I' 3 10 = Int32.ofNat q.2
  | .inr q => ∃ (I' : Nat → Nat → Int32) (L' : Nat → Nat → Int64), f us (I, L) (some (.int 1)) (I', L') ∧ EncT B n 900 q.1 I' L' ∧ lp_TC q.2 I' L' ∧ I' 4 3 = I 4 3 ∧ I' 3 9 = I 3 9
theorem lp_SS {g i : Nat} (h : lp_S3 g i = false) : SStep g i = false := by
  unfold lp_S3 at h
  unfold SStep
  cases hg : Nat.beq g 3
  · rfl
  · rw [hg, Bool.true_and] at h
    cases h9 : Nat.beq i 9
    · rw [h9] at h; cases h
    · rw [Nat.eq_of_beq_eq_true h9]; rfl
theorem lp_LL {g i : Nat} (h : lp_L3 g i = false) : LRun g i = false := by
  unfold lp_L3 at h
  unfold LRun
  rw [h]; rfl
def lp_SE (g i : Nat) : Bool := Nat.beq g 1 || Nat.beq g 2 || (Nat.beq g 3 && Nat.ble i 7)
theorem nbS {S : Nat → Nat → Bool} {g i a b : Nat} (hg : S g i = false) (ha : S a b = true) : (Nat.beq a g && Nat.beq b i) = false := by
  cases hb : (Nat.beq a g && Nat.beq b i)
  · rfl
  · rw [Bool.and_eq_true] at hb
    rw [Nat.eq_of_beq_eq_true hb.1, Nat.eq_of_beq_eq_true hb.2, hg] at ha
    cases ha
section CL
variable {B : Nat → Int32} {n p : Nat} {I : Nat → Nat → Int32} {L : Nat → Nat → Int64} {st : lp_st}
theorem encT_up {g i : Nat} {x : Int32} (E : EncT B n 900 p I L) (hg : lp_SE g i = false) : EncT B n 900 p (xu I g i x) L := by
  obtain ⟨h1, h2, h3, h4, h5, h6, h7, h8, h9⟩ := E
  refine ⟨?_, ?_, ?_, ?_, ?_, ?_, h7, ?_, ?_⟩
  · rw [xu_ne (nbS hg rfl)]; exact h1
  · intro j hj; rw [xu_ne (nbS hg rfl)]; exact h2 j hj
  · rw [xu_ne (nbS hg rfl)]; exact h3
  · rw [xu_ne (nbS hg rfl)]; exact h4
  · rw [xu_ne (nbS hg rfl)]; exact h5
  · rw [xu_ne (nbS hg rfl)]; exact h6
  · intro hk; rw [xu_ne (nbS hg rfl)]; exact h8 hk
  · rw [xu_ne (nbS hg rfl)]; exact h9
theorem encT_upl {g i : Nat} {x : Int64} (E : EncT B n 900 p I L) (hg : Nat.beq 3 g = false) : EncT B n 900 p I (xul L g i x) := by
  obtain ⟨h1, h2, h3, h4, h5, h6, h7, h8, h9⟩ := E
  refine ⟨h1, h2, h3, h4, h5, h6, ?_, h8, h9⟩
  rw [xul_ne (by rw [hg]; rfl)]
  exact h7
theorem tc_fr {I' : Nat → Nat → Int32} {L' : Nat → Nat → Int64} (T : lp_TC st I L) (F : fp lp_S3 I I') (F2 : fpl lp_L3 L L') : lp_TC st I' L' := by
  obtain ⟨t1, t2, t3, t4, t5, t6⟩ := T
  exact ⟨(F 64 0 rfl).trans t1, fun j hj => (F2 65 j rfl).trans (t2 j hj), (F 66 0 rfl).trans t3, fun j hj => (F 73 j rfl).trans (t4 j hj), (F 4 1 rfl).trans t5, (F 4 2 rfl).trans t6⟩
theorem tc_fq {I' : Nat → Nat → Int32} {L' : Nat → Nat → Int64} (F : fp lp_S3 I I') (F2 : fpl lp_L3 L L') (T : lp_TC st I L) : lp_TC st I' L' := tc_fr T F F2
theorem cs_step (hn : n ≤ 940) (hp : p ≤ n) (E : EncT B n 900 p I L) : ∃ (I' : Nat → Nat → Int32) (L' : Nat → Nat → Int64), fx_X7_step [.ref 3] (I, L) none (I', L') ∧ EncT B n 900 (tN B n 900 p) I' L' ∧ fp lp_S3 I I' ∧ fpl lp_L3 L L' ∧ I' 3 8 = I 3 8 := by
  obtain ⟨h1, h2, h3, -, h5, -⟩ := E
  obtain ⟨I', L', a, b, c, d⟩ := sp_step (B := B) (n := n) (lim := 900) (p := tN B n 900 p) hn (by decide) (tN_le hp).2.1 h1 h2 h3 h5
  exact ⟨I', L', a, b, c.mono (fun g i h => lp_SS h), d.mono (fun g i h => lp_LL h), c 3 8 rfl⟩
theorem cs_fail (f : Int32) : fx_X7_fail [.int f, .ref 3] (I, L) (some (.int 0)) (xu (xu I 3 9 f) 3 10 (I 3 2), L) := mk_X7_fail (Or.inl rfl) pt_X7_fail_0
theorem rc_f {f9 : xe_F} {us : List Value} {I1 : Nat → Nat → Int32} {L1 : Nat → Nat → Int64} {f : Int32} (E1 : EncT B n 900 p I1 L1) (h : f9 us (I, L) (some (.int 0)) (xu (xu I1 3 9 f) 3 10 (I1 3 2), L1)) : lp_RC B n f9 us I L (.inl (f, tA B n 900 p)) := ⟨_, _, h, rfl, E1.2.2.2.1⟩
theorem rc_g {f9 : xe_F} {us : List Value} {I1 : Nat → Nat → Int32} {L1 : Nat → Nat → Int64} {f : Int32} {a : Nat} (h : f9 us (I, L) (some (.int 0)) (I1, L1)) (h1 : I1 3 9 = f) (h2 : I1 3 10 = Int32.ofNat a) : lp_RC B n f9 us I L (.inl (f, a)) := ⟨_, _, h, h1, h2⟩
theorem cs_find (hp : p ≤ n) (E : EncT B n 900 p I L) : fx_X2_find [.long (L 3 5)] (I, L) (some (.ref (200 + kyw (tW B n 900 p)))) (I, L) := ⟨_, rfl, rfl, by rw [E.2.2.2.2.2.2.1, ky_w (tW_ok hp).1 (tW_ok hp).2]⟩
theorem cs_key (hp : p ≤ n) (E : EncT B n 900 p I L) : fx_X7_key [.ref 3] (I, L) (some (.ref (200 + kyw (tW B n 900 p)))) (I, L) := mk_X7_key trivial (pt_X7_key_0 (cs_find hp E))
theorem nb200 {a : Nat} (b : Nat) : Nat.beq (200 + a) (200 + b) = Nat.beq a b := by
  cases hb : Nat.beq a b
  · exact nb_F (fun e => nb_ne hb (by omega))
  · rw [Nat.eq_of_beq_eq_true hb]; exact Nat.beq_refl _
theorem cs_mn {w : List Int32} (hw : w.all tx_sm = true) (lw : w.length ≤ 12) (T : lp_TC st I L) (O : lp_ok st) : ∀ (k i : Nat), i + k = st.1.length → ∃ n9, xr_X10_manNamed n9 (2, [(0, .ref 64), (1, .long (c32 w)), (3, .int (Int32.ofNat i))], [], (I, L)) (some (.int (lp_vi (lp_nf w st.1 k i)))) (I, L) := by
  have hl := O.1
  intro k
  induction k with
  | zero =>
    intro i hi
    exact pt_X10_manNamed_1 ((cmpN rfl T.1 (by omega) (by omega)).trans (decide_eq_true (by omega)))
  | succ k ih =>
    intro i hi
    have h1 : xe_cmp .ge (Int32.ofNat i) (I 64 0) = false := (cmpN rfl T.1 (by omega) (by omega)).trans (decide_eq_false (by omega))
    have h2 : xe_ib (Int32.ofNat i) 6 = true := xib (by omega) (by omega)
    have e1 : L 65 ((Int32.ofNat i).toInt.toNat) = c32 (st.1.getD i []) := by rw [tin (by omega)]; exact T.2.1 i (by omega)
    have o := O.2.1 i (by omega)
    cases hd : decide (st.1.getD i [] = w) with
    | true =>
      have e : lp_nf w st.1 (k + 1) i = some i := by unfold lp_nf; rw [hd]; rfl
      rw [e]
      refine pt_X10_manNamed_3 h1 h2 ?_
      rw [e1, of_decide_eq_true hd, lg0.mpr rfl]
      rfl
    | false =>
      have e : lp_nf w st.1 (k + 1) i = lp_nf w st.1 k (i + 1) := by
        show (bif decide (st.1.getD i [] = w) then some i else lp_nf w st.1 k (i + 1)) = _
        rw [hd]; rfl
      rw [e]
      refine pt_X10_manNamed_2 h1 h2 ?_ ?_
      · rw [e1]
        exact decide_eq_true (fun q => of_decide_eq_false hd (c32_inj o.1 hw (by omega) lw (lg0.mp q)))
      · rw [ti1]
        exact ih (i + 1) (by omega)
theorem cs_man0 (hp : p ≤ n) (E : EncT B n 900 p I L) (T : lp_TC st I L) (O : lp_ok st) : fx_X10_manNamed [.long (L 3 5), .ref 64] (I, L) (some (.int (lp_vi (lp_nf (tW B n 900 p) st.1 st.1.length 0)))) (I, L) := by
  rw [E.2.2.2.2.2.2.1]
  exact mk_X10_manNamed trivial (pt_X10_manNamed_0 (cs_mn (tW_ok hp).1 (tW_ok hp).2 T O st.1.length 0 (Nat.zero_add _)))
theorem vi_some {j : Nat} (h : j < 2147483648) : (Int32.ofNat j).toInt ≠ -1 := by rw [ti h]; omega
theorem cs_sees (hp : p ≤ n) (E : EncT B n 900 p I L) (T : lp_TC st I L) (O : lp_ok st) : (∀ f, lp_nm B n st.1 p = .inl f → ∃ I' : Nat → Nat → Int32, fx_X7_seesMan [.ref 64, .ref 3] (I, L) (some (.int 0)) (I', L) ∧ I' 3 9 = f ∧ I' 3 10 = Int32.ofNat (tA B n 900 p)) ∧ (∀ j, lp_nm B n st.1 p = .inr j → j < 6 ∧ fx_X7_seesMan [.ref 64, .ref 3] (I, L) (some (.int 1)) (xu I 3 8 (Int32.ofNat j), L)) := by
  have e4 : I 3 4 = Int32.ofNat (tK B n 900 p) := E.2.2.2.2.2.1
  have hk4 := tK_le (B := B) (n := n) (lim := 900) (p := p)
  have a2 : I 3 2 = Int32.ofNat (tA B n 900 p) := E.2.2.2.1
  cases hk : Nat.beq (tK B n 900 p) 1 with
  | false =>
    have e : lp_nm B n st.1 p = .inl 1 := by unfold lp_nm lp_isn; rw [hk]; rfl
    rw [e]
    refine ⟨fun f h => ?_, fun j h => by cases h⟩
    cases h
    exact ⟨_, mk_X7_seesMan (Or.inl rfl) (pt_X7_seesMan_0 ((cmpN e4 (b := 1) rfl (by omega) (by omega)).trans (decide_eq_true (nb_ne hk))) (cs_fail 1)), rfl, a2⟩
  | true =>
    have hk1 := Nat.eq_of_beq_eq_true hk
    have g1 : xe_cmp .ne (I 3 4) (1 : Int32) = false := (cmpN e4 (b := 1) rfl (by omega) (by omega)).trans (decide_eq_false (fun q => q hk1))
    cases hy : Nat.beq (kyw (tW B n 900 p)) 0 with
    | false =>
      have e : lp_nm B n st.1 p = .inl 1 := by unfold lp_nm lp_isn; rw [hk, hy]; rfl
      rw [e]
      refine ⟨fun f h => ?_, fun j h => by cases h⟩
      cases h
      exact ⟨_, mk_X7_seesMan (Or.inl rfl) (pt_X7_seesMan_3 g1 (cs_find hp E) ((nb200 0).trans hy) (cs_fail 1)), rfl, a2⟩
    | true =>
      have c2 := cs_man0 hp E T O
      have g2 : Nat.beq (200 + kyw (tW B n 900 p)) 200 = true := (nb200 0).trans hy
      cases hf : lp_nf (tW B n 900 p) st.1 st.1.length 0 with
      | none =>
        have e : lp_nm B n st.1 p = .inl 3 := by unfold lp_nm lp_isn; rw [hk, hy, hf]; rfl
        rw [e]
        rw [hf] at c2
        refine ⟨fun f h => ?_, fun j h => by cases h⟩
        cases h
        exact ⟨_, mk_X7_seesMan (Or.inl rfl) (pt_X7_seesMan_2 g1 (cs_find hp E) g2 c2 (by decide) (cs_fail 3)), rfl, a2⟩
      | some j =>
        have e : lp_nm B n st.1 p = .inr j := by unfold lp_nm lp_isn; rw [hk, hy, hf]; rfl
        have hj := lp_nf_in hf
        have hl := O.1
        rw [e]
        rw [hf] at c2
        refine ⟨fun f h => (by cases h), fun j' h => ?_⟩
        cases h
        refine ⟨by omega, mk_X7_seesMan (Or.inr rfl) (pt_X7_seesMan_1 g1 (cs_find hp E) g2 c2 ?_)⟩
        rw [xc]
        exact decide_eq_true (vi_some (by omega))
theorem cs_take (hn : n ≤ 940) (hp : p ≤ n) (E : EncT B n 900 p I L) (T : lp_TC st I L) (O : lp_ok st) : (∀ f, lp_nm B n st.1 p = .inl f → ∃ (I' : Nat → Nat → Int32) (L' : Nat → Nat → Int64), fx_X7_takeMan [.ref 64, .ref 3] (I, L) (some (.int 0)) (I', L') ∧ I' 3 9 = f ∧ I' 3 10 = Int32.ofNat (tA B n 900 p)) ∧ (∀ j, lp_nm B n st.1 p = .inr j → ∃ (I' : Nat → Nat → Int32) (L' : Nat → Nat → Int64), j < 6 ∧ fx_X7_takeMan [.ref 64, .ref 3] (I, L) (some (.int 1)) (I', L') ∧ EncT B n 900 (tN B n 900 p) I' L' ∧ I' 3 8 = Int32.ofNat j ∧ fp lp_S3 I I' ∧ fpl lp_L3 L L') := by
  obtain ⟨s1, s2⟩ := cs_sees hp E T O
  refine ⟨fun f h => ?_, fun j h => ?_⟩
  · obtain ⟨I', c1, q1, q2⟩ := s1 f h
    exact ⟨I', L, mk_X7_takeMan (Or.inl rfl) (pt_X7_takeMan_1 c1), q1, q2⟩
  · obtain ⟨hj, c1⟩ := s2 j h
    obtain ⟨I', L', c2, E2, F1, F2, e8⟩ := cs_step hn hp (encT_up (g := 3) (i := 8) (x := Int32.ofNat j) E rfl)
    exact ⟨I', L', hj, mk_X7_takeMan (Or.inr rfl) (pt_X7_takeMan_0 c1 c2), E2, e8, (fp.rf.up rfl).tr F1, F2⟩
theorem cs_num (hn : n ≤ 940) (hp : p ≤ n) (E : EncT B n 900 p I L) (lo hi : Int32) : (∀ f, lp_num B n lo hi p = .inl f → ∃ (I' : Nat → Nat → Int32) (L' : Nat → Nat → Int64), fx_X7_takeNumber [.int hi, .int lo, .ref 3] (I, L) (some (.int 0)) (I', L') ∧ I' 3 9 = f ∧ I' 3 10 = Int32.ofNat (tA B n 900 p)) ∧ (∀ x, lp_num B n lo hi p = .inr x → ∃ (I' : Nat → Nat → Int32) (L' : Nat → Nat → Int64), fx_X7_takeNumber [.int hi, .int lo, .ref 3] (I, L) (some (.int 1)) (I', L') ∧ EncT B n 900 (tN B n 900 p) I' L' ∧ I' 3 8 = x ∧ fp lp_S3 I I' ∧ fpl lp_L3 L L') := by
  have e4 : I 3 4 = Int32.ofNat (tK B n 900 p) := E.2.2.2.2.2.1
  have hk4 := tK_le (B := B) (n := n) (lim := 900) (p := p)
  have a2 : I 3 2 = Int32.ofNat (tA B n 900 p) := E.2.2.2.1
  cases hk : Nat.beq (tK B n 900 p) 2 with
  | false =>
    have e : lp_num B n lo hi p = .inl 1 := by unfold lp_num; rw [hk]; rfl
    rw [e]
    refine ⟨fun f h => ?_, fun j h => by cases h⟩
    cases h
    exact ⟨_, _, mk_X7_takeNumber (Or.inl rfl) (pt_X7_takeNumber_3 ((cmpN e4 (b := 2) rfl (by omega) (by omega)).trans (decide_eq_false (nb_ne hk))) (cs_fail 1)), rfl, a2⟩
  | true =>
    have hk1 := Nat.eq_of_beq_eq_true hk
    have g1 : xe_cmp .eq (I 3 4) (2 : Int32) = true := (cmpN e4 (b := 2) rfl (by omega) (by omega)).trans (decide_eq_true hk1)
    have eX : I 3 6 = tX B n p := E.2.2.2.2.2.2.2.1 hk1
    cases h1 : xe_cmp .lt (tX B n p) lo with
    | true =>
      have e : lp_num B n lo hi p = .inl 2 := by unfold lp_num; rw [hk, h1]; rfl
      rw [e]
      refine ⟨fun f h => ?_, fun j h => by cases h⟩
      cases h
      exact ⟨_, _, mk_X7_takeNumber (Or.inl rfl) (pt_X7_takeNumber_0 g1 (by rw [eX]; exact h1) (cs_fail 2)), rfl, a2⟩
    | false =>
      cases h2 : xe_cmp .le (tX B n p) hi with
      | false =>
        have e : lp_num B n lo hi p = .inl 2 := by unfold lp_num; rw [hk, h1, h2]; rfl
        rw [e]
        refine ⟨fun f h => ?_, fun j h => by cases h⟩
        cases h
        exact ⟨_, _, mk_X7_takeNumber (Or.inl rfl) (pt_X7_takeNumber_2 g1 (by rw [eX]; exact h1) (by rw [eX]; exact h2) (cs_fail 2)), rfl, a2⟩
      | true =>
        have e : lp_num B n lo hi p = .inr (tX B n p) := by unfold lp_num; rw [hk, h1, h2]; rfl
        rw [e]
        refine ⟨fun f h => (by cases h), fun x h => ?_⟩
        cases h
        obtain ⟨I', L', c2, E2, F1, F2, e8⟩ := cs_step hn hp (encT_up (g := 3) (i := 8) (x := I 3 6) E rfl)
        exact ⟨I', L', mk_X7_takeNumber (Or.inr rfl) (pt_X7_takeNumber_1 g1 (by rw [eX]; exact h1) (by rw [eX]; exact h2) c2), E2, e8.trans eX, (fp.rf.up rfl).tr F1, F2⟩
theorem cs_sign (hn : n ≤ 940) (hp : p ≤ n) (E : EncT B n 900 p I L) : (lp_sg B n p = false → ∃ (I' : Nat → Nat → Int32) (L' : Nat → Nat → Int64), fx_X7_takeSign [.int 59, .ref 3] (I, L) (some (.int 0)) (I', L') ∧ I' 3 9 = 1 ∧ I' 3 10 = Int32.ofNat (tA B n 900 p)) ∧ (lp_sg B n p = true → ∃ (I' : Nat → Nat → Int32) (L' : Nat → Nat → Int64), fx_X7_takeSign [.int 59, .ref 3] (I, L) (some (.int 1)) (I', L') ∧ EncT B n 900 (tN B n 900 p) I' L' ∧ fp lp_S3 I I' ∧ fpl lp_L3 L L') := by
  have e4 : I 3 4 = Int32.ofNat (tK B n 900 p) := E.2.2.2.2.2.1
  have hk4 := tK_le (B := B) (n := n) (lim := 900) (p := p)
  have a2 : I 3 2 = Int32.ofNat (tA B n 900 p) := E.2.2.2.1
  have e7 : I 3 7 = tS B n 900 p := E.2.2.2.2.2.2.2.2
  unfold lp_sg
  cases hk : Nat.beq (tK B n 900 p) 3 with
  | false =>
    refine ⟨fun _ => ?_, fun h => by cases h⟩
    exact ⟨_, _, mk_X7_takeSign (Or.inl rfl) (pt_X7_takeSign_1 (mk_X7_isSign (Or.inl rfl) (pt_X7_isSign_0 ((cmpN e4 (b := 3) rfl (by omega) (by omega)).trans (decide_eq_true (nb_ne hk))))) (cs_fail 1)), rfl, a2⟩
  | true =>
    have hk1 := Nat.eq_of_beq_eq_true hk
    have g1 : xe_cmp .ne (I 3 4) (3 : Int32) = false := (cmpN e4 (b := 3) rfl (by omega) (by omega)).trans (decide_eq_false (fun q => q hk1))
    cases hs : decide (tS B n 900 p = 59) with
    | false =>
      refine ⟨fun _ => ?_, fun h => by cases h⟩
      exact ⟨_, _, mk_X7_takeSign (Or.inl rfl) (pt_X7_takeSign_1 (mk_X7_isSign (Or.inl rfl) (pt_X7_isSign_1 g1 (by rw [e7]; exact decide_eq_true (of_decide_eq_false hs)))) (cs_fail 1)), rfl, a2⟩
    | true =>
      refine ⟨fun h => (by cases h), fun _ => ?_⟩
      obtain ⟨I', L', c2, E2, F1, F2, -⟩ := cs_step hn hp E
      exact ⟨I', L', mk_X7_takeSign (Or.inr rfl) (pt_X7_takeSign_0 (mk_X7_isSign (Or.inr rfl) (pt_X7_isSign_2 g1 (by rw [e7]; exact decide_eq_false (fun q => q (of_decide_eq_true hs))))) c2), E2, F1, F2⟩
theorem cs_man (hn : n ≤ 940) (hp : p ≤ n) (E : EncT B n 900 p I L) (T : lp_TC st I L) (O : lp_ok st) : lp_RC B n fx_X11_readMan [.ref 64, .ref 4] I L (lp_man B n p st) := by
  have hl := O.1
  cases h6 : Nat.beq st.1.length 6 with
  | true =>
    have e : lp_man B n p st = .inl (4, tA B n 900 p) := by unfold lp_man; rw [h6]; rfl
    have e6 := Nat.eq_of_beq_eq_true h6
    rw [e]
    exact rc_f E (mk_X11_readMan (Or.inl rfl) (pt_X11_readMan_5 ((cmpN T.1 (b := 6) rfl (by omega) (by omega)).trans (decide_eq_false (by omega))) (cs_fail 4)))
  | false =>
    have hne := nb_ne h6
    have g1 : xe_cmp .lt (I 64 0) (6 : Int32) = true := (cmpN T.1 (b := 6) rfl (by omega) (by omega)).trans (decide_eq_true (by omega))
    obtain ⟨I1, L1, c1, E1, F1, F2, -⟩ := cs_step hn hp E
    have T1 := tc_fr T F1 F2
    have hp1 := (tN_le (B := B) (lim := 900) hp).2.1
    generalize hq : tN B n 900 p = p1 at E1 hp1
    have e4 : I1 3 4 = Int32.ofNat (tK B n 900 p1) := E1.2.2.2.2.2.1
    have hk4 := tK_le (B := B) (n := n) (lim := 900) (p := p1)
    cases hk : Nat.beq (tK B n 900 p1) 1 with
    | false =>
      have e : lp_man B n p st = .inl (1, tA B n 900 p1) := by unfold lp_man lp_isn; rw [hq, h6, hk]; rfl
      rw [e]
      exact rc_f E1 (mk_X11_readMan (Or.inl rfl) (pt_X11_readMan_0 g1 c1 ((cmpN e4 (b := 1) rfl (by omega) (by omega)).trans (decide_eq_true (nb_ne hk))) (cs_fail 1)))
    | true =>
      have hk1 := Nat.eq_of_beq_eq_true hk
      have g2 : xe_cmp .ne (I1 3 4) (1 : Int32) = false := (cmpN e4 (b := 1) rfl (by omega) (by omega)).trans (decide_eq_false (fun q => q hk1))
      cases hy : Nat.beq (kyw (tW B n 900 p1)) 0 with
      | false =>
        have e : lp_man B n p st = .inl (1, tA B n 900 p1) := by unfold lp_man lp_isn; rw [hq, h6, hk, hy]; rfl
        rw [e]
        exact rc_f E1 (mk_X11_readMan (Or.inl rfl) (pt_X11_readMan_4 g1 c1 g2 (cs_key hp1 E1) ((nb200 0).trans hy) (cs_fail 1)))
      | true =>
        have g3 : Nat.beq (200 + kyw (tW B n 900 p1)) 200 = true := (nb200 0).trans hy
        obtain ⟨w1, w2, w3, w4, w5, w6, w7⟩ := tk_1 (B := B) (lim := 900) hp1 hk1
        have hlen : fx_X7_length [.ref 3] (I1, L1) (some (.int (Int32.ofNat (tW B n 900 p1).length))) (I1, L1) := by
          have e9 : I1 3 3 - I1 3 2 = Int32.ofNat (tW B n 900 p1).length := by
            rw [E1.2.2.2.2.1, E1.2.2.2.1, tsub (by omega) (by omega), w7]
          rw [← e9]
          exact mk_X7_length trivial pt_X7_length_0
        cases h7 : Nat.blt 7 (tW B n 900 p1).length with
        | true =>
          have e : lp_man B n p st = .inl (3, tA B n 900 p1) := by unfold lp_man lp_isn; rw [hq, h6, hk, hy, h7]; rfl
          have h7' := zf_blt h7
          rw [e]
          exact rc_f E1 (mk_X11_readMan (Or.inl rfl) (pt_X11_readMan_1 g1 c1 g2 (cs_key hp1 E1) g3 hlen ((cmpN rfl (b := 7) rfl (by omega) (by omega)).trans (decide_eq_true h7')) (cs_fail 3)))
        | false =>
          have h7' : ¬ 7 < (tW B n 900 p1).length := fun q => by rw [zf_blt' q] at h7; cases h7
          have g4 : xe_cmp .gt (Int32.ofNat (tW B n 900 p1).length) (7 : Int32) = false := (cmpN rfl (b := 7) rfl (by omega) (by omega)).trans (decide_eq_false h7')
          have c4 := cs_man0 hp1 E1 T1 O
          cases hf : lp_nf (tW B n 900 p1) st.1 st.1.length 0 with
          | some j =>
            have e : lp_man B n p st = .inl (3, tA B n 900 p1) := by unfold lp_man lp_isn; rw [hq, h6, hk, hy, h7, hf]; rfl
            have hj := lp_nf_in hf
            rw [e]
            rw [hf] at c4
            refine rc_f E1 (mk_X11_readMan (Or.inl rfl) (pt_X11_readMan_3 g1 c1 g2 (cs_key hp1 E1) g3 hlen g4 c4 ?_ (cs_fail 3)))
            rw [xc]
            exact decide_eq_false (vi_some (by omega))
          | none =>
            have e : lp_man B n p st = .inr (tN B n 900 p1, (st.1 ++ [tW B n 900 p1], st.2)) := by unfold lp_man lp_isn; rw [hq, h6, hk, hy, h7, hf]; rfl
            rw [e]
            rw [hf] at c4
            have i0 : I1 64 0 = Int32.ofNat st.1.length := T1.1
            have ix : (I1 64 0).toInt.toNat = st.1.length := by rw [i0]; exact tin (by omega)
            have c5 : fx_X10_addMan [.long (L1 3 5), .ref 64] (I1, L1) none (xu I1 64 0 (I1 64 0 + 1), xul L1 65 ((I1 64 0).toInt.toNat) (L1 3 5)) := mk_X10_addMan trivial (pt_X10_addMan_1 ((cmpN i0 (b := 6) rfl (by omega) (by omega)).trans (decide_eq_false (by omega))) (by rw [i0]; exact xib (by omega) (by omega)))
            obtain ⟨I6, L6, c6, E6, G1, G2, -⟩ := cs_step hn hp1 (encT_upl (g := 65) (i := (I1 64 0).toInt.toNat) (x := L1 3 5) (encT_up (g := 64) (i := 0) (x := I1 64 0 + 1) E1 rfl) rfl)
            refine ⟨I6, L6, mk_X11_readMan (Or.inr rfl) (pt_X11_readMan_2 g1 c1 g2 (cs_key hp1 E1) g3 hlen g4 c4 (by decide) c5 c6), E6, tc_fq G1 G2 ⟨?_, ?_, T1.2.2.1, T1.2.2.2.1, T1.2.2.2.2.1, T1.2.2.2.2.2⟩, (G1 4 3 rfl).trans (F1 4 3 rfl), (G1 3 9 rfl).trans (F1 3 9 rfl)⟩
            · show I1 64 0 + 1 = Int32.ofNat (st.1 ++ [tW B n 900 p1]).length
              rw [lp_gln, i0]
              exact ti1 _
            · intro j hj
              have hj : j < (st.1 ++ [tW B n 900 p1]).length := hj
              rw [lp_gln] at hj
              rw [ix]
              show xul L1 65 st.1.length (L1 3 5) 65 j = c32 ((st.1 ++ [tW B n 900 p1]).getD j [])
              by_cases e9 : j < st.1.length
              · rw [lp_gl e9, xul_ne (by rw [nb_F (a := j) (b := st.1.length) (by omega)]; rfl)]
                exact T1.2.1 j e9
              · have e9 : j = st.1.length := by omega
                rw [e9, lp_gr, xul_eq]
                exact E1.2.2.2.2.2.2.1
end CL
