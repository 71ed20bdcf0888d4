/-! ===== tokens of any limit; the men of a town ===== -/
def lv_isn (B : Nat → Int32) (n lim p : Nat) : Bool := Nat.beq (tK B n lim p) 1 && Nat.beq (kyw (tW B n lim p)) 0
def lv_nm (B : Nat → Int32) (n lim : Nat) (nsv : List (List Int32)) (p : Nat) : Int32 ⊕ Nat := bif lv_isn B n lim p then (match lp_nf (tW B n lim p) nsv nsv.length 0 with
  | some j => .inr j
  | none => .inl 3) else .inl 1
def lv_num (B : Nat → Int32) (n lim : Nat) (lo hi : Int32) (p : Nat) : Int32 ⊕ Int32 := bif Nat.beq (tK B n lim p) 2 then (bif xe_cmp .lt (tX B n p) lo then .inl 2 else bif xe_cmp .le (tX B n p) hi then .inr (tX B n p) else .inl 2) else .inl 1
def lv_sg (B : Nat → Int32) (n lim : Nat) (cc : Int32) (p : Nat) : Bool := Nat.beq (tK B n lim p) 3 && decide (tS B n lim p = cc)
def lv_ok (nsv : List (List Int32)) : Prop := nsv.length ≤ 6 ∧ ∀ j, j < nsv.length → (nsv.getD j []).all tx_sm = true ∧ (nsv.getD j []).length ≤ 7
def lv_TC (nsv : List (List Int32)) (I : Nat → Nat → Int32) (L : Nat → Nat → Int64) : Prop := I 64 0 = Int32.ofNat nsv.length ∧ ∀ j, j < nsv.length → L 65 j = c32 (nsv.getD j [])
def lv_TM (nsv : List (List Int32)) (J : Nat → Nat → Int32) (M : Nat → Nat → Int64) : Prop := J 20 0 = Int32.ofNat nsv.length ∧ (∀ j, j < nsv.length → M 23 j = c256 (nsv.getD j [])) ∧ ∀ j, j < 23 → M 24 j = rsv j
section CW
variable {B : Nat → Int32} {n lim p : Nat} {I : Nat → Nat → Int32} {L : Nat → Nat → Int64} {nsv : List (List Int32)}
theorem enwT_up {g i : Nat} {x : Int32} (E : EncT B n lim p I L) (hg : lp_SE g i = false) : EncT B n lim p (xu I g i x) L := by
  obtain ⟨h1, h2, h3, h4, h5, h6, h7, h8, h9⟩ := E
  refine ⟨?_, ?_, ?_, ?_, ?_, ?_, h7, ?_, ?_⟩
  · rw [xu_ne (nbS hg rfl)]; exact h1
  · intro j hj; rw [xu_ne (nbS hg rfl)]; exact h2 j hj
  · rw [xu_ne (nbS hg rfl)]; exact h3
  · rw [xu_ne (nbS hg rfl)]; exact h4
  · rw [xu_ne (nbS hg rfl)]; exact h5
  · rw [xu_ne (nbS hg rfl)]; exact h6
  · intro hk; rw [xu_ne (nbS hg rfl)]; exact h8 hk
  · rw [xu_ne (nbS hg rfl)]; exact h9
theorem enwT_upl {g i : Nat} {x : Int64} (E : EncT B n lim p I L) (hg : Nat.beq 3 g = false) : EncT B n lim p I (xul L g i x) := by
  obtain ⟨h1, h2, h3, h4, h5, h6, h7, h8, h9⟩ := E
  refine ⟨h1, h2, h3, h4, h5, h6, ?_, h8, h9⟩
  rw [xul_ne (by rw [hg]; rfl)]
  exact h7
theorem tcw_fr {I' : Nat → Nat → Int32} {L' : Nat → Nat → Int64} (T : lv_TC nsv I L) (F : fp lp_S3 I I') (F2 : fpl lp_L3 L L') : lv_TC nsv I' L' := ⟨(F 64 0 rfl).trans T.1, fun j hj => (F2 65 j rfl).trans (T.2 j hj)⟩
theorem cw_step (hm : lim ≤ 940) (hn : n ≤ 940) (hp : p ≤ n) (E : EncT B n lim p I L) : ∃ (I' : Nat → Nat → Int32) (L' : Nat → Nat → Int64), fx_X7_step [.ref 3] (I, L) none (I', L') ∧ EncT B n lim (tN B n lim p) I' L' ∧ fp lp_S3 I I' ∧ fpl lp_L3 L L' ∧ I' 3 8 = I 3 8 := by
  obtain ⟨h1, h2, h3, -, h5, -⟩ := E
  obtain ⟨I', L', a, b, c, d⟩ := sp_step (B := B) (n := n) (lim := lim) (p := tN B n lim p) hn hm (tN_le hp).2.1 h1 h2 h3 h5
  exact ⟨I', L', a, b, c.mono (fun g i h => lp_SS h), d.mono (fun g i h => lp_LL h), c 3 8 rfl⟩
theorem cw_find (hp : p ≤ n) (E : EncT B n lim p I L) : fx_X2_find [.long (L 3 5)] (I, L) (some (.ref (200 + kyw (tW B n lim p)))) (I, L) := ⟨_, rfl, rfl, by rw [E.2.2.2.2.2.2.1, ky_w (tW_ok hp).1 (tW_ok hp).2]⟩
theorem cw_key (hp : p ≤ n) (E : EncT B n lim p I L) : fx_X7_key [.ref 3] (I, L) (some (.ref (200 + kyw (tW B n lim p)))) (I, L) := mk_X7_key trivial (pt_X7_key_0 (cw_find hp E))
theorem cw_mn {w : List Int32} (hw : w.all tx_sm = true) (lw : w.length ≤ 12) (T : lv_TC nsv I L) (O : lv_ok nsv) : ∀ (k i : Nat), i + k = nsv.length → ∃ n9, xr_X10_manNamed n9 (2, [(0, .ref 64), (1, .long (c32 w)), (3, .int (Int32.ofNat i))], [], (I, L)) (some (.int (lp_vi (lp_nf w nsv k i)))) (I, L) := by
  have hl := O.1
  intro k
  induction k with
  | zero =>
    intro i hi
    exact pt_X10_manNamed_1 ((cmpN rfl T.1 (by omega) (by omega)).trans (decide_eq_true (by omega)))
  | succ k ih =>
    intro i hi
    have h1 : xe_cmp .ge (Int32.ofNat i) (I 64 0) = false := (cmpN rfl T.1 (by omega) (by omega)).trans (decide_eq_false (by omega))
    have h2 : xe_ib (Int32.ofNat i) 6 = true := xib (by omega) (by omega)
    have e1 : L 65 ((Int32.ofNat i).toInt.toNat) = c32 (nsv.getD i []) := by rw [tin (by omega)]; exact T.2 i (by omega)
    have o := O.2 i (by omega)
    cases hd : decide (nsv.getD i [] = w) with
    | true =>
      have e : lp_nf w nsv (k + 1) i = some i := by unfold lp_nf; rw [hd]; rfl
      rw [e]
      refine pt_X10_manNamed_3 h1 h2 ?_
      rw [e1, of_decide_eq_true hd, lg0.mpr rfl]
      rfl
    | false =>
      have e : lp_nf w nsv (k + 1) i = lp_nf w nsv k (i + 1) := by
        show (bif decide (nsv.getD i [] = w) then some i else lp_nf w nsv k (i + 1)) = _
        rw [hd]; rfl
      rw [e]
      refine pt_X10_manNamed_2 h1 h2 ?_ ?_
      · rw [e1]
        exact decide_eq_true (fun q => of_decide_eq_false hd (c32_inj o.1 hw (by omega) lw (lg0.mp q)))
      · rw [ti1]
        exact ih (i + 1) (by omega)
theorem cw_man0 (hp : p ≤ n) (E : EncT B n lim p I L) (T : lv_TC nsv I L) (O : lv_ok nsv) : fx_X10_manNamed [.long (L 3 5), .ref 64] (I, L) (some (.int (lp_vi (lp_nf (tW B n lim p) nsv nsv.length 0)))) (I, L) := by
  rw [E.2.2.2.2.2.2.1]
  exact mk_X10_manNamed trivial (pt_X10_manNamed_0 (cw_mn (tW_ok hp).1 (tW_ok hp).2 T O nsv.length 0 (Nat.zero_add _)))
theorem cw_sees (hp : p ≤ n) (E : EncT B n lim p I L) (T : lv_TC nsv I L) (O : lv_ok nsv) : (∀ f, lv_nm B n lim nsv p = .inl f → ∃ I' : Nat → Nat → Int32, fx_X7_seesMan [.ref 64, .ref 3] (I, L) (some (.int 0)) (I', L) ∧ I' 3 9 = f ∧ I' 3 10 = Int32.ofNat (tA B n lim p) ∧ ∀ i9, I' 76 i9 = I 76 i9) ∧ (∀ j, lv_nm B n lim nsv p = .inr j → j < 6 ∧ fx_X7_seesMan [.ref 64, .ref 3] (I, L) (some (.int 1)) (xu I 3 8 (Int32.ofNat j), L)) := by
  have e4 : I 3 4 = Int32.ofNat (tK B n lim p) := E.2.2.2.2.2.1
  have hk4 := tK_le (B := B) (n := n) (lim := lim) (p := p)
  have a2 : I 3 2 = Int32.ofNat (tA B n lim p) := E.2.2.2.1
  cases hk : Nat.beq (tK B n lim p) 1 with
  | false =>
    have e : lv_nm B n lim nsv p = .inl 1 := by unfold lv_nm lv_isn; rw [hk]; rfl
    rw [e]
    refine ⟨fun f h => ?_, fun j h => by cases h⟩
    cases h
    exact ⟨_, mk_X7_seesMan (Or.inl rfl) (pt_X7_seesMan_0 ((cmpN e4 (b := 1) rfl (by omega) (by omega)).trans (decide_eq_true (nb_ne hk))) (cs_fail 1)), rfl, a2, fun _ => rfl⟩
  | true =>
    have hk1 := Nat.eq_of_beq_eq_true hk
    have g1 : xe_cmp .ne (I 3 4) (1 : Int32) = false := (cmpN e4 (b := 1) rfl (by omega) (by omega)).trans (decide_eq_false (fun q => q hk1))
    cases hy : Nat.beq (kyw (tW B n lim p)) 0 with
    | false =>
      have e : lv_nm B n lim nsv p = .inl 1 := by unfold lv_nm lv_isn; rw [hk, hy]; rfl
      rw [e]
      refine ⟨fun f h => ?_, fun j h => by cases h⟩
      cases h
      exact ⟨_, mk_X7_seesMan (Or.inl rfl) (pt_X7_seesMan_3 g1 (cw_find hp E) ((nb200 0).trans hy) (cs_fail 1)), rfl, a2, fun _ => rfl⟩
    | true =>
      have c2 := cw_man0 hp E T O
      have g2 : Nat.beq (200 + kyw (tW B n lim p)) 200 = true := (nb200 0).trans hy
      cases hf : lp_nf (tW B n lim p) nsv nsv.length 0 with
      | none =>
        have e : lv_nm B n lim nsv p = .inl 3 := by unfold lv_nm lv_isn; rw [hk, hy, hf]; rfl
        rw [e]
        rw [hf] at c2
        refine ⟨fun f h => ?_, fun j h => by cases h⟩
        cases h
        exact ⟨_, mk_X7_seesMan (Or.inl rfl) (pt_X7_seesMan_2 g1 (cw_find hp E) g2 c2 (by decide) (cs_fail 3)), rfl, a2, fun _ => rfl⟩
      | some j =>
        have e : lv_nm B n lim nsv p = .inr j := by unfold lv_nm lv_isn; rw [hk, hy, hf]; rfl
        have hj := lp_nf_in hf
        have hl := O.1
        rw [e]
        rw [hf] at c2
        refine ⟨fun f h => (by cases h), fun j' h => ?_⟩
        cases h
        refine ⟨by omega, mk_X7_seesMan (Or.inr rfl) (pt_X7_seesMan_1 g1 (cw_find hp E) g2 c2 ?_)⟩
        rw [xc]
        exact decide_eq_true (vi_some (by omega))
theorem cw_take (hm : lim ≤ 940) (hn : n ≤ 940) (hp : p ≤ n) (E : EncT B n lim p I L) (T : lv_TC nsv I L) (O : lv_ok nsv) : (∀ f, lv_nm B n lim nsv p = .inl f → ∃ (I' : Nat → Nat → Int32) (L' : Nat → Nat → Int64), fx_X7_takeMan [.ref 64, .ref 3] (I, L) (some (.int 0)) (I', L') ∧ I' 3 9 = f ∧ I' 3 10 = Int32.ofNat (tA B n lim p) ∧ ∀ i9, I' 76 i9 = I 76 i9) ∧ (∀ j, lv_nm B n lim nsv p = .inr j → ∃ (I' : Nat → Nat → Int32) (L' : Nat → Nat → Int64), j < 6 ∧ fx_X7_takeMan [.ref 64, .ref 3] (I, L) (some (.int 1)) (I', L') ∧ EncT B n lim (tN B n lim p) I' L' ∧ I' 3 8 = Int32.ofNat j ∧ fp lp_S3 I I' ∧ fpl lp_L3 L L') := by
  obtain ⟨s1, s2⟩ := cw_sees hp E T O
  refine ⟨fun f h => ?_, fun j h => ?_⟩
  · obtain ⟨I', c1, q1, q2⟩ := s1 f h
    exact ⟨I', L, mk_X7_takeMan (Or.inl rfl) (pt_X7_takeMan_1 c1), q1, q2⟩
  · obtain ⟨hj, c1⟩ := s2 j h
    obtain ⟨I', L', c2, E2, F1, F2, e8⟩ := cw_step hm hn hp (enwT_up (g := 3) (i := 8) (x := Int32.ofNat j) E rfl)
    exact ⟨I', L', hj, mk_X7_takeMan (Or.inr rfl) (pt_X7_takeMan_0 c1 c2), E2, e8, (fp.rf.up rfl).tr F1, F2⟩
theorem cw_num (hm : lim ≤ 940) (hn : n ≤ 940) (hp : p ≤ n) (E : EncT B n lim p I L) (lo hi : Int32) : (∀ f, lv_num B n lim lo hi p = .inl f → ∃ (I' : Nat → Nat → Int32) (L' : Nat → Nat → Int64), fx_X7_takeNumber [.int hi, .int lo, .ref 3] (I, L) (some (.int 0)) (I', L') ∧ I' 3 9 = f ∧ I' 3 10 = Int32.ofNat (tA B n lim p) ∧ ∀ i9, I' 76 i9 = I 76 i9) ∧ (∀ x, lv_num B n lim lo hi p = .inr x → ∃ (I' : Nat → Nat → Int32) (L' : Nat → Nat → Int64), fx_X7_takeNumber [.int hi, .int lo, .ref 3] (I, L) (some (.int 1)) (I', L') ∧ EncT B n lim (tN B n lim p) I' L' ∧ I' 3 8 = x ∧ fp lp_S3 I I' ∧ fpl lp_L3 L L') := by
  have e4 : I 3 4 = Int32.ofNat (tK B n lim p) := E.2.2.2.2.2.1
  have hk4 := tK_le (B := B) (n := n) (lim := lim) (p := p)
  have a2 : I 3 2 = Int32.ofNat (tA B n lim p) := E.2.2.2.1
  cases hk : Nat.beq (tK B n lim p) 2 with
  | false =>
    have e : lv_num B n lim lo hi p = .inl 1 := by unfold lv_num; rw [hk]; rfl
    rw [e]
    refine ⟨fun f h => ?_, fun j h => by cases h⟩
    cases h
    exact ⟨_, _, mk_X7_takeNumber (Or.inl rfl) (pt_X7_takeNumber_3 ((cmpN e4 (b := 2) rfl (by omega) (by omega)).trans (decide_eq_false (nb_ne hk))) (cs_fail 1)), rfl, a2, fun _ => rfl⟩
  | true =>
    have hk1 := Nat.eq_of_beq_eq_true hk
    have g1 : xe_cmp .eq (I 3 4) (2 : Int32) = true := (cmpN e4 (b := 2) rfl (by omega) (by omega)).trans (decide_eq_true hk1)
    have eX : I 3 6 = tX B n p := E.2.2.2.2.2.2.2.1 hk1
    cases h1 : xe_cmp .lt (tX B n p) lo with
    | true =>
      have e : lv_num B n lim lo hi p = .inl 2 := by unfold lv_num; rw [hk, h1]; rfl
      rw [e]
      refine ⟨fun f h => ?_, fun j h => by cases h⟩
      cases h
      exact ⟨_, _, mk_X7_takeNumber (Or.inl rfl) (pt_X7_takeNumber_0 g1 (by rw [eX]; exact h1) (cs_fail 2)), rfl, a2, fun _ => rfl⟩
    | false =>
      cases h2 : xe_cmp .le (tX B n p) hi with
      | false =>
        have e : lv_num B n lim lo hi p = .inl 2 := by unfold lv_num; rw [hk, h1, h2]; rfl
        rw [e]
        refine ⟨fun f h => ?_, fun j h => by cases h⟩
        cases h
        exact ⟨_, _, mk_X7_takeNumber (Or.inl rfl) (pt_X7_takeNumber_2 g1 (by rw [eX]; exact h1) (by rw [eX]; exact h2) (cs_fail 2)), rfl, a2, fun _ => rfl⟩
      | true =>
        have e : lv_num B n lim lo hi p = .inr (tX B n p) := by unfold lv_num; rw [hk, h1, h2]; rfl
        rw [e]
        refine ⟨fun f h => (by cases h), fun x h => ?_⟩
        cases h
        obtain ⟨I', L', c2, E2, F1, F2, e8⟩ := cw_step hm hn hp (enwT_up (g := 3) (i := 8) (x := I 3 6) E rfl)
        exact ⟨I', L', mk_X7_takeNumber (Or.inr rfl) (pt_X7_takeNumber_1 g1 (by rw [eX]; exact h1) (by rw [eX]; exact h2) c2), E2, e8.trans eX, (fp.rf.up rfl).tr F1, F2⟩
theorem cw_sign {cc : Int32} (hm : lim ≤ 940) (hn : n ≤ 940) (hp : p ≤ n) (E : EncT B n lim p I L) : (lv_sg B n lim cc p = false → ∃ (I' : Nat → Nat → Int32) (L' : Nat → Nat → Int64), fx_X7_takeSign [.int cc, .ref 3] (I, L) (some (.int 0)) (I', L') ∧ I' 3 9 = 1 ∧ I' 3 10 = Int32.ofNat (tA B n lim p) ∧ ∀ i9, I' 76 i9 = I 76 i9) ∧ (lv_sg B n lim cc p = true → ∃ (I' : Nat → Nat → Int32) (L' : Nat → Nat → Int64), fx_X7_takeSign [.int cc, .ref 3] (I, L) (some (.int 1)) (I', L') ∧ EncT B n lim (tN B n lim p) I' L' ∧ fp lp_S3 I I' ∧ fpl lp_L3 L L') := by
  have e4 : I 3 4 = Int32.ofNat (tK B n lim p) := E.2.2.2.2.2.1
  have hk4 := tK_le (B := B) (n := n) (lim := lim) (p := p)
  have a2 : I 3 2 = Int32.ofNat (tA B n lim p) := E.2.2.2.1
  have e7 : I 3 7 = tS B n lim p := E.2.2.2.2.2.2.2.2
  unfold lv_sg
  cases hk : Nat.beq (tK B n lim p) 3 with
  | false =>
    refine ⟨fun _ => ?_, fun h => by cases h⟩
    exact ⟨_, _, mk_X7_takeSign (Or.inl rfl) (pt_X7_takeSign_1 (mk_X7_isSign (Or.inl rfl) (pt_X7_isSign_0 ((cmpN e4 (b := 3) rfl (by omega) (by omega)).trans (decide_eq_true (nb_ne hk))))) (cs_fail 1)), rfl, a2, fun _ => rfl⟩
  | true =>
    have hk1 := Nat.eq_of_beq_eq_true hk
    have g1 : xe_cmp .ne (I 3 4) (3 : Int32) = false := (cmpN e4 (b := 3) rfl (by omega) (by omega)).trans (decide_eq_false (fun q => q hk1))
    cases hs : decide (tS B n lim p = cc) with
    | false =>
      refine ⟨fun _ => ?_, fun h => by cases h⟩
      exact ⟨_, _, mk_X7_takeSign (Or.inl rfl) (pt_X7_takeSign_1 (mk_X7_isSign (Or.inl rfl) (pt_X7_isSign_1 g1 (by rw [e7]; exact decide_eq_true (of_decide_eq_false hs)))) (cs_fail 1)), rfl, a2, fun _ => rfl⟩
    | true =>
      refine ⟨fun h => (by cases h), fun _ => ?_⟩
      obtain ⟨I', L', c2, E2, F1, F2, -⟩ := cw_step hm hn hp E
      exact ⟨I', L', mk_X7_takeSign (Or.inr rfl) (pt_X7_takeSign_0 (mk_X7_isSign (Or.inr rfl) (pt_X7_isSign_2 g1 (by rw [e7]; exact decide_eq_false (fun q => q (of_decide_eq_true hs))))) c2), E2, F1, F2⟩
end CW
