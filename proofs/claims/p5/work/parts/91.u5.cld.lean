/-! ===== the class reads a LEDGER ===== -/
theorem kf0_no : ∀ k_z, k_z < 24 → (k_z < 5 ∨ 13 ≤ k_z) → (zkF.getD 0 ("", "", "", [])).2.2.2.getD k_z 0 = Int32.ofInt (-1) := by decide +kernel
theorem kf0_ne : ∀ k_z, k_z < 13 → 5 ≤ k_z → xe_cmp .eq ((zkF.getD 0 ("", "", "", [])).2.2.2.getD k_z 0) (Int32.ofInt (-1)) = false := by decide +kernel
theorem kf1_hi : ∀ k_z, k_z < 13 → 5 ≤ k_z → k_z ≠ 11 → (zkF.getD 1 ("", "", "", [])).2.2.2.getD k_z 0 = ld_hi k_z := by decide +kernel
theorem kf2_h2 : ∀ k_z, k_z < 13 → (k_z = 6 ∨ k_z = 7 ∨ k_z = 10) → (zkF.getD 2 ("", "", "", [])).2.2.2.getD k_z 0 = ld_h2 k_z := by decide +kernel
theorem kf2_no : ∀ k_z, k_z < 13 → (k_z = 5 ∨ k_z = 8 ∨ k_z = 9 ∨ k_z = 12) → (zkF.getD 2 ("", "", "", [])).2.2.2.getD k_z 0 = Int32.ofInt (-1) := by decide +kernel
section CLD
variable {B : Nat → Int32} {n p c : Nat} {I : Nat → Nat → Int32} {L : Nat → Nat → Int64} {nsv : List (List Int32)}
/-- the class's world ahead of a token of a LEDGER -/
def ld_E (B : Nat → Int32) (n : Nat) (nsv : List (List Int32)) (p c : Nat) (I : Nat → Nat → Int32) (L : Nat → Nat → Int64) : Prop := EncT B n 400 p I L ∧ lv_TC nsv I L ∧ I 5 4 = Int32.ofNat c ∧ I 3 9 = 0
theorem ld_mv {p' : Nat} {I' : Nat → Nat → Int32} {L' : Nat → Nat → Int64} (E2 : EncT B n 400 p' I' L') (F : fp lp_S3 I I') (F2 : fpl lp_L3 L L') (E : ld_E B n nsv p c I L) : ld_E B n nsv p' c I' L' := ⟨E2, tcw_fr E.2.1 F F2, (F 5 4 rfl).trans E.2.2.1, (F 3 9 rfl).trans E.2.2.2⟩
theorem ld_up {g i : Nat} {x : Int32} (hg : Nat.ble 6 g = true) (hg2 : Nat.ble g 9 = true) (E : ld_E B n nsv p c I L) : ld_E B n nsv p c (xu I g i x) L := by
  have g1 := Nat.le_of_ble_eq_true hg
  have g2 := Nat.le_of_ble_eq_true hg2
  have ne : ∀ (a i9 : Nat), a ≠ g → xu I g i x a i9 = I a i9 := fun a i9 h => xu_ne (by rw [nb_F h]; rfl)
  have hs : lp_SE g i = false := by
    unfold lp_SE
    rw [nb_F (a := g) (b := 1) (by omega), nb_F (a := g) (b := 2) (by omega), nb_F (a := g) (b := 3) (by omega)]
    rfl
  exact ⟨enwT_up E.1 hs, ⟨(ne 64 0 (by omega)).trans E.2.1.1, E.2.1.2⟩, (ne 5 4 (by omega)).trans E.2.2.1, (ne 3 9 (by omega)).trans E.2.2.2⟩
theorem ld_inc (E : ld_E B n nsv p c I L) : ld_E B n nsv p (c + 1) (xu I 5 4 (I 5 4 + 1)) L := ⟨enwT_up E.1 rfl, ⟨E.2.1.1, E.2.1.2⟩, (show I 5 4 + 1 = Int32.ofNat (c + 1) by rw [E.2.2.1]; exact ti1 _), E.2.2.2⟩
theorem ld_ib (hc : c < 40) (E : ld_E B n nsv p c I L) : xe_ib (I 5 4) 40 = true := by rw [E.2.2.1]; exact xib hc (by decide)
/-- a fault, or behind the piece -/
def ld_R (B : Nat → Int32) (n : Nat) (nsv : List (List Int32)) (c : Nat) (f : xe_F) (us : List Value) (I : Nat → Nat → Int32) (L : Nat → Nat → Int64) (r : ld_rs) : Prop := match r with
  | .inl x => ∃ (I' : Nat → Nat → Int32) (L' : Nat → Nat → Int64), f us (I, L) (some (.int 0)) (I', L') ∧ I' 3 9 = x
  | .inr q => ∃ (I' : Nat → Nat → Int32) (L' : Nat → Nat → Int64), f us (I, L) (some (.int 1)) (I', L') ∧ ld_E B n nsv q (c + 1) I' L'
theorem cl_rest (hn : n ≤ 940) (hp : p ≤ n) (O : lv_ok nsv) {k_z : Nat} (h5 : 5 ≤ k_z) (h12 : k_z ≤ 12) (hc : c < 40) (E : ld_E B n nsv p c I L) : ld_R B n nsv c fx_X4_readRest [.ref (200 + k_z), .ref 64, .ref 3, .ref 5] I L (ld_1 B n nsv k_z p) := by
  by_cases h11 : k_z = 11
  · subst h11
    exact ⟨_, _, mk_X4_readRest (Or.inr rfl) (pt_X4_readRest_8 (kf_of (by decide) rfl) (by decide +kernel) (kf_of (by decide) rfl) (by decide +kernel) rfl), ld_inc E⟩
  · have hb11 : Nat.beq k_z 11 = false := nb_F h11
    have f1 := kf1_hi k_z (by omega) h5 h11
    have g1 := ld_hi_ne k_z
    obtain ⟨u1, u2⟩ := cw_num (lim := 400) (by decide) hn hp E.1 0 (ld_hi k_z)
    cases hx : lv_num B n 400 0 (ld_hi k_z) p with
    | inl f =>
      have e : ld_1 B n nsv k_z p = .inl f := by unfold ld_1; rw [hb11, hx]; rfl
      rw [e]
      obtain ⟨I', L', c1, q1, -⟩ := u1 f hx
      exact ⟨I', L', mk_X4_readRest (Or.inl rfl) (pt_X4_readRest_18 (kf_of (by omega) f1) g1 (kf_of (by omega) f1) c1), q1⟩
    | inr x =>
      obtain ⟨I3, L3, c3, E3, x8, F1, F2⟩ := u2 x hx
      have D3 := ld_mv E3 F1 F2 E
      have ib := ld_ib hc D3
      have D4 : ld_E B n nsv (tN B n 400 p) c (xu I3 8 ((I3 5 4).toInt.toNat) (I3 3 8)) L3 := ld_up rfl rfl D3
      have n1 := (tN_le (B := B) (lim := 400) hp).2.1
      have e : ld_1 B n nsv k_z p = (bif Nat.beq k_z 8 || Nat.beq k_z 9 || Nat.beq k_z 12 then .inr (tN B n 400 p) else ld_2 B n nsv k_z (tN B n 400 p)) := by unfold ld_1; rw [hb11, hx]; rfl
      rw [e]
      by_cases h3 : k_z = 8 ∨ k_z = 9 ∨ k_z = 12
      · have e8 : (Nat.beq k_z 8 || Nat.beq k_z 9 || Nat.beq k_z 12) = true := by rcases h3 with h | h | h <;> rw [h] <;> rfl
        rw [e8]
        exact ⟨_, _, mk_X4_readRest (Or.inr rfl) (pt_X4_readRest_17 (kf_of (by omega) f1) g1 (kf_of (by omega) f1) c3 ib (kf_of (by omega) (kf2_no k_z (by omega) (by omega))) (by decide) ((nb200 5).trans (nb_F (by omega)))), ld_inc D4⟩
      · have e8 : (Nat.beq k_z 8 || Nat.beq k_z 9 || Nat.beq k_z 12) = false := by rw [nb_F (a := k_z) (b := 8) (by omega), nb_F (a := k_z) (b := 9) (by omega), nb_F (a := k_z) (b := 12) (by omega)]; rfl
        rw [e8]
        show ld_R B n nsv c fx_X4_readRest [.ref (200 + k_z), .ref 64, .ref 3, .ref 5] I L (ld_2 B n nsv k_z (tN B n 400 p))
        by_cases h5' : k_z = 5
        · have b5 : Nat.beq (200 + k_z) 205 = true := by rw [h5']; rfl
          have e5 : Nat.beq k_z 5 = true := by rw [h5']; rfl
          obtain ⟨t1, t2⟩ := cw_take (by decide) hn n1 D4.1 D4.2.1 O
          cases hm : lv_nm B n 400 nsv (tN B n 400 p) with
          | inl f =>
            have e : ld_2 B n nsv k_z (tN B n 400 p) = .inl f := by unfold ld_2; rw [e5, hm]; rfl
            rw [e]
            obtain ⟨I5, L5, c5, q1, -⟩ := t1 f hm
            exact ⟨I5, L5, mk_X4_readRest (Or.inl rfl) (pt_X4_readRest_14 (kf_of (by omega) f1) g1 (kf_of (by omega) f1) c3 ib (kf_of (by omega) (kf2_no k_z (by omega) (by omega))) (by decide) b5 b5 c5), q1⟩
          | inr j =>
            have e : ld_2 B n nsv k_z (tN B n 400 p) = .inr (tN B n 400 (tN B n 400 p)) := by unfold ld_2; rw [e5, hm]; rfl
            rw [e]
            obtain ⟨I5, L5, hj, c5, E5, e8, G1, G2⟩ := t2 j hm
            have D5 := ld_mv E5 G1 G2 D4
            exact ⟨_, _, mk_X4_readRest (Or.inr rfl) (pt_X4_readRest_13 (kf_of (by omega) f1) g1 (kf_of (by omega) f1) c3 ib (kf_of (by omega) (kf2_no k_z (by omega) (by omega))) (by decide) b5 b5 c5 (ld_ib hc D5)), ld_inc (I := xu I5 9 ((I5 5 4).toInt.toNat) (I5 3 8)) (ld_up rfl rfl D5)⟩
        · have e5 : Nat.beq k_z 5 = false := nb_F h5'
          have b5 : Nat.beq (200 + k_z) 205 = false := (nb200 5).trans e5
          have f2 := kf2_h2 k_z (by omega) (by omega)
          have g2 := ld_h2_ne k_z
          obtain ⟨v1, v2⟩ := cw_num (lim := 400) (by decide) hn n1 D4.1 0 (ld_h2 k_z)
          cases hy : lv_num B n 400 0 (ld_h2 k_z) (tN B n 400 p) with
          | inl f =>
            have e : ld_2 B n nsv k_z (tN B n 400 p) = .inl f := by unfold ld_2; rw [e5, hy]; rfl
            rw [e]
            obtain ⟨I6, L6, c6, q1, -⟩ := v1 f hy
            exact ⟨I6, L6, mk_X4_readRest (Or.inl rfl) (pt_X4_readRest_12 (kf_of (by omega) f1) g1 (kf_of (by omega) f1) c3 ib (kf_of (by omega) f2) g2 b5 (kf_of (by omega) f2) c6), q1⟩
          | inr y =>
            have e : ld_2 B n nsv k_z (tN B n 400 p) = .inr (tN B n 400 (tN B n 400 p)) := by unfold ld_2; rw [e5, hy]; rfl
            rw [e]
            obtain ⟨I6, L6, c6, E6, y8, G1, G2⟩ := v2 y hy
            have D6 := ld_mv E6 G1 G2 D4
            exact ⟨_, _, mk_X4_readRest (Or.inr rfl) (pt_X4_readRest_11 (kf_of (by omega) f1) g1 (kf_of (by omega) f1) c3 ib (kf_of (by omega) f2) g2 b5 (kf_of (by omega) f2) c6 (ld_ib hc D6)), ld_inc (I := xu I6 9 ((I6 5 4).toInt.toNat) (I6 3 8)) (ld_up rfl rfl D6)⟩
theorem cl_needs (k_z : Nat) : fx_X2_needsMan [.ref (200 + k_z)] (I, L) (some (.int (b2i (Nat.beq k_z 5 || Nat.beq k_z 8)))) (I, L) := by
  cases h1 : Nat.beq k_z 5 with
  | true => exact mk_X2_needsMan (xk200 k_z) (Or.inr rfl) (pt_X2_needsMan_0 ((nb200 5).trans h1))
  | false =>
    cases h2 : Nat.beq k_z 8 with
    | true => exact mk_X2_needsMan (xk200 k_z) (Or.inr rfl) (pt_X2_needsMan_1 ((nb200 5).trans h1) ((nb200 8).trans h2))
    | false => exact mk_X2_needsMan (xk200 k_z) (Or.inl rfl) (pt_X2_needsMan_2 ((nb200 5).trans h1) ((nb200 8).trans h2))
theorem cl_nT {k_z : Nat} (h : (Nat.beq k_z 5 || Nat.beq k_z 8) = true) : fx_X2_needsMan [.ref (200 + k_z)] (I, L) (some (.int 1)) (I, L) := by
  have q := cl_needs (I := I) (L := L) k_z
  rw [h] at q
  exact q
theorem cl_nF {k_z : Nat} (h : (Nat.beq k_z 5 || Nat.beq k_z 8) = false) : fx_X2_needsMan [.ref (200 + k_z)] (I, L) (some (.int 0)) (I, L) := by
  have q := cl_needs (I := I) (L := L) k_z
  rw [h] at q
  exact q
theorem cl_line (hn : n ≤ 940) (hp : p ≤ n) (O : lv_ok nsv) (hc : c ≤ 40) (E : ld_E B n nsv p c I L) : ld_R B n nsv c fx_X4_readLine [.ref 64, .ref 3, .ref 5] I L (ld_line B n nsv p c) := by
  have ck := cw_key hp E.1
  have klt := kyw_lt (B := B) (n := n) (lim := 400) hp
  have n1 := (tN_le (B := B) (lim := 400) hp).2.1
  have ilt : ∀ {J : Nat → Nat → Int32}, J 5 4 = Int32.ofNat c → xe_cmp .lt (J 5 4) (40 : Int32) = Nat.blt c 40 := fun {J} h => by
    refine (cmpN h (b := 40) rfl (by omega) (by omega)).trans ?_
    show decide (c < 40) = _
    cases hb : Nat.blt c 40 with
    | true => exact decide_eq_true (zf_blt hb)
    | false => exact decide_eq_false (fun q => by rw [zf_blt' q] at hb; cases hb)
  have h4e : Nat.beq c 40 = false → c < 40 := fun h => by have := nb_ne h; omega
  cases h0 : Nat.beq (kyw (tW B n 400 p)) 0 with
  | true =>
    have b0 : Nat.beq (200 + kyw (tW B n 400 p)) 200 = true := (nb200 0).trans h0
    obtain ⟨s1, s2⟩ := cw_sees hp E.1 E.2.1 O
    cases hm : lv_nm B n 400 nsv p with
    | inl f =>
      have e : ld_line B n nsv p c = .inl f := by unfold ld_line; rw [h0, hm]; rfl
      rw [e]
      obtain ⟨I2, c2, q1, -⟩ := s1 f hm
      exact ⟨I2, L, mk_X4_readLine (Or.inl rfl) (pt_X4_readLine_6 ck b0 c2), q1⟩
    | inr j =>
      obtain ⟨hj, c2⟩ := s2 j hm
      have D2 : ld_E B n nsv p c (xu I 3 8 (Int32.ofNat j)) L := ⟨enwT_up E.1 rfl, ⟨E.2.1.1, E.2.1.2⟩, E.2.2.1, E.2.2.2⟩
      have e : ld_line B n nsv p c = (bif Nat.beq c 40 then .inl 4 else ld_man B n nsv (tN B n 400 p)) := by unfold ld_line; rw [h0, hm]; rfl
      rw [e]
      cases h4 : Nat.beq c 40 with
      | true =>
        have e40 := Nat.eq_of_beq_eq_true h4
        exact ⟨_, _, mk_X4_readLine (Or.inl rfl) (pt_X4_readLine_5 ck b0 c2 ((ilt D2.2.2.1).trans (by rw [e40]; rfl)) (cs_fail 4)), rfl⟩
      | false =>
        have hc' := h4e h4
        have hlt := (ilt D2.2.2.1).trans (zf_blt' hc')
        show ld_R B n nsv c fx_X4_readLine [.ref 64, .ref 3, .ref 5] I L (ld_man B n nsv (tN B n 400 p))
        obtain ⟨I3, L3, c3, E3, F1, F2, -⟩ := cw_step (by decide) hn hp D2.1
        have D3 := ld_mv E3 F1 F2 D2
        have gne : xe_cmp .eq (xu I 3 8 (Int32.ofNat j) 3 8) (Int32.ofInt (-1)) = false := by
          rw [xu_eq, xc]
          refine decide_eq_false (fun q => ?_)
          have e1 : (Int32.ofNat j).toInt = (j : Int) := ti (by omega)
          have e2 : (Int32.ofInt (-1)).toInt = -1 := by decide
          rw [e1, e2] at q
          omega
        have ck2 := cw_key n1 D3.1
        have klt2 := kyw_lt (B := B) (n := n) (lim := 400) n1
        have n2 := (tN_le (B := B) (lim := 400) n1).2.1
        cases h8 : (Nat.beq (kyw (tW B n 400 (tN B n 400 p))) 5 || Nat.beq (kyw (tW B n 400 (tN B n 400 p))) 8) with
        | false =>
          have e : ld_man B n nsv (tN B n 400 p) = .inl 1 := by unfold ld_man; rw [h8]; rfl
          rw [e]
          exact ⟨_, _, mk_X4_readLine (Or.inl rfl) (pt_X4_readLine_4 ck b0 c2 hlt c3 gne ck2 (cl_nF h8) (cs_fail 1)), rfl⟩
        | true =>
          have e : ld_man B n nsv (tN B n 400 p) = ld_1 B n nsv (kyw (tW B n 400 (tN B n 400 p))) (tN B n 400 (tN B n 400 p)) := by unfold ld_man; rw [h8]; rfl
          rw [e]
          obtain ⟨I6, L6, c6, E6, G1, G2, -⟩ := cw_step (by decide) hn n1 D3.1
          have D6 := ld_mv E6 G1 G2 D3
          have hk : 5 ≤ kyw (tW B n 400 (tN B n 400 p)) ∧ kyw (tW B n 400 (tN B n 400 p)) ≤ 12 := by
            rw [Bool.or_eq_true] at h8
            rcases h8 with h | h <;> (have := Nat.eq_of_beq_eq_true h; omega)
          have D7 : ld_E B n nsv (tN B n 400 (tN B n 400 p)) c (xu I6 7 ((I6 5 4).toInt.toNat) (xu I 3 8 (Int32.ofNat j) 3 8)) L6 := ld_up rfl rfl D6
          have ib := ld_ib hc' D6
          have hr := cl_rest hn n2 O hk.1 hk.2 hc' D7
          cases hx : ld_1 B n nsv (kyw (tW B n 400 (tN B n 400 p))) (tN B n 400 (tN B n 400 p)) with
          | inl f =>
            rw [hx] at hr
            obtain ⟨I7, L7, c7, q1⟩ := hr
            exact ⟨I7, L7, mk_X4_readLine (Or.inl rfl) (pt_X4_readLine_3 ck b0 c2 hlt c3 gne ck2 (cl_nT h8) c6 (by rw [ib, xk200]; rfl) ib c7), q1⟩
          | inr q =>
            rw [hx] at hr
            obtain ⟨I7, L7, c7, q1⟩ := hr
            exact ⟨I7, L7, mk_X4_readLine (Or.inr rfl) (pt_X4_readLine_2 ck b0 c2 hlt c3 gne ck2 (cl_nT h8) c6 (by rw [ib, xk200]; rfl) ib c7), q1⟩
  | false =>
    have b0 : Nat.beq (200 + kyw (tW B n 400 p)) 200 = false := (nb200 0).trans h0
    have e : ld_line B n nsv p c = (bif ld_dd (kyw (tW B n 400 p)) then (bif Nat.beq c 40 then .inl 4 else ld_1 B n nsv (kyw (tW B n 400 p)) (tN B n 400 p)) else .inl 1) := by unfold ld_line; rw [h0]; rfl
    rw [e]
    cases hd : ld_dd (kyw (tW B n 400 p)) with
    | false =>
      have hnd : ¬ (kyw (tW B n 400 p) = 6 ∨ kyw (tW B n 400 p) = 7 ∨ kyw (tW B n 400 p) = 9 ∨ kyw (tW B n 400 p) = 10 ∨ kyw (tW B n 400 p) = 11 ∨ kyw (tW B n 400 p) = 12) := fun q => by rw [ld_dd_iff.mpr q] at hd; cases hd
      by_cases h58 : kyw (tW B n 400 p) = 5 ∨ kyw (tW B n 400 p) = 8
      · have h8 : (Nat.beq (kyw (tW B n 400 p)) 5 || Nat.beq (kyw (tW B n 400 p)) 8) = true := by rcases h58 with h | h <;> rw [h] <;> rfl
        exact ⟨_, _, mk_X4_readLine (Or.inl rfl) (pt_X4_readLine_8 ck b0 (kf_of klt rfl) (kf0_ne _ (by omega) (by omega)) (cl_nT h8) (cs_fail 1)), rfl⟩
      · exact ⟨_, _, mk_X4_readLine (Or.inl rfl) (pt_X4_readLine_7 ck b0 (kf_of klt (kf0_no _ klt (by omega))) (by decide) (cs_fail 1)), rfl⟩
    | true =>
      have hk := ld_dd_iff.mp hd
      have h8 : (Nat.beq (kyw (tW B n 400 p)) 5 || Nat.beq (kyw (tW B n 400 p)) 8) = false := by rw [nb_F (a := kyw (tW B n 400 p)) (b := 5) (by omega), nb_F (a := kyw (tW B n 400 p)) (b := 8) (by omega)]; rfl
      have ck0 := kf0_ne (kyw (tW B n 400 p)) (by omega) (by omega)
      cases h4 : Nat.beq c 40 with
      | true =>
        have e40 := Nat.eq_of_beq_eq_true h4
        exact ⟨_, _, mk_X4_readLine (Or.inl rfl) (pt_X4_readLine_11 ck b0 (kf_of klt rfl) ck0 (cl_nF h8) ((ilt E.2.2.1).trans (by rw [e40]; rfl)) (cs_fail 4)), rfl⟩
      | false =>
        have hc' := h4e h4
        have hlt := (ilt E.2.2.1).trans (zf_blt' hc')
        show ld_R B n nsv c fx_X4_readLine [.ref 64, .ref 3, .ref 5] I L (ld_1 B n nsv (kyw (tW B n 400 p)) (tN B n 400 p))
        obtain ⟨I4, L4, c4, E4, F1, F2, -⟩ := cw_step (by decide) hn hp E.1
        have D4 := ld_mv E4 F1 F2 E
        have D5 : ld_E B n nsv (tN B n 400 p) c (xu I4 7 ((I4 5 4).toInt.toNat) (Int32.ofInt (-1))) L4 := ld_up rfl rfl D4
        have ib := ld_ib hc' D4
        have hr := cl_rest (k_z := kyw (tW B n 400 p)) hn n1 O (by omega) (by omega) hc' D5
        cases hx : ld_1 B n nsv (kyw (tW B n 400 p)) (tN B n 400 p) with
        | inl f =>
          rw [hx] at hr
          obtain ⟨I7, L7, c7, q1⟩ := hr
          exact ⟨I7, L7, mk_X4_readLine (Or.inl rfl) (pt_X4_readLine_10 ck b0 (kf_of klt rfl) ck0 (cl_nF h8) hlt c4 (by rw [ib, xk200]; rfl) ib c7), q1⟩
        | inr q =>
          rw [hx] at hr
          obtain ⟨I7, L7, c7, q1⟩ := hr
          exact ⟨I7, L7, mk_X4_readLine (Or.inr rfl) (pt_X4_readLine_9 ck b0 (kf_of klt rfl) ck0 (cl_nF h8) hlt c4 (by rw [ib, xk200]; rfl) ib c7), q1⟩
/-- what a text leaves: the fault's kind -/
def ld_X (g : Option Value → xe_H → Prop) (r : ld_rs) : Prop := ∃ (v9 : Int32) (I' : Nat → Nat → Int32) (L' : Nat → Nat → Int64), (v9 = 0 ∨ v9 = 1) ∧ g (some (.int v9)) (I', L') ∧ I' 3 9 = ld_flt r
theorem cl_text (hn : n ≤ 940) (O : lv_ok nsv) : ∀ (m_z p c : Nat) (I : Nat → Nat → Int32) (L : Nat → Nat → Int64), n < p + m_z → p ≤ n → c ≤ 40 → ld_E B n nsv p c I L →
    ld_X (fun v hp9 => ∃ n9, xr_X4_read n9 (14, [(0, .ref 5), (1, .ref 3), (2, .ref 64), (3, .int (Int32.ofNat c))], [], (I, L)) v hp9) (ld_tx B n nsv m_z p c) := by
  intro m_z
  induction m_z with
  | zero => intro p c I L h1 h2; omega
  | succ m_z ih =>
    intro p c I L hk hp hc E
    have e4 : I 3 4 = Int32.ofNat (tK B n 400 p) := E.1.2.2.2.2.2.1
    have hk4 := tK_le (B := B) (n := n) (lim := 400) (p := p)
    have g1 : xe_cmp .gt (Int32.ofNat c) (40 : Int32) = false := (cmpN (a := c) rfl (b := 40) rfl (by omega) (by omega)).trans (decide_eq_false (by omega))
    cases h0 : Nat.beq (tK B n 400 p) 0 with
    | true =>
      have e : ld_tx B n nsv (m_z + 1) p c = .inr c := by unfold ld_tx; rw [h0]; rfl
      rw [e]
      exact ⟨1, I, L, Or.inr rfl, pt_X4_read_2 g1 ((cmpN e4 (b := 0) rfl (by omega) (by omega)).trans (decide_eq_true (Nat.eq_of_beq_eq_true h0))), E.2.2.2⟩
    | false =>
      have g2 : xe_cmp .eq (I 3 4) 0 = false := (cmpN e4 (b := 0) rfl (by omega) (by omega)).trans (decide_eq_false (nb_ne h0))
      have hr := cl_line hn hp O hc E
      cases hx : ld_line B n nsv p c with
      | inl f =>
        have e : ld_tx B n nsv (m_z + 1) p c = .inl f := by unfold ld_tx; rw [h0, hx]; rfl
        rw [e]
        rw [hx] at hr
        obtain ⟨I1, L1, c1, q1⟩ := hr
        exact ⟨0, I1, L1, Or.inl rfl, pt_X4_read_5 g1 g2 c1, q1⟩
      | inr q =>
        obtain ⟨a1, a2, a3⟩ := ld_line_ok hp hx
        rw [hx] at hr
        obtain ⟨I1, L1, c1, E1⟩ := hr
        obtain ⟨s1, s2⟩ := cw_sign (cc := 59) (by decide) hn a2 E1.1
        have et : ld_tx B n nsv (m_z + 1) p c = (bif lv_sg B n 400 59 q then ld_tx B n nsv m_z (tN B n 400 q) (c + 1) else .inl 1) := by unfold ld_tx; rw [h0, hx]; cases m_z <;> rfl
        rw [et]
        cases hs : lv_sg B n 400 59 q with
        | false =>
          obtain ⟨I2, L2, c2, u1, -⟩ := s1 hs
          exact ⟨0, I2, L2, Or.inl rfl, pt_X4_read_4 g1 g2 c1 c2, u1⟩
        | true =>
          obtain ⟨I2, L2, c2, E2, F1, F2⟩ := s2 hs
          have h3 : tK B n 400 q = 3 := (sg_3 hs).1
          have a4 := ld_adv a2 h3 (by decide) (by decide)
          have n2 := (tN_le (B := B) (lim := 400) a2).2.1
          obtain ⟨v9, I3, L3, w1, w2, w3⟩ := ih (tN B n 400 q) (c + 1) I2 L2 (by omega) n2 (by omega) (ld_mv E2 F1 F2 E1)
          refine ⟨v9, I3, L3, w1, pt_X4_read_3 g1 g2 c1 c2 ?_, w3⟩
          rw [ti1]
          exact w2
theorem cl_read (hn : n ≤ 940) (O : lv_ok nsv) (h1 : I 1 1 = Int32.ofNat n) (hB : ∀ i, i < 940 → I 2 i = B i) (T : lv_TC nsv I L) : ld_X (fun v hp9 => fx_X4_read [.ref 64, .ref 3, .ref 5] (I, L) v hp9) (ld_tx B n nsv (n + 1) 0 0) := by
  obtain ⟨I2, L2, s1, E2, s3, s4⟩ := sp_step (B := B) (n := n) (lim := 400) (p := 0) (I := xu (xu (xu (xu (xu I 5 4 0) 3 1 400) 3 3 0) 3 9 0) 3 10 0) (L := L) hn (by decide) (Nat.zero_le _) h1 hB rfl rfl
  have c2 : fx_X7_open [.int 400, .ref 3] (xu I 5 4 0, L) none (I2, L2) := mk_X7_open trivial (pt_X7_open_0 s1)
  have F : fp lp_S3 (xu (xu (xu (xu (xu I 5 4 0) 3 1 400) 3 3 0) 3 9 0) 3 10 0) I2 := s3.mono (fun g i h => lp_SS h)
  have F2 : fpl lp_L3 L L2 := s4.mono (fun g i h => lp_LL h)
  have T2 : lv_TC nsv I2 L2 := tcw_fr (I := xu (xu (xu (xu (xu I 5 4 0) 3 1 400) 3 3 0) 3 9 0) 3 10 0) (L := L) T F F2
  obtain ⟨v9, I3, L3, w1, w2, w3⟩ := cl_text (B := B) hn O (n + 1) 0 0 I2 L2 (by omega) (Nat.zero_le _) (by decide) ⟨E2, T2, F 5 4 rfl, F 3 9 rfl⟩
  refine ⟨v9, I3, L3, w1, mk_X4_read ?_ (pt_X4_read_0 c2 w2), w3⟩
  rcases w1 with rfl | rfl
  · exact Or.inl rfl
  · exact Or.inr rfl
end CLD
