/-! ===== the reference's next, with how long its token may be ===== -/
theorem sp_nextS {B : Nat → Int32} {n lim p : Nat} {I : Nat → Nat → Int32} {L : Nat → Nat → Int64} (hn : n ≤ 940) (hl : lim ≤ 940) (hp : p ≤ n) (h3 : I 18 3 = Int32.ofNat n) (h4 : I 18 4 = Int32.ofNat p) (h5 : I 18 5 = Int32.ofNat lim) (hT : ∀ i, i < 940 → I 19 i &&& 255 = B i) (hB0 : ∀ i, i < 940 → 0 ≤ (B i).toInt) :
    ∃ (I' : Nat → Nat → Int32) (L' : Nat → Nat → Int64), fx_X13_next [.ref 18] (I, L) none (I', L') ∧ EncM B n lim p I' L' ∧ fp SMn I I' ∧ fpl LM L L' ∧ 0 ≤ (I' 18 13).toInt ∧ (I' 18 13).toInt ≤ 940 := by
  obtain ⟨J, j4, jf, jr⟩ := sp_nextL (B := B) hn (n - p) p (I := I) (L := L) (by omega) h4 h3 hT
  have hle := tx_go_le tx_bl B (n - p) p
  have j4 : J 18 4 = Int32.ofNat (tq B n p) := j4
  have hle : p ≤ tq B n p ∧ tq B n p ≤ p + (n - p) := hle
  have j3 : J 18 3 = Int32.ofNat n := (jf 18 3 rfl).trans h3
  have j5 : J 18 5 = Int32.ofNat lim := (jf 18 5 rfl).trans h5
  have jT : ∀ i, i < 940 → J 19 i &&& 255 = B i := fun i hi => by rw [jf 19 i rfl]; exact hT i hi
  have go : ∀ {hp9 : xe_H}, (∃ n, xr_X13_next n (31, [(0, .ref 18)], [], (J, L)) none hp9) → fx_X13_next [.ref 18] (I, L) none hp9 := fun r => mk_X13_next trivial (jr _ _ r)
  have fJ := fp_SM4 jf
  by_cases hov : lim ≤ tq B n p ∧ lim < n
  · obtain ⟨k1, k2, k3, k4, k5⟩ := tk_ov (B := B) (p := p) hov.1 hov.2
    refine ⟨_, _, go (pt_X13_next_5 ?_ ?_), ⟨j3, jT, j5, ?_, ?_, ?_, ?_, ?_, ?_⟩, ((((fJ.up rfl).up rfl).up rfl).up rfl), fpl.rf, by exact (show (0 : Int) ≤ (0 : Int32).toInt ∧ (0 : Int32).toInt ≤ 940 by decide)⟩
    · rw [j3, j5, xn (by omega) (by omega)]; exact decide_eq_false (by omega)
    · rw [j4, j5, xn (by omega) (by omega)]; exact decide_eq_false (by omega)
    · rw [k2]; exact j5
    · rw [k3]; exact j4
    · rw [mK_ne (by rw [k1]; decide), k1]; rfl
    · rw [k1]; intro h; cases h
    · rw [k1]; intro h; cases h
    · rw [k1]; intro h; cases h
  · -- behind the blanks
    have go80 : ∀ {hp9 : xe_H}, (∃ n, xr_X13_next n (80, [(0, .ref 18)], [], (xu (xu J 18 12 (J 18 4)) 18 13 0, L)) none hp9) → fx_X13_next [.ref 18] (I, L) none hp9 := fun r => by
      by_cases hln : n ≤ lim
      · exact go (pt_X13_next_3 (by rw [j3, j5, xn (by omega) (by omega)]; exact decide_eq_true hln) r)
      · exact go (pt_X13_next_4 (by rw [j3, j5, xn (by omega) (by omega)]; exact decide_eq_false hln) (by rw [j4, j5, xn (by omega) (by omega)]; exact decide_eq_true (by omega)) r)
    have c1 : ∀ L : Nat → Nat → Int64, fx_X13_peek [.ref 18] (xu (xu J 18 12 (J 18 4)) 18 13 0, L) (some (.int (pkk B n (tq B n p)))) (xu (xu J 18 12 (J 18 4)) 18 13 0, L) := fun L => sp_peek hn (by omega) j3 j4 jT
    have f80 : fp SMn I (xu (xu J 18 12 (J 18 4)) 18 13 0) := (fJ.up rfl).up rfl
    by_cases hen : n ≤ tq B n p
    · obtain ⟨k1, k2, k3, k4, k5⟩ := tk_end hov hen
      have c1' := c1 L
      rw [pkk_out (by omega)] at c1'
      refine ⟨_, _, go80 (pt_X13_next_14 c1' (by decide)), ⟨j3, jT, j5, ?_, ?_, ?_, ?_, ?_, ?_⟩, f80.up rfl, fpl.rf, by exact (show (0 : Int) ≤ (0 : Int32).toInt ∧ (0 : Int32).toInt ≤ 940 by decide)⟩
      · rw [k2]; exact j4
      · rw [k3]; exact j4
      · rw [mK_ne (by rw [k1]; decide), k1]; rfl
      · rw [k1]; intro h; cases h
      · rw [k1]; intro h; cases h
      · rw [k1]; intro h; cases h
    · have hqn : tq B n p < n := by omega
      rw [pkk_in hqn] at c1
      have hge : xe_cmp .ge (B (tq B n p)) 0 = true := by rw [xc]; exact decide_eq_true (hB0 _ (by omega))
      by_cases hs : te B n p = tq B n p
      · obtain ⟨k1, k2, k3, k4, k5⟩ := tk_sg hov hen hs
        have han : tx_an (B (tq B n p)) = false := by
          cases ha : tx_an (B (tq B n p))
          · rfl
          · exfalso
            unfold te at hs
            obtain ⟨k, hk⟩ : ∃ k, n - tq B n p = k + 1 := ⟨n - tq B n p - 1, by omega⟩
            rw [hk, tx_go_T ha] at hs
            have := (tx_go_le tx_an B k (tq B n p + 1)).1
            omega
        have hs0 : tx_sm (B (tq B n p)) = false := by unfold tx_an at han; rw [Bool.or_eq_false_iff] at han; exact han.1
        have hd0 : tx_dg (B (tq B n p)) = false := by unfold tx_an at han; rw [Bool.or_eq_false_iff] at han; exact han.2
        have fin : ∀ s0 : Nat, s0 = mK B n lim p → (∀ {hp9 : xe_H}, (∃ n', xr_X13_next n' (145, [(0, .ref 18), (1, .int (B (tq B n p)))], [.int (Int32.ofNat s0), .ref 18], (xu (xu J 18 12 (J 18 4)) 18 13 0, L)) none hp9) → ∃ n', xr_X13_next n' (80, [(0, .ref 18)], [], (xu (xu J 18 12 (J 18 4)) 18 13 0, L)) none hp9) → ∃ (I' : Nat → Nat → Int32) (L' : Nat → Nat → Int64), fx_X13_next [.ref 18] (I, L) none (I', L') ∧ EncM B n lim p I' L' ∧ fp SMn I I' ∧ fpl LM L L' ∧ 0 ≤ (I' 18 13).toInt ∧ (I' 18 13).toInt ≤ 940 := fun s0 e0 r => by
          refine ⟨_, _, go80 (r pt_X13_next_17), ⟨j3, jT, j5, ?_, ?_, ?_, ?_, ?_, ?_⟩, ((f80.up rfl).up rfl).up rfl, fpl.rf, by exact (show (0 : Int) ≤ (0 : Int32).toInt ∧ (0 : Int32).toInt ≤ 940 by decide)⟩
          · rw [k2]; exact j4
          · rw [k3]
            show J 18 4 + 1 = _
            rw [j4]
            exact ti1 _
          · rw [← e0]; rfl
          · rw [k1]; intro h; cases h
          · rw [k1]; intro h; cases h
          · intro _; rw [k5]; rfl
        have eK : mK B n lim p = bif sg6 (B (tq B n p)) then 3 else 4 := by
          unfold mK
          rw [k1, k5]
          cases sg6 (B (tq B n p)) <;> rfl
        by_cases q1 : B (tq B n p) = 59
        · exact fin 3 (by rw [eK, q1]; rfl) (fun r => pt_X13_next_8 (c1 L) hge (sp_isSmall0 hs0) (sp_isDigit0 hd0) (decide_eq_true q1) r)
        · by_cases q2 : B (tq B n p) = 40
          · exact fin 3 (by rw [eK, q2]; rfl) (fun r => pt_X13_next_9 (c1 L) hge (sp_isSmall0 hs0) (sp_isDigit0 hd0) (decide_eq_false q1) (decide_eq_true q2) r)
          · by_cases q3 : B (tq B n p) = 41
            · exact fin 3 (by rw [eK, q3]; rfl) (fun r => pt_X13_next_10 (c1 L) hge (sp_isSmall0 hs0) (sp_isDigit0 hd0) (decide_eq_false q1) (decide_eq_false q2) (decide_eq_true q3) r)
            · have e6 : sg6 (B (tq B n p)) = (decide (60 ≤ B (tq B n p)) && decide (B (tq B n p) ≤ 62)) := by
                unfold sg6
                rw [decide_eq_false q1, decide_eq_false q2, decide_eq_false q3]
                rfl
              rw [e6] at eK
              by_cases q4 : (60 : Int32) ≤ B (tq B n p)
              · have g4 : xe_cmp .lt (B (tq B n p)) 60 = false := by
                  rw [xc]
                  exact decide_eq_false (fun h => by have := Int32.le_iff_toInt_le.mp q4; have h : (B (tq B n p)).toInt < (60 : Int32).toInt := h; omega)
                by_cases q5 : B (tq B n p) ≤ (62 : Int32)
                · have g5 : xe_cmp .gt (B (tq B n p)) 62 = false := by
                    rw [xc]
                    exact decide_eq_false (fun h => by have := Int32.le_iff_toInt_le.mp q5; have h : (62 : Int32).toInt < (B (tq B n p)).toInt := h; omega)
                  exact fin 3 (by rw [eK, decide_eq_true q4, decide_eq_true q5]; rfl) (fun r => pt_X13_next_13 (c1 L) hge (sp_isSmall0 hs0) (sp_isDigit0 hd0) (decide_eq_false q1) (decide_eq_false q2) (decide_eq_false q3) g4 g5 r)
                · have g5 : xe_cmp .gt (B (tq B n p)) 62 = true := by
                    rw [xc]
                    exact decide_eq_true (by show (62 : Int32).toInt < (B (tq B n p)).toInt; have h8 : ¬ (B (tq B n p)).toInt ≤ (62 : Int32).toInt := fun h => q5 (Int32.le_iff_toInt_le.mpr h); omega)
                  exact fin 4 (by rw [eK, decide_eq_true q4, decide_eq_false q5]; rfl) (fun r => pt_X13_next_12 (c1 L) hge (sp_isSmall0 hs0) (sp_isDigit0 hd0) (decide_eq_false q1) (decide_eq_false q2) (decide_eq_false q3) g4 g5 r)
              · have g4 : xe_cmp .lt (B (tq B n p)) 60 = true := by
                  rw [xc]
                  exact decide_eq_true (by show (B (tq B n p)).toInt < (60 : Int32).toInt; have h8 : ¬ (60 : Int32).toInt ≤ (B (tq B n p)).toInt := fun h => q4 (Int32.le_iff_toInt_le.mpr h); omega)
                exact fin 4 (by rw [eK, decide_eq_false q4]; rfl) (fun r => pt_X13_next_11 (c1 L) hge (sp_isSmall0 hs0) (sp_isDigit0 hd0) (decide_eq_false q1) (decide_eq_false q2) (decide_eq_false q3) g4 r)
      · obtain ⟨k1, k2, k3, k4, k5⟩ := tk_rn hov hen hs
        have han : tx_an (B (tq B n p)) = true := by
          cases ha : tx_an (B (tq B n p))
          · exact absurd (tx_go_F ha) hs
          · rfl
        obtain ⟨j', I', L', a1, a2, a3, a4, a5, a6, a7, a8⟩ := sp_nextR (B := B) (q := tq B n p) hn (B (tq B n p)) (tx_sm (B (tq B n p))) (n - tq B n p) 0 (I := xu (xu (xu J 18 12 (J 18 4)) 18 13 0) 18 14 0) (L := xul L 18 17 (Int64.ofNat 0)) (by omega) j4 j3 jT rfl rfl rfl
        have a1 : tq B n p + j' = te B n p := a1
        have hte := tx_go_le tx_an B (n - tq B n p) (tq B n p)
        have hte : tq B n p ≤ te B n p ∧ te B n p ≤ tq B n p + (n - tq B n p) := hte
        have er : tr B n p = bs B (tq B n p) j' := by unfold tr; rw [show te B n p - tq B n p = j' from by omega]
        have hall : (bs B (tq B n p) j').all tx_an = true := bs_all (fun i i1 i2 => tx_go_in i1 (by
          show i < te B n p
          omega))
        have hlen : (bs B (tq B n p) j').length = j' := bs_len _ _ _
        have go181 : ∀ {hp9 : xe_H}, (∃ n', xr_X13_next n' (298, [(0, .ref 18), (1, .int (B (tq B n p))), (2, .int (b2i (tx_sm (B (tq B n p))))), (3, .int (b2i ((bs B (tq B n p) j').all (fun c => tx_sm c == tx_sm (B (tq B n p))))))], [], (I', L')) none hp9) → fx_X13_next [.ref 18] (I, L) none hp9 := fun r => by
          have r1 := a8 _ _ r
          cases hsm : tx_sm (B (tq B n p)) with
          | true =>
            rw [hsm] at r1
            exact go80 (pt_X13_next_6 (c1 L) hge (sp_isSmall1 hsm) (pt_X13_next_15 (sp_isSmall1 hsm) r1))
          | false =>
            rw [hsm] at r1
            have hdg : tx_dg (B (tq B n p)) = true := by unfold tx_an at han; rw [hsm, Bool.false_or] at han; exact han
            exact go80 (pt_X13_next_7 (c1 L) hge (sp_isSmall0 hsm) (sp_isDigit1 hdg) (pt_X13_next_16 (sp_isSmall0 hsm) r1))
        have i3 : I' 18 3 = Int32.ofNat n := (a6 18 3 rfl).trans j3
        have i5 : I' 18 5 = Int32.ofNat lim := (a6 18 5 rfl).trans j5
        have iT : ∀ i, i < 940 → I' 19 i &&& 255 = B i := fun i hi => by rw [a6 19 i rfl]; exact jT i hi
        have i12 : I' 18 12 = Int32.ofNat (tq B n p) := (a6 18 12 rfl).trans j4
        have fI : fp SMn I I' := (f80.up rfl).tr (fp_SM3 a6)
        have lI : fpl LM L L' := (fpl.rf.up rfl).tr a7
        have hk3 : tK B n lim p ≠ 3 := by rw [k1]; rcases rk_ne (tr B n p) with e | e | e <;> rw [e] <;> decide
        have fin : ∀ L2 : Nat → Nat → Int64, fpl LM L L2 → (rk (tr B n p) = 1 → L2 18 17 = m256 (tr B n p)) → (∀ {hp9 : xe_H}, (∃ n', xr_X13_next n' (314, [(0, .ref 18), (1, .int (B (tq B n p))), (2, .int (b2i (tx_sm (B (tq B n p))))), (3, .int (b2i ((bs B (tq B n p) j').all (fun c => tx_sm c == tx_sm (B (tq B n p))))))], [], (I', L2)) none hp9) → ∃ n', xr_X13_next n' (298, [(0, .ref 18), (1, .int (B (tq B n p))), (2, .int (b2i (tx_sm (B (tq B n p))))), (3, .int (b2i ((bs B (tq B n p) j').all (fun c => tx_sm c == tx_sm (B (tq B n p))))))], [], (I', L')) none hp9) → ∃ (I' : Nat → Nat → Int32) (L' : Nat → Nat → Int64), fx_X13_next [.ref 18] (I, L) none (I', L') ∧ EncM B n lim p I' L' ∧ fp SMn I I' ∧ fpl LM L L' ∧ 0 ≤ (I' 18 13).toInt ∧ (I' 18 13).toInt ≤ 940 := fun L2 hL2 hw r => by
          refine ⟨_, _, go181 (r (sp_tok (by omega) (by omega) hall rfl a3 pt_X13_next_39)), ⟨i3, iT, i5, ?_, ?_, ?_, ?_, ?_, ?_⟩, fI.up rfl, hL2, by show 0 ≤ (I' 18 13).toInt ∧ (I' 18 13).toInt ≤ 940; rw [a3, ti (by omega)]; omega⟩
          · rw [k2]; exact i12
          · rw [k3, ← a1]; exact a2
          · rw [mK_ne hk3, k1, er]; rfl
          · rw [k1, k4]
            intro h
            rw [h]
            refine ⟨hw h, ?_⟩
            show I' 18 13 = Int32.ofNat (tr B n p).length
            rw [er, hlen]
            exact a3
          · rw [k1]
            intro h
            show I' 18 14 = _
            unfold tX
            rw [a5, er, c10_d10]
            rw [er] at h
            have hl3 : j' ≤ 3 := by
              unfold rk at h
              cases hb1 : ((bs B (tq B n p) j').all tx_sm && decide ((bs B (tq B n p) j').length ≤ 12)) with
              | true => rw [hb1] at h; cases h
              | false =>
                rw [hb1] at h
                cases hb2 : ((bs B (tq B n p) j').all tx_dg && decide ((bs B (tq B n p) j').length ≤ 3)) with
                | true =>
                  rw [Bool.and_eq_true, decide_eq_true_eq] at hb2
                  omega
                | false => rw [hb2] at h; cases h
            rw [List.take_of_length_le (by omega)]
          · intro h; exact absurd h hk3
        by_cases h7 : j' ≤ 7
        · refine fin L' lI (fun _ => ?_) (fun r => pt_X13_next_26 (by rw [a3, show (7 : Int32) = Int32.ofNat 7 from rfl, xn (by omega) (by omega)]; exact decide_eq_true h7) r)
          rw [a4, er]
          unfold m256
          rw [decide_eq_true (by omega), List.take_of_length_le (by omega)]
          rfl
        · refine fin (xul L' 18 17 ((-1) : Int64)) (lI.up rfl) (fun _ => ?_) (fun r => pt_X13_next_27 (by rw [a3, show (7 : Int32) = Int32.ofNat 7 from rfl, xn (by omega) (by omega)]; exact decide_eq_false h7) r)
          rw [xul_eq, er]
          unfold m256
          rw [decide_eq_false (by omega)]
          rfl
