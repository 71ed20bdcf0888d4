/-! ===== the reference's next ===== -/
def pkk (B : Nat → Int32) (n p : Nat) : Int32 := bif decide (p < n) then B p else Int32.ofInt (-1)
theorem pkk_in {B : Nat → Int32} {n p : Nat} (h : p < n) : pkk B n p = B p := by unfold pkk; rw [decide_eq_true h]; rfl
theorem pkk_out {B : Nat → Int32} {n p : Nat} (h : ¬ p < n) : pkk B n p = Int32.ofInt (-1) := by unfold pkk; rw [decide_eq_false h]; rfl
section NX
variable {B : Nat → Int32} {n lim p q : Nat} {I : Nat → Nat → Int32} {L : Nat → Nat → Int64}
theorem sp_peek (hn : n ≤ 940) (hp : p ≤ 940) (h3 : I 18 3 = Int32.ofNat n) (h4 : I 18 4 = Int32.ofNat p) (hT : ∀ i, i < 940 → I 19 i &&& 255 = B i) : fx_X13_peek [.ref 18] (I, L) (some (.int (pkk B n p))) (I, L) := by
  by_cases h : p < n
  · have e : pkk B n p = I 19 ((I 18 4).toInt.toNat) &&& 255 := by rw [pkk_in h, h4, tin (by omega)]; exact (hT p (by omega)).symm
    rw [e]
    exact mk_X13_peek trivial (pt_X13_peek_1 (by rw [h3, h4, xn (by omega) (by omega)]; exact decide_eq_false (by omega)) (by rw [h4]; exact xib (by omega) (by omega)))
  · rw [pkk_out h]
    exact mk_X13_peek trivial (pt_X13_peek_0 (by rw [h3, h4, xn (by omega) (by omega)]; exact decide_eq_true (by omega)))
theorem sp_isSmall1 {c : Int32} (h : tx_sm c = true) : fx_X13_isSmall [.int c] (I, L) (some (.int 1)) (I, L) := by
  have hi := tx_sm_iff.mp h
  exact mk_X13_isSmall (Or.inr rfl) (pt_X13_isSmall_2 (by rw [xc]; exact decide_eq_false (by show ¬ c.toInt < 97; omega)) (by rw [xc]; exact decide_eq_false (by show ¬ 122 < c.toInt; omega)))
theorem sp_isSmall0 {c : Int32} (h : tx_sm c = false) : fx_X13_isSmall [.int c] (I, L) (some (.int 0)) (I, L) := by
  have hi : ¬ (97 ≤ c.toInt ∧ c.toInt ≤ 122) := fun q => by rw [tx_sm_iff.mpr q] at h; cases h
  by_cases q1 : c.toInt < 97
  · exact mk_X13_isSmall (Or.inl rfl) (pt_X13_isSmall_0 (by rw [xc]; exact decide_eq_true q1))
  · exact mk_X13_isSmall (Or.inl rfl) (pt_X13_isSmall_1 (by rw [xc]; exact decide_eq_false q1) (by rw [xc]; exact decide_eq_true (by show 122 < c.toInt; omega)))
theorem sp_isDigit1 {c : Int32} (h : tx_dg c = true) : fx_X13_isDigit [.int c] (I, L) (some (.int 1)) (I, L) := by
  have hi := tx_dg_iff.mp h
  exact mk_X13_isDigit (Or.inr rfl) (pt_X13_isDigit_2 (by rw [xc]; exact decide_eq_false (by show ¬ c.toInt < 48; omega)) (by rw [xc]; exact decide_eq_false (by show ¬ 57 < c.toInt; omega)))
theorem sp_isDigit0 {c : Int32} (h : tx_dg c = false) : fx_X13_isDigit [.int c] (I, L) (some (.int 0)) (I, L) := by
  have hi : ¬ (48 ≤ c.toInt ∧ c.toInt ≤ 57) := fun q => by rw [tx_dg_iff.mpr q] at h; cases h
  by_cases q1 : c.toInt < 48
  · exact mk_X13_isDigit (Or.inl rfl) (pt_X13_isDigit_0 (by rw [xc]; exact decide_eq_true q1))
  · exact mk_X13_isDigit (Or.inl rfl) (pt_X13_isDigit_1 (by rw [xc]; exact decide_eq_false q1) (by rw [xc]; exact decide_eq_true (by show 57 < c.toInt; omega)))
end NX
def SM4 (g i : Nat) : Bool := Nat.beq g 18 && Nat.beq i 4
theorem sp_nextL {B : Nat → Int32} {n : Nat} (hn : n ≤ 940) : ∀ (k p : Nat) {I : Nat → Nat → Int32} {L : Nat → Nat → Int64}, p + k = n → I 18 4 = Int32.ofNat p → I 18 3 = Int32.ofNat n → (∀ i, i < 940 → I 19 i &&& 255 = B i) →
    ∃ I' : Nat → Nat → Int32, I' 18 4 = Int32.ofNat (tx_go tx_bl B k p) ∧ fp SM4 I I' ∧ ∀ v hp9, (∃ n, xr_X13_next n (31, [(0, .ref 18)], [], (I', L)) v hp9) → ∃ n, xr_X13_next n (0, [(0, .ref 18)], [], (I, L)) v hp9 := by
  intro k
  induction k with
  | zero =>
    intro p I L hk h4 h3 hT
    have c1 := sp_peek (L := L) hn (by omega) h3 h4 hT
    rw [pkk_out (by omega)] at c1
    exact ⟨I, h4, fp.rf, fun v hp9 r => pt_X13_next_1 c1 (by decide) c1 (by decide) r⟩
  | succ k ih =>
    intro p I L hk h4 h3 hT
    have c1 := sp_peek (L := L) hn (by omega) h3 h4 hT
    rw [pkk_in (by omega)] at c1
    cases hb : tx_bl (B p) with
    | true =>
      obtain ⟨I', a1, a2, a3⟩ := ih (p + 1) (I := xu I 18 4 (I 18 4 + 1)) (L := L) (by omega) (by rw [xu_eq, h4]; exact ti1 _) (by rw [xu_ne rfl]; exact h3) (fun i hi => by rw [xu_ne rfl]; exact hT i hi)
      refine ⟨I', by rw [tx_go_T hb]; exact a1, (fp.up fp.rf rfl).tr a2, fun v hp9 r => ?_⟩
      by_cases e : B p = 32
      · exact pt_X13_next_0 c1 (decide_eq_true e) (a3 v hp9 r)
      · have e2 : B p = 10 := by
          unfold tx_bl at hb
          rw [decide_eq_false e, Bool.false_or] at hb
          exact of_decide_eq_true hb
        exact pt_X13_next_2 c1 (decide_eq_false e) c1 (decide_eq_false (fun q => q e2)) (a3 v hp9 r)
    | false =>
      unfold tx_bl at hb
      have hb' := hb
      rw [Bool.or_eq_false_iff] at hb
      exact ⟨I, by rw [tx_go_F (P := tx_bl) hb']; exact h4, fp.rf, fun v hp9 r => pt_X13_next_1 c1 hb.1 c1 (decide_eq_true (of_decide_eq_false hb.2)) r⟩
theorem tk_s {m : Nat} {l : List Int32} {c : Int32} : (l ++ [c]).take m = if l.length < m then l.take m ++ [c] else l.take m := by
  by_cases h : l.length < m
  · rw [if_pos h, List.take_of_length_le (l := l ++ [c]) (by rw [List.length_append]; show l.length + 1 ≤ m; omega), List.take_of_length_le (l := l) (by omega)]
  · rw [if_neg h]
    exact List.take_append_of_le_length (by omega)
def SM3 (g i : Nat) : Bool := Nat.beq g 18 && (Nat.beq i 4 || Nat.beq i 13 || Nat.beq i 14)
def LM (g i : Nat) : Bool := Nat.beq g 18 && Nat.beq i 17
def b2i (b : Bool) : Int32 := bif b then 1 else 0
theorem sp_nextR {B : Nat → Int32} {n q : Nat} (hn : n ≤ 940) (l1 : Int32) (sm : Bool) : ∀ (k j : Nat) {I : Nat → Nat → Int32} {L : Nat → Nat → Int64}, q + j + k = n → I 18 4 = Int32.ofNat (q + j) → I 18 3 = Int32.ofNat n → (∀ i, i < 940 → I 19 i &&& 255 = B i) →
    I 18 13 = Int32.ofNat j → L 18 17 = c256 ((bs B q j).take 7) → I 18 14 = d10 ((bs B q j).take 3) →
    ∃ (j' : Nat) (I' : Nat → Nat → Int32) (L' : Nat → Nat → Int64), q + j' = tx_go tx_an B k (q + j) ∧ I' 18 4 = Int32.ofNat (q + j') ∧ I' 18 13 = Int32.ofNat j' ∧ L' 18 17 = c256 ((bs B q j').take 7) ∧ I' 18 14 = d10 ((bs B q j').take 3) ∧ fp SM3 I I' ∧ fpl LM L L' ∧
      ∀ v hp9, (∃ n, xr_X13_next n (298, [(0, .ref 18), (1, .int l1), (2, .int (b2i sm)), (3, .int (b2i ((bs B q j').all (fun c => tx_sm c == sm))))], [], (I', L')) v hp9) →
        ∃ n, xr_X13_next n (181, [(0, .ref 18), (1, .int l1), (2, .int (b2i sm)), (3, .int (b2i ((bs B q j).all (fun c => tx_sm c == sm))))], [], (I, L)) v hp9 := by
  intro k
  induction k with
  | zero =>
    intro j I L hk h4 h3 hT hs hw hd
    have c1 := sp_peek (L := L) hn (by omega) h3 h4 hT
    rw [pkk_out (by omega)] at c1
    exact ⟨j, I, L, rfl, h4, hs, hw, hd, fp.rf, fpl.rf, fun v hp9 r => pt_X13_next_20 c1 (sp_isSmall0 (by decide)) c1 (sp_isDigit0 (by decide)) r⟩
  | succ k ih =>
    intro j I L hk h4 h3 hT hs hw hd
    have c1 := fun L : Nat → Nat → Int64 => sp_peek (L := L) hn (by omega) h3 h4 hT
    rw [pkk_in (by omega)] at c1
    cases han : tx_an (B (q + j)) with
    | false =>
      have hs0 : tx_sm (B (q + j)) = false := by unfold tx_an at han; rw [Bool.or_eq_false_iff] at han; exact han.1
      have hd0 : tx_dg (B (q + j)) = false := by unfold tx_an at han; rw [Bool.or_eq_false_iff] at han; exact han.2
      exact ⟨j, I, L, by rw [tx_go_F han], h4, hs, hw, hd, fp.rf, fpl.rf, fun v hp9 r => pt_X13_next_20 (c1 L) (sp_isSmall0 hs0) (c1 L) (sp_isDigit0 hd0) r⟩
    | true =>
      have eb : (bs B q (j + 1)).all (fun c => tx_sm c == sm) = ((bs B q j).all (fun c => tx_sm c == sm) && (tx_sm (B (q + j)) == sm)) := by
        show (bs B q j ++ [B (q + j)]).all _ = _
        rw [List.all_append]
        show (_ && ((tx_sm (B (q + j)) == sm) && true)) = _
        rw [Bool.and_true]
      -- the word
      obtain ⟨L1, w1, w2, w3⟩ : ∃ L1 : Nat → Nat → Int64, L1 18 17 = c256 ((bs B q (j + 1)).take 7) ∧ fpl LM L L1 ∧ ∀ v hp9 (l3 s0 : Int32), (∃ n, xr_X13_next n (248, [(0, .ref 18), (1, .int l1), (2, .int (b2i sm)), (3, .int s0)], [], (I, L1)) v hp9) → ∃ n, xr_X13_next n (221, [(0, .ref 18), (1, .int l1), (2, .int (b2i sm)), (3, .int l3)], [.int s0], (I, L)) v hp9 := by
        have et : (bs B q (j + 1)).take 7 = if j < 7 then (bs B q j).take 7 ++ [B (q + j)] else (bs B q j).take 7 := by
          show (bs B q j ++ [B (q + j)]).take 7 = _
          rw [tk_s, bs_len]
        by_cases h7 : j < 7
        · rw [if_pos h7] at et
          refine ⟨xul L 18 17 ((L 18 17 <<< ((8 : Int32).toInt64 &&& 63)) ||| (B (q + j)).toInt64), by rw [xul_eq, hw, et, c256_s], fpl.rf.up rfl, fun v hp9 l3 s0 r => ?_⟩
          exact pt_X13_next_29 (by rw [hs, show (7 : Int32) = Int32.ofNat 7 from rfl, xn (by omega) (by omega)]; exact decide_eq_false (by omega)) (c1 L) r
        · rw [if_neg h7] at et
          refine ⟨L, by rw [hw, et], fpl.rf, fun v hp9 l3 s0 r => ?_⟩
          exact pt_X13_next_28 (by rw [hs, show (7 : Int32) = Int32.ofNat 7 from rfl, xn (by omega) (by omega)]; exact decide_eq_true (by omega)) r
      -- the number
      obtain ⟨I1, n1, n2, n3⟩ : ∃ I1 : Nat → Nat → Int32, I1 18 14 = d10 ((bs B q (j + 1)).take 3) ∧ (fp SM3 I I1 ∧ I1 18 4 = I 18 4 ∧ I1 18 13 = I 18 13) ∧ ∀ v hp9 (l3 : Int32), (∃ n, xr_X13_next n (275, [(0, .ref 18), (1, .int l1), (2, .int (b2i sm)), (3, .int l3)], [], (I1, L1)) v hp9) → ∃ n, xr_X13_next n (248, [(0, .ref 18), (1, .int l1), (2, .int (b2i sm)), (3, .int l3)], [], (I, L1)) v hp9 := by
        have et : (bs B q (j + 1)).take 3 = if j < 3 then (bs B q j).take 3 ++ [B (q + j)] else (bs B q j).take 3 := by
          show (bs B q j ++ [B (q + j)]).take 3 = _
          rw [tk_s, bs_len]
        by_cases h7 : j < 3
        · rw [if_pos h7] at et
          refine ⟨xu I 18 14 (10 * I 18 14 + B (q + j) - 48), by rw [xu_eq, hd, et, d10_s], ⟨fp.rf.up rfl, xu_ne rfl, xu_ne rfl⟩, fun v hp9 l3 r => ?_⟩
          exact pt_X13_next_38 (by rw [hs, show (3 : Int32) = Int32.ofNat 3 from rfl, xn (by omega) (by omega)]; exact decide_eq_false (by omega)) (c1 L1) r
        · rw [if_neg h7] at et
          refine ⟨I, by rw [hd, et], ⟨fp.rf, rfl, rfl⟩, fun v hp9 l3 r => ?_⟩
          exact pt_X13_next_37 (by rw [hs, show (3 : Int32) = Int32.ofNat 3 from rfl, xn (by omega) (by omega)]; exact decide_eq_true (by omega)) r
      obtain ⟨n2, n4, n5⟩ := n2
      obtain ⟨j', I', L', a1, a2, a3, a4, a5, a6, a7, a8⟩ := ih (j + 1) (I := xu (xu I1 18 13 (I1 18 13 + 1)) 18 4 (I1 18 4 + 1)) (L := L1) (by omega) (by rw [xu_eq, n4, h4]; exact ti1 _) (by rw [xu_ne rfl, xu_ne rfl, n2 18 3 rfl]; exact h3) (fun i hi => by rw [xu_ne rfl, xu_ne rfl, n2 19 i rfl]; exact hT i hi) (by rw [xu_ne rfl, xu_eq, n5, hs]; exact ti1 _) w1 (by rw [xu_ne rfl, xu_ne rfl]; exact n1)
      refine ⟨j', I', L', by rw [tx_go_T han]; exact a1, a2, a3, a4, a5, ((n2.up rfl).up rfl).tr a6, w2.tr a7, fun v hp9 r => ?_⟩
      have r181 := a8 v hp9 r
      have r221 := w3 v hp9 (b2i ((bs B q j).all (fun c => tx_sm c == sm))) _ (n3 v hp9 _ (pt_X13_next_40 r181))
      have r201 : ∃ n, xr_X13_next n (201, [(0, .ref 18), (1, .int l1), (2, .int (b2i sm)), (3, .int (b2i ((bs B q j).all (fun c => tx_sm c == sm))))], [], (I, L)) v hp9 := by
        rw [eb] at r221
        cases hal : (bs B q j).all (fun c => tx_sm c == sm) with
        | false =>
          rw [hal] at r221
          exact pt_X13_next_21 (by decide) r221
        | true =>
          rw [hal, Bool.true_and] at r221
          cases hsm : tx_sm (B (q + j)) with
          | true =>
            rw [hsm] at r221
            cases sm with
            | true => exact pt_X13_next_23 (by decide) (c1 L) (sp_isSmall1 hsm) (by decide) r221
            | false => exact pt_X13_next_22 (by decide) (c1 L) (sp_isSmall1 hsm) (by decide) r221
          | false =>
            rw [hsm] at r221
            cases sm with
            | true => exact pt_X13_next_24 (by decide) (c1 L) (sp_isSmall0 hsm) (by decide) r221
            | false => exact pt_X13_next_25 (by decide) (c1 L) (sp_isSmall0 hsm) (by decide) r221
      cases hsm : tx_sm (B (q + j)) with
      | true => exact pt_X13_next_18 (c1 L) (sp_isSmall1 hsm) r201
      | false =>
        have hdg : tx_dg (B (q + j)) = true := by unfold tx_an at han; rw [hsm, Bool.false_or] at han; exact han
        exact pt_X13_next_19 (c1 L) (sp_isSmall0 hsm) (c1 L) (sp_isDigit1 hdg) r201
