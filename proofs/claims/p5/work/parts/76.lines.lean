/-! ===== lines and texts of a TOWN, as pictures ===== -/
abbrev lp_st := List (List Int32) × Nat × (Nat → Int32) × Nat × Bool
abbrev lp_rs := (Int32 × Nat) ⊕ (Nat × lp_st)
/-- the first of the names that is so -/
def lp_nf (w : List Int32) (ns : List (List Int32)) : Nat → Nat → Option Nat
  | 0, _ => none
  | k + 1, i => bif decide (ns.getD i [] = w) then some i else lp_nf w ns k (i + 1)
def lp_vi (o : Option Nat) : Int32 := match o with
  | some j => Int32.ofNat j
  | none => Int32.ofInt (-1)
def lp_rg (c : Int32) : Bool := decide (c = 115) || decide (c = 112) || decide (c = 114)
def lp_al (B : Nat → Int32) (q : Nat) : Nat → Nat → Bool
  | 0, _ => true
  | k + 1, i => bif lp_rg (B (q + i)) then lp_al B q k (i + 1) else false
section LP
variable (B : Nat → Int32) (n : Nat)
def lp_isn (p : Nat) : Bool := Nat.beq (tK B n 900 p) 1 && Nat.beq (kyw (tW B n 900 p)) 0
def lp_nm (ns : List (List Int32)) (p : Nat) : Int32 ⊕ Nat := bif lp_isn B n p then (match lp_nf (tW B n 900 p) ns ns.length 0 with
  | some j => .inr j
  | none => .inl 3) else .inl 1
def lp_num (lo hi : Int32) (p : Nat) : Int32 ⊕ Int32 := bif Nat.beq (tK B n 900 p) 2 then (bif xe_cmp .lt (tX B n p) lo then .inl 2 else bif xe_cmp .le (tX B n p) hi then .inr (tX B n p) else .inl 2) else .inl 1
def lp_man (p : Nat) (st : lp_st) : lp_rs := bif Nat.beq st.1.length 6 then .inl (4, tA B n 900 p) else bif lp_isn B n (tN B n 900 p) then (bif Nat.blt 7 (tW B n 900 (tN B n 900 p)).length then .inl (3, tA B n 900 (tN B n 900 p)) else (match lp_nf (tW B n 900 (tN B n 900 p)) st.1 st.1.length 0 with
  | some _ => .inl (3, tA B n 900 (tN B n 900 p))
  | none => .inr (tN B n 900 (tN B n 900 p), (st.1 ++ [tW B n 900 (tN B n 900 p)], st.2)))) else .inl (1, tA B n 900 (tN B n 900 p))
def lp_rung (p : Nat) (st : lp_st) : lp_rs := bif Nat.beq (tK B n 900 p) 1 then (bif lp_al B (tA B n 900 p) (tN B n 900 p - tA B n 900 p) 0 then .inr (tN B n 900 p, (st.1, st.2.1 + 1, st.2.2)) else .inl (3, tA B n 900 p)) else .inl (1, tA B n 900 p)
def lp_lad (p : Nat) (st : lp_st) : lp_rs := bif Nat.beq st.2.1 16 then .inl (4, tA B n 900 p) else match lp_nm B n st.1 (tN B n 900 p) with
  | .inl f => .inl (f, tA B n 900 (tN B n 900 p))
  | .inr _ => lp_rung B n (tN B n 900 (tN B n 900 p)) st
def lp_up (db : Nat → Int32) (i : Nat) (x : Int32) : Nat → Int32 := fun j => bif Nat.beq j i then x else db j
def lp_debt3 (p : Nat) (st : lp_st) (i : Nat) : lp_rs := match lp_num B n 1 250 p with
  | .inl f => .inl (f, tA B n 900 p)
  | .inr x => .inr (tN B n 900 p, (st.1, st.2.1, lp_up st.2.2.1 i x, st.2.2.2.1 + 1, st.2.2.2.2))
def lp_debt2 (p : Nat) (st : lp_st) (m : Nat) : lp_rs := match lp_nm B n st.1 p with
  | .inl f => .inl (f, tA B n 900 p)
  | .inr o => bif Nat.beq m o then .inl (3, tA B n 900 p) else bif decide (st.2.2.1 (m * 6 + o) = 0) then lp_debt3 B n (tN B n 900 p) st (m * 6 + o) else .inl (3, tA B n 900 p)
def lp_debt (p : Nat) (st : lp_st) : lp_rs := bif Nat.beq st.2.2.2.1 20 then .inl (4, tA B n 900 p) else match lp_nm B n st.1 (tN B n 900 p) with
  | .inl f => .inl (f, tA B n 900 (tN B n 900 p))
  | .inr m => lp_debt2 B n (tN B n 900 (tN B n 900 p)) st m
def lp_rot (p : Nat) (st : lp_st) : lp_rs := bif st.2.2.2.2 then .inl (3, tA B n 900 p) else match lp_num B n 0 12 (tN B n 900 p) with
  | .inl f => .inl (f, tA B n 900 (tN B n 900 p))
  | .inr _ => .inr (tN B n 900 (tN B n 900 p), (st.1, st.2.1, st.2.2.1, st.2.2.2.1, true))
def lp_line (p : Nat) (st : lp_st) : lp_rs := bif Nat.beq (kyw (tW B n 900 p)) 1 then lp_man B n p st else bif Nat.beq (kyw (tW B n 900 p)) 2 then lp_lad B n p st else bif Nat.beq (kyw (tW B n 900 p)) 3 then lp_debt B n p st else bif Nat.beq (kyw (tW B n 900 p)) 4 then lp_rot B n p st else .inl (1, tA B n 900 p)
def lp_sg (p : Nat) : Bool := Nat.beq (tK B n 900 p) 3 && decide (tS B n 900 p = 59)
def lp_tx : Nat → Nat → Nat → lp_st → lp_rs
  | 0, _, _, _ => .inl (0, 0)
  | k + 1, p, c, st => bif Nat.beq (tK B n 900 p) 0 then .inr (c, st) else match lp_line B n p st with
    | .inl q => .inl q
    | .inr q => bif lp_sg B n q.1 then lp_tx k (tN B n 900 q.1) (c + 1) q.2 else .inl (1, tA B n 900 q.1)
end LP
def lp_ok (st : lp_st) : Prop := st.1.length ≤ 6 ∧ (∀ j, j < st.1.length → (st.1.getD j []).all tx_sm = true ∧ (st.1.getD j []).length ≤ 7) ∧ st.2.1 ≤ 16 ∧ st.2.2.2.1 ≤ 20 ∧ ∀ j, 0 ≤ (st.2.2.1 j).toInt
theorem lp_gl {ns : List (List Int32)} {w : List Int32} {j : Nat} (h : j < ns.length) : (ns ++ [w]).getD j [] = ns.getD j [] := by
  rw [List.getD_eq_getElem?_getD, List.getElem?_append_left h, ← List.getD_eq_getElem?_getD]
theorem lp_gr {ns : List (List Int32)} {w : List Int32} : (ns ++ [w]).getD ns.length [] = w := by
  rw [List.getD_eq_getElem?_getD, List.getElem?_append_right (Nat.le_refl _), Nat.sub_self]
  rfl
theorem lp_gln {ns : List (List Int32)} {w : List Int32} : (ns ++ [w]).length = ns.length + 1 := by rw [List.length_append]; rfl
theorem lp_nf_in {w : List Int32} {ns : List (List Int32)} : ∀ {k i j : Nat}, lp_nf w ns k i = some j → i ≤ j ∧ j < i + k
  | 0, _, _, h => by cases h
  | k + 1, i, j, h => by
    unfold lp_nf at h
    cases hd : decide (ns.getD i [] = w) with
    | true =>
      rw [hd] at h
      cases h
      omega
    | false =>
      rw [hd] at h
      have := lp_nf_in (k := k) (i := i + 1) h
      omega
theorem lp_nm_lt {B : Nat → Int32} {n p j : Nat} {ns : List (List Int32)} (h : lp_nm B n ns p = .inr j) : j < ns.length := by
  unfold lp_nm at h
  cases hb : lp_isn B n p with
  | false => rw [hb] at h; cases h
  | true =>
    rw [hb] at h
    cases hf : lp_nf (tW B n 900 p) ns ns.length 0 with
    | none => rw [hf] at h; cases h
    | some i =>
      rw [hf] at h
      cases h
      have := lp_nf_in hf
      omega
/-! ===== tokens: what holds of them ===== -/
theorem rk_1 {r : List Int32} (h : rk r = 1) : r.all tx_sm = true ∧ r.length ≤ 12 := by
  unfold rk at h
  cases hb : (r.all tx_sm && decide (r.length ≤ 12)) with
  | true =>
    rw [Bool.and_eq_true, decide_eq_true_eq] at hb
    exact hb
  | false =>
    rw [hb] at h
    cases hc : (r.all tx_dg && decide (r.length ≤ 3)) <;> (rw [hc] at h; exact absurd h (by decide))
section TF
variable {B : Nat → Int32} {n lim p : Nat}
theorem tq_le (hp : p ≤ n) : p ≤ tq B n p ∧ tq B n p ≤ n ∧ tq B n p ≤ te B n p ∧ te B n p ≤ n := by
  have h1 := tx_go_le tx_bl B (n - p) p
  have h1 : p ≤ tq B n p ∧ tq B n p ≤ p + (n - p) := h1
  have h2 := tx_go_le tx_an B (n - tq B n p) (tq B n p)
  have h2 : tq B n p ≤ te B n p ∧ te B n p ≤ tq B n p + (n - tq B n p) := h2
  omega
theorem tN_le (hp : p ≤ n) : p ≤ tN B n lim p ∧ tN B n lim p ≤ n ∧ (tK B n lim p ≠ 0 → tK B n lim p ≠ 4 ∨ ¬ (lim ≤ tq B n p ∧ lim < n) → p < tN B n lim p) := by
  have hq := tq_le (B := B) hp
  by_cases hov : lim ≤ tq B n p ∧ lim < n
  · obtain ⟨k1, k2, k3, -⟩ := tk_ov (B := B) (p := p) hov.1 hov.2
    rw [k3]
    refine ⟨hq.1, hq.2.1, fun _ h => ?_⟩
    rcases h with h | h
    · exact absurd k1 h
    · exact absurd hov h
  · by_cases hen : n ≤ tq B n p
    · obtain ⟨k1, k2, k3, -⟩ := tk_end hov hen
      rw [k3]
      exact ⟨hq.1, hq.2.1, fun h => absurd k1 h⟩
    · by_cases hs : te B n p = tq B n p
      · obtain ⟨k1, k2, k3, -⟩ := tk_sg hov hen hs
        rw [k3]
        exact ⟨by omega, by omega, fun _ _ => by omega⟩
      · obtain ⟨k1, k2, k3, -⟩ := tk_rn hov hen hs
        rw [k3]
        exact ⟨by omega, by omega, fun _ _ => by omega⟩
theorem tK_le : tK B n lim p ≤ 4 := by
  by_cases hov : lim ≤ tq B n p ∧ lim < n
  · rw [(tk_ov (B := B) (p := p) hov.1 hov.2).1]; decide
  · by_cases hen : n ≤ tq B n p
    · rw [(tk_end hov hen).1]; decide
    · by_cases hs : te B n p = tq B n p
      · rw [(tk_sg hov hen hs).1]; decide
      · rw [(tk_rn hov hen hs).1]
        rcases rk_ne (tr B n p) with e | e | e <;> rw [e] <;> decide
theorem tA_le (hl : lim ≤ 940) (hp : p ≤ n) (hn : n ≤ 940) : tA B n lim p ≤ 940 := by
  have hq := tq_le (B := B) hp
  unfold tA
  cases tov B n lim p
  · show tq B n p ≤ 940; omega
  · exact hl
/-- a WORD -/
theorem tk_1 (hp : p ≤ n) (h : tK B n lim p = 1) : tW B n lim p = bs B (tA B n lim p) (tN B n lim p - tA B n lim p) ∧ (tW B n lim p).all tx_sm = true ∧ (tW B n lim p).length ≤ 12 ∧ tA B n lim p < tN B n lim p ∧ tN B n lim p ≤ n ∧ p ≤ tA B n lim p ∧ (tW B n lim p).length = tN B n lim p - tA B n lim p := by
  have hq := tq_le (B := B) hp
  by_cases hov : lim ≤ tq B n p ∧ lim < n
  · rw [(tk_ov (B := B) (p := p) hov.1 hov.2).1] at h; omega
  · by_cases hen : n ≤ tq B n p
    · rw [(tk_end hov hen).1] at h; omega
    · by_cases hs : te B n p = tq B n p
      · rw [(tk_sg hov hen hs).1] at h; omega
      · obtain ⟨k1, k2, k3, k4, -⟩ := tk_rn hov hen hs
        have hr : rk (tr B n p) = 1 := k1.symm.trans h
        have e : tW B n lim p = tr B n p := by rw [k4, hr]; rfl
        have h1 := rk_1 hr
        rw [e, k2, k3]
        exact ⟨rfl, h1.1, h1.2, by omega, by omega, by omega, bs_len B _ _⟩
theorem tW_ok (hp : p ≤ n) : (tW B n lim p).all tx_sm = true ∧ (tW B n lim p).length ≤ 12 := by
  cases hb : Nat.beq (tK B n lim p) 1 with
  | true =>
    have h := tk_1 (B := B) (lim := lim) hp (Nat.eq_of_beq_eq_true hb)
    exact ⟨h.2.1, h.2.2.1⟩
  | false =>
    have e : tW B n lim p = [] := by unfold tW; rw [hb]; rfl
    rw [e]
    exact ⟨rfl, by decide⟩
theorem kyw_T (h : Nat.beq (kyw (tW B n lim p)) 0 = false) : tK B n lim p = 1 := by
  cases hb : Nat.beq (tK B n lim p) 1 with
  | true => exact Nat.eq_of_beq_eq_true hb
  | false =>
    have e : tW B n lim p = [] := by unfold tW; rw [hb]; rfl
    rw [e] at h
    exact absurd h (by decide)
end TF
theorem nb_ne {a b : Nat} (h : Nat.beq a b = false) : a ≠ b := fun e => by
  rw [e, Nat.beq_refl] at h
  cases h
theorem nb_F {a b : Nat} (h : a ≠ b) : Nat.beq a b = false := by
  cases hb : Nat.beq a b
  · rfl
  · exact absurd (Nat.eq_of_beq_eq_true hb) h
theorem cmpN {c : ClassFile.Cond} {x y : Int32} {a b : Nat} (hx : x = Int32.ofNat a) (hy : y = Int32.ofNat b) (ha : a < 2147483648) (hb : b < 2147483648) : xe_cmp c x y = ncmp c a b := by
  rw [hx, hy]
  exact xn ha hb
theorem tsub {a b : Nat} (h : b ≤ a) (ha : a < 2147483648) : Int32.ofNat a - Int32.ofNat b = Int32.ofNat (a - b) := by
  have e1 := ti ha
  have e2 := ti (a := b) (by omega)
  have e3 := ti (a := a - b) (by omega)
  exact Int32.toInt_inj.mp (by rw [Kit.i32_sub (by omega) (by omega), e1, e2, e3]; omega)
theorem tadd (a b : Nat) : Int32.ofNat a + Int32.ofNat b = Int32.ofNat (a + b) := (Int32.ofNat_add a b).symm
theorem tmul (a b : Nat) : Int32.ofNat a * Int32.ofNat b = Int32.ofNat (a * b) := (Int32.ofNat_mul a b).symm
theorem b2i_0 {b : Bool} : xe_cmp .eq (b2i b) 0 = !b := by cases b <;> decide
theorem lp_alT {B : Nat → Int32} {q k i : Nat} (h : lp_rg (B (q + i)) = true) : lp_al B q (k + 1) i = lp_al B q k (i + 1) := by
  show (bif lp_rg (B (q + i)) then lp_al B q k (i + 1) else false) = _
  rw [h]; rfl
theorem lp_alF {B : Nat → Int32} {q k i : Nat} (h : lp_rg (B (q + i)) = false) : lp_al B q (k + 1) i = false := by
  show (bif lp_rg (B (q + i)) then lp_al B q k (i + 1) else false) = _
  rw [h]; rfl
/-! ===== what a line leaves ===== -/
section LO
variable {B : Nat → Int32} {n p : Nat} {st : lp_st} {q : Nat × lp_st}
theorem lp_up_ok {db : Nat → Int32} {i : Nat} {x : Int32} (h : ∀ j, 0 ≤ (db j).toInt) (hx : 0 ≤ x.toInt) : ∀ j, 0 ≤ (lp_up db i x j).toInt := fun j => by
  unfold lp_up
  cases Nat.beq j i
  · exact h j
  · exact hx
theorem lp_num_in {lo hi : Int32} {x : Int32} (h : lp_num B n lo hi p = .inr x) : lo.toInt ≤ x.toInt ∧ tK B n 900 p = 2 := by
  unfold lp_num at h
  cases hb : Nat.beq (tK B n 900 p) 2 with
  | false => rw [hb] at h; cases h
  | true =>
    rw [hb] at h
    cases hc : xe_cmp .lt (tX B n p) lo with
    | true => rw [hc] at h; cases h
    | false =>
      rw [hc] at h
      cases hd : xe_cmp .le (tX B n p) hi with
      | false => rw [hd] at h; cases h
      | true =>
        rw [hd] at h
        cases h
        rw [xc] at hc
        have hc : ¬ (tX B n p).toInt < lo.toInt := of_decide_eq_false hc
        exact ⟨by omega, Nat.eq_of_beq_eq_true hb⟩
theorem lp_adv (hp : p ≤ n) {k : Nat} (h : tK B n 900 p = k) (h0 : k ≠ 0) (h4 : k ≠ 4) : p < tN B n 900 p := (tN_le (B := B) (lim := 900) hp).2.2 (by rw [h]; exact h0) (Or.inl (by rw [h]; exact h4))
theorem lp_line_ok (hp : p ≤ n) (O : lp_ok st) (h : lp_line B n p st = .inr q) : lp_ok q.2 ∧ p < q.1 ∧ q.1 ≤ n := by
  obtain ⟨O1, O2, O3, O4, O5⟩ := O
  have n1 := tN_le (B := B) (lim := 900) hp
  have n2 := tN_le (B := B) (lim := 900) n1.2.1
  have n3 := tN_le (B := B) (lim := 900) n2.2.1
  have n4 := tN_le (B := B) (lim := 900) n3.2.1
  have adv : ∀ i, 0 < i → Nat.beq (kyw (tW B n 900 p)) i = true → p < tN B n 900 p := fun i hi he => by
    have e := Nat.eq_of_beq_eq_true he
    exact lp_adv hp (kyw_T (nb_F (by omega))) (by decide) (by decide)
  unfold lp_line at h
  cases h1 : Nat.beq (kyw (tW B n 900 p)) 1 with
  | true =>
    rw [h1] at h
    have ha := adv 1 (by decide) h1
    have h : lp_man B n p st = .inr q := h
    unfold lp_man at h
    cases hb : Nat.beq st.1.length 6 with
    | true => rw [hb] at h; cases h
    | false =>
      rw [hb] at h
      have hne := nb_ne hb
      cases hi : lp_isn B n (tN B n 900 p) with
      | false => rw [hi] at h; cases h
      | true =>
        rw [hi] at h
        cases h7 : Nat.blt 7 (tW B n 900 (tN B n 900 p)).length with
        | true => rw [h7] at h; cases h
        | false =>
          rw [h7] at h
          have h7 : ¬ 7 < (tW B n 900 (tN B n 900 p)).length := fun e => by rw [zf_blt' e] at h7; cases h7
          cases hf : lp_nf (tW B n 900 (tN B n 900 p)) st.1 st.1.length 0 with
          | some j => rw [hf] at h; cases h
          | none =>
            rw [hf] at h
            cases h
            refine ⟨⟨by show (st.1 ++ [_]).length ≤ 6; rw [lp_gln]; omega, fun j hj => ?_, O3, O4, O5⟩, by show p < tN B n 900 (tN B n 900 p); omega, n2.2.1⟩
            have hj : j < (st.1 ++ [tW B n 900 (tN B n 900 p)]).length := hj
            rw [lp_gln] at hj
            show ((st.1 ++ [tW B n 900 (tN B n 900 p)]).getD j []).all tx_sm = true ∧ _
            by_cases e : j < st.1.length
            · rw [lp_gl e]; exact O2 j e
            · have e : j = st.1.length := by omega
              rw [e, lp_gr]
              exact ⟨(tW_ok n1.2.1).1, by omega⟩
  | false =>
    rw [h1] at h
    cases h2 : Nat.beq (kyw (tW B n 900 p)) 2 with
    | true =>
      rw [h2] at h
      have ha := adv 2 (by decide) h2
      have h : lp_lad B n p st = .inr q := h
      unfold lp_lad at h
      cases hb : Nat.beq st.2.1 16 with
      | true => rw [hb] at h; cases h
      | false =>
        rw [hb] at h
        have hne := nb_ne hb
        cases hm : lp_nm B n st.1 (tN B n 900 p) with
        | inl f => rw [hm] at h; cases h
        | inr j =>
          rw [hm] at h
          have h : lp_rung B n (tN B n 900 (tN B n 900 p)) st = .inr q := h
          unfold lp_rung at h
          cases hk : Nat.beq (tK B n 900 (tN B n 900 (tN B n 900 p))) 1 with
          | false => rw [hk] at h; cases h
          | true =>
            rw [hk] at h
            cases hl : lp_al B (tA B n 900 (tN B n 900 (tN B n 900 p))) (tN B n 900 (tN B n 900 (tN B n 900 p)) - tA B n 900 (tN B n 900 (tN B n 900 p))) 0 with
            | false => rw [hl] at h; cases h
            | true =>
              rw [hl] at h
              cases h
              exact ⟨⟨O1, O2, by show st.2.1 + 1 ≤ 16; omega, O4, O5⟩, by show p < tN B n 900 (tN B n 900 (tN B n 900 p)); omega, n3.2.1⟩
    | false =>
      rw [h2] at h
      cases h3 : Nat.beq (kyw (tW B n 900 p)) 3 with
      | true =>
        rw [h3] at h
        have ha := adv 3 (by decide) h3
        have h : lp_debt B n p st = .inr q := h
        unfold lp_debt at h
        cases hb : Nat.beq st.2.2.2.1 20 with
        | true => rw [hb] at h; cases h
        | false =>
          rw [hb] at h
          have hne := nb_ne hb
          cases hm : lp_nm B n st.1 (tN B n 900 p) with
          | inl f => rw [hm] at h; cases h
          | inr m =>
            rw [hm] at h
            have h : lp_debt2 B n (tN B n 900 (tN B n 900 p)) st m = .inr q := h
            unfold lp_debt2 at h
            cases ho : lp_nm B n st.1 (tN B n 900 (tN B n 900 p)) with
            | inl f => rw [ho] at h; cases h
            | inr o =>
              rw [ho] at h
              have h : (bif Nat.beq m o then (.inl (3, tA B n 900 (tN B n 900 (tN B n 900 p))) : lp_rs) else bif decide (st.2.2.1 (m * 6 + o) = 0) then lp_debt3 B n (tN B n 900 (tN B n 900 (tN B n 900 p))) st (m * 6 + o) else .inl (3, tA B n 900 (tN B n 900 (tN B n 900 p)))) = .inr q := h
              cases he : Nat.beq m o with
              | true => rw [he] at h; cases h
              | false =>
                rw [he] at h
                cases hz : decide (st.2.2.1 (m * 6 + o) = 0) with
                | false => rw [hz] at h; cases h
                | true =>
                  rw [hz] at h
                  have h : lp_debt3 B n (tN B n 900 (tN B n 900 (tN B n 900 p))) st (m * 6 + o) = .inr q := h
                  unfold lp_debt3 at h
                  cases hx : lp_num B n 1 250 (tN B n 900 (tN B n 900 (tN B n 900 p))) with
                  | inl f => rw [hx] at h; cases h
                  | inr x =>
                    rw [hx] at h
                    cases h
                    have hx1 := (lp_num_in hx).1
                    have hx1 : (1 : Int) ≤ x.toInt := hx1
                    exact ⟨⟨O1, O2, O3, by show st.2.2.2.1 + 1 ≤ 20; omega, lp_up_ok O5 (by omega)⟩, by show p < tN B n 900 (tN B n 900 (tN B n 900 (tN B n 900 p))); omega, n4.2.1⟩
      | false =>
        rw [h3] at h
        cases h4 : Nat.beq (kyw (tW B n 900 p)) 4 with
        | false => rw [h4] at h; cases h
        | true =>
          rw [h4] at h
          have ha := adv 4 (by decide) h4
          have h : lp_rot B n p st = .inr q := h
          unfold lp_rot at h
          cases hr : st.2.2.2.2 with
          | true => rw [hr] at h; cases h
          | false =>
            rw [hr] at h
            cases hx : lp_num B n 0 12 (tN B n 900 p) with
            | inl f => rw [hx] at h; cases h
            | inr x =>
              rw [hx] at h
              cases h
              exact ⟨⟨O1, O2, O3, O4, O5⟩, by show p < tN B n 900 (tN B n 900 p); omega, n2.2.1⟩
end LO
