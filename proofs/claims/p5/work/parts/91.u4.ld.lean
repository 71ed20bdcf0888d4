/-! ===== a LEDGER, as a pure function ===== -/
abbrev ld_rs := Int32 ⊕ Nat
def ld_hi (k_z : Nat) : Int32 := bif Nat.beq k_z 12 then 99 else 15
def ld_h2 (k_z : Nat) : Int32 := bif Nat.beq k_z 7 then 15 else 31
def ld_dd (k_z : Nat) : Bool := Nat.beq k_z 6 || Nat.beq k_z 7 || (Nat.ble 9 k_z && Nat.ble k_z 12)
section LD
variable (B : Nat → Int32) (n : Nat) (nsv : List (List Int32))
/-- behind an act's first number -/
def ld_2 (k_z p : Nat) : ld_rs := bif Nat.beq k_z 5 then (match lv_nm B n 400 nsv p with
  | .inl f => .inl f
  | .inr _ => .inr (tN B n 400 p)) else (match lv_num B n 400 0 (ld_h2 k_z) p with
  | .inl f => .inl f
  | .inr _ => .inr (tN B n 400 p))
/-- behind an act's word -/
def ld_1 (k_z p : Nat) : ld_rs := bif Nat.beq k_z 11 then .inr p else match lv_num B n 400 0 (ld_hi k_z) p with
  | .inl f => .inl f
  | .inr _ => bif Nat.beq k_z 8 || Nat.beq k_z 9 || Nat.beq k_z 12 then .inr (tN B n 400 p) else ld_2 B n nsv k_z (tN B n 400 p)
/-- behind a man's name -/
def ld_man (p : Nat) : ld_rs := bif Nat.beq (kyw (tW B n 400 p)) 5 || Nat.beq (kyw (tW B n 400 p)) 8 then ld_1 B n nsv (kyw (tW B n 400 p)) (tN B n 400 p) else .inl 1
def ld_line (p c : Nat) : ld_rs := bif Nat.beq (kyw (tW B n 400 p)) 0 then (match lv_nm B n 400 nsv p with
  | .inl f => .inl f
  | .inr _ => bif Nat.beq c 40 then .inl 4 else ld_man B n nsv (tN B n 400 p)) else bif ld_dd (kyw (tW B n 400 p)) then (bif Nat.beq c 40 then .inl 4 else ld_1 B n nsv (kyw (tW B n 400 p)) (tN B n 400 p)) else .inl 1
def ld_tx : Nat → Nat → Nat → ld_rs
  | 0, _, _ => .inl 0
  | m_z + 1, p, c => bif Nat.beq (tK B n 400 p) 0 then .inr c else match ld_line B n nsv p c with
    | .inl f => .inl f
    | .inr q => bif lv_sg B n 400 59 q then ld_tx m_z (tN B n 400 q) (c + 1) else .inl 1
def ld_flt (r : ld_rs) : Int32 := match r with
  | .inl f => f
  | .inr _ => 0
end LD
section LDL
variable {B : Nat → Int32} {n p c : Nat} {nsv : List (List Int32)}
theorem ld_2_ok {k_z q : Nat} (hp : p ≤ n) (h : ld_2 B n nsv k_z p = .inr q) : p ≤ q ∧ q ≤ n := by
  have n1 := tN_le (B := B) (lim := 400) hp
  unfold ld_2 at h
  cases h5 : Nat.beq k_z 5 with
  | true =>
    rw [h5] at h
    cases hm : lv_nm B n 400 nsv p with
    | inl f => rw [hm] at h; cases h
    | inr j => rw [hm] at h; cases h; exact ⟨n1.1, n1.2.1⟩
  | false =>
    rw [h5] at h
    cases hm : lv_num B n 400 0 (ld_h2 k_z) p with
    | inl f => rw [hm] at h; cases h
    | inr j => rw [hm] at h; cases h; exact ⟨n1.1, n1.2.1⟩
theorem ld_1_ok {k_z q : Nat} (hp : p ≤ n) (h : ld_1 B n nsv k_z p = .inr q) : p ≤ q ∧ q ≤ n := by
  have n1 := tN_le (B := B) (lim := 400) hp
  unfold ld_1 at h
  cases h5 : Nat.beq k_z 11 with
  | true => rw [h5] at h; cases h; exact ⟨Nat.le_refl _, hp⟩
  | false =>
    rw [h5] at h
    cases hm : lv_num B n 400 0 (ld_hi k_z) p with
    | inl f => rw [hm] at h; cases h
    | inr j =>
      rw [hm] at h
      have h : (bif Nat.beq k_z 8 || Nat.beq k_z 9 || Nat.beq k_z 12 then .inr (tN B n 400 p) else ld_2 B n nsv k_z (tN B n 400 p)) = (.inr q : ld_rs) := h
      cases h8 : (Nat.beq k_z 8 || Nat.beq k_z 9 || Nat.beq k_z 12) with
      | true => rw [h8] at h; cases h; exact ⟨n1.1, n1.2.1⟩
      | false =>
        rw [h8] at h
        have h := ld_2_ok n1.2.1 (show ld_2 B n nsv k_z (tN B n 400 p) = .inr q from h)
        omega
theorem ld_man_ok {q : Nat} (hp : p ≤ n) (h : ld_man B n nsv p = .inr q) : p ≤ q ∧ q ≤ n := by
  have n1 := tN_le (B := B) (lim := 400) hp
  unfold ld_man at h
  cases h8 : (Nat.beq (kyw (tW B n 400 p)) 5 || Nat.beq (kyw (tW B n 400 p)) 8) with
  | true =>
    rw [h8] at h
    have h := ld_1_ok n1.2.1 (show ld_1 B n nsv _ (tN B n 400 p) = .inr q from h)
    omega
  | false => rw [h8] at h; cases h
theorem ld_adv (hp : p ≤ n) {k_z : Nat} (h : tK B n 400 p = k_z) (h0 : k_z ≠ 0) (h4 : k_z ≠ 4) : p < tN B n 400 p := (tN_le (B := B) (lim := 400) hp).2.2 (by rw [h]; exact h0) (Or.inl (by rw [h]; exact h4))
theorem lv_nm_1 {lim j : Nat} (h : lv_nm B n lim nsv p = .inr j) : tK B n lim p = 1 := by
  unfold lv_nm at h
  cases hi : lv_isn B n lim p with
  | false => rw [hi] at h; cases h
  | true =>
    unfold lv_isn at hi
    rw [Bool.and_eq_true] at hi
    exact Nat.eq_of_beq_eq_true hi.1
theorem ld_line_ok {q : Nat} (hp : p ≤ n) (h : ld_line B n nsv p c = .inr q) : p < q ∧ q ≤ n ∧ c ≠ 40 := by
  have n1 := tN_le (B := B) (lim := 400) hp
  unfold ld_line at h
  cases h0 : Nat.beq (kyw (tW B n 400 p)) 0 with
  | true =>
    rw [h0] at h
    cases hm : lv_nm B n 400 nsv p with
    | inl f => rw [hm] at h; cases h
    | inr j =>
      rw [hm] at h
      have ha := ld_adv hp (lv_nm_1 hm) (by decide) (by decide)
      have h : (bif Nat.beq c 40 then .inl 4 else ld_man B n nsv (tN B n 400 p)) = (.inr q : ld_rs) := h
      cases h4 : Nat.beq c 40 with
      | true => rw [h4] at h; cases h
      | false =>
        rw [h4] at h
        have h := ld_man_ok n1.2.1 (show ld_man B n nsv (tN B n 400 p) = .inr q from h)
        exact ⟨by omega, h.2, nb_ne h4⟩
  | false =>
    rw [h0] at h
    have ha := ld_adv hp (kyw_T h0) (by decide) (by decide)
    have h : (bif ld_dd (kyw (tW B n 400 p)) then (bif Nat.beq c 40 then .inl 4 else ld_1 B n nsv (kyw (tW B n 400 p)) (tN B n 400 p)) else .inl 1) = (.inr q : ld_rs) := h
    cases hd : ld_dd (kyw (tW B n 400 p)) with
    | false => rw [hd] at h; cases h
    | true =>
      rw [hd] at h
      have h : (bif Nat.beq c 40 then .inl 4 else ld_1 B n nsv (kyw (tW B n 400 p)) (tN B n 400 p)) = (.inr q : ld_rs) := h
      cases h4 : Nat.beq c 40 with
      | true => rw [h4] at h; cases h
      | false =>
        rw [h4] at h
        have h := ld_1_ok n1.2.1 (show ld_1 B n nsv _ (tN B n 400 p) = .inr q from h)
        exact ⟨by omega, h.2, nb_ne h4⟩
theorem ld_dd_iff {k_z : Nat} : ld_dd k_z = true ↔ k_z = 6 ∨ k_z = 7 ∨ k_z = 9 ∨ k_z = 10 ∨ k_z = 11 ∨ k_z = 12 := by
  unfold ld_dd
  rw [Bool.or_eq_true, Bool.or_eq_true, Bool.and_eq_true]
  constructor
  · intro h
    rcases h with (h | h) | ⟨h, h'⟩
    · have := Nat.eq_of_beq_eq_true h; omega
    · have := Nat.eq_of_beq_eq_true h; omega
    · have := Nat.le_of_ble_eq_true h
      have := Nat.le_of_ble_eq_true h'
      omega
  · intro h
    rcases h with h | h | h | h | h | h <;> rw [h] <;> decide
theorem ld_hi_ne (k_z : Nat) : xe_cmp .eq (ld_hi k_z) (Int32.ofInt (-1)) = false := by
  unfold ld_hi
  cases Nat.beq k_z 12 <;> decide
theorem ld_h2_ne (k_z : Nat) : xe_cmp .ne (ld_h2 k_z) (Int32.ofInt (-1)) = true := by
  unfold ld_h2
  cases Nat.beq k_z 7 <;> decide
end LDL
