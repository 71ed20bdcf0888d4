/-! ===== the text on the tape: runs, tokens, words ===== -/
def tx_bl (c : Int32) : Bool := decide (c = 32) || decide (c = 10)
def tx_sm (c : Int32) : Bool := decide (97 ≤ c) && decide (c ≤ 122)
def tx_dg (c : Int32) : Bool := decide (48 ≤ c) && decide (c ≤ 57)
def tx_an (c : Int32) : Bool := tx_sm c || tx_dg c
/-- from p on, over at most j places: where the first byte lies that isn't so -/
def tx_go (P : Int32 → Bool) (B : Nat → Int32) : Nat → Nat → Nat
  | 0, p => p
  | j + 1, p => bif P (B p) then tx_go P B j (p + 1) else p
theorem tx_go_le (P : Int32 → Bool) (B : Nat → Int32) : ∀ (j p : Nat), p ≤ tx_go P B j p ∧ tx_go P B j p ≤ p + j
  | 0, p => ⟨Nat.le_refl _, Nat.le_refl _⟩
  | j + 1, p => by
    unfold tx_go
    have := tx_go_le P B j (p + 1)
    cases P (B p) with
    | true => show p ≤ tx_go P B j (p + 1) ∧ _; exact ⟨by omega, by show tx_go P B j (p + 1) ≤ _; omega⟩
    | false => exact ⟨Nat.le_refl _, by show p ≤ _; omega⟩
theorem tx_go_in {P : Int32 → Bool} {B : Nat → Int32} : ∀ {j p i : Nat}, p ≤ i → i < tx_go P B j p → P (B i) = true
  | 0, p, i, h1, h2 => by unfold tx_go at h2; omega
  | j + 1, p, i, h1, h2 => by
    unfold tx_go at h2
    cases hp : P (B p) with
    | true =>
      rw [hp] at h2
      by_cases e : i = p
      · rw [e]; exact hp
      · exact tx_go_in (j := j) (p := p + 1) (by omega) h2
    | false =>
      rw [hp] at h2
      have h2 : i < p := h2
      omega
theorem tx_go_T {P : Int32 → Bool} {B : Nat → Int32} {j p : Nat} (h : P (B p) = true) : tx_go P B (j + 1) p = tx_go P B j (p + 1) := by
  show (bif P (B p) then tx_go P B j (p + 1) else p) = _
  rw [h]; rfl
theorem tx_go_F {P : Int32 → Bool} {B : Nat → Int32} {j p : Nat} (h : P (B p) = false) : tx_go P B j p = p := by
  cases j with
  | zero => rfl
  | succ j =>
    show (bif P (B p) then tx_go P B j (p + 1) else p) = _
    rw [h]; rfl
/-- j bytes from p on -/
def bs (B : Nat → Int32) (p : Nat) : Nat → List Int32
  | 0 => []
  | j + 1 => bs B p j ++ [B (p + j)]
theorem bs_len (B : Nat → Int32) (p : Nat) : ∀ j, (bs B p j).length = j
  | 0 => rfl
  | j + 1 => by unfold bs; rw [List.length_append, bs_len B p j]; rfl
theorem bs_all {B : Nat → Int32} {p : Nat} {P : Int32 → Bool} : ∀ {j : Nat}, (∀ i, p ≤ i → i < p + j → P (B i) = true) → (bs B p j).all P = true
  | 0, _ => rfl
  | j + 1, h => by
    unfold bs
    rw [List.all_append, bs_all (fun i h1 h2 => h i h1 (by omega))]
    show (true && (P (B (p + j)) && true)) = true
    rw [h (p + j) (by omega) (by omega)]
    rfl
def c32 (l : List Int32) : Int64 := l.foldl (fun a c => a * 32 + ((c - 97) + 1).toInt64) (Int64.ofNat 0)
def c10 (l : List Int32) : Int32 := l.foldl (fun a c => a * 10 + (c - 48)) 0
def c256 (l : List Int32) : Int64 := l.foldl (fun a c => (a <<< ((8 : Int32).toInt64 &&& 63)) ||| c.toInt64) (Int64.ofNat 0)
def d10 (l : List Int32) : Int32 := l.foldl (fun a c => 10 * a + c - 48) 0
theorem c32_s (l : List Int32) (c : Int32) : c32 (l ++ [c]) = c32 l * 32 + ((c - 97) + 1).toInt64 := by unfold c32; rw [List.foldl_append]; rfl
theorem c10_s (l : List Int32) (c : Int32) : c10 (l ++ [c]) = c10 l * 10 + (c - 48) := by unfold c10; rw [List.foldl_append]; rfl
theorem c256_s (l : List Int32) (c : Int32) : c256 (l ++ [c]) = (c256 l <<< ((8 : Int32).toInt64 &&& 63)) ||| c.toInt64 := by unfold c256; rw [List.foldl_append]; rfl
theorem d10_s (l : List Int32) (c : Int32) : d10 (l ++ [c]) = 10 * d10 l + c - 48 := by unfold d10; rw [List.foldl_append]; rfl
theorem c10_d10 (l : List Int32) : c10 l = d10 l := by
  unfold c10 d10
  have e : (fun (a c : Int32) => a * 10 + (c - 48)) = (fun a c => 10 * a + c - 48) := by
    funext a c
    rw [Int32.mul_comm a 10, Int32.sub_eq_add_neg, Int32.sub_eq_add_neg, Int32.add_assoc]
  rw [e]
/-- the sort of a run of small letters and digits -/
def rk (r : List Int32) : Nat := bif r.all tx_sm && decide (r.length ≤ 12) then 1 else bif r.all tx_dg && decide (r.length ≤ 3) then 2 else 4
section TK
variable (B : Nat → Int32) (n lim p : Nat)
def tq : Nat := tx_go tx_bl B (n - p) p
def te : Nat := tx_go tx_an B (n - tq B n p) (tq B n p)
def tr : List Int32 := bs B (tq B n p) (te B n p - tq B n p)
def tov : Bool := decide (lim ≤ tq B n p) && decide (lim < n)
def tA : Nat := bif tov B n lim p then lim else tq B n p
def tN : Nat := bif tov B n lim p then tq B n p else bif decide (n ≤ tq B n p) then tq B n p else bif decide (te B n p = tq B n p) then tq B n p + 1 else te B n p
def tK : Nat := bif tov B n lim p then 4 else bif decide (n ≤ tq B n p) then 0 else bif decide (te B n p = tq B n p) then 3 else rk (tr B n p)
def tW : List Int32 := bif Nat.beq (tK B n lim p) 1 then tr B n p else []
def tX : Int32 := c10 (tr B n p)
def tS : Int32 := bif Nat.beq (tK B n lim p) 3 then B (tq B n p) else 0
end TK
/-! ===== ints that are small numbers ===== -/
theorem ti {a : Nat} (h : a < 2147483648) : (Int32.ofNat a).toInt = a := Int32.toInt_ofNat_of_lt h
theorem tin {a : Nat} (h : a < 2147483648) : (Int32.ofNat a).toInt.toNat = a := by rw [ti h]; exact Int.toNat_natCast a
theorem tlt {a b : Nat} (ha : a < 2147483648) (hb : b < 2147483648) : decide (Int32.ofNat a < Int32.ofNat b) = decide (a < b) := by
  by_cases h : a < b
  · rw [decide_eq_true h, decide_eq_true (Int32.lt_iff_toInt_lt.mpr (by rw [ti ha, ti hb]; omega))]
  · rw [decide_eq_false h, decide_eq_false (fun q => h (by have := Int32.lt_iff_toInt_lt.mp q; rw [ti ha, ti hb] at this; omega))]
theorem tle {a b : Nat} (ha : a < 2147483648) (hb : b < 2147483648) : decide (Int32.ofNat a ≤ Int32.ofNat b) = decide (a ≤ b) := by
  by_cases h : a ≤ b
  · rw [decide_eq_true h, decide_eq_true (Int32.le_iff_toInt_le.mpr (by rw [ti ha, ti hb]; omega))]
  · rw [decide_eq_false h, decide_eq_false (fun q => h (by have := Int32.le_iff_toInt_le.mp q; rw [ti ha, ti hb] at this; omega))]
theorem teq {a b : Nat} (ha : a < 2147483648) (hb : b < 2147483648) : decide (Int32.ofNat a = Int32.ofNat b) = decide (a = b) := by
  by_cases h : a = b
  · rw [decide_eq_true h, decide_eq_true (by rw [h])]
  · rw [decide_eq_false h, decide_eq_false (fun q => h (by have := congrArg Int32.toInt q; rw [ti ha, ti hb] at this; omega))]
theorem tne {a b : Nat} (ha : a < 2147483648) (hb : b < 2147483648) : decide (¬ Int32.ofNat a = Int32.ofNat b) = decide (¬ a = b) := by
  have h := teq ha hb
  by_cases e : a = b
  · rw [decide_eq_false (p := ¬ a = b) (fun q => q e), decide_eq_false (fun q => q (by rw [e]))]
  · rw [decide_eq_true e]
    rw [decide_eq_false e] at h
    exact decide_eq_true (of_decide_eq_false h)
/-- a comparison of small numbers -/
def ncmp (c : ClassFile.Cond) (a b : Nat) : Bool := match c with
  | .eq => decide (a = b)
  | .ne => decide (¬ a = b)
  | .lt => decide (a < b)
  | .ge => decide (b ≤ a)
  | .gt => decide (b < a)
  | .le => decide (a ≤ b)
theorem xn {c : ClassFile.Cond} {a b : Nat} (ha : a < 2147483648) (hb : b < 2147483648) : xe_cmp c (Int32.ofNat a) (Int32.ofNat b) = ncmp c a b := by
  cases c
  · exact teq ha hb
  · exact tne ha hb
  · exact tlt ha hb
  · exact tle hb ha
  · exact tlt hb ha
  · exact tle ha hb
theorem xib {a n : Nat} (h : a < n) (hn : n < 2147483648) : xe_ib (Int32.ofNat a) n = true := by
  unfold xe_ib
  rw [ti (by omega), decide_eq_true (by omega), decide_eq_true (by omega)]
  rfl
theorem ti1 (a : Nat) : Int32.ofNat a + 1 = Int32.ofNat (a + 1) := (Int32.ofNat_add a 1).symm
/-! ===== pictures that differ in some kinds alone ===== -/
def fr (ks : List Nat) (I I' : Nat → Nat → Int32) : Prop := ∀ g i, xe_el g ks = false → I' g i = I g i
def frl (ks : List Nat) (L L' : Nat → Nat → Int64) : Prop := ∀ g i, xe_el g ks = false → L' g i = L g i
theorem fr.rf {ks : List Nat} {I : Nat → Nat → Int32} : fr ks I I := fun _ _ _ => rfl
theorem frl.rf {ks : List Nat} {L : Nat → Nat → Int64} : frl ks L L := fun _ _ _ => rfl
theorem fr.tr {ks : List Nat} {I J K : Nat → Nat → Int32} (h : fr ks I J) (h2 : fr ks J K) : fr ks I K := fun g i q => (h2 g i q).trans (h g i q)
theorem frl.tr {ks : List Nat} {I J K : Nat → Nat → Int64} (h : frl ks I J) (h2 : frl ks J K) : frl ks I K := fun g i q => (h2 g i q).trans (h g i q)
theorem xu_ne {I : Nat → Nat → Int32} {g i g' i' : Nat} {x : Int32} (h : (Nat.beq g' g && Nat.beq i' i) = false) : xu I g i x g' i' = I g' i' := by
  unfold xu; rw [h]; rfl
theorem xul_ne {I : Nat → Nat → Int64} {g i g' i' : Nat} {x : Int64} (h : (Nat.beq g' g && Nat.beq i' i) = false) : xul I g i x g' i' = I g' i' := by
  unfold xul; rw [h]; rfl
theorem xu_eq {I : Nat → Nat → Int32} {g i : Nat} {x : Int32} : xu I g i x g i = x := by
  unfold xu; rw [Nat.beq_refl, Nat.beq_refl]; rfl
theorem xul_eq {I : Nat → Nat → Int64} {g i : Nat} {x : Int64} : xul I g i x g i = x := by
  unfold xul; rw [Nat.beq_refl, Nat.beq_refl]; rfl
theorem fr.up {ks : List Nat} {I J : Nat → Nat → Int32} {g i : Nat} {x : Int32} (h : fr ks I J) (hg : xe_el g ks = true) : fr ks I (xu J g i x) := fun g' i' q => by
  rw [xu_ne]
  · exact h g' i' q
  · cases hb : Nat.beq g' g
    · rfl
    · rw [Nat.eq_of_beq_eq_true hb, hg] at q; cases q
theorem frl.up {ks : List Nat} {I J : Nat → Nat → Int64} {g i : Nat} {x : Int64} (h : frl ks I J) (hg : xe_el g ks = true) : frl ks I (xul J g i x) := fun g' i' q => by
  rw [xul_ne]
  · exact h g' i' q
  · cases hb : Nat.beq g' g
    · rfl
    · rw [Nat.eq_of_beq_eq_true hb, hg] at q; cases q
