/-! ===== words: as lists of letters, base 32 (the class), base 256 (the reference) ===== -/
theorem snoc_c : ∀ (l : List Int32), l = [] ∨ ∃ t c, l = t ++ [c]
  | [] => Or.inl rfl
  | a :: t => by
    rcases snoc_c t with rfl | ⟨u, c, rfl⟩
    · exact Or.inr ⟨[], a, rfl⟩
    · exact Or.inr ⟨a :: u, c, rfl⟩
theorem all_s {P : Int32 → Bool} {t : List Int32} {c : Int32} (h : (t ++ [c]).all P = true) : t.all P = true ∧ P c = true := by
  rw [List.all_append, Bool.and_eq_true] at h
  refine ⟨h.1, ?_⟩
  have h2 : (P c && true) = true := h.2
  rw [Bool.and_true] at h2
  exact h2
theorem i64n {x : Int64} (h : 0 ≤ x.toInt) : (x.toBitVec.toNat : Int) = x.toInt := by
  have h1 : x.toInt = x.toBitVec.toInt := rfl
  have h3 := x.toBitVec.isLt
  rw [h1] at h ⊢
  rw [BitVec.toInt_eq_msb_cond] at h ⊢
  cases hm : x.toBitVec.msb with
  | true =>
    rw [hm, if_pos rfl] at h
    omega
  | false => rw [if_neg (by decide)]
def n32 (l : List Int32) : Nat := l.foldl (fun a c => a * 32 + (c.toInt - 96).toNat) 0
theorem n32_s (l : List Int32) (c : Int32) : n32 (l ++ [c]) = n32 l * 32 + (c.toInt - 96).toNat := by unfold n32; rw [List.foldl_append]; rfl
theorem n32_inj : ∀ (k : Nat) (w v : List Int32), w.length ≤ k → w.all tx_sm = true → v.all tx_sm = true → n32 w = n32 v → w = v := by
  intro k
  induction k with
  | zero =>
    intro w v hl hw hv e
    have e0 : w = [] := List.length_eq_zero_iff.mp (by omega)
    subst e0
    rcases snoc_c v with rfl | ⟨u, c, rfl⟩
    · rfl
    · have h1 := tx_sm_iff.mp (all_s hv).2
      rw [n32_s] at e
      have e : 0 = n32 u * 32 + (c.toInt - 96).toNat := e
      omega
  | succ k ih =>
    intro w v hl hw hv e
    rcases snoc_c w with rfl | ⟨t, a, rfl⟩
    · rcases snoc_c v with rfl | ⟨u, c, rfl⟩
      · rfl
      · have h1 := tx_sm_iff.mp (all_s hv).2
        rw [n32_s] at e
        have e : 0 = n32 u * 32 + (c.toInt - 96).toNat := e
        omega
    · have h2 := tx_sm_iff.mp (all_s hw).2
      rcases snoc_c v with rfl | ⟨u, c, rfl⟩
      · rw [n32_s] at e
        have e : n32 t * 32 + (a.toInt - 96).toNat = 0 := e
        omega
      · have h1 := tx_sm_iff.mp (all_s hv).2
        rw [n32_s, n32_s] at e
        have e1 : a.toInt = c.toInt := by omega
        have e2 : n32 t = n32 u := by omega
        rw [List.length_append] at hl
        have hl : t.length + 1 ≤ k + 1 := hl
        rw [ih t u (by omega) (all_s hw).1 (all_s hv).1 e2, Int32.toInt_inj.mp e1]
def n256 (l : List Int32) : Nat := l.foldl (fun a c => a * 256 + (c.toInt - 0).toNat) 0
theorem n256_s (l : List Int32) (c : Int32) : n256 (l ++ [c]) = n256 l * 256 + (c.toInt - 0).toNat := by unfold n256; rw [List.foldl_append]; rfl
theorem n256_inj : ∀ (k : Nat) (w v : List Int32), w.length ≤ k → w.all tx_sm = true → v.all tx_sm = true → n256 w = n256 v → w = v := by
  intro k
  induction k with
  | zero =>
    intro w v hl hw hv e
    have e0 : w = [] := List.length_eq_zero_iff.mp (by omega)
    subst e0
    rcases snoc_c v with rfl | ⟨u, c, rfl⟩
    · rfl
    · have h1 := tx_sm_iff.mp (all_s hv).2
      rw [n256_s] at e
      have e : 0 = n256 u * 256 + (c.toInt - 0).toNat := e
      omega
  | succ k ih =>
    intro w v hl hw hv e
    rcases snoc_c w with rfl | ⟨t, a, rfl⟩
    · rcases snoc_c v with rfl | ⟨u, c, rfl⟩
      · rfl
      · have h1 := tx_sm_iff.mp (all_s hv).2
        rw [n256_s] at e
        have e : 0 = n256 u * 256 + (c.toInt - 0).toNat := e
        omega
    · have h2 := tx_sm_iff.mp (all_s hw).2
      rcases snoc_c v with rfl | ⟨u, c, rfl⟩
      · rw [n256_s] at e
        have e : n256 t * 256 + (a.toInt - 0).toNat = 0 := e
        omega
      · have h1 := tx_sm_iff.mp (all_s hv).2
        rw [n256_s, n256_s] at e
        have e1 : a.toInt = c.toInt := by omega
        have e2 : n256 t = n256 u := by omega
        rw [List.length_append] at hl
        have hl : t.length + 1 ≤ k + 1 := hl
        rw [ih t u (by omega) (all_s hw).1 (all_s hv).1 e2, Int32.toInt_inj.mp e1]
theorem y32 {c : Int32} (h : tx_sm c = true) : (((c - 97) + 1).toInt64.toBitVec.toNat) = (c.toInt - 96).toNat := by
  have h1 := tx_sm_iff.mp h
  have e1 : (c - 97).toInt = c.toInt - 97 := by
    rw [Int32.toInt_sub]
    exact Int.bmod_eq_of_le (by show -((2 ^ 32 : Nat) / 2 : Int) ≤ c.toInt - 97; omega) (by show c.toInt - 97 < ((2 ^ 32 : Nat) + 1) / 2; omega)
  have e2 : ((c - 97) + 1).toInt = c.toInt - 96 := by
    rw [Int32.toInt_add, e1]
    have e3 : c.toInt - 97 + (1 : Int32).toInt = c.toInt - 96 := by
      show c.toInt - 97 + 1 = _
      omega
    rw [e3]
    exact Int.bmod_eq_of_le (by show -((2 ^ 32 : Nat) / 2 : Int) ≤ c.toInt - 96; omega) (by show c.toInt - 96 < ((2 ^ 32 : Nat) + 1) / 2; omega)
  have e4 : ((c - 97) + 1).toInt64.toInt = c.toInt - 96 := by rw [Int32.toInt_toInt64]; exact e2
  have e5 := i64n (x := ((c - 97) + 1).toInt64) (by rw [e4]; omega)
  rw [e4] at e5
  omega
theorem y256 {c : Int32} (h : tx_sm c = true) : (c.toInt64.toBitVec.toNat) = (c.toInt - 0).toNat := by
  have h1 := tx_sm_iff.mp h
  have e4 : c.toInt64.toInt = c.toInt := Int32.toInt_toInt64 c
  have e5 := i64n (x := c.toInt64) (by rw [e4]; omega)
  rw [e4] at e5
  omega
theorem c32_n : ∀ (k : Nat) (l : List Int32), l.length = k → k ≤ 12 → l.all tx_sm = true → (c32 l).toBitVec.toNat = n32 l ∧ n32 l < 32 ^ k := by
  intro k
  induction k with
  | zero =>
    intro l hl _ _
    have e0 : l = [] := List.length_eq_zero_iff.mp hl
    subst e0
    exact ⟨rfl, by decide⟩
  | succ k ih =>
    intro l hl hk ha
    rcases snoc_c l with rfl | ⟨t, c, rfl⟩
    · cases hl
    · rw [List.length_append] at hl
      have hl : t.length + 1 = k + 1 := hl
      obtain ⟨h1, h2⟩ := ih t (by omega) (by omega) (all_s ha).1
      have h3 := y32 (all_s ha).2
      have h4 := tx_sm_iff.mp (all_s ha).2
      have h5 : 32 ^ k ≤ 32 ^ 11 := Nat.pow_le_pow_right (by decide) (by omega)
      have h6 : (32 : Nat) ^ 11 = 36028797018963968 := by decide
      have h7 : 32 ^ (k + 1) = 32 ^ k * 32 := Nat.pow_succ 32 k
      rw [c32_s, n32_s]
      have e : (c32 t * 32 + ((c - 97) + 1).toInt64).toBitVec = (c32 t).toBitVec * (32 : Int64).toBitVec + ((c - 97) + 1).toInt64.toBitVec := rfl
      have e32 : (32 : Int64).toBitVec.toNat = 32 := rfl
      rw [e, BitVec.toNat_add, BitVec.toNat_mul, h1, h3, e32, h7]
      refine ⟨?_, by omega⟩
      rw [Nat.mod_eq_of_lt (a := n32 t * 32) (by omega), Nat.mod_eq_of_lt (by omega)]
theorem c256_n : ∀ (k : Nat) (l : List Int32), l.length = k → k ≤ 7 → l.all tx_sm = true → (c256 l).toBitVec.toNat = n256 l ∧ n256 l < 256 ^ k := by
  intro k
  induction k with
  | zero =>
    intro l hl _ _
    have e0 : l = [] := List.length_eq_zero_iff.mp hl
    subst e0
    exact ⟨rfl, by decide⟩
  | succ k ih =>
    intro l hl hk ha
    rcases snoc_c l with rfl | ⟨t, c, rfl⟩
    · cases hl
    · rw [List.length_append] at hl
      have hl : t.length + 1 = k + 1 := hl
      obtain ⟨h1, h2⟩ := ih t (by omega) (by omega) (all_s ha).1
      have h3 := y256 (all_s ha).2
      have h4 := tx_sm_iff.mp (all_s ha).2
      have h5 : 256 ^ k ≤ 256 ^ 6 := Nat.pow_le_pow_right (by decide) (by omega)
      have h6 : (256 : Nat) ^ 6 = 281474976710656 := by decide
      have h7 : 256 ^ (k + 1) = 256 ^ k * 256 := Nat.pow_succ 256 k
      rw [c256_s, n256_s]
      have e : ((c256 t <<< ((8 : Int32).toInt64 &&& 63)) ||| c.toInt64).toBitVec = ((c256 t).toBitVec <<< (8 : Nat)) ||| c.toInt64.toBitVec := rfl
      rw [e, BitVec.toNat_or, BitVec.toNat_shiftLeft, h1, h3, h7]
      have e8 : n256 t <<< 8 = n256 t * 256 := Nat.shiftLeft_eq _ _
      rw [Nat.mod_eq_of_lt (by rw [e8]; omega), ← Nat.shiftLeft_add_eq_or_of_lt (i := 8) (by show _ < 256; omega), e8]
      exact ⟨rfl, by omega⟩
theorem c32_inj {w v : List Int32} (hw : w.all tx_sm = true) (hv : v.all tx_sm = true) (lw : w.length ≤ 12) (lv : v.length ≤ 12) (e : c32 w = c32 v) : w = v := by
  have h1 := (c32_n _ w rfl lw hw).1
  have h2 := (c32_n _ v rfl lv hv).1
  rw [e, h2] at h1
  exact n32_inj _ w v (Nat.le_refl _) hw hv h1.symm
theorem m256_inj {w v : List Int32} (hw : w.all tx_sm = true) (hv : v.all tx_sm = true) (lv : v.length ≤ 7) (e : m256 w = c256 v) : w = v := by
  have h2 := c256_n _ v rfl lv hv
  unfold m256 at e
  by_cases lw : w.length ≤ 7
  · rw [decide_eq_true lw] at e
    have e : c256 w = c256 v := e
    have h1 := (c256_n _ w rfl lw hw).1
    rw [e, h2.1] at h1
    exact n256_inj _ w v (Nat.le_refl _) hw hv h1.symm
  · rw [decide_eq_false lw] at e
    have e : ((-1) : Int64) = c256 v := e
    have h3 := h2.1
    rw [← e] at h3
    have h4 : ((-1) : Int64).toBitVec.toNat = 18446744073709551615 := rfl
    have h5 : 256 ^ v.length ≤ 256 ^ 7 := Nat.pow_le_pow_right (by decide) lv
    have h6 : (256 : Nat) ^ 7 = 72057594037927936 := by decide
    omega
def kw : List (List Int32) := [[], [109, 97, 110], [108, 97, 100, 100, 101, 114], [100, 101, 98, 116], [114, 111, 116], [112, 97, 121, 115], [115, 97, 119, 115], [115, 112, 108, 105, 99, 101, 115], [99, 108, 105, 109, 98, 115], [98, 117, 114, 110, 115], [112, 97, 105, 110, 116, 115], [116, 97, 120, 101, 115], [119, 105, 110, 116, 101, 114], [111, 114], [97, 110, 100], [110, 111, 116], [103, 111, 110, 101], [98, 101, 97, 114, 115], [102, 97, 108, 115, 101], [111, 102], [108, 111, 110, 103], [108, 111, 111, 107, 115], [119, 111, 114, 116, 104], [110, 117, 109, 98, 101, 114]]
def rw9 : List (List Int32) := [[109, 97, 110], [108, 97, 100, 100, 101, 114], [100, 101, 98, 116], [114, 111, 116], [112, 97, 121, 115], [99, 108, 105, 109, 98, 115], [115, 97, 119, 115], [115, 112, 108, 105, 99, 101, 115], [98, 117, 114, 110, 115], [112, 97, 105, 110, 116, 115], [116, 97, 120, 101, 115], [119, 105, 110, 116, 101, 114], [111, 114], [97, 110, 100], [110, 111, 116], [103, 111, 110, 101], [98, 101, 97, 114, 115], [102, 97, 108, 115, 101], [111, 102], [108, 111, 110, 103], [108, 111, 111, 107, 115], [119, 111, 114, 116, 104], [110, 117, 109, 98, 101, 114]]
theorem kw_c32 : kw.map c32 = zkC := by decide +kernel
theorem kw_ok : ∀ v ∈ kw, v.all tx_sm = true ∧ v.length ≤ 7 := by decide +kernel
theorem kw_nd : ∀ i, i < 24 → ∀ j, j < 24 → kw[i]? = kw[j]? → i = j := by decide +kernel
def kw_i (w : List Int32) : List (List Int32) → Nat → Nat
  | [], _ => 0
  | a :: t, i => bif decide (a = w) then i else kw_i w t (i + 1)
/-- which of Key's words -/
def kyw (w : List Int32) : Nat := kw_i w kw 0
theorem ky_kw {w : List Int32} (hw : w.all tx_sm = true) (lw : w.length ≤ 12) : ∀ (l : List (List Int32)) (i : Nat), (∀ v ∈ l, v.all tx_sm = true ∧ v.length ≤ 7) → ky_i (c32 w) (l.map c32) i = kw_i w l i
  | [], _, _ => rfl
  | a :: t, i, h => by
    have ha := h a List.mem_cons_self
    have e : decide (c32 a = c32 w) = decide (a = w) := dec_iff ⟨fun q => c32_inj ha.1 hw (by omega) lw q, fun q => by rw [q]⟩
    show (bif decide (c32 a = c32 w) then i else ky_i (c32 w) (t.map c32) (i + 1)) = (bif decide (a = w) then i else kw_i w t (i + 1))
    rw [e, ky_kw hw lw t (i + 1) (fun v hv => h v (List.mem_cons_of_mem _ hv))]
theorem ky_w {w : List Int32} (hw : w.all tx_sm = true) (lw : w.length ≤ 12) : ky (c32 w) = kyw w := by
  unfold ky kyw
  rw [← kw_c32]
  exact ky_kw hw lw kw 0 kw_ok
theorem kw_sp {w : List Int32} : ∀ (l : List (List Int32)) (i : Nat), (∃ j, l[j]? = some w ∧ kw_i w l i = i + j) ∨ (w ∉ l ∧ kw_i w l i = 0)
  | [], _ => Or.inr ⟨by simp, rfl⟩
  | a :: t, i => by
    by_cases e : a = w
    · left
      refine ⟨0, by rw [e]; rfl, ?_⟩
      show (bif decide (a = w) then i else kw_i w t (i + 1)) = _
      rw [decide_eq_true e]; rfl
    · have e0 : kw_i w (a :: t) i = kw_i w t (i + 1) := by
        show (bif decide (a = w) then i else kw_i w t (i + 1)) = _
        rw [decide_eq_false e]; rfl
      rcases kw_sp t (i + 1) with ⟨j, h1, h2⟩ | ⟨h1, h2⟩
      · exact Or.inl ⟨j + 1, h1, by rw [e0, h2]; omega⟩
      · refine Or.inr ⟨?_, by rw [e0, h2]⟩
        intro hm
        rcases List.mem_cons.mp hm with h | h
        · exact e h.symm
        · exact h1 h
theorem kyw_iff {w : List Int32} {i : Nat} (h0 : 0 < i) (hi : i < 24) : kyw w = i ↔ kw[i]? = some w := by
  unfold kyw
  constructor
  · intro h
    rcases kw_sp (w := w) kw 0 with ⟨j, h1, h2⟩ | ⟨h1, h2⟩
    · have : j = i := by omega
      rw [← this]; exact h1
    · omega
  · intro h
    rcases kw_sp (w := w) kw 0 with ⟨j, h1, h2⟩ | ⟨h1, h2⟩
    · have hj : j < 24 := by
        have := (List.getElem?_eq_some_iff.mp h1).1
        exact this
      rw [h2, kw_nd j hj i hi (h1.trans h.symm)]
      omega
    · exact absurd (List.mem_of_getElem? h) h1
theorem kyw_0 {w : List Int32} (hw : w ≠ []) : kyw w = 0 ↔ w ∉ rw9 := by
  have hr : ∀ v, v ∈ kw ↔ v = [] ∨ v ∈ rw9 := by
    intro v
    simp only [kw, rw9, List.mem_cons, List.not_mem_nil, or_false]
    constructor <;> (rintro h; (repeat' (rcases h with h | h)) <;> simp [h])
  constructor
  · intro h hm
    have hk : w ∈ kw := (hr w).mpr (Or.inr hm)
    rcases kw_sp (w := w) kw 0 with ⟨j, h1, h2⟩ | ⟨h1, h2⟩
    · unfold kyw at h
      have hj : j = 0 := by omega
      rw [hj] at h1
      exact hw (Option.some.inj h1).symm
    · exact h1 hk
  · intro h
    rcases kw_sp (w := w) kw 0 with ⟨j, h1, h2⟩ | ⟨h1, h2⟩
    · exfalso
      rcases (hr w).mp (List.mem_of_getElem? h1) with h9 | h9
      · exact hw h9
      · exact h h9
    · exact h2
