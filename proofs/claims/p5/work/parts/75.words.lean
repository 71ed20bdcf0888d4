/-! ===== words: as lists of letters, base 32 (the class), base 256 (the reference) ===== -/
theorem snoc_c : ∀ (l : List Int32), l = [] ∨ ∃ t_z c_z, l = t_z ++ [c_z]
  | [] => Or.inl rfl
  | a_z :: t_z => by
    rcases snoc_c t_z with rfl | ⟨u_z, c_z, rfl⟩
    · exact Or.inr ⟨[], a_z, rfl⟩
    · exact Or.inr ⟨a_z :: u_z, c_z, rfl⟩
theorem all_s {P_z : Int32 → Bool} {t_z : List Int32} {c_z : Int32} (h_z : (t_z ++ [c_z]).all P_z = true) : t_z.all P_z = true ∧ P_z c_z = true := by
  rw [List.all_append, Bool.and_eq_true] at h_z
  refine ⟨h_z.1, ?_⟩
  have h2 : (P_z c_z && true) = true := h_z.2
  rw [Bool.and_true] at h2
  exact h2
theorem i64n {x_z : Int64} (h_z : 0 ≤ x_z.toInt) : (x_z.toBitVec.toNat : Int) = x_z.toInt := by
  have h1 : x_z.toInt = x_z.toBitVec.toInt := rfl
  have h3 := x_z.toBitVec.isLt
  rw [h1] at h_z ⊢
  rw [BitVec.toInt_eq_msb_cond] at h_z ⊢
  cases hm_z : x_z.toBitVec.msb with
  | true =>
    rw [hm_z, if_pos rfl] at h_z
    omega
  | false => rw [if_neg (by decide)]
def lp_n32 (l : List Int32) : Nat := l.foldl (fun a_z c_z => a_z * 32 + (c_z.toInt - 96).toNat) 0
theorem lp_n32_s (l : List Int32) (c_z : Int32) : lp_n32 (l ++ [c_z]) = lp_n32 l * 32 + (c_z.toInt - 96).toNat := by unfold lp_n32; rw [List.foldl_append]; rfl
theorem lp_n32_inj : ∀ (k_z : Nat) (w_z v_z : List Int32), w_z.length ≤ k_z → w_z.all tx_sm = true → v_z.all tx_sm = true → lp_n32 w_z = lp_n32 v_z → w_z = v_z := by
  intro k_z
  induction k_z with
  | zero =>
    intro w_z v_z hl hw hv e_z
    have e0_z : w_z = [] := List.length_eq_zero_iff.mp (by omega)
    subst e0_z
    rcases snoc_c v_z with rfl | ⟨u_z, c_z, rfl⟩
    · rfl
    · have h1 := tx_sm_iff.mp (all_s hv).2
      rw [lp_n32_s] at e_z
      have e_z : 0 = lp_n32 u_z * 32 + (c_z.toInt - 96).toNat := e_z
      omega
  | succ k_z ih_z =>
    intro w_z v_z hl hw hv e_z
    rcases snoc_c w_z with rfl | ⟨t_z, a_z, rfl⟩
    · rcases snoc_c v_z with rfl | ⟨u_z, c_z, rfl⟩
      · rfl
      · have h1 := tx_sm_iff.mp (all_s hv).2
        rw [lp_n32_s] at e_z
        have e_z : 0 = lp_n32 u_z * 32 + (c_z.toInt - 96).toNat := e_z
        omega
    · have h2 := tx_sm_iff.mp (all_s hw).2
      rcases snoc_c v_z with rfl | ⟨u_z, c_z, rfl⟩
      · rw [lp_n32_s] at e_z
        have e_z : lp_n32 t_z * 32 + (a_z.toInt - 96).toNat = 0 := e_z
        omega
      · have h1 := tx_sm_iff.mp (all_s hv).2
        rw [lp_n32_s, lp_n32_s] at e_z
        have e1_z : a_z.toInt = c_z.toInt := by omega
        have e2_z : lp_n32 t_z = lp_n32 u_z := by omega
        rw [List.length_append] at hl
        have hl : t_z.length + 1 ≤ k_z + 1 := hl
        rw [ih_z t_z u_z (by omega) (all_s hw).1 (all_s hv).1 e2_z, Int32.toInt_inj.mp e1_z]
def lp_n256 (l : List Int32) : Nat := l.foldl (fun a_z c_z => a_z * 256 + (c_z.toInt - 0).toNat) 0
theorem lp_n256_s (l : List Int32) (c_z : Int32) : lp_n256 (l ++ [c_z]) = lp_n256 l * 256 + (c_z.toInt - 0).toNat := by unfold lp_n256; rw [List.foldl_append]; rfl
theorem lp_n256_inj : ∀ (k_z : Nat) (w_z v_z : List Int32), w_z.length ≤ k_z → w_z.all tx_sm = true → v_z.all tx_sm = true → lp_n256 w_z = lp_n256 v_z → w_z = v_z := by
  intro k_z
  induction k_z with
  | zero =>
    intro w_z v_z hl hw hv e_z
    have e0_z : w_z = [] := List.length_eq_zero_iff.mp (by omega)
    subst e0_z
    rcases snoc_c v_z with rfl | ⟨u_z, c_z, rfl⟩
    · rfl
    · have h1 := tx_sm_iff.mp (all_s hv).2
      rw [lp_n256_s] at e_z
      have e_z : 0 = lp_n256 u_z * 256 + (c_z.toInt - 0).toNat := e_z
      omega
  | succ k_z ih_z =>
    intro w_z v_z hl hw hv e_z
    rcases snoc_c w_z with rfl | ⟨t_z, a_z, rfl⟩
    · rcases snoc_c v_z with rfl | ⟨u_z, c_z, rfl⟩
      · rfl
      · have h1 := tx_sm_iff.mp (all_s hv).2
        rw [lp_n256_s] at e_z
        have e_z : 0 = lp_n256 u_z * 256 + (c_z.toInt - 0).toNat := e_z
        omega
    · have h2 := tx_sm_iff.mp (all_s hw).2
      rcases snoc_c v_z with rfl | ⟨u_z, c_z, rfl⟩
      · rw [lp_n256_s] at e_z
        have e_z : lp_n256 t_z * 256 + (a_z.toInt - 0).toNat = 0 := e_z
        omega
      · have h1 := tx_sm_iff.mp (all_s hv).2
        rw [lp_n256_s, lp_n256_s] at e_z
        have e1_z : a_z.toInt = c_z.toInt := by omega
        have e2_z : lp_n256 t_z = lp_n256 u_z := by omega
        rw [List.length_append] at hl
        have hl : t_z.length + 1 ≤ k_z + 1 := hl
        rw [ih_z t_z u_z (by omega) (all_s hw).1 (all_s hv).1 e2_z, Int32.toInt_inj.mp e1_z]
theorem y32 {c_z : Int32} (h_z : tx_sm c_z = true) : (((c_z - 97) + 1).toInt64.toBitVec.toNat) = (c_z.toInt - 96).toNat := by
  have h1 := tx_sm_iff.mp h_z
  have e1_z : (c_z - 97).toInt = c_z.toInt - 97 := by
    rw [Int32.toInt_sub]
    exact Int.bmod_eq_of_le (by show -((2 ^ 32 : Nat) / 2 : Int) ≤ c_z.toInt - 97; omega) (by show c_z.toInt - 97 < ((2 ^ 32 : Nat) + 1) / 2; omega)
  have e2_z : ((c_z - 97) + 1).toInt = c_z.toInt - 96 := by
    rw [Int32.toInt_add, e1_z]
    have e3_z : c_z.toInt - 97 + (1 : Int32).toInt = c_z.toInt - 96 := by
      show c_z.toInt - 97 + 1 = _
      omega
    rw [e3_z]
    exact Int.bmod_eq_of_le (by show -((2 ^ 32 : Nat) / 2 : Int) ≤ c_z.toInt - 96; omega) (by show c_z.toInt - 96 < ((2 ^ 32 : Nat) + 1) / 2; omega)
  have e4_z : ((c_z - 97) + 1).toInt64.toInt = c_z.toInt - 96 := by rw [Int32.toInt_toInt64]; exact e2_z
  have e5_z := i64n (x_z := ((c_z - 97) + 1).toInt64) (by rw [e4_z]; omega)
  rw [e4_z] at e5_z
  omega
theorem y256 {c_z : Int32} (h_z : tx_sm c_z = true) : (c_z.toInt64.toBitVec.toNat) = (c_z.toInt - 0).toNat := by
  have h1 := tx_sm_iff.mp h_z
  have e4_z : c_z.toInt64.toInt = c_z.toInt := Int32.toInt_toInt64 c_z
  have e5_z := i64n (x_z := c_z.toInt64) (by rw [e4_z]; omega)
  rw [e4_z] at e5_z
  omega
theorem c32_n : ∀ (k_z : Nat) (l : List Int32), l.length = k_z → k_z ≤ 12 → l.all tx_sm = true → (c32 l).toBitVec.toNat = lp_n32 l ∧ lp_n32 l < 32 ^ k_z := by
  intro k_z
  induction k_z with
  | zero =>
    intro l hl _ _
    have e0_z : l = [] := List.length_eq_zero_iff.mp hl
    subst e0_z
    exact ⟨rfl, by decide⟩
  | succ k_z ih_z =>
    intro l hl hk ha_z
    rcases snoc_c l with rfl | ⟨t_z, c_z, rfl⟩
    · cases hl
    · rw [List.length_append] at hl
      have hl : t_z.length + 1 = k_z + 1 := hl
      obtain ⟨h1, h2⟩ := ih_z t_z (by omega) (by omega) (all_s ha_z).1
      have h3 := y32 (all_s ha_z).2
      have h4 := tx_sm_iff.mp (all_s ha_z).2
      have h5 : 32 ^ k_z ≤ 32 ^ 11 := Nat.pow_le_pow_right (by decide) (by omega)
      have h6 : (32 : Nat) ^ 11 = 36028797018963968 := by decide
      have h7 : 32 ^ (k_z + 1) = 32 ^ k_z * 32 := Nat.pow_succ 32 k_z
      rw [c32_s, lp_n32_s]
      have e_z : (c32 t_z * 32 + ((c_z - 97) + 1).toInt64).toBitVec = (c32 t_z).toBitVec * (32 : Int64).toBitVec + ((c_z - 97) + 1).toInt64.toBitVec := rfl
      have e32 : (32 : Int64).toBitVec.toNat = 32 := rfl
      rw [e_z, BitVec.toNat_add, BitVec.toNat_mul, h1, h3, e32, h7]
      refine ⟨?_, by omega⟩
      rw [Nat.mod_eq_of_lt (a := lp_n32 t_z * 32) (by omega), Nat.mod_eq_of_lt (by omega)]
theorem c256_n : ∀ (k_z : Nat) (l : List Int32), l.length = k_z → k_z ≤ 7 → l.all tx_sm = true → (c256 l).toBitVec.toNat = lp_n256 l ∧ lp_n256 l < 256 ^ k_z := by
  intro k_z
  induction k_z with
  | zero =>
    intro l hl _ _
    have e0_z : l = [] := List.length_eq_zero_iff.mp hl
    subst e0_z
    exact ⟨rfl, by decide⟩
  | succ k_z ih_z =>
    intro l hl hk ha_z
    rcases snoc_c l with rfl | ⟨t_z, c_z, rfl⟩
    · cases hl
    · rw [List.length_append] at hl
      have hl : t_z.length + 1 = k_z + 1 := hl
      obtain ⟨h1, h2⟩ := ih_z t_z (by omega) (by omega) (all_s ha_z).1
      have h3 := y256 (all_s ha_z).2
      have h4 := tx_sm_iff.mp (all_s ha_z).2
      have h5 : 256 ^ k_z ≤ 256 ^ 6 := Nat.pow_le_pow_right (by decide) (by omega)
      have h6 : (256 : Nat) ^ 6 = 281474976710656 := by decide
      have h7 : 256 ^ (k_z + 1) = 256 ^ k_z * 256 := Nat.pow_succ 256 k_z
      rw [c256_s, lp_n256_s]
      have e_z : ((c256 t_z <<< ((8 : Int32).toInt64 &&& 63)) ||| c_z.toInt64).toBitVec = ((c256 t_z).toBitVec <<< (8 : Nat)) ||| c_z.toInt64.toBitVec := rfl
      rw [e_z, BitVec.toNat_or, BitVec.toNat_shiftLeft, h1, h3, h7]
      have e8 : lp_n256 t_z <<< 8 = lp_n256 t_z * 256 := Nat.shiftLeft_eq _ _
      rw [Nat.mod_eq_of_lt (by rw [e8]; omega), ← Nat.shiftLeft_add_eq_or_of_lt (i := 8) (by show _ < 256; omega), e8]
      exact ⟨rfl, by omega⟩
theorem c32_inj {w_z v_z : List Int32} (hw : w_z.all tx_sm = true) (hv : v_z.all tx_sm = true) (lw : w_z.length ≤ 12) (lv : v_z.length ≤ 12) (e_z : c32 w_z = c32 v_z) : w_z = v_z := by
  have h1 := (c32_n _ w_z rfl lw hw).1
  have h2 := (c32_n _ v_z rfl lv hv).1
  rw [e_z, h2] at h1
  exact lp_n32_inj _ w_z v_z (Nat.le_refl _) hw hv h1.symm
theorem m256_inj {w_z v_z : List Int32} (hw : w_z.all tx_sm = true) (hv : v_z.all tx_sm = true) (lv : v_z.length ≤ 7) (e_z : m256 w_z = c256 v_z) : w_z = v_z := by
  have h2 := c256_n _ v_z rfl lv hv
  unfold m256 at e_z
  by_cases lw : w_z.length ≤ 7
  · rw [decide_eq_true lw] at e_z
    have e_z : c256 w_z = c256 v_z := e_z
    have h1 := (c256_n _ w_z rfl lw hw).1
    rw [e_z, h2.1] at h1
    exact lp_n256_inj _ w_z v_z (Nat.le_refl _) hw hv h1.symm
  · rw [decide_eq_false lw] at e_z
    have e_z : ((-1) : Int64) = c256 v_z := e_z
    have h3 := h2.1
    rw [← e_z] at h3
    have h4 : ((-1) : Int64).toBitVec.toNat = 18446744073709551615 := rfl
    have h5 : 256 ^ v_z.length ≤ 256 ^ 7 := Nat.pow_le_pow_right (by decide) lv
    have h6 : (256 : Nat) ^ 7 = 72057594037927936 := by decide
    omega
def kw : List (List Int32) := [[], [109, 97, 110], [108, 97, 100, 100, 101, 114], [100, 101, 98, 116], [114, 111, 116], [112, 97, 121, 115], [115, 97, 119, 115], [115, 112, 108, 105, 99, 101, 115], [99, 108, 105, 109, 98, 115], [98, 117, 114, 110, 115], [112, 97, 105, 110, 116, 115], [116, 97, 120, 101, 115], [119, 105, 110, 116, 101, 114], [111, 114], [97, 110, 100], [110, 111, 116], [103, 111, 110, 101], [98, 101, 97, 114, 115], [102, 97, 108, 115, 101], [111, 102], [108, 111, 110, 103], [108, 111, 111, 107, 115], [119, 111, 114, 116, 104], [110, 117, 109, 98, 101, 114]]
def rw9 : List (List Int32) := [[109, 97, 110], [108, 97, 100, 100, 101, 114], [100, 101, 98, 116], [114, 111, 116], [112, 97, 121, 115], [99, 108, 105, 109, 98, 115], [115, 97, 119, 115], [115, 112, 108, 105, 99, 101, 115], [98, 117, 114, 110, 115], [112, 97, 105, 110, 116, 115], [116, 97, 120, 101, 115], [119, 105, 110, 116, 101, 114], [111, 114], [97, 110, 100], [110, 111, 116], [103, 111, 110, 101], [98, 101, 97, 114, 115], [102, 97, 108, 115, 101], [111, 102], [108, 111, 110, 103], [108, 111, 111, 107, 115], [119, 111, 114, 116, 104], [110, 117, 109, 98, 101, 114]]
theorem kw_c32 : kw.map c32 = zkC := by decide +kernel
theorem kw_ok : ∀ v_z ∈ kw, v_z.all tx_sm = true ∧ v_z.length ≤ 7 := by decide +kernel
theorem kw_nd : ∀ i_z, i_z < 24 → ∀ j_z, j_z < 24 → kw[i_z]? = kw[j_z]? → i_z = j_z := by decide +kernel
def kw_i (w_z : List Int32) : List (List Int32) → Nat → Nat
  | [], _ => 0
  | a_z :: t_z, i_z => bif decide (a_z = w_z) then i_z else kw_i w_z t_z (i_z + 1)
/-- which of Key's words -/
def kyw (w_z : List Int32) : Nat := kw_i w_z kw 0
theorem ky_kw {w_z : List Int32} (hw : w_z.all tx_sm = true) (lw : w_z.length ≤ 12) : ∀ (l : List (List Int32)) (i_z : Nat), (∀ v_z ∈ l, v_z.all tx_sm = true ∧ v_z.length ≤ 7) → ky_i (c32 w_z) (l.map c32) i_z = kw_i w_z l i_z
  | [], _, _ => rfl
  | a_z :: t_z, i_z, h_z => by
    have ha_z := h_z a_z List.mem_cons_self
    have e_z : decide (c32 a_z = c32 w_z) = decide (a_z = w_z) := dec_iff ⟨fun q_z => c32_inj ha_z.1 hw (by omega) lw q_z, fun q_z => by rw [q_z]⟩
    show (bif decide (c32 a_z = c32 w_z) then i_z else ky_i (c32 w_z) (t_z.map c32) (i_z + 1)) = (bif decide (a_z = w_z) then i_z else kw_i w_z t_z (i_z + 1))
    rw [e_z, ky_kw hw lw t_z (i_z + 1) (fun v_z hv => h_z v_z (List.mem_cons_of_mem _ hv))]
theorem ky_w {w_z : List Int32} (hw : w_z.all tx_sm = true) (lw : w_z.length ≤ 12) : ky (c32 w_z) = kyw w_z := by
  unfold ky kyw
  rw [← kw_c32]
  exact ky_kw hw lw kw 0 kw_ok
theorem kw_sp {w_z : List Int32} : ∀ (l : List (List Int32)) (i_z : Nat), (∃ j_z, l[j_z]? = some w_z ∧ kw_i w_z l i_z = i_z + j_z) ∨ (w_z ∉ l ∧ kw_i w_z l i_z = 0)
  | [], _ => Or.inr ⟨by simp, rfl⟩
  | a_z :: t_z, i_z => by
    by_cases e_z : a_z = w_z
    · left
      refine ⟨0, by rw [e_z]; rfl, ?_⟩
      show (bif decide (a_z = w_z) then i_z else kw_i w_z t_z (i_z + 1)) = _
      rw [decide_eq_true e_z]; rfl
    · have e0_z : kw_i w_z (a_z :: t_z) i_z = kw_i w_z t_z (i_z + 1) := by
        show (bif decide (a_z = w_z) then i_z else kw_i w_z t_z (i_z + 1)) = _
        rw [decide_eq_false e_z]; rfl
      rcases kw_sp t_z (i_z + 1) with ⟨j_z, h1, h2⟩ | ⟨h1, h2⟩
      · exact Or.inl ⟨j_z + 1, h1, by rw [e0_z, h2]; omega⟩
      · refine Or.inr ⟨?_, by rw [e0_z, h2]⟩
        intro hm_z
        rcases List.mem_cons.mp hm_z with h_z | h_z
        · exact e_z h_z.symm
        · exact h1 h_z
theorem kyw_iff {w_z : List Int32} {i_z : Nat} (h0 : 0 < i_z) (hi_z : i_z < 24) : kyw w_z = i_z ↔ kw[i_z]? = some w_z := by
  unfold kyw
  constructor
  · intro h_z
    rcases kw_sp (w_z := w_z) kw 0 with ⟨j_z, h1, h2⟩ | ⟨h1, h2⟩
    · have : j_z = i_z := by omega
      rw [← this]; exact h1
    · omega
  · intro h_z
    rcases kw_sp (w_z := w_z) kw 0 with ⟨j_z, h1, h2⟩ | ⟨h1, h2⟩
    · have hj : j_z < 24 := by
        have := (List.getElem?_eq_some_iff.mp h1).1
        exact this
      rw [h2, kw_nd j_z hj i_z hi_z (h1.trans h_z.symm)]
      omega
    · exact absurd (List.mem_of_getElem? h_z) h1
theorem kyw_0 {w_z : List Int32} (hw : w_z ≠ []) : kyw w_z = 0 ↔ w_z ∉ rw9 := by
  have hr : ∀ v_z, v_z ∈ kw ↔ v_z = [] ∨ v_z ∈ rw9 := by
    intro v_z
    simp only [kw, rw9, List.mem_cons, List.not_mem_nil, or_false]
    constructor
    · intro hq_z
      rcases hq_z with rfl | rfl | rfl | rfl | rfl | rfl | rfl | rfl | rfl | rfl | rfl | rfl | rfl | rfl | rfl | rfl | rfl | rfl | rfl | rfl | rfl | rfl | rfl | rfl <;> decide +kernel
    · intro hq_z
      rcases hq_z with rfl | rfl | rfl | rfl | rfl | rfl | rfl | rfl | rfl | rfl | rfl | rfl | rfl | rfl | rfl | rfl | rfl | rfl | rfl | rfl | rfl | rfl | rfl | rfl <;> decide +kernel
  constructor
  · intro h_z hm_z
    have hk : w_z ∈ kw := (hr w_z).mpr (Or.inr hm_z)
    rcases kw_sp (w_z := w_z) kw 0 with ⟨j_z, h1, h2⟩ | ⟨h1, h2⟩
    · unfold kyw at h_z
      have hj : j_z = 0 := by omega
      rw [hj] at h1
      exact hw (Option.some.inj h1).symm
    · exact h1 hk
  · intro h_z
    rcases kw_sp (w_z := w_z) kw 0 with ⟨j_z, h1, h2⟩ | ⟨h1, h2⟩
    · exfalso
      rcases (hr w_z).mp (List.mem_of_getElem? h1) with h9 | h9
      · exact hw h9
      · exact h_z h9
    · exact h2
