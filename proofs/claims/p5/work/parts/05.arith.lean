/-! ===== what the int instructions make of linear forms ===== -/
abbrev zf_R := Sum zf_L (Int × Int × List zf_L)
def zf_any : zf_R := .inr (-2147483648, 2147483647, [])
/-- z is what r says; an unknown that is new has the number n -/
def zf_res (n : Nat) (ρ : Nat → Int) (r : zf_R) (z : Int32) : Prop := match r with
  | .inl h => z.toInt = zf_v ρ h
  | .inr q => q.1 ≤ z.toInt ∧ z.toInt ≤ q.2.1 ∧ ∀ g ∈ q.2.2, 0 ≤ zf_v (zf_up ρ n z.toInt) g
theorem zi_lo (x : Int32) : -2147483648 ≤ x.toInt := by have := x.le_toInt; omega
theorem zi_hi (x : Int32) : x.toInt ≤ 2147483647 := by have := x.toInt_lt; omega
theorem zf_any_ok (n : Nat) (ρ : Nat → Int) (z : Int32) : zf_res n ρ zf_any z := ⟨zi_lo z, zi_hi z, fun g h => by cases h⟩
/-- f less the new one, if f has only older ones; the new one less f -/
def zf_ub (n : Nat) (k : Int) (f : zf_L) : List zf_L := match zf_bt n f.1 with
  | true => [zf_add (zf_sub f (zf_sym n)) (zf_con k)]
  | false => []
def zf_lb (n : Nat) (f : zf_L) : List zf_L := match zf_bt n f.1 with
  | true => [zf_sub (zf_sym n) f]
  | false => []
theorem zf_up_v {n : Nat} {ρ : Nat → Int} {x : Int} {f : zf_L} (h : zf_bt n f.1 = true) : zf_v (zf_up ρ n x) f = zf_v ρ f :=
  zf_bt_v (fun i hi => if_neg (Nat.ne_of_lt hi)) h
theorem zf_up_n (ρ : Nat → Int) (n : Nat) (x : Int) : zf_up ρ n x n = x := if_pos rfl
theorem zf_ub_ok {n : Nat} {ρ : Nat → Int} {x k : Int} {f : zf_L} (h : x ≤ zf_v ρ f + k) : ∀ g ∈ zf_ub n k f, 0 ≤ zf_v (zf_up ρ n x) g := by
  intro g hg
  unfold zf_ub at hg
  split at hg
  · rename_i hb
    rw [List.mem_singleton.mp hg, zf_v_add, zf_v_sub, zf_up_v hb, zf_v_sym, zf_up_n, zf_v_con]
    omega
  · cases hg
theorem zf_lb_ok {n : Nat} {ρ : Nat → Int} {x : Int} {f : zf_L} (h : zf_v ρ f ≤ x) : ∀ g ∈ zf_lb n f, 0 ≤ zf_v (zf_up ρ n x) g := by
  intro g hg
  unfold zf_lb at hg
  split at hg
  · rename_i hb
    rw [List.mem_singleton.mp hg, zf_v_sub, zf_up_v hb, zf_v_sym, zf_up_n]
    omega
  · cases hg
theorem zf_two {n : Nat} {ρ : Nat → Int} {x : Int} {a b : List zf_L} (ha : ∀ g ∈ a, 0 ≤ zf_v (zf_up ρ n x) g) (hb : ∀ g ∈ b, 0 ≤ zf_v (zf_up ρ n x) g) : ∀ g ∈ a ++ b, 0 ≤ zf_v (zf_up ρ n x) g := by
  intro g hg
  rcases List.mem_append.mp hg with h | h
  · exact ha g h
  · exact hb g h
def zf_fit (E : zf_E) (h : zf_L) : zf_R := match zf_le (-2147483648) (zf_lo E h) && zf_le (zf_hi E h) 2147483647 with
  | true => .inl h
  | false => zf_any
theorem zf_fit_ok {E : zf_E} {ρ : Nat → Int} (hE : zf_okE E ρ) {h : zf_L} {z : Int32} {n : Nat} (hz : -2147483648 ≤ zf_v ρ h → zf_v ρ h ≤ 2147483647 → z.toInt = zf_v ρ h) : zf_res n ρ (zf_fit E h) z := by
  unfold zf_fit
  split
  · rename_i hb
    simp only [Bool.and_eq_true, zf_le_iff] at hb
    have h1 := zf_lo_le hE h
    have h2 := zf_le_hi hE h
    exact hz (by omega) (by omega)
  · exact zf_any_ok n ρ z
section ZA
variable {E : zf_E} {ρ : Nat → Int} {f g : zf_L} {x y : Int32} {n : Nat}
theorem zf_oadd (hE : zf_okE E ρ) (hx : x.toInt = zf_v ρ f) (hy : y.toInt = zf_v ρ g) : zf_res n ρ (zf_fit E (zf_add f g)) (x + y) :=
  zf_fit_ok hE fun h1 h2 => by rw [zf_v_add] at *; rw [Kit.i32_add (by omega) (by omega), hx, hy]
theorem zf_osub (hE : zf_okE E ρ) (hx : x.toInt = zf_v ρ f) (hy : y.toInt = zf_v ρ g) : zf_res n ρ (zf_fit E (zf_sub f g)) (x - y) :=
  zf_fit_ok hE fun h1 h2 => by rw [zf_v_sub] at *; rw [Kit.i32_sub (by omega) (by omega), hx, hy]
theorem zf_oneg (hE : zf_okE E ρ) (hx : x.toInt = zf_v ρ f) : zf_res n ρ (zf_fit E (zf_mul (-1) f)) (-x) :=
  zf_fit_ok hE fun h1 h2 => by rw [zf_v_mul] at *; rw [Kit.i32_neg (by omega), hx]; omega
def zf_mulR (E : zf_E) (f g : zf_L) : zf_R := match f.1 with
  | [] => zf_fit E (zf_mul f.2 g)
  | _ => match g.1 with
    | [] => zf_fit E (zf_mul g.2 f)
    | _ => match zf_le 0 (zf_lo E f) && zf_le 0 (zf_lo E g) && zf_le (zf_hi E f * zf_hi E g) 2147483647 with
      | true => .inr (zf_lo E f * zf_lo E g, zf_hi E f * zf_hi E g, [])
      | false => zf_any
theorem zf_omul (hE : zf_okE E ρ) (hx : x.toInt = zf_v ρ f) (hy : y.toInt = zf_v ρ g) : zf_res n ρ (zf_mulR E f g) (x * y) := by
  unfold zf_mulR
  split
  · rename_i hf
    refine zf_fit_ok hE fun h1 h2 => ?_
    have e : zf_v ρ f = f.2 := by unfold zf_v; rw [hf]; rfl
    rw [zf_v_mul] at *
    rw [Kit.i32_mul (by rw [hx, hy, e]; omega) (by rw [hx, hy, e]; omega), hx, hy, e]
  · split
    · rename_i hg
      refine zf_fit_ok hE fun h1 h2 => ?_
      have e : zf_v ρ g = g.2 := by unfold zf_v; rw [hg]; rfl
      rw [zf_v_mul] at *
      rw [Int.mul_comm] at h1 h2
      rw [Kit.i32_mul (by rw [hx, hy, e]; omega) (by rw [hx, hy, e]; omega), hx, hy, e, Int.mul_comm]
    · split
      · rename_i hb
        simp only [Bool.and_eq_true, zf_le_iff] at hb
        obtain ⟨⟨b1, b2⟩, b3⟩ := hb
        have f1 := zf_lo_le hE f
        have f2 := zf_le_hi hE f
        have g1 := zf_lo_le hE g
        have g2 := zf_le_hi hE g
        have p1 : zf_lo E f * zf_lo E g ≤ zf_v ρ f * zf_v ρ g := Int.mul_le_mul f1 g1 b2 (by omega)
        have p2 : zf_v ρ f * zf_v ρ g ≤ zf_hi E f * zf_hi E g := Int.mul_le_mul f2 g2 (by omega) (by omega)
        have p0 : 0 ≤ zf_lo E f * zf_lo E g := Int.mul_nonneg b1 b2
        have e : (x * y).toInt = zf_v ρ f * zf_v ρ g := by rw [Kit.i32_mul (by rw [hx, hy]; omega) (by rw [hx, hy]; omega), hx, hy]
        exact ⟨by rw [e]; exact p1, by rw [e]; exact p2, fun g h => by cases h⟩
      · exact zf_any_ok _ _ _
theorem zi_nn {x : Int32} (h : 0 ≤ x.toInt) : x.toInt = (x.toBitVec.toNat : Int) ∧ x.toBitVec.toNat < 2147483648 := by
  have e : x.toInt = x.toBitVec.toInt := rfl
  have hl := x.toBitVec.isLt
  rw [e, BitVec.toInt_eq_toNat_cond] at h ⊢
  by_cases hc : 2 * x.toBitVec.toNat < 2 ^ 32
  · rw [if_pos hc]; exact ⟨rfl, by omega⟩
  · rw [if_neg hc] at h; omega
theorem zi_of {x : Int32} (h : x.toBitVec.toNat < 2147483648) : x.toInt = (x.toBitVec.toNat : Int) := by
  have e : x.toInt = x.toBitVec.toInt := rfl
  rw [e, BitVec.toInt_eq_toNat_cond, if_pos (by omega)]
theorem zi_andr {x y : Int32} (hy : 0 ≤ y.toInt) : 0 ≤ (x &&& y).toInt ∧ (x &&& y).toInt ≤ y.toInt := by
  obtain ⟨e, h⟩ := zi_nn hy
  have e2 : (x &&& y).toBitVec.toNat = x.toBitVec.toNat &&& y.toBitVec.toNat := by rw [Int32.toBitVec_and, BitVec.toNat_and]
  have h2 : x.toBitVec.toNat &&& y.toBitVec.toNat ≤ y.toBitVec.toNat := Nat.and_le_right
  rw [zi_of (x := x &&& y) (by omega), e, e2]
  omega
theorem zi_andl {x y : Int32} (hx : 0 ≤ x.toInt) : 0 ≤ (x &&& y).toInt ∧ (x &&& y).toInt ≤ x.toInt := by
  obtain ⟨e, h⟩ := zi_nn hx
  have e2 : (x &&& y).toBitVec.toNat = x.toBitVec.toNat &&& y.toBitVec.toNat := by rw [Int32.toBitVec_and, BitVec.toNat_and]
  have h2 : x.toBitVec.toNat &&& y.toBitVec.toNat ≤ x.toBitVec.toNat := Nat.and_le_left
  rw [zi_of (x := x &&& y) (by omega), e, e2]
  omega
def zf_andR (n : Nat) (E : zf_E) (f g : zf_L) : zf_R := match zf_le 0 (zf_lo E g) with
  | true => match zf_le 0 (zf_lo E f) with
    | true => .inr (0, (match zf_le (zf_hi E f) (zf_hi E g) with | true => zf_hi E f | false => zf_hi E g), zf_ub n 0 f ++ zf_ub n 0 g)
    | false => .inr (0, zf_hi E g, zf_ub n 0 g)
  | false => match zf_le 0 (zf_lo E f) with
    | true => .inr (0, zf_hi E f, zf_ub n 0 f)
    | false => zf_any
theorem zf_oand (hE : zf_okE E ρ) (hx : x.toInt = zf_v ρ f) (hy : y.toInt = zf_v ρ g) : zf_res n ρ (zf_andR n E f g) (x &&& y) := by
  have f1 := zf_lo_le hE f
  have f2 := zf_le_hi hE f
  have g1 := zf_lo_le hE g
  have g2 := zf_le_hi hE g
  unfold zf_andR
  split
  · rename_i hg
    rw [zf_le_iff] at hg
    have hr := zi_andr (x := x) (y := y) (by omega)
    split
    · rename_i hf
      rw [zf_le_iff] at hf
      have hl := zi_andl (x := x) (y := y) (by omega)
      refine ⟨hr.1, ?_, zf_two (zf_ub_ok (by omega)) (zf_ub_ok (by omega))⟩
      dsimp only
      split <;> omega
    · exact ⟨hr.1, by dsimp only; omega, zf_ub_ok (by omega)⟩
  · split
    · rename_i hf
      rw [zf_le_iff] at hf
      have hl := zi_andl (x := x) (y := y) (by omega)
      exact ⟨hl.1, by dsimp only; omega, zf_ub_ok (by omega)⟩
    · exact zf_any_ok _ _ _
theorem zi_or {x y : Int32} (hx : 0 ≤ x.toInt) (hy : 0 ≤ y.toInt) {k : Nat} (hk : k ≤ 31) (h1 : x.toInt < 2 ^ k) (h2 : y.toInt < 2 ^ k) : x.toInt ≤ (x ||| y).toInt ∧ y.toInt ≤ (x ||| y).toInt ∧ (x ||| y).toInt < 2 ^ k := by
  obtain ⟨ex, hx'⟩ := zi_nn hx
  obtain ⟨ey, hy'⟩ := zi_nn hy
  have e2 : (x ||| y).toBitVec.toNat = x.toBitVec.toNat ||| y.toBitVec.toNat := by rw [Int32.toBitVec_or, BitVec.toNat_or]
  have c : ((2 ^ k : Nat) : Int) = 2 ^ k := by simp
  have l1 : x.toBitVec.toNat < 2 ^ k := by omega
  have l2 : y.toBitVec.toNat < 2 ^ k := by omega
  have h3 := Nat.or_lt_two_pow l1 l2
  have h4 : x.toBitVec.toNat ≤ x.toBitVec.toNat ||| y.toBitVec.toNat := Nat.left_le_or
  have h5 : y.toBitVec.toNat ≤ x.toBitVec.toNat ||| y.toBitVec.toNat := Nat.right_le_or
  have h6 : (2 : Nat) ^ k ≤ 2 ^ 31 := Nat.pow_le_pow_right (by decide) hk
  rw [zi_of (x := x ||| y) (by omega), ex, ey, e2]
  omega
def zf_orR (n : Nat) (E : zf_E) (f g : zf_L) : zf_R := match zf_le 0 (zf_lo E f) && zf_le 0 (zf_lo E g) && Nat.ble (Nat.log2 (zf_hi E f).toNat) 30 && Nat.ble (Nat.log2 (zf_hi E g).toNat) 30 with
  | true => .inr (0, 2 ^ (Nat.max (Nat.log2 (zf_hi E f).toNat) (Nat.log2 (zf_hi E g).toNat) + 1) - 1, zf_lb n f ++ zf_lb n g)
  | false => zf_any
theorem zf_oor (hE : zf_okE E ρ) (hx : x.toInt = zf_v ρ f) (hy : y.toInt = zf_v ρ g) : zf_res n ρ (zf_orR n E f g) (x ||| y) := by
  have f1 := zf_lo_le hE f
  have f2 := zf_le_hi hE f
  have g1 := zf_lo_le hE g
  have g2 := zf_le_hi hE g
  unfold zf_orR
  split
  · rename_i hb
    simp only [Bool.and_eq_true, zf_le_iff, Nat.ble_eq] at hb
    obtain ⟨⟨⟨b1, b2⟩, b3⟩, b4⟩ := hb
    have key : ∀ (a : Int) (v : Int), 0 ≤ v → v ≤ a → ∀ K, Nat.log2 a.toNat ≤ K → v < 2 ^ (K + 1) := by
      intro a v h0 h1 K hK
      have h2 : a.toNat < 2 ^ (Nat.log2 a.toNat + 1) := Nat.lt_log2_self
      have h3 : (2 : Nat) ^ (Nat.log2 a.toNat + 1) ≤ 2 ^ (K + 1) := Nat.pow_le_pow_right (by decide) (by omega)
      have c : ((2 ^ (K + 1) : Nat) : Int) = 2 ^ (K + 1) := by simp
      omega
    have k1 := key (zf_hi E f) x.toInt (by omega) (by omega) _ (Nat.le_max_left (Nat.log2 (zf_hi E f).toNat) (Nat.log2 (zf_hi E g).toNat))
    have k2 := key (zf_hi E g) y.toInt (by omega) (by omega) _ (Nat.le_max_right (Nat.log2 (zf_hi E f).toNat) (Nat.log2 (zf_hi E g).toNat))
    have hm : Nat.max (Nat.log2 (zf_hi E f).toNat) (Nat.log2 (zf_hi E g).toNat) ≤ 30 := Nat.max_le.mpr ⟨b3, b4⟩
    obtain ⟨o1, o2, o3⟩ := zi_or (x := x) (y := y) (by omega) (by omega) (k := Nat.max (Nat.log2 (zf_hi E f).toNat) (Nat.log2 (zf_hi E g).toNat) + 1) (by omega) k1 k2
    exact ⟨by dsimp only; omega, by dsimp only; omega, zf_two (zf_lb_ok (by omega)) (zf_lb_ok (by omega))⟩
  · exact zf_any_ok _ _ _
theorem zi_sl : ∀ n, n < 32 → ((nI n &&& 31).toBitVec.smod 32).toNat = n := by decide +kernel
theorem zi_su : ∀ n, n < 32 → ((nI n).toUInt32 &&& Int32.toUInt32 31).toNat = n := by decide +kernel
theorem zi_nI {y : Int32} (h : 0 ≤ y.toInt) : y = nI y.toInt.toNat := by
  obtain ⟨e, h1⟩ := zi_nn h
  apply Int32.toInt_inj.mp
  rw [nI_toInt (by omega)]
  omega
def zf_shlR (E : zf_E) (f g : zf_L) : zf_R := match f.1 with
  | [] => match zf_le 0 f.2 && zf_le 0 (zf_lo E g) && zf_le (zf_hi E g) 30 && zf_le (f.2 * 2 ^ (zf_hi E g).toNat) 2147483647 with
    | true => .inr (f.2 * 2 ^ (zf_lo E g).toNat, f.2 * 2 ^ (zf_hi E g).toNat, [])
    | false => zf_any
  | _ => zf_any
theorem zf_oshl (hE : zf_okE E ρ) (hx : x.toInt = zf_v ρ f) (hy : y.toInt = zf_v ρ g) : zf_res n ρ (zf_shlR E f g) (x <<< (y &&& 31)) := by
  have g1 := zf_lo_le hE g
  have g2 := zf_le_hi hE g
  unfold zf_shlR
  split
  · rename_i hf
    have e : zf_v ρ f = f.2 := by unfold zf_v; rw [hf]; rfl
    split
    · rename_i hb
      simp only [Bool.and_eq_true, zf_le_iff] at hb
      obtain ⟨⟨⟨b1, b2⟩, b3⟩, b4⟩ := hb
      have hy0 : 0 ≤ y.toInt := by omega
      have p1 : f.2 * 2 ^ (zf_lo E g).toNat ≤ f.2 * 2 ^ y.toInt.toNat := by
        refine Int.mul_le_mul_of_nonneg_left ?_ b1
        have : (2 : Nat) ^ (zf_lo E g).toNat ≤ 2 ^ y.toInt.toNat := Nat.pow_le_pow_right (by decide) (by omega)
        exact_mod_cast this
      have p2 : f.2 * 2 ^ y.toInt.toNat ≤ f.2 * 2 ^ (zf_hi E g).toNat := by
        refine Int.mul_le_mul_of_nonneg_left ?_ b1
        have : (2 : Nat) ^ y.toInt.toNat ≤ 2 ^ (zf_hi E g).toNat := Nat.pow_le_pow_right (by decide) (by omega)
        exact_mod_cast this
      have p0 : 0 ≤ f.2 * 2 ^ (zf_lo E g).toNat := Int.mul_nonneg b1 (by
        have : 0 < (2 : Nat) ^ (zf_lo E g).toNat := Nat.pow_pos (by decide)
        exact_mod_cast Nat.le_of_lt this)
      have hk : ((y &&& 31).toBitVec.smod 32).toNat = y.toInt.toNat := by
        conv => lhs; rw [zi_nI hy0]
        exact zi_sl _ (by omega)
      have e2 : (x <<< (y &&& 31)).toInt = f.2 * 2 ^ y.toInt.toNat := by
        rw [Kit.i32_shl x (y &&& 31) hk (by rw [hx, e]; omega) (by rw [hx, e]; omega), hx, e]
      exact ⟨by rw [e2]; exact p1, by rw [e2]; exact p2, fun g h => by cases h⟩
    · exact zf_any_ok _ _ _
  · exact zf_any_ok _ _ _
theorem zi_dv {a : Int} (h : 0 ≤ a) (k : Nat) : 0 ≤ a / 2 ^ k ∧ a / 2 ^ k ≤ a := by
  have hp : (0 : Int) < 2 ^ k := by
    have : 0 < (2 : Nat) ^ k := Nat.pow_pos (by decide)
    exact_mod_cast this
  exact ⟨Int.ediv_nonneg h (by omega), Int.ediv_le_self _ h⟩
def zf_shrR (E : zf_E) (f : zf_L) : zf_R := match zf_le 0 (zf_lo E f) with
  | true => .inr (0, zf_hi E f, [])
  | false => zf_any
theorem zf_oshr (hE : zf_okE E ρ) (hx : x.toInt = zf_v ρ f) : zf_res n ρ (zf_shrR E f) (x >>> (y &&& 31)) := by
  have f1 := zf_lo_le hE f
  have f2 := zf_le_hi hE f
  unfold zf_shrR
  split
  · rename_i hb
    rw [zf_le_iff] at hb
    have e := Kit.i32_shr x (y &&& 31) rfl
    have hd := zi_dv (a := x.toInt) (by omega) ((y &&& 31).toBitVec.smod 32).toNat
    exact ⟨by rw [e]; exact hd.1, by rw [e]; dsimp only; omega, fun g h => by cases h⟩
  · exact zf_any_ok _ _ _
theorem zi_sm (y : Int32) : (y.toUInt32 &&& Int32.toUInt32 31).toNat < 32 := by
  rw [UInt32.toNat_and]
  exact Nat.lt_of_le_of_lt Nat.and_le_right (by decide)
def zf_ushrR (E : zf_E) (f g : zf_L) : zf_R := match zf_le 0 (zf_lo E f) with
  | true => .inr (0, zf_hi E f, [])
  | false => match zf_le 1 (zf_lo E g) && zf_le (zf_hi E g) 31 with
    | true => .inr (0, 2147483647, [])
    | false => zf_any
theorem zf_oushr (hE : zf_okE E ρ) (hx : x.toInt = zf_v ρ f) (hy : y.toInt = zf_v ρ g) : zf_res n ρ (zf_ushrR E f g) (x.toUInt32 >>> (y.toUInt32 &&& Int32.toUInt32 31)).toInt32 := by
  have f1 := zf_lo_le hE f
  have f2 := zf_le_hi hE f
  have g1 := zf_lo_le hE g
  have g2 := zf_le_hi hE g
  unfold zf_ushrR
  split
  · rename_i hb
    rw [zf_le_iff] at hb
    have e := Kit.i32_iushr (x := x) (Kit.i32_nonneg.mpr (by omega)) (n := y.toUInt32 &&& Int32.toUInt32 31) rfl (zi_sm y)
    have hd := zi_dv (a := x.toInt) (by omega) (y.toUInt32 &&& Int32.toUInt32 31).toNat
    exact ⟨by rw [e]; exact hd.1, by rw [e]; dsimp only; omega, fun g h => by cases h⟩
  · split
    · rename_i hb
      simp only [Bool.and_eq_true, zf_le_iff] at hb
      have hy0 : 0 ≤ y.toInt := by omega
      have hk : (y.toUInt32 &&& Int32.toUInt32 31).toNat = y.toInt.toNat := by
        conv => lhs; rw [zi_nI hy0]
        exact zi_su _ (by omega)
      have hv : (x.toUInt32 >>> (y.toUInt32 &&& Int32.toUInt32 31)).toInt32.toBitVec.toNat = x.toBitVec.toNat / 2 ^ y.toInt.toNat := by
        show (x.toUInt32 >>> (y.toUInt32 &&& Int32.toUInt32 31)).toNat = _
        rw [UInt32.toNat_shiftRight, hk, Nat.mod_eq_of_lt (by omega), Nat.shiftRight_eq_div_pow]
        rfl
      have hl := x.toBitVec.isLt
      have h2 : (2 : Nat) ^ 1 ≤ 2 ^ y.toInt.toNat := Nat.pow_le_pow_right (by decide) (by omega)
      have h3 : x.toBitVec.toNat / 2 ^ y.toInt.toNat ≤ x.toBitVec.toNat / 2 ^ 1 := Nat.div_le_div_left h2 (by decide)
      have h4 : (x.toUInt32 >>> (y.toUInt32 &&& Int32.toUInt32 31)).toInt32.toBitVec.toNat < 2147483648 := by rw [hv]; omega
      rw [show zf_res n ρ (.inr (0, 2147483647, [])) (x.toUInt32 >>> (y.toUInt32 &&& Int32.toUInt32 31)).toInt32 = (0 ≤ (x.toUInt32 >>> (y.toUInt32 &&& Int32.toUInt32 31)).toInt32.toInt ∧ (x.toUInt32 >>> (y.toUInt32 &&& Int32.toUInt32 31)).toInt32.toInt ≤ 2147483647 ∧ ∀ g ∈ ([] : List zf_L), 0 ≤ zf_v (zf_up ρ n (x.toUInt32 >>> (y.toUInt32 &&& Int32.toUInt32 31)).toInt32.toInt) g) from rfl]
      exact ⟨by rw [zi_of h4]; omega, zi_hi _, fun g h => by cases h⟩
    · exact zf_any_ok _ _ _
theorem zi_rem (x y : Int32) : (x - x / y * y).toInt = x.toInt.tmod y.toInt := by
  have a := (x % y).toInt_lt
  have b := (x % y).le_toInt
  rw [Int32.toInt_mod] at a b
  rw [Int32.toInt_sub, Int32.toInt_mul, Int32.toInt_div, Int.bmod_mul_bmod, Int.sub_bmod_bmod, Int.mul_comm, ← Int.tmod_def]
  exact Kit.bmod32 b a
def zf_remR (n : Nat) (E : zf_E) (f g : zf_L) : zf_R := match zf_le 1 (zf_lo E g) with
  | true => match zf_le 0 (zf_lo E f) with
    | true => .inr (0, zf_hi E g - 1, zf_ub n (-1) g)
    | false => .inr (1 - zf_hi E g, zf_hi E g - 1, zf_ub n (-1) g ++ zf_lb n (zf_sub (zf_con 1) g))
  | false => match zf_le (zf_hi E g) (-1) with
    | true => .inr (zf_lo E g + 1, - zf_lo E g - 1, zf_ub n (-1) (zf_mul (-1) g) ++ zf_lb n (zf_add g (zf_con 1)))
    | false => zf_any
theorem zf_orem (hE : zf_okE E ρ) (hx : x.toInt = zf_v ρ f) (hy : y.toInt = zf_v ρ g) : zf_res n ρ (zf_remR n E f g) (x - x / y * y) := by
  have f1 := zf_lo_le hE f
  have g1 := zf_lo_le hE g
  have g2 := zf_le_hi hE g
  unfold zf_remR
  split
  · rename_i hb
    rw [zf_le_iff] at hb
    have hy1 : 0 < y.toInt := by omega
    have e := zi_rem x y
    have t1 := Int.tmod_lt_of_pos x.toInt hy1
    split
    · rename_i hf
      rw [zf_le_iff] at hf
      have t2 := Int.tmod_nonneg y.toInt (a := x.toInt) (by omega)
      exact ⟨by rw [e]; exact t2, by rw [e]; dsimp only; omega, zf_ub_ok (by rw [e]; omega)⟩
    · have t2 : -y.toInt < x.toInt.tmod y.toInt := by
        have h1 := Int.tmod_lt_of_pos (-x.toInt) hy1
        rw [Int.neg_tmod] at h1
        omega
      exact ⟨by rw [e]; dsimp only; omega, by rw [e]; dsimp only; omega, zf_two (zf_ub_ok (by rw [e]; omega)) (zf_lb_ok (by rw [e, zf_v_sub, zf_v_con]; omega))⟩
  · split
    · rename_i hb
      rw [zf_le_iff] at hb
      have hy1 : 0 < -y.toInt := by omega
      have e := zi_rem x y
      have t1 := Int.tmod_lt_of_pos x.toInt hy1
      have t2 := Int.tmod_lt_of_pos (-x.toInt) hy1
      rw [Int.neg_tmod] at t2
      rw [Int.tmod_neg] at t1 t2
      exact ⟨by rw [e]; dsimp only; omega, by rw [e]; dsimp only; omega, zf_two (zf_ub_ok (by rw [e, zf_v_mul]; omega)) (zf_lb_ok (by rw [e, zf_v_add, zf_v_con]; omega))⟩
    · exact zf_any_ok _ _ _
def zf_i2bR (E : zf_E) (f : zf_L) : zf_R := match zf_le (-128) (zf_lo E f) && zf_le (zf_hi E f) 127 with
  | true => .inl f
  | false => .inr (-128, 127, [])
theorem zf_oi2b (hE : zf_okE E ρ) (hx : x.toInt = zf_v ρ f) : zf_res n ρ (zf_i2bR E f) x.toInt8.toInt32 := by
  have f1 := zf_lo_le hE f
  have f2 := zf_le_hi hE f
  have e : x.toInt8.toInt32.toInt = x.toInt.bmod 256 := by rw [Int8.toInt_toInt32, Int32.toInt_toInt8]
  unfold zf_i2bR
  split
  · rename_i hb
    simp only [Bool.and_eq_true, zf_le_iff] at hb
    show x.toInt8.toInt32.toInt = zf_v ρ f
    rw [e, Int.bmod_def]
    omega
  · refine ⟨?_, ?_, fun g h => by cases h⟩
    · rw [e, Int.bmod_def]; dsimp only; omega
    · rw [e, Int.bmod_def]; dsimp only; omega
theorem zf_ocmp (n : Nat) (ρ : Nat → Int) (x y : Int64) : zf_res n ρ (.inr (-1, 1, [])) (lg_cmp x y) := by
  refine ⟨?_, ?_, fun g h => by cases h⟩ <;> (unfold lg_cmp; split <;> (try split) <;> decide)
end ZA
