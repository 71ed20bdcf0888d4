/-! ===== from facts to forms and back; which bounds stand where ===== -/
theorem zq_ce {F : Nat → Nat → Int32} {ρ : Nat → Int} {g r I : Nat} {fi fv : zf_L} {V : Int} (h : zq_h F ρ (g, r, fi, .inl fv)) (hg : Nat.blt g 1000 = true) (h1 : (zf_v ρ fi).toNat = I) (h2 : zf_v ρ fv = V) : (F g I).toInt = V := by
  unfold zq_h at h
  dsimp only at h
  rw [hg] at h
  have h := h.2
  rw [h1] at h
  exact h.trans h2
theorem zq_fl {F : Nat → Nat → Int32} {ρ : Nat → Int} {n r j : Nat} {fa fb : zf_L} {A B : Int} (h : zq_h F ρ (n, r, fa, .inl fb)) (hn : Nat.blt n 1000 = false ∧ n - 1000 = j) (h1 : zf_v ρ fa = A) (h2 : zf_v ρ fb = B) : zf_gP j A B F := by
  unfold zq_h at h
  dsimp only at h
  rw [hn.1] at h
  dsimp only at h
  rw [hn.2, h1] at h
  have e : zf_v ρ (zf_a2 (.inl fb)) = B := h2
  rw [e] at h
  exact h
theorem zq_ec {F : Nat → Nat → Int32} {ρ : Nat → Int} {g r I : Nat} {fi fv : zf_L} {V : Int} (h : (F g I).toInt = V) (h0 : 0 ≤ zf_v ρ fi) (hg : Nat.blt g 1000 = true) (h1 : (zf_v ρ fi).toNat = I) (h2 : zf_v ρ fv = V) : zq_h F ρ (g, r, fi, .inl fv) := by
  unfold zq_h
  dsimp only
  rw [hg]
  refine ⟨h0, ?_⟩
  rw [h1, h]
  exact h2.symm
theorem zq_lf {F : Nat → Nat → Int32} {ρ : Nat → Int} {n r j : Nat} {fa fb : zf_L} {A B : Int} (h : zf_gP j A B F) (hn : Nat.blt n 1000 = false ∧ n - 1000 = j) (h1 : zf_v ρ fa = A) (h2 : zf_v ρ fb = B) : zq_h F ρ (n, r, fa, .inl fb) := by
  unfold zq_h
  dsimp only
  rw [hn.1]
  dsimp only
  rw [hn.2, h1]
  have e : zf_v ρ (zf_a2 (.inl fb)) = B := h2
  rw [e]
  exact h
theorem zq_upE {F : Nat → Nat → Int32} {g x i : Nat} {y : Int32} : zq_up F g x y g i = if i = x then y else F g i := by
  unfold zq_up
  by_cases h : i = x
  · rw [if_pos ⟨rfl, h⟩, if_pos h]
  · rw [if_neg (fun q => h q.2), if_neg h]
theorem zq_up20_21 {F : Nat → Nat → Int32} {x i : Nat} {y : Int32} : zq_up F 20 x y 21 i = F 21 i := zq_up_g (by decide)
theorem zs_own : ∀ i, i < 16 → zf_sp (zq_sg 20) (91 + i) = some (.inl (-2147483648, 2147483647)) := by decide +kernel
theorem zs_lng : ∀ i, i < 16 → zf_sp (zq_sg 20) (107 + i) = some (.inl (0, 32)) := by decide +kernel
theorem zs_len : ∀ i, i < 16 → zf_sp (zq_sg 20) (19 + i) = some (.inl (0, 12)) := by decide +kernel
theorem zs_rng : ∀ i, i < 512 → zf_sp (zq_sg 20) (181 + i) = some (.inl (-2147483648, 2147483647)) := by decide +kernel
theorem zs_cds : ∀ i, i < 180 → zf_sp (zq_sg 20) (694 + i) = some (.inl (-2147483648, 2147483647)) := by decide +kernel
theorem zs_87 : zf_sp (zq_sg 20) 87 = some (.inl (0, 16)) := by decide +kernel
theorem zs_693 : zf_sp (zq_sg 20) 693 = some (.inl (0, 44)) := by decide +kernel
theorem zs_s : ∀ i, i < 874 → ∀ q, zf_sp (zq_sg 20) i = some (.inl q) → q.1 ≤ 0 ∧ 0 ≤ q.2 := by
  have h : ∀ i, i < 874 → (match zf_sp (zq_sg 20) i with | some (.inl q) => zf_le q.1 0 && zf_le 0 q.2 | _ => true) = true := by decide +kernel
  intro i hi q hq
  have h1 := h i hi
  rw [hq] at h1
  simp only [Bool.and_eq_true, zf_le_iff] at h1
  exact h1
theorem zs_h : ∀ i, i < 87 → ∀ q, zf_sp (zq_sg 21) i = some (.inl q) → q.1 ≤ 0 ∧ 0 ≤ q.2 := by
  have h : ∀ i, i < 87 → (match zf_sp (zq_sg 21) i with | some (.inl q) => zf_le q.1 0 && zf_le 0 q.2 | _ => true) = true := by decide +kernel
  intro i hi q hq
  have h1 := h i hi
  rw [hq] at h1
  simp only [Bool.and_eq_true, zf_le_iff] at h1
  exact h1
theorem zs_sh : ∀ i, i < 87 → zf_sp (zq_sg 20) i = zf_sp (zq_sg 21) i := by decide +kernel
theorem zs_b : ∀ i, i < 606 → zf_sp (zq_sg 27) i = zf_sp (zq_sg 20) (87 + i) := by decide +kernel
theorem zs_u : ∀ u, u < 8 → ∀ i, i < 606 → zf_sp (zq_sg 26) (606 * u + i) = zf_sp (zq_sg 20) (87 + i) := by decide +kernel
theorem zs_uu : ∀ i, i < 4242 → zf_sp (zq_sg 26) i = zf_sp (zq_sg 26) (606 + i) := by
  intro i hi
  have h1 := zs_u (i / 606) (by omega) (i % 606) (by omega)
  have h2 := zs_u (i / 606 + 1) (by omega) (i % 606) (by omega)
  rw [show 606 * (i / 606) + i % 606 = i by omega] at h1
  rw [show 606 * (i / 606 + 1) + i % 606 = 606 + i by omega] at h2
  rw [h1, h2]
theorem zs_k : ∀ u, u < 2 → ∀ i, i < 874 → zf_sp (zq_sg 33) (874 * u + i) = zf_sp (zq_sg 20) i := by decide +kernel
theorem zs_r : ∀ i, i < 160 → zf_sp (zq_sg 22) i = some (.inl (-2147483648, 2147483647)) := by decide +kernel
theorem zs_o : ∀ i, i < 45 → zf_sp (zq_sg 31) i = some (.inl (-2147483648, 2147483647)) := by decide +kernel
theorem zs_h1 : zf_sp (zq_sg 21) 1 = some (.inl (0, 16)) := by decide +kernel
/-- any int fits where all may stand -/
theorem zs_full {g i : Nat} {y : Int32} {q : Int × Int} (h : zf_sp (zq_sg g) i = some (.inl (-2147483648, 2147483647))) (hq : zf_sp (zq_sg g) i = some (.inl q)) : q.1 ≤ y.toInt ∧ y.toInt ≤ q.2 := by
  cases Sum.inl.inj (Option.some.inj (h.symm.trans hq))
  exact ⟨zi_lo y, zi_hi y⟩
theorem zs_in {g i : Nat} {y : Int32} {q : Int × Int} {a b : Int} (h : zf_sp (zq_sg g) i = some (.inl (a, b))) (hq : zf_sp (zq_sg g) i = some (.inl q)) (h1 : a ≤ y.toInt) (h2 : y.toInt ≤ b) : q.1 ≤ y.toInt ∧ y.toInt ≤ q.2 := by
  cases Sum.inl.inj (Option.some.inj (h.symm.trans hq))
  exact ⟨h1, h2⟩
/-- what stands elsewhere with the same bounds -/
theorem zs_cp {F : Nat → Nat → Int32} (htp : zq_tp F) {g i g' i' : Nat} {y : Int32} {q : Int × Int} (hg : Nat.blt g' 37 = true) (h : zf_sp (zq_sg g) i = zf_sp (zq_sg g') i') (hq : zf_sp (zq_sg g) i = some (.inl q)) (hy : (F g' i').toInt = y.toInt) : q.1 ≤ y.toInt ∧ y.toInt ≤ q.2 := by
  rw [h] at hq
  rw [← hy]
  exact htp g' i' q hg hq
theorem zg_blk_sh {f f' : Nat → Int32} {b b' : Nat} (h : zg_blk f b) (h1 : ∀ i, i < 36 → f' (b' + i) = f (b + i)) : zg_blk f' b' := by
  intro j hj a1 a2
  have e0 := h1 0 (by omega)
  rw [Nat.add_zero, Nat.add_zero] at e0
  rw [e0] at a1
  rw [show b' + 4 + j = b' + (4 + j) by omega, h1 (4 + j) (by omega), show b + (4 + j) = b + 4 + j by omega] at a2
  rw [show b' + 20 + j = b' + (20 + j) by omega, h1 (20 + j) (by omega), show b + (20 + j) = b + 20 + j by omega]
  exact h j hj a1 a2
theorem zg_ht_sh {f f' : Nat → Int32} {b b' : Nat} : ∀ {n : Nat}, (∀ i, i < n → f' (b' + 3 * i) = f (b + 3 * i)) → zg_ht f' b' n = zg_ht f b n
  | 0, _ => rfl
  | n + 1, h => by
    unfold zg_ht
    rw [zg_ht_sh (n := n) (fun i hi => h i (by omega)), h n (by omega)]
theorem zg_cod_sh {f f' : Nat → Int32} {b b' : Nat} (h : zg_cod f b) (h1 : ∀ i, i ≤ 180 → f' (b' + i) = f (b + i)) : zg_cod f' b' := by
  obtain ⟨c1, c2, n, c3⟩ := h
  have e0 := h1 0 (by omega)
  rw [Nat.add_zero, Nat.add_zero] at e0
  unfold zg_cod
  rw [e0]
  refine ⟨c1, c2, n, ?_⟩
  rw [← c3]
  exact zg_ht_sh (fun i hi => by rw [show b' + 1 + 3 * i = b' + (1 + 3 * i) by omega, h1 _ (by omega), show b + (1 + 3 * i) = b + 1 + 3 * i by omega])
theorem zg_op_le {f : Nat → Int32} : ∀ {i n : Nat}, zg_op f i = some n → n ≤ i
  | 0, n, h => by
    cases h
    exact Nat.le_refl 0
  | i + 1, n, h => by
    unfold zg_op at h
    split at h
    · cases h
    · rename_i k hk
      have := zg_op_le hk
      split at h
      · cases h; omega
      · split at h
        · cases h; omega
        · cases h
theorem zg_ht_le {f : Nat → Int32} {b : Nat} : ∀ {i n : Nat}, zg_ht f b i = some n → n ≤ i
  | 0, n, h => by
    cases h
    exact Nat.le_refl 0
  | i + 1, n, h => by
    unfold zg_ht at h
    split at h
    · cases h
    · rename_i k hk
      have := zg_ht_le hk
      unfold zg_st at h
      split at h
      · split at h
        · cases h; omega
        · cases h
      · split at h
        · split at h
          · cases h; omega
          · cases h
        · cases h; omega
/-- ahead of a whole one all is whole -/
theorem zg_ht_pre {f : Nat → Int32} {b : Nat} : ∀ {n m h : Nat}, zg_ht f b n = some h → m ≤ n → ∃ k, zg_ht f b m = some k
  | 0, m, h, e, hm => ⟨h, by rw [show m = 0 by omega]; exact e⟩
  | n + 1, m, h, e, hm => by
    by_cases hq : m = n + 1
    · exact ⟨h, by rw [hq]; exact e⟩
    · unfold zg_ht at e
      split at e
      · cases e
      · rename_i k hk
        exact zg_ht_pre hk (by omega)
theorem zi_0 {y : Int32} (h : y.toInt = 0) : y = 0 := Int32.toInt_inj.mp (h.trans (by decide))
theorem zi_e {y z : Int32} (h : y.toInt = z.toInt) : y = z := Int32.toInt_inj.mp h
