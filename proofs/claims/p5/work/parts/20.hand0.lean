/-! ===== a ghost fact depends on its own cells alone ===== -/
theorem zg_blk_cg {f f' : Nat → Int32} {b : Nat} (h : zg_blk f b) (h0 : f b = f' b) (h1 : ∀ i, b + 4 ≤ i → i ≤ b + 35 → f i = f' i) : zg_blk f' b := by
  intro l hl a1 a2
  rw [← h0] at a1
  rw [← h1 (b + 4 + l) (by omega) (by omega)] at a2
  rw [← h1 (b + 20 + l) (by omega) (by omega)]
  exact h l hl a1 a2
theorem zg_ht_cg {f f' : Nat → Int32} {b : Nat} : ∀ {n : Nat}, (∀ i, i < n → f (b + 3 * i) = f' (b + 3 * i)) → zg_ht f b n = zg_ht f' b n
  | 0, _ => rfl
  | n + 1, h => by
    unfold zg_ht
    rw [zg_ht_cg (n := n) (fun i hi => h i (by omega)), h n (by omega)]
theorem zg_cod_cg {f f' : Nat → Int32} {b : Nat} (h : zg_cod f b) (h1 : ∀ i, b ≤ i → i ≤ b + 180 → f i = f' i) : zg_cod f' b := by
  obtain ⟨c1, c2, n, c3⟩ := h
  unfold zg_cod
  rw [← h1 b (by omega) (by omega)]
  refine ⟨c1, c2, n, ?_⟩
  rw [← c3]
  exact (zg_ht_cg (fun i hi => h1 _ (by omega) (by omega))).symm
theorem zg_op_cg {f f' : Nat → Int32} : ∀ {n : Nat}, (∀ i, i < n → f i = f' i) → zg_op f n = zg_op f' n
  | 0, _ => rfl
  | n + 1, h => by
    unfold zg_op
    rw [zg_op_cg (n := n) (fun i hi => h i (by omega)), h n (by omega)]
theorem zg_cg {j : Nat} {a b : Int} {F F' : Nat → Nat → Int32} (h : zf_gP j a b F) (he : ∀ q ∈ zf_sup j, ∀ i : Nat, zf_v (zf_ab a b) q.2.1 ≤ (i : Int) → (i : Int) ≤ zf_v (zf_ab a b) q.2.2 → F q.1 i = F' q.1 i) : zf_gP j a b F' := by
  have vc : ∀ k : Int, zf_v (zf_ab a b) ([], k) = k := fun _ => rfl
  have va : ∀ c k : Int, zf_v (zf_ab a b) ([(0, c)], k) = c * a + k := fun _ _ => rfl
  have vb : ∀ c k : Int, zf_v (zf_ab a b) ([(1, c)], k) = c * b + k := fun _ _ => rfl
  match j, h, he with
  | 0, h, he =>
    exact zg_blk_cg h (he (20, ([], 87), ([], 87)) (by simp [zf_sup, zf_supT]) 87 (by rw [vc]; omega) (by rw [vc]; omega)) (fun i i1 i2 => he (20, ([], 91), ([], 122)) (by simp [zf_sup, zf_supT]) i (by rw [vc]; omega) (by rw [vc]; omega))
  | 1, h, he =>
    have e0 := he (20, ([], 87), ([], 87)) (by simp [zf_sup, zf_supT]) 87 (by rw [vc]; omega) (by rw [vc]; omega)
    have e1 : ∀ i : Nat, 91 ≤ i → i ≤ 122 → F 20 i = F' 20 i := fun i i1 i2 => he (20, ([], 91), ([], 122)) (by simp [zf_sup, zf_supT]) i (by rw [vc]; omega) (by rw [vc]; omega)
    intro l hl hne a1 a2
    have e0 : F 20 87 = F' 20 87 := e0
    rw [← e0] at a1
    rw [← e1 (87 + 4 + l) (by omega) (by omega)] at a2
    rw [← e1 (87 + 20 + l) (by omega) (by omega)]
    exact h l hl hne a1 a2
  | 2, h, he =>
    exact zg_blk_cg h (he (27, ([], 0), ([], 0)) (by simp [zf_sup, zf_supT]) 0 (by rw [vc]; omega) (by rw [vc]; omega)) (fun i i1 i2 => he (27, ([], 4), ([], 35)) (by simp [zf_sup, zf_supT]) i (by rw [vc]; omega) (by rw [vc]; omega))
  | 3, h, he =>
    have e1 : ∀ i : Nat, i ≤ 4847 → F 26 i = F' 26 i := fun i i2 => he (26, ([], 0), ([], 4847)) (by simp [zf_sup, zf_supT]) i (by rw [vc]; omega) (by rw [vc]; omega)
    intro u hu
    exact zg_blk_cg (h u hu) (e1 _ (by omega)) (fun i i1 i2 => e1 i (by omega))
  | 4, h, he =>
    have e1 : ∀ i : Nat, i ≤ 1747 → F 33 i = F' 33 i := fun i i2 => he (33, ([], 0), ([], 1747)) (by simp [zf_sup, zf_supT]) i (by rw [vc]; omega) (by rw [vc]; omega)
    intro u hu
    exact ⟨zg_blk_cg (h u hu).1 (e1 _ (by omega)) (fun i i1 i2 => e1 i (by omega)), zg_cod_cg (h u hu).2 (fun i i1 i2 => e1 i (by omega))⟩
  | 5, h, he =>
    intro l hl
    rw [← he (21, ([], 19), ([(1, 1)], 18)) (by simp [zf_sup, zf_supT]) (19 + l) (by rw [vc]; omega) (by rw [vb]; omega)]
    exact h l hl
  | 6, h, he => exact zg_cod_cg h (fun i i1 i2 => he (20, ([], 693), ([], 873)) (by simp [zf_sup, zf_supT]) i (by rw [vc]; omega) (by rw [vc]; omega))
  | 7, h, he =>
    have e1 : ∀ i : Nat, 693 ≤ i → i ≤ 873 → F 20 i = F' 20 i := fun i i1 i2 => he (20, ([], 693), ([], 873)) (by simp [zf_sup, zf_supT]) i (by rw [vc]; omega) (by rw [vc]; omega)
    obtain ⟨i, n, h1, h2, h3, h4, h5⟩ := h
    refine ⟨i, n, h1, h2, h3, ?_, zg_cod_cg h5 (fun i i1 i2 => e1 i i1 (by omega))⟩
    rw [← h4]
    exact (zg_ht_cg (fun j hj => e1 _ (by omega) (by omega))).symm
  | 8, h, he =>
    obtain ⟨i, n, h1, h2, h3⟩ := h
    refine ⟨i, n, h1, h2, ?_⟩
    rw [← h3]
    exact (zg_ht_cg (fun j hj => he (22, ([], 0), ([(0, 3)], -1)) (by simp [zf_sup, zf_supT]) _ (by rw [vc]; omega) (by rw [va]; omega))).symm
  | 9, h, he =>
    obtain ⟨i, n, h1, h2, h3⟩ := h
    refine ⟨i, n, h1, h2, ?_⟩
    rw [← h3]
    exact (zg_op_cg (fun j hj => he (31, ([], 0), ([(0, 1)], -1)) (by simp [zf_sup, zf_supT]) _ (by rw [vc]; omega) (by rw [va]; omega))).symm
  | 10, h, he =>
    intro i hi
    rw [← he (27, ([], 0), ([(1, 1)], -1)) (by simp [zf_sup, zf_supT]) i (by rw [vc]; omega) (by rw [vb]; omega), ← he (20, ([], 87), ([(1, 1)], 86)) (by simp [zf_sup, zf_supT]) (87 + i) (by rw [vc]; omega) (by rw [vb]; omega)]
    exact h i hi
  | 11, h, he =>
    intro i hi
    rw [← he (27, ([], 0), ([(1, 1)], -1)) (by simp [zf_sup, zf_supT]) i (by rw [vc]; omega) (by rw [vb]; omega), ← he (20, ([], 87), ([(1, 1)], 86)) (by simp [zf_sup, zf_supT]) (87 + i) (by rw [vc]; omega) (by rw [vb]; omega)]
    exact h i hi
  | 12, h, he =>
    have e1 : ∀ i : Nat, i ≤ 4847 → F 26 i = F' 26 i := fun i i2 => he (26, ([], 0), ([], 4847)) (by simp [zf_sup, zf_supT]) i (by rw [vc]; omega) (by rw [vc]; omega)
    obtain ⟨h1, h2, h3, h4⟩ := h
    refine ⟨h1, h2, fun v hv hne => zg_blk_cg (h3 v hv hne) (e1 _ (by omega)) (fun i i1 i2 => e1 i (by omega)), fun i hi hb => ?_⟩
    rw [← e1 _ (by omega), ← he (20, ([], 87), ([(1, 1)], 86)) (by simp [zf_sup, zf_supT]) (87 + i) (by rw [vc]; omega) (by rw [vb]; omega)]
    exact h4 i hi hb
  | 13, h, he =>
    obtain ⟨f, h1, h2⟩ := h
    refine ⟨f, h1, fun i hi => ?_⟩
    rw [← he (26, ([], 0), ([], 4847)) (by simp [zf_sup, zf_supT]) i (by rw [vc]; omega) (by rw [vc]; omega)]
    exact h2 i hi
  | 14, h, he =>
    obtain ⟨h1, h2, h3⟩ := h
    refine ⟨h1, h2, fun i hi hb => ?_⟩
    rw [← he (20, ([], 87), ([(1, 1)], 86)) (by simp [zf_sup, zf_supT]) (87 + i) (by rw [vc]; omega) (by rw [vb]; omega), ← he (26, ([(0, 606)], 0), ([(0, 606)], 605)) (by simp [zf_sup, zf_supT]) (606 * a.toNat + i) (by rw [va]; omega) (by rw [va]; omega)]
    exact h3 i hi hb
  | 15, h, he =>
    have e1 : ∀ i : Nat, i ≤ 4847 → F 26 i = F' 26 i := fun i i2 => he (26, ([], 0), ([], 4847)) (by simp [zf_sup, zf_supT]) i (by rw [vc]; omega) (by rw [vc]; omega)
    obtain ⟨h1, h2, h3, h4⟩ := h
    refine ⟨h1, h2, fun v hv hne => zg_blk_cg (h3 v hv hne) (e1 _ (by omega)) (fun i i1 i2 => e1 i (by omega)), fun i hi hb => ?_⟩
    rw [← e1 _ (by omega), ← he (27, ([], 0), ([(1, 1)], -1)) (by simp [zf_sup, zf_supT]) i (by rw [vc]; omega) (by rw [vb]; omega)]
    exact h4 i hi hb
  | 16, h, he =>
    have e1 : ∀ i : Nat, i ≤ 1747 → F 33 i = F' 33 i := fun i i2 => he (33, ([], 0), ([], 1747)) (by simp [zf_sup, zf_supT]) i (by rw [vc]; omega) (by rw [vc]; omega)
    obtain ⟨h1, h2, h3, h4⟩ := h
    refine ⟨h1, h2, fun v hv hne => ⟨zg_blk_cg (h3 v hv hne).1 (e1 _ (by omega)) (fun i i1 i2 => e1 i (by omega)), zg_cod_cg (h3 v hv hne).2 (fun i i1 i2 => e1 i (by omega))⟩, fun i hi hb => ?_⟩
    rw [← e1 _ (by omega), ← he (20, ([], 0), ([(1, 1)], -1)) (by simp [zf_sup, zf_supT]) i (by rw [vc]; omega) (by rw [vb]; omega)]
    exact h4 i hi hb
  | 17, h, he =>
    obtain ⟨h1, h2, h3⟩ := h
    refine ⟨h1, h2, fun i hi hb => ?_⟩
    rw [← he (20, ([], 0), ([(1, 1)], -1)) (by simp [zf_sup, zf_supT]) i (by rw [vc]; omega) (by rw [vb]; omega), ← he (33, ([(0, 874)], 0), ([(0, 874)], 873)) (by simp [zf_sup, zf_supT]) (874 * a.toNat + i) (by rw [va]; omega) (by rw [va]; omega)]
    exact h3 i hi hb
  | 18, h, he =>
    intro i hi
    have e1 : ∀ k : Nat, k < 4 → F 22 (4 * i + k) = F' 22 (4 * i + k) := fun k hk => he (22, ([], 0), ([(1, 4)], -1)) (by simp [zf_sup, zf_supT]) _ (by rw [vc]; omega) (by rw [vb]; omega)
    have h1 := h i hi
    unfold zg_ln at h1 ⊢
    have q0 := e1 0 (by omega)
    rw [Nat.add_zero] at q0
    rw [← q0, ← e1 2 (by omega), ← e1 3 (by omega)]
    exact h1
  | 19, h, he =>
    have q1 : F 18 11 = F' 18 11 := he (18, ([], 11), ([], 11)) (by simp [zf_sup, zf_supT]) 11 (by rw [vc]; omega) (by rw [vc]; omega)
    have q2 : F 18 12 = F' 18 12 := he (18, ([], 12), ([], 12)) (by simp [zf_sup, zf_supT]) 12 (by rw [vc]; omega) (by rw [vc]; omega)
    have q3 : F 18 13 = F' 18 13 := he (18, ([], 13), ([], 13)) (by simp [zf_sup, zf_supT]) 13 (by rw [vc]; omega) (by rw [vc]; omega)
    intro h1
    rw [← q1] at h1
    rw [← q2, ← q3]
    exact h h1
  | 20, h, he =>
    intro i hi
    rw [← he (20, ([], 0), ([(1, 1)], -1)) (by simp [zf_sup, zf_supT]) i (by rw [vc]; omega) (by rw [vb]; omega)]
    by_cases h8 : i < 87
    · have := h i hi
      rw [if_pos h8] at this ⊢
      rw [← he (21, ([], 0), ([], 86)) (by simp [zf_sup, zf_supT]) i (by rw [vc]; omega) (by rw [vc]; omega)]
      exact this
    · have := h i hi
      rw [if_neg h8] at this ⊢
      exact this
  | 21, h, he =>
    intro l hl
    rw [← he (20, ([], 19), ([(1, 1)], 18)) (by simp [zf_sup, zf_supT]) (19 + l) (by rw [vc]; omega) (by rw [vb]; omega)]
    exact h l hl
  | 22, h, he =>
    intro l hl
    rw [← he (20, ([], 107), ([(1, 1)], 106)) (by simp [zf_sup, zf_supT]) (107 + l) (by rw [vc]; omega) (by rw [vb]; omega)]
    exact h l hl
  | 23, h, he =>
    intro i hi
    rw [← he (20, ([], 694), ([(1, 1)], 693)) (by simp [zf_sup, zf_supT]) (694 + i) (by rw [vc]; omega) (by rw [vb]; omega), ← he (22, ([], 0), ([(1, 1)], -1)) (by simp [zf_sup, zf_supT]) i (by rw [vc]; omega) (by rw [vb]; omega)]
    exact h i hi
  | 24, h, he =>
    intro i hi
    rw [← he (21, ([], 0), ([(1, 1)], -1)) (by simp [zf_sup, zf_supT]) i (by rw [vc]; omega) (by rw [vb]; omega)]
    exact h i hi
  | n + 25, _, _ => exact trivial
/-! ===== rules by hand: what cells hold, as a function of kind and place ===== -/
def zq_up (F : Nat → Nat → Int32) (g x : Nat) (v : Int32) : Nat → Nat → Int32 := fun g' i => if g' = g ∧ i = x then v else F g' i
theorem zq_up_s (F : Nat → Nat → Int32) (g x : Nat) (v : Int32) : zq_up F g x v g x = v := if_pos ⟨rfl, rfl⟩
theorem zq_up_n {F : Nat → Nat → Int32} {g x g' i : Nat} {v : Int32} (h : ¬ (g' = g ∧ i = x)) : zq_up F g x v g' i = F g' i := if_neg h
theorem zq_up_i {F : Nat → Nat → Int32} {g x i : Nat} {v : Int32} (h : i ≠ x) : zq_up F g x v g i = F g i := if_neg (fun q => h q.2)
theorem zq_up_g {F : Nat → Nat → Int32} {g x g' i : Nat} {v : Int32} (h : g' ≠ g) : zq_up F g x v g' i = F g' i := if_neg (fun q => h q.1)
def zq_sg (g : Nat) : List (Nat × zf_P) := (zf_gi zGT g).2.2
def zq_ic (g i : Nat) : Bool := Nat.blt g 37 && (match zf_sp (zq_sg g) i with
  | some (.inl _) => true
  | _ => false)
def zq_isI (p : zf_P) : Bool := match p with
  | .inl _ => true
  | _ => false
def zq_int (g : Nat) : Bool := Nat.blt g 37 && (zq_sg g).all (fun q => zq_isI q.2)
theorem zq_sp_all : ∀ {t : List (Nat × zf_P)} {i : Nat} {p : zf_P}, t.all (fun q => zq_isI q.2) = true → zf_sp t i = some p → zq_isI p = true
  | [], _, _, _, h => by cases h
  | q :: t, i, p, ha, h => by
    rw [List.all_cons, Bool.and_eq_true] at ha
    unfold zf_sp at h
    split at h
    · cases h; exact ha.1
    · exact zq_sp_all ha.2 h
theorem zq_int_ic {g i : Nat} (hg : zq_int g = true) (hi : i < zf_len (zq_sg g)) : zq_ic g i = true := by
  unfold zq_int at hg
  rw [Bool.and_eq_true] at hg
  obtain ⟨p, hp⟩ := zf_sp_some hi
  have h1 := zq_sp_all hg.2 hp
  unfold zq_ic
  rw [hg.1, hp]
  unfold zq_isI at h1
  split at h1
  · rfl
  · cases h1
def zq_cn (θ0 : Nat → Nat) (ws : va_W) (F : Nat → Nat → Int32) : Prop := ∀ g i, zq_ic g i = true → zf_rd ws (θ0 g) i (.int (F g i))
def zq_tp (F : Nat → Nat → Int32) : Prop := ∀ g i q, Nat.blt g 37 = true → zf_sp (zq_sg g) i = some (.inl q) → q.1 ≤ (F g i).toInt ∧ (F g i).toInt ≤ q.2
theorem zq_ex {Sg : Nat → Option Nat} {θ0 : Nat → Nat} {k : Nat → ClassId} {ws : va_W} (hsing : ∀ g, g < 37 → g < 64 → Sg (θ0 g) = some g) (ht : zf_typ Sg k zGT ws) : ∃ F : Nat → Nat → Int32, zq_cn θ0 ws F ∧ zq_tp F := by
  have h : ∀ p : Nat × Nat, ∃ x : Int32, ∀ q, Nat.blt p.1 37 = true → zf_sp (zq_sg p.1) p.2 = some (.inl q) → zf_rd ws (θ0 p.1) p.2 (.int x) ∧ q.1 ≤ x.toInt ∧ x.toInt ≤ q.2 := by
    intro p
    by_cases hc : ∃ q, Nat.blt p.1 37 = true ∧ zf_sp (zq_sg p.1) p.2 = some (.inl q)
    · obtain ⟨q, h1, h2⟩ := hc
      have hl := zf_blt h1
      obtain ⟨q0, e, a1, a2⟩ := ht _ _ (hsing p.1 hl (by omega)) (by omega)
      obtain ⟨v, b1, b2⟩ := a2.2 p.2 _ h2
      obtain ⟨x, rfl, c1, c2⟩ := b2
      refine ⟨x, fun q' _ h4 => ?_⟩
      cases Option.some.inj (h2.symm.trans h4)
      exact ⟨⟨q0, e, a1, b1⟩, c1, c2⟩
    · exact ⟨0, fun q h1 h2 => absurd ⟨q, h1, h2⟩ hc⟩
  obtain ⟨f, hf⟩ := Classical.axiomOfChoice h
  refine ⟨fun g i => f (g, i), fun g i hgi => ?_, fun g i q h1 h2 => (hf (g, i) q h1 h2).2⟩
  unfold zq_ic at hgi
  rw [Bool.and_eq_true] at hgi
  have h2 := hgi.2
  split at h2
  · rename_i q hq
    exact (hf (g, i) q hgi.1 hq).1
  · cases h2
/-- what is said of cells, of their contents -/
def zq_h (F : Nat → Nat → Int32) (ρ : Nat → Int) (h : zf_H) : Prop := match Nat.blt h.1 1000 with
  | true => 0 ≤ zf_v ρ h.2.2.1 ∧ (F h.1 (zf_v ρ h.2.2.1).toNat).toInt = zf_v ρ (zf_a2 h.2.2.2)
  | false => zf_gP (h.1 - 1000) (zf_v ρ h.2.2.1) (zf_v ρ (zf_a2 h.2.2.2)) F
/-- the places lie where ints are -/
def zr_p (E : zf_E) (Fs : List zf_L) (g : Nat) (lo hi : zf_L) : Bool := match lo.1, hi.1 with
  | [], [] => zf_le 0 lo.2 && ((zq_int g && zf_le hi.2 ((zf_len (zq_sg g) : Int) - 1)) || (zf_z (lo.2 - hi.2) && zq_ic g lo.2.toNat))
  | _, _ => zq_int g && zf_ge E Fs lo && zf_ge E Fs (zf_sub (zf_con ((zf_len (zq_sg g) : Int) - 1)) hi)
theorem zr_p_ok {E : zf_E} {Fs : List zf_L} {g : Nat} {lo hi : zf_L} {ρ : Nat → Int} (hE : zf_okE E ρ) (hF : zf_okF Fs ρ) (h : zr_p E Fs g lo hi = true) {i : Nat} (h1 : zf_v ρ lo ≤ (i : Int)) (h2 : (i : Int) ≤ zf_v ρ hi) : zq_ic g i = true ∧ 0 ≤ zf_v ρ lo := by
  unfold zr_p at h
  split at h
  · rename_i e1 e2
    have v1 : zf_v ρ lo = lo.2 := by unfold zf_v; rw [e1]; rfl
    have v2 : zf_v ρ hi = hi.2 := by unfold zf_v; rw [e2]; rfl
    rw [Bool.and_eq_true, Bool.or_eq_true, Bool.and_eq_true, Bool.and_eq_true, zf_le_iff] at h
    refine ⟨?_, by omega⟩
    rcases h.2 with ⟨a, b⟩ | ⟨a, b⟩
    · rw [zf_le_iff] at b
      exact zq_int_ic a (by omega)
    · have := zf_z_eq a
      rw [show i = lo.2.toNat by omega]
      exact b
  · rw [Bool.and_eq_true, Bool.and_eq_true] at h
    have a := zf_ge_of hE hF h.1.2
    have b := zf_ge_of hE hF h.2
    rw [zf_v_sub, zf_v_con] at b
    exact ⟨zq_int_ic h.1.1 (by omega), a⟩
def zr_h (E : zf_E) (Fs : List zf_L) (h : zf_H) : Bool := match Nat.blt h.1 1000 with
  | true => Nat.beq h.1 h.2.1 && zr_p E Fs h.1 h.2.2.1 h.2.2.1 && zf_isI h.2.2.2 && zf_ge E Fs h.2.2.1
  | false => (zf_sup (h.1 - 1000)).all (fun q => Nat.blt q.1 37 && zr_p E Fs q.1 (zf_sb [h.2.2.1, zf_a2 h.2.2.2] q.2.1) (zf_sb [h.2.2.1, zf_a2 h.2.2.2] q.2.2))
section ZHA
variable {Sg : Nat → Option Nat} {θ θ0 : Nat → Nat} {ρ : Nat → Int} {ws : va_W} {A : Nat → Prop} {F : Nat → Nat → Int32} {E : zf_E} {Fs : List zf_L}
theorem zq_ic_lt {g i : Nat} (h : zq_ic g i = true) : g < 37 := by
  unfold zq_ic at h
  rw [Bool.and_eq_true] at h
  exact zf_blt h.1
/-- the same of both: of the world, and of the contents -/
theorem zq_to (hD : va_D A ws) (hsing : ∀ g, g < 37 → g < 64 → Sg (θ0 g) = some g) (hθ : ∀ i, i < 64 → θ i = θ0 i) (hc : zq_cn θ0 ws F) (hE : zf_okE E ρ) (hF : zf_okF Fs ρ) {h : zf_H} (hr : zr_h E Fs h = true) (hk : zf_hok Sg ρ θ ws h) : zq_h F ρ h := by
  unfold zr_h at hr
  unfold zf_hok at hk
  unfold zq_h
  by_cases hl : h.1 < 1000
  · rw [zf_blt' hl] at hr hk ⊢
    dsimp only at hr hk ⊢
    simp only [Bool.and_eq_true] at hr
    obtain ⟨⟨⟨r1, r2⟩, r3⟩, r4⟩ := hr
    have r4 := zf_ge_of hE hF r4
    obtain ⟨k1, k2, v, k3, k4⟩ := hk
    have r1 := Nat.eq_of_beq_eq_true r1
    obtain ⟨i1, -⟩ := zr_p_ok hE hF r2 (i := (zf_v ρ h.2.2.1).toNat) (by omega) (by omega)
    have hlt := zq_ic_lt i1
    have hrd := hc _ _ i1
    rw [← r1, hθ h.1 (by omega)] at k3
    have := zf_rd_fun hD hrd k3
    subst this
    refine ⟨k2, ?_⟩
    unfold zf_isI at r3
    split at r3
    · rename_i f e0
      rw [e0] at k4 ⊢
      obtain ⟨x, e1, e2⟩ := k4
      cases e1
      exact e2
    · cases r3
  · rw [zf_nblt hl] at hr hk ⊢
    dsimp only at hr hk ⊢
    generalize h.1 - 1000 = j at hr hk ⊢
    obtain ⟨F0, k1, k2⟩ := hk
    refine zg_cg k2 ?_
    intro q hq i i1 i2
    rw [List.all_eq_true] at hr
    have h1 := hr q hq
    rw [Bool.and_eq_true] at h1
    have hlt := zf_blt h1.1
    obtain ⟨b3, b4⟩ := zf_sup_b hq
    have j1 := i1
    have j2 := i2
    rw [← zf_sb_ab _ _ _ b3] at j1
    rw [← zf_sb_ab _ _ _ b4] at j2
    obtain ⟨c1, -⟩ := zr_p_ok hE hF h1.2 j1 j2
    have := zf_rd_fun hD (k1 q hq _ (hsing q.1 hlt (by omega)) i i1 i2) (hc _ _ c1)
    injection this
theorem zq_of (hone : ∀ a g, Sg a = some g → g < 64 → a = θ0 g) (hsing : ∀ g, g < 37 → g < 64 → Sg (θ0 g) = some g) (hθ : ∀ i, i < 64 → θ i = θ0 i) (hc : zq_cn θ0 ws F) (hE : zf_okE E ρ) (hF : zf_okF Fs ρ) {h : zf_H} (hr : zr_h E Fs h = true) (hk : zq_h F ρ h) : zf_hok Sg ρ θ ws h := by
  unfold zr_h at hr
  unfold zq_h at hk
  unfold zf_hok
  by_cases hl : h.1 < 1000
  · rw [zf_blt' hl] at hr hk ⊢
    dsimp only at hr hk ⊢
    simp only [Bool.and_eq_true] at hr
    obtain ⟨⟨⟨r1, r2⟩, r3⟩, r4⟩ := hr
    obtain ⟨k1, k2⟩ := hk
    have r1 := Nat.eq_of_beq_eq_true r1
    obtain ⟨i1, -⟩ := zr_p_ok hE hF r2 (i := (zf_v ρ h.2.2.1).toNat) (by omega) (by omega)
    have hlt := zq_ic_lt i1
    have hrd := hc _ _ i1
    refine ⟨by rw [← r1, hθ h.1 (by omega)]; exact hsing h.1 hlt (by omega), k1, _, by rw [← r1, hθ h.1 (by omega)]; exact hrd, ?_⟩
    unfold zf_isI at r3
    split at r3
    · rename_i f e0
      rw [e0] at k2 ⊢
      exact ⟨_, rfl, k2⟩
    · cases r3
  · rw [zf_nblt hl] at hr hk ⊢
    dsimp only at hr hk ⊢
    generalize h.1 - 1000 = j at hr hk ⊢
    refine ⟨F, ?_, hk⟩
    intro q hq x hx i i1 i2
    rw [List.all_eq_true] at hr
    have h1 := hr q hq
    rw [Bool.and_eq_true] at h1
    have hlt := zf_blt h1.1
    obtain ⟨b3, b4⟩ := zf_sup_b hq
    rw [← zf_sb_ab _ _ _ b3] at i1
    rw [← zf_sb_ab _ _ _ b4] at i2
    obtain ⟨c1, -⟩ := zr_p_ok hE hF h1.2 i1 i2
    rw [hone x q.1 hx (by omega)]
    exact hc _ _ c1
end ZHA
