/-! ===== the men of the class's towns ===== -/
def nu_ok (eff : zf_F) (g : Nat) (a b : Int) : Bool := eff.all (fun q => !(Nat.beq q.1 g) || (q.2.1.1.isEmpty && q.2.2.1.isEmpty && (decide (q.2.2.2 < a) || decide (b < q.2.1.2))))
theorem nu_nil {f : zf_L} (h : f.1.isEmpty = true) (ρ : Nat → Int) : zf_v ρ f = f.2 := by
  obtain ⟨a, b⟩ := f
  cases a with
  | nil => rfl
  | cons x t => cases h
section NU
variable {Sg : Nat → Option Nat} {k : Nat → ClassId} {th tw nm : Nat → Nat} {eff : zf_F} {ρ : Nat → Int} {ws ws' : va_W}
theorem nu_fr {g x i : Nat} {a b : Int} {v : Value} (h : nu_ok eff g a b = true) (hf : zf_fr Sg eff ρ ws ws') (hx : Sg x = some g) (h1 : a ≤ (i : Int)) (h2 : (i : Int) ≤ b) (hr : zf_rd ws x i v) : zf_rd ws' x i v := by
  refine hf x g i v hx ?_ hr
  rintro ⟨q, hq, e1, e2, e3⟩
  have h9 := List.all_eq_true.mp h q hq
  rw [Bool.or_eq_true] at h9
  rcases h9 with h9 | h9
  · rw [e1] at h9; simp at h9
  · simp only [Bool.and_eq_true, Bool.or_eq_true, decide_eq_true_eq] at h9
    obtain ⟨⟨n1, n2⟩, h9⟩ := h9
    rw [nu_nil n1] at e2
    rw [nu_nil n2] at e3
    omega
/-- the thirteen towns: the town, the spare one, two kept, nine past; each has names of its own -/
def nu_T (Sg : Nat → Option Nat) (th tw nm : Nat → Nat) (ws : va_W) : Prop := (∀ i, i < 13 → Sg (tw i) = some 64 ∧ Sg (nm i) = some 65 ∧ zf_rd ws (tw i) 1 (.ref (nm i))) ∧ (∀ i j, i < 13 → j < 13 → tw i = tw j → i = j) ∧ (∀ i j, i < 13 → j < 13 → nm i = nm j → i = j) ∧ zf_rd ws (th 0) 3 (.ref (tw 0)) ∧ zf_rd ws (th 0) 4 (.ref (tw 1)) ∧ (∀ j, j < 2 → zf_rd ws (th 14) j (.ref (tw (2 + j)))) ∧ ∀ j, j < 9 → zf_rd ws (th 11) j (.ref (tw (4 + j)))
def nu_N (tw nm : Nat → Nat) (ws : va_W) (i : Nat) (nsv : List (List Int32)) : Prop := nsv.length ≤ 6 ∧ zf_rd ws (tw i) 0 (.int (Int32.ofNat nsv.length)) ∧ ∀ j, j < nsv.length → zf_rd ws (nm i) j (.long (c32 (nsv.getD j [])))
def nu_R (th tw nm : Nat → Nat) (ws : va_W) (nsv : List (List Int32)) (f s : Nat) : Prop := f ≤ 8 ∧ s ≤ 8 ∧ zf_rd ws (th 10) 1 (.int (Int32.ofNat f)) ∧ zf_rd ws (th 10) 2 (.int (Int32.ofNat s)) ∧ ∀ t, t < s → nu_N tw nm ws (4 + (f + 8 - t) % 9) nsv
def nu_C (Sg : Nat → Option Nat) (th tw nm : Nat → Nat) (ws : va_W) (nsv k0 k1 : List (List Int32)) (f s : Nat) : Prop := nu_T Sg th tw nm ws ∧ nu_N tw nm ws 0 nsv ∧ nu_N tw nm ws 2 k0 ∧ nu_N tw nm ws 3 k1 ∧ nu_R th tw nm ws nsv f s
def nu_eT (eff : zf_F) : Bool := nu_ok eff 0 3 4 && nu_ok eff 14 0 1 && nu_ok eff 11 0 8 && nu_ok eff 64 1 1
def nu_eN (eff : zf_F) : Bool := nu_ok eff 64 0 0 && nu_ok eff 65 0 5
theorem nu_Tf (h : nu_eT eff = true) (hf : zf_fr Sg eff ρ ws ws') (hsing : ∀ g, g < 37 → g < 64 → Sg (th g) = some g) (T : nu_T Sg th tw nm ws) : nu_T Sg th tw nm ws' := by
  unfold nu_eT at h
  simp only [Bool.and_eq_true] at h
  obtain ⟨⟨⟨h1, h2⟩, h3⟩, h4⟩ := h
  obtain ⟨t1, t2, t3, t4, t5, t6, t7⟩ := T
  refine ⟨fun i hi => ⟨(t1 i hi).1, (t1 i hi).2.1, nu_fr h4 hf (t1 i hi).1 (by decide) (by decide) (t1 i hi).2.2⟩, t2, t3, nu_fr h1 hf (hsing 0 (by decide) (by decide)) (by decide) (by decide) t4, nu_fr h1 hf (hsing 0 (by decide) (by decide)) (by decide) (by decide) t5, fun j hj => nu_fr h2 hf (hsing 14 (by decide) (by decide)) (by omega) (by omega) (t6 j hj), fun j hj => nu_fr h3 hf (hsing 11 (by decide) (by decide)) (by omega) (by omega) (t7 j hj)⟩
theorem nu_Nf (h : nu_eN eff = true) (hf : zf_fr Sg eff ρ ws ws') (T : nu_T Sg th tw nm ws) {i : Nat} (hi : i < 13) {nsv : List (List Int32)} (N : nu_N tw nm ws i nsv) : nu_N tw nm ws' i nsv := by
  unfold nu_eN at h
  simp only [Bool.and_eq_true] at h
  obtain ⟨n1, n2, n3⟩ := N
  exact ⟨n1, nu_fr h.1 hf (T.1 i hi).1 (by decide) (by decide) n2, fun j hj => nu_fr h.2 hf (T.1 i hi).2.1 (by omega) (by omega) (n3 j hj)⟩
theorem nu_m9 (f t : Nat) : 4 + (f + 8 - t) % 9 < 13 := by
  have := Nat.mod_lt (f + 8 - t) (show 0 < 9 by decide)
  omega
theorem nu_Cf (h : (nu_eT eff && nu_eN eff && nu_ok eff 10 1 2) = true) (hf : zf_fr Sg eff ρ ws ws') (hsing : ∀ g, g < 37 → g < 64 → Sg (th g) = some g) {nsv k0 k1 : List (List Int32)} {f s : Nat} (C : nu_C Sg th tw nm ws nsv k0 k1 f s) : nu_C Sg th tw nm ws' nsv k0 k1 f s := by
  simp only [Bool.and_eq_true] at h
  obtain ⟨⟨h1, h2⟩, h3⟩ := h
  obtain ⟨T, N0, N2, N3, f8, s8, rf, rs, R⟩ := C
  have g10 := hsing 10 (by decide) (by decide)
  exact ⟨nu_Tf h1 hf hsing T, nu_Nf h2 hf T (by decide) N0, nu_Nf h2 hf T (by decide) N2, nu_Nf h2 hf T (by decide) N3, f8, s8, nu_fr h3 hf g10 (by decide) (by decide) rf, nu_fr h3 hf g10 (by decide) (by decide) rs, fun t ht => nu_Nf h2 hf T (nu_m9 f t) (R t ht)⟩
/-- one town's men and names are another's, of the others they stay -/
def nu_cp (Sg : Nat → Option Nat) (ws ws' : va_W) (to fr nt nf : Nat) : Prop := (∀ m9, zf_rd ws fr 0 (.int m9) → zf_rd ws' to 0 (.int m9)) ∧ (∀ (i : Nat) (v : Value), i < 6 → zf_rd ws nf i v → zf_rd ws' nt i v) ∧ (∀ (a : Nat) (v : Value), Sg a = some 64 → a ≠ to → zf_rd ws a 0 v → zf_rd ws' a 0 v) ∧ ∀ (a i : Nat) (v : Value), Sg a = some 65 → a ≠ nt → zf_rd ws a i v → zf_rd ws' a i v
theorem nu_c1 {a b : Nat} {nsv : List (List Int32)} (h : nu_cp Sg ws ws' (tw a) (tw b) (nm a) (nm b)) (N : nu_N tw nm ws b nsv) : nu_N tw nm ws' a nsv := ⟨N.1, h.1 _ N.2.1, fun j hj => h.2.1 j _ (by have := N.1; omega) (N.2.2 j hj)⟩
theorem nu_c2 {a b i : Nat} {nsv : List (List Int32)} (h : nu_cp Sg ws ws' (tw a) (tw b) (nm a) (nm b)) (T : nu_T Sg th tw nm ws) (ha : a < 13) (hi : i < 13) (hne : i ≠ a) (N : nu_N tw nm ws i nsv) : nu_N tw nm ws' i nsv := ⟨N.1, h.2.2.1 _ _ (T.1 i hi).1 (fun q => hne (T.2.1 i a hi ha q)) N.2.1, fun j hj => h.2.2.2 _ j _ (T.1 i hi).2.1 (fun q => hne (T.2.2.1 i a hi ha q)) (N.2.2 j hj)⟩
end NU
def nu_P (D : va_G) (k : Nat → ClassId) (Sg : Nat → Option Nat) (ws : va_W) (to fr nt nf : Nat) (A : Nat → Prop) : Option Value → State → Prop := fun v t => v = none ∧ ∃ ws', va_P D vwCl ws' t.heap ∧ va_D A ws' ∧ zf_typ Sg k zGT ws' ∧ zf_fr Sg zm_X10_copy.2.1 (fun _ => 0) ws ws' ∧ nu_cp Sg ws ws' to fr nt nf
def nu_Q (D : va_G) (k : Nat → ClassId) (Sg : Nat → Option Nat) (th tw nm : Nat → Nat) (nsv k0 k1 : List (List Int32)) (A : Nat → Prop) (t : State) : Prop := ∃ ws', va_P D vwCl ws' t.heap ∧ va_D A ws' ∧ zf_typ Sg k zGT ws' ∧ ∃ f s, nu_C Sg th tw nm ws' nsv k0 k1 f s

set_option maxRecDepth 100000 in
set_option maxHeartbeats 4000000 in
theorem zR_X10_copy (l : Launch) (D : va_G) (k : Nat → ClassId) (B0 : Nat) (ad : Nat → Nat) (al sw : Nat) : zf_Rl l yX10_copy (zw yX10_copy cX10_copy 2 none) ({ frames := 2, cells := 0, slots := 0, locals := 81 }) cX10_copy 2 D k zGT 37 B0 [zf_mCp 65 64 65 65 66 6 0, zm_X3_copy, zm_X1_copy, zf_mCp 75 64 75 65 66 6 0] [(9, 8, 1, .inl (0, 0)), (18, 8, 2, .inl (0, 0)), (25, 8, 3, .inl (0, 0)), (29, 8, 4, .inl (0, 0)), (33, 8, 5, .inl (0, 0)), (37, 8, 0, .inl (0, 0)), (52, 8, 6, .inl (0, 0)), (55, 8, 7, .inl (0, 0)), (58, 8, 8, .inl (0, 0))] [(33, 8, 5, .inl ((-2147483648), 2147483647)), (37, 8, 0, .inl ((-2147483648), 2147483647)), (52, 8, 6, .inl ((-2147483648), 2147483647)), (55, 8, 7, .inl ((-2147483648), 2147483647)), (58, 8, 8, .inl ((-2147483648), 2147483647))] zn_X10_copy (zEx B0 ad al sw) := by
  have hEx := zEx_ok B0 ad al sw
  intro p e s m args below meth c Q Sg w0 A θ0 S hK hE hAB hA hone hsing
  refine ⟨?_, ?_, ?_⟩
  · exact zf_ac ((fun H locs ws a q0 fs v rest pc ls hP he hv hdg kk => va_get (D := D) (ci := 8) (C := RX10) (T := TX10) (N := 9) (own := RX10) S.1 S.2.1 S.2.2.2.2 (zg_in inW_X10) S.2.2.2.1 hK hP q0 he rfl 1 (by decide) (S.2.2.2.2 (.fieldLink RX10 9 "RungMoney$Town" "names" "[J") (List.mem_cons_of_mem _ zw_266)) (fun _ h9 => h9) hv hdg kk)) (zf_ac ((fun H locs ws a q0 fs v rest pc ls hP he hv hdg kk => va_get (D := D) (ci := 8) (C := RX10) (T := TX10) (N := 9) (own := RX10) S.1 S.2.1 S.2.2.2.2 (zg_in inW_X10) S.2.2.2.1 hK hP q0 he rfl 2 (by decide) (S.2.2.2.2 (.fieldLink RX10 18 "RungMoney$Town" "ladders" "LRungMoney$Ladders;") (List.mem_cons_of_mem _ zw_267)) (fun _ h9 => h9) hv hdg kk)) (zf_ac ((fun H locs ws a q0 fs v rest pc ls hP he hv hdg kk => va_get (D := D) (ci := 8) (C := RX10) (T := TX10) (N := 9) (own := RX10) S.1 S.2.1 S.2.2.2.2 (zg_in inW_X10) S.2.2.2.1 hK hP q0 he rfl 3 (by decide) (S.2.2.2.2 (.fieldLink RX10 25 "RungMoney$Town" "debts" "LRungMoney$Debts;") (List.mem_cons_of_mem _ zw_270)) (fun _ h9 => h9) hv hdg kk)) (zf_ac ((fun H locs ws a q0 fs v rest pc ls hP he hv hdg kk => va_get (D := D) (ci := 8) (C := RX10) (T := TX10) (N := 9) (own := RX10) S.1 S.2.1 S.2.2.2.2 (zg_in inW_X10) S.2.2.2.1 hK hP q0 he rfl 4 (by decide) (S.2.2.2.2 (.fieldLink RX10 29 "RungMoney$Town" "payments" "[I") (List.mem_cons_of_mem _ zw_273)) (fun _ h9 => h9) hv hdg kk)) (zf_ac ((fun H locs ws a q0 fs v rest pc ls hP he hv hdg kk => va_get (D := D) (ci := 8) (C := RX10) (T := TX10) (N := 9) (own := RX10) S.1 S.2.1 S.2.2.2.2 (zg_in inW_X10) S.2.2.2.1 hK hP q0 he rfl 5 (by decide) (S.2.2.2.2 (.fieldLink RX10 33 "RungMoney$Town" "rot" "I") (List.mem_cons_of_mem _ zw_275)) (fun _ h9 => h9) hv hdg kk)) (zf_ac ((fun H locs ws a q0 fs v rest pc ls hP he hv hdg kk => va_get (D := D) (ci := 8) (C := RX10) (T := TX10) (N := 9) (own := RX10) S.1 S.2.1 S.2.2.2.2 (zg_in inW_X10) S.2.2.2.1 hK hP q0 he rfl 0 (by decide) (S.2.2.2.2 (.fieldLink RX10 37 "RungMoney$Town" "men" "I") (List.mem_cons_of_mem _ zw_263)) (fun _ h9 => h9) hv hdg kk)) (zf_ac ((fun H locs ws a q0 fs v rest pc ls hP he hv hdg kk => va_get (D := D) (ci := 8) (C := RX10) (T := TX10) (N := 9) (own := RX10) S.1 S.2.1 S.2.2.2.2 (zg_in inW_X10) S.2.2.2.1 hK hP q0 he rfl 6 (by decide) (S.2.2.2.2 (.fieldLink RX10 52 "RungMoney$Town" "winters" "I") (List.mem_cons_of_mem _ zw_278)) (fun _ h9 => h9) hv hdg kk)) (zf_ac ((fun H locs ws a q0 fs v rest pc ls hP he hv hdg kk => va_get (D := D) (ci := 8) (C := RX10) (T := TX10) (N := 9) (own := RX10) S.1 S.2.1 S.2.2.2.2 (zg_in inW_X10) S.2.2.2.1 hK hP q0 he rfl 7 (by decide) (S.2.2.2.2 (.fieldLink RX10 55 "RungMoney$Town" "mint" "I") (List.mem_cons_of_mem _ zw_280)) (fun _ h9 => h9) hv hdg kk)) (zf_ac ((fun H locs ws a q0 fs v rest pc ls hP he hv hdg kk => va_get (D := D) (ci := 8) (C := RX10) (T := TX10) (N := 9) (own := RX10) S.1 S.2.1 S.2.2.2.2 (zg_in inW_X10) S.2.2.2.1 hK hP q0 he rfl 8 (by decide) (S.2.2.2.2 (.fieldLink RX10 58 "RungMoney$Town" "cuts" "I") (List.mem_cons_of_mem _ zw_282)) (fun _ h9 => h9) hv hdg kk)) zf_an))))))))
  · exact zf_ac ((fun H locs ws a q0 fs v rest pc ls hP hD hS he hl hv hdg kk => by obtain ⟨x, rfl, h1, h2⟩ := hv; exact va_put (D := D) (ci := 8) (v := .int x) (ty := .int) (C := RX10) (T := TX10) (N := 9) (own := RX10) S.1 S.2.1 S.2.2.2.2 (zg_in inW_X10) tyX10 tyX10_ok nmX10 S.2.2.2.1 hK hP hD hS q0 he rfl 5 (by decide) (S.2.2.2.2 (.fieldLink RX10 33 "RungMoney$Town" "rot" "I") (List.mem_cons_of_mem _ zw_275)) (fun _ h9 => h9) rfl (by decide +kernel) rfl rfl hl hdg kk)) (zf_ac ((fun H locs ws a q0 fs v rest pc ls hP hD hS he hl hv hdg kk => by obtain ⟨x, rfl, h1, h2⟩ := hv; exact va_put (D := D) (ci := 8) (v := .int x) (ty := .int) (C := RX10) (T := TX10) (N := 9) (own := RX10) S.1 S.2.1 S.2.2.2.2 (zg_in inW_X10) tyX10 tyX10_ok nmX10 S.2.2.2.1 hK hP hD hS q0 he rfl 0 (by decide) (S.2.2.2.2 (.fieldLink RX10 37 "RungMoney$Town" "men" "I") (List.mem_cons_of_mem _ zw_263)) (fun _ h9 => h9) rfl (by decide +kernel) rfl rfl hl hdg kk)) (zf_ac ((fun H locs ws a q0 fs v rest pc ls hP hD hS he hl hv hdg kk => by obtain ⟨x, rfl, h1, h2⟩ := hv; exact va_put (D := D) (ci := 8) (v := .int x) (ty := .int) (C := RX10) (T := TX10) (N := 9) (own := RX10) S.1 S.2.1 S.2.2.2.2 (zg_in inW_X10) tyX10 tyX10_ok nmX10 S.2.2.2.1 hK hP hD hS q0 he rfl 6 (by decide) (S.2.2.2.2 (.fieldLink RX10 52 "RungMoney$Town" "winters" "I") (List.mem_cons_of_mem _ zw_278)) (fun _ h9 => h9) rfl (by decide +kernel) rfl rfl hl hdg kk)) (zf_ac ((fun H locs ws a q0 fs v rest pc ls hP hD hS he hl hv hdg kk => by obtain ⟨x, rfl, h1, h2⟩ := hv; exact va_put (D := D) (ci := 8) (v := .int x) (ty := .int) (C := RX10) (T := TX10) (N := 9) (own := RX10) S.1 S.2.1 S.2.2.2.2 (zg_in inW_X10) tyX10 tyX10_ok nmX10 S.2.2.2.1 hK hP hD hS q0 he rfl 7 (by decide) (S.2.2.2.2 (.fieldLink RX10 55 "RungMoney$Town" "mint" "I") (List.mem_cons_of_mem _ zw_280)) (fun _ h9 => h9) rfl (by decide +kernel) rfl rfl hl hdg kk)) (zf_ac ((fun H locs ws a q0 fs v rest pc ls hP hD hS he hl hv hdg kk => by obtain ⟨x, rfl, h1, h2⟩ := hv; exact va_put (D := D) (ci := 8) (v := .int x) (ty := .int) (C := RX10) (T := TX10) (N := 9) (own := RX10) S.1 S.2.1 S.2.2.2.2 (zg_in inW_X10) tyX10 tyX10_ok nmX10 S.2.2.2.1 hK hP hD hS q0 he rfl 8 (by decide) (S.2.2.2.2 (.fieldLink RX10 58 "RungMoney$Town" "cuts" "I") (List.mem_cons_of_mem _ zw_282)) (fun _ h9 => h9) rfl (by decide +kernel) rfl rfl hl hdg kk)) zf_an))))
  · exact zf_crl (xs := [(.invokestatic 61, 3, 0), (.invokevirtual 67, 3, 1), (.invokevirtual 71, 3, 2), (.invokestatic 61, 3, 3)]) (by decide +kernel) (zf_ac (zf_crcpL (own := RX10) S.1 S.2.1 S.2.2.1 hK S.2.2.2.1 (S.2.2.2.2 (.methodLink RX10 61 arraycopyName) (List.mem_cons_of_mem _ zw_612)) (S.2.2.2.2 (.native arraycopyName) (List.mem_cons_of_mem _ zw_614)) (S.2.2.2.2 (.static arraycopyName) (List.mem_cons_of_mem _ zw_613)) (S.2.2.2.2 (.initialized "java/lang/System") (List.mem_cons_of_mem _ zw_110)) (Nat.le_of_ble_eq_true rfl) (Nat.le_of_ble_eq_true rfl) (by decide +kernel) (by decide +kernel) (by decide +kernel) (by decide +kernel) (by decide) (by decide) (by decide +kernel) (by decide +kernel)) (zf_ac (zf_crV S hEx hE hAB hA hK hone hsing (kc_X3_copy l D k B0 ad al sw) (cwV 1 S.2.2.2.2 (zg_V zw_615 zw_616 zw_617 zw_100 zw_618) rfl rfl rfl (by decide +kernel) ⟨(Nat.le_of_ble_eq_true rfl), (Nat.le_of_ble_eq_true rfl)⟩) ⟨(Nat.le_of_ble_eq_true rfl), (Nat.le_of_ble_eq_true rfl)⟩ 1 rfl rfl (ar := [.inr (some (66, 65))]) rfl rfl (by decide +kernel)) (zf_ac (zf_crV S hEx hE hAB hA hK hone hsing (kc_X1_copy l D k B0 ad al sw) (cwV 1 S.2.2.2.2 (zg_V zw_620 zw_621 zw_622 zw_101 zw_623) rfl rfl rfl (by decide +kernel) ⟨(Nat.le_of_ble_eq_true rfl), (Nat.le_of_ble_eq_true rfl)⟩) ⟨(Nat.le_of_ble_eq_true rfl), (Nat.le_of_ble_eq_true rfl)⟩ 0 rfl rfl (ar := [.inr (some (72, 65))]) rfl rfl (by decide +kernel)) (zf_ac (zf_crcpI (own := RX10) S.1 S.2.1 S.2.2.1 hK S.2.2.2.1 (S.2.2.2.2 (.methodLink RX10 61 arraycopyName) (List.mem_cons_of_mem _ zw_612)) (S.2.2.2.2 (.native arraycopyName) (List.mem_cons_of_mem _ zw_614)) (S.2.2.2.2 (.static arraycopyName) (List.mem_cons_of_mem _ zw_613)) (S.2.2.2.2 (.initialized "java/lang/System") (List.mem_cons_of_mem _ zw_110)) (Nat.le_of_ble_eq_true rfl) (Nat.le_of_ble_eq_true rfl) (by decide +kernel) (by decide +kernel) (by decide +kernel) (by decide +kernel) (by decide) (by decide) (by decide +kernel) (by decide +kernel)) zf_an))))
def nu_e2 : zf_F := [(66, ([], 0), ([], 0)), (67, ([], 0), ([], 15)), (68, ([], 0), ([], 15)), (69, ([], 0), ([], 15)), (70, ([], 0), ([], 15)), (71, ([], 0), ([], 15)), (73, ([], 0), ([], 35)), (75, ([], 0), ([], 5)), (64, ([], 5), ([], 8))]
def zm_X10_cp2 : zf_M := (([], [], 66, [], [], []), nu_e2, [(none, ([], [], 66, [], [], []))])
set_option maxRecDepth 100000 in
set_option maxHeartbeats 4000000 in
theorem kr_X10_cp2 : zf_run 0 66 37 2 zGT zm_X10_cp2 [zf_mCp 65 64 65 65 66 6 0, zm_X3_copy, zm_X1_copy, zf_mCp 75 64 75 65 66 6 0] [(9, 8, 1, .inl (0, 0)), (18, 8, 2, .inl (0, 0)), (25, 8, 3, .inl (0, 0)), (29, 8, 4, .inl (0, 0)), (33, 8, 5, .inl (0, 0)), (37, 8, 0, .inl (0, 0)), (52, 8, 6, .inl (0, 0)), (55, 8, 7, .inl (0, 0)), (58, 8, 8, .inl (0, 0))] [(33, 8, 5, .inl ((-2147483648), 2147483647)), (37, 8, 0, .inl ((-2147483648), 2147483647)), (52, 8, 6, .inl ((-2147483648), 2147483647)), (55, 8, 7, .inl ((-2147483648), 2147483647)), (58, 8, 8, .inl ((-2147483648), 2147483647))] zn_X10_copy [] none 3000 23 ([], [], 66, [(0, .inr (some (64, 64))), (1, .inr (some (64, 65)))], [], []) = true := by decide +kernel
theorem dX10_copy_0 : decode cX10_copy 0 = .ok (.aload_n 0, 1) := by decide +kernel
theorem dX10_copy_1 : decode cX10_copy 1 = .ok (.aload_n 1, 1) := by decide +kernel
theorem dX10_copy_2 : decode cX10_copy 2 = .ok (.getfield 37, 3) := by decide +kernel
theorem dX10_copy_5 : decode cX10_copy 5 = .ok (.putfield 37, 3) := by decide +kernel
theorem dX10_copy_8 : decode cX10_copy 8 = .ok (.aload_n 1, 1) := by decide +kernel
theorem dX10_copy_9 : decode cX10_copy 9 = .ok (.getfield 9, 3) := by decide +kernel
theorem dX10_copy_12 : decode cX10_copy 12 = .ok (.iconst 0, 1) := by decide +kernel
theorem dX10_copy_13 : decode cX10_copy 13 = .ok (.aload_n 0, 1) := by decide +kernel
theorem dX10_copy_14 : decode cX10_copy 14 = .ok (.getfield 9, 3) := by decide +kernel
theorem dX10_copy_17 : decode cX10_copy 17 = .ok (.iconst 0, 1) := by decide +kernel
theorem dX10_copy_18 : decode cX10_copy 18 = .ok (.bipush 6, 2) := by decide +kernel
theorem dX10_copy_20 : decode cX10_copy 20 = .ok (.invokestatic 61, 3) := by decide +kernel
set_option maxRecDepth 100000 in
set_option maxHeartbeats 4000000 in
theorem kn_X10_copy (l : Launch) (D : va_G) (k : Nat → ClassId) (B0 : Nat) (ad : Nat → Nat) (al sw : Nat) {Sg : Nat → Option Nat} {ws : va_W} {th : Nat → Nat} {to fr nt nf : Nat} (sz : Nat) (hone : ∀ a g, Sg a = some g → g < 64 → a = th g) (hsing : ∀ g, g < 37 → g < 64 → Sg (th g) = some g) (ht : zf_typ Sg k zGT ws) (s1 : Sg to = some 64) (s2 : Sg fr = some 64) (u1 : Sg nt = some 65) (u2 : Sg nf = some 65) (hnt : zf_rd ws to 1 (.ref nt)) (hnf : zf_rd ws fr 1 (.ref nf)) :
    Met l yX10_copy (zw yX10_copy cX10_copy 2 none) ({ frames := 2, cells := 0, slots := 0, locals := 81 }) (va_Pc [.ref to, .ref fr] (g_pr D k (zEx B0 ad al sw Sg ws) sz ws)) (zf_Q (nu_P D k Sg ws to fr nt nf (va_A ws sz)) (va_A ws sz)) 0 0 (va_A ws sz) := by
  have hEx := zEx_ok B0 ad al sw
  refine zp_open (Qp := nu_P D k Sg ws to fr nt nf) (by decide) rfl hEx (Nat.le_of_ble_eq_true rfl) ?_
  intro p e s m below meth c A ls S hr hlocks hK hE hAB hA hP hD hS hl
  have hx := S.1
  have hb := S.2.1
  have hl : lv_has ls 2 [(0, .ref to), (1, .ref fr)] := hl
  obtain ⟨q1, en1, p1, pt1⟩ := ht _ 64 s1 (by decide)
  obtain ⟨f1, rfl, hf1⟩ := zf_obj pt1 rfl rfl
  obtain ⟨q2, en2, p2, pt2⟩ := ht _ 64 s2 (by decide)
  obtain ⟨f2, rfl, hf2⟩ := zf_obj pt2 rfl rfl
  obtain ⟨_, h20, m9, rfl, m1, m2⟩ := pt2.2 0 (.inl (0, 6)) rfl
  have hl0 : 0 < f1.length := by rw [hf1]; decide
  refine lv_aload_n hx hb dX10_copy_0 rfl (lv_at hl 0 rfl) ?_
  refine lv_aload_n hx hb dX10_copy_1 rfl (lv_at hl 1 rfl) ?_
  refine va_get (D := D) (ci := 8) (C := RX10) (T := TX10) (N := 9) (own := RX10) S.1 S.2.1 S.2.2.2.2 (zg_in inW_X10) S.2.2.2.1 hK hP q2 p2 rfl 0 (by decide) (S.2.2.2.2 (.fieldLink RX10 37 "RungMoney$Town" "men" "I") (List.mem_cons_of_mem _ zw_263)) (fun _ h9 => h9) h20 dX10_copy_2 ?_
  refine va_put (D := D) (ci := 8) (v := .int m9) (ty := .int) (C := RX10) (T := TX10) (N := 9) (own := RX10) S.1 S.2.1 S.2.2.2.2 (zg_in inW_X10) tyX10 tyX10_ok nmX10 S.2.2.2.1 hK hP hD hS q1 p1 rfl 0 (by decide) (S.2.2.2.2 (.fieldLink RX10 37 "RungMoney$Town" "men" "I") (List.mem_cons_of_mem _ zw_263)) (fun _ h9 => h9) rfl (by decide +kernel) rfl rfl hl0 dX10_copy_5 (fun H1 locs1 hP1 hD1 hS1 => ?_)
  have ht1 : zf_typ Sg k zGT (ws.set q1 (to, .inr (8, f1.set 0 (.int m9)))) := zf_typ_set ht s1 p1 (zf_likeO hl0) (fun P hP9 => by cases hP9; exact ⟨_, rfl, m1, m2⟩) hD
  have r1 : ∀ (a i : Nat) (v : Value), (a = to → i ≠ 0) → zf_rd ws a i v → zf_rd (ws.set q1 (to, .inr (8, f1.set 0 (.int m9)))) a i v := fun a i v hne h => zf_rd_set p1 (zf_likeO hl0) h hne
  have r0 : zf_rd (ws.set q1 (to, .inr (8, f1.set 0 (.int m9)))) to 0 (.int m9) := zf_rd_new p1 (zf_likeO hl0)
  generalize ws.set q1 (to, .inr (8, f1.set 0 (.int m9))) = w1 at hP1 hD1 ht1 r1 r0 ⊢
  have hnt1 := r1 _ _ _ (fun _ => by decide) hnt
  have hnf1 := r1 _ _ _ (fun _ => by decide) hnf
  obtain ⟨q3, en3, p3, pt3⟩ := ht1 _ 64 s1 (by decide)
  obtain ⟨f3, rfl, hf3⟩ := zf_obj pt3 rfl rfl
  obtain ⟨q4, en4, p4, pt4⟩ := ht1 _ 64 s2 (by decide)
  obtain ⟨f4, rfl, hf4⟩ := zf_obj pt4 rfl rfl
  obtain ⟨_, h31, a3, rfl, -⟩ := pt3.2 1 (.inr (some 65)) rfl
  obtain ⟨_, h41, a4, rfl, -⟩ := pt4.2 1 (.inr (some 65)) rfl
  have e3 : nt = a3 := by
    have h9 := zf_rd_fun hD1 hnt1 ⟨q3, _, p3, h31⟩
    cases h9
    rfl
  have e4 : nf = a4 := by
    have h9 := zf_rd_fun hD1 hnf1 ⟨q4, _, p4, h41⟩
    cases h9
    rfl
  subst e3
  subst e4
  refine lv_aload_n hx hb dX10_copy_8 rfl (lv_at hl 1 rfl) ?_
  refine va_get (D := D) (ci := 8) (C := RX10) (T := TX10) (N := 9) (own := RX10) S.1 S.2.1 S.2.2.2.2 (zg_in inW_X10) S.2.2.2.1 hK hP1 q4 p4 rfl 1 (by decide) (S.2.2.2.2 (.fieldLink RX10 9 "RungMoney$Town" "names" "[J") (List.mem_cons_of_mem _ zw_266)) (fun _ h9 => h9) h41 dX10_copy_9 ?_
  refine lv_iconst (v := 0) hx hb dX10_copy_12 (by decide) ?_
  refine lv_aload_n hx hb dX10_copy_13 rfl (lv_at hl 0 rfl) ?_
  refine va_get (D := D) (ci := 8) (C := RX10) (T := TX10) (N := 9) (own := RX10) S.1 S.2.1 S.2.2.2.2 (zg_in inW_X10) S.2.2.2.1 hK hP1 q3 p3 rfl 1 (by decide) (S.2.2.2.2 (.fieldLink RX10 9 "RungMoney$Town" "names" "[J") (List.mem_cons_of_mem _ zw_266)) (fun _ h9 => h9) h31 dX10_copy_14 ?_
  refine lv_iconst (v := 0) hx hb dX10_copy_17 (by decide) ?_
  refine lv_bipush (v := 6) hx hb dX10_copy_18 (by decide) ?_
  refine zp_cpl (own := RX10) hx hb S.2.2.1 hK S.2.2.2.1 (S.2.2.2.2 (.methodLink RX10 61 arraycopyName) (List.mem_cons_of_mem _ zw_612)) (S.2.2.2.2 (.native arraycopyName) (List.mem_cons_of_mem _ zw_614)) (S.2.2.2.2 (.static arraycopyName) (List.mem_cons_of_mem _ zw_613)) (S.2.2.2.2 (.initialized "java/lang/System") (List.mem_cons_of_mem _ zw_110)) (Nat.le_of_ble_eq_true rfl) (Nat.le_of_ble_eq_true rfl) u1 u2 (by decide) (by decide) (by decide) hP1 hD1 hS1 ht1 hl.1 (Nat.zero_le _) dX10_copy_20 (fun w2 H2 locs2 hP2 hD2 hS2 ht2 c1 c2 => ?_)
  have g64 : zf_up2 th to fr 64 = to := if_pos rfl
  have g65 : zf_up2 th to fr 65 = fr := by unfold zf_up2; rw [if_neg (by decide), if_pos rfl]
  refine zp_run (M := zm_X10_cp2) (σ := ([], [], 66, [(0, .inr (some (64, 64))), (1, .inr (some (64, 65)))], [], [])) (ρ := fun _ => 0) (θ := zf_up2 th to fr) hEx (by decide +kernel) (zR_X10_copy l D k B0 ad al sw) S hK hE hAB hA (fun a g h1 h2 => by rw [zf_up2_lt h2]; exact hone a g h1 h2) (fun g h1 h2 => by rw [zf_up2_lt h2]; exact hsing g h1 h2) rfl (by decide +kernel) kr_X10_cp2 hP2 hD2 hS2 ht2 ⟨lp_zr rfl, fun g hg => (by cases hg), ⟨_, hl, ⟨⟨rfl, ⟨by rw [g64], by rw [g64]; exact s1⟩⟩, ⟨rfl, ⟨by rw [g65], by rw [g65]; exact s2⟩⟩, trivial⟩⟩, trivial, fun h hh => (by cases hh)⟩ zf_an (fun H w9 w3 ls pc i v hP3 hD3 hS3 hpost hdg hrv => ?_)
  obtain ⟨rfl, rfl⟩ := zp_rv rfl hpost hrv
  obtain ⟨-, ht3, hfr⟩ := hpost
  have k64 : ∀ (a : Nat) (v : Value), Sg a = some 64 → zf_rd w2 a 0 v → zf_rd w3 a 0 v := fun a v ha h => nu_fr (eff := nu_e2) (a := 0) (b := 0) (by decide) hfr ha (by decide) (by decide) h
  have k65 : ∀ (a i : Nat) (v : Value), Sg a = some 65 → zf_rd w2 a i v → zf_rd w3 a i v := fun a i v ha h => nu_fr (eff := nu_e2) (a := (i : Int)) (b := (i : Int)) (by
    show nu_ok nu_e2 65 (i : Int) (i : Int) = true
    rfl) hfr ha (Int.le_refl _) (Int.le_refl _) h
  refine W.vret hx hb hr (fun t ht' hW => ⟨⟨_, rfl, rfl, w3, by rw [ht']; exact hP3, hD3, ht3, ?_, ?_, ?_, ?_, ?_⟩, hS3.F ht'⟩) hS3.2.2 hdg hlocks
  · intro a g i v ha hn h
    have h1 : zf_rd w1 a i v := r1 a i v (fun q hi => by
      subst q
      subst hi
      cases s1.symm.trans ha
      exact hn ⟨(64, ([], 0), ([], 0)), List.mem_cons_self, rfl, Int.le_refl _, Int.le_refl _⟩) h
    have h2 : zf_rd w2 a i v := c2 a i v (fun q => by
      subst q
      cases u1.symm.trans ha
      obtain ⟨q9, en9, p9, pt9⟩ := ht1 _ 65 u1 (by decide)
      obtain ⟨x9, rfl⟩ := zf_arr pt9 rfl rfl
      have h6 := (xe_rdA hD1 h1 p9).1
      have h6 : i < 6 := h6
      exact hn ⟨(65, ([], 0), ([], 5)), List.mem_cons_of_mem _ List.mem_cons_self, rfl, (show (0 : Int) ≤ (i : Int) by omega), (show (i : Int) ≤ 5 by omega)⟩) h1
    refine hfr a g i v ha (fun hq => hn ?_) h2
    obtain ⟨q, hq, e1, e2, e3⟩ := hq
    exact ⟨q, List.mem_cons_of_mem _ (List.mem_cons_of_mem _ hq), e1, e2, e3⟩
  · intro m8 h
    have h9 := zf_rd_fun hD h ⟨q2, _, p2, h20⟩
    cases h9
    refine k64 _ _ s1 (c2 _ _ _ (fun q => ?_) r0)
    rw [q, u1] at s1
    cases s1
  · intro i v hi h
    refine k65 _ _ _ u1 (c1 i v hi (r1 _ _ _ (fun q => ?_) h))
    rw [q, s1] at u2
    cases u2
  · intro a v ha hne h
    refine k64 _ _ ha (c2 _ _ _ (fun q => ?_) (r1 _ _ _ (fun q => absurd q hne) h))
    rw [q, u1] at ha
    cases ha
  · intro a i v ha hne h
    refine k65 _ _ _ ha (c2 _ _ _ hne (r1 _ _ _ (fun q => ?_) h))
    rw [q, s1] at ha
    cases ha
