/-! ===== ledger: the spare town and, where lived, the town ===== -/
section NUL
variable {l : Launch} {D : va_G} {k : Nat → ClassId} {Sg : Nat → Option Nat} {th tw nm : Nat → Nat} {ρ : Nat → Int} {θ : Nat → Nat} {M : zf_M} {ws ws' : va_W} {nsv k0 k1 : List (List Int32)} {f9 s9 : Nat}
theorem nu_void {v : Option Value} (hty : zf_tyo none M = true) (h : zf_post Sg k zGT ρ θ M ws v ws') : v = none := by
  obtain ⟨⟨o, ho, ρ1, θ1, -, -, -, -, -, h3⟩, -, -⟩ := h
  have hq := List.all_eq_true.mp hty o ho
  cases h0 : o.1 with
  | some q => rw [h0] at hq; cases hq
  | none =>
    rw [h0] at h3
    cases v with
    | none => rfl
    | some x => exact h3.elim
theorem nu_sp1 (C : nu_C Sg th tw nm ws nsv k0 k1 f9 s9) (hcp : nu_cp Sg ws ws' (tw 1) (tw 0) (nm 1) (nm 0)) : nu_N tw nm ws' 1 nsv := nu_c1 hcp C.2.1
/-- the town is the spare one's again -/
theorem nu_own (hsing : ∀ g, g < 37 → g < 64 → Sg (th g) = some g) (C : nu_C Sg th tw nm ws nsv k0 k1 f9 s9) (N1 : nu_N tw nm ws 1 nsv) (hfr : zf_fr Sg zm_X10_copy.2.1 (fun _ => 0) ws ws') (hcp : nu_cp Sg ws ws' (tw 0) (tw 1) (nm 0) (nm 1)) : nu_C Sg th tw nm ws' nsv k0 k1 f9 s9 := by
  obtain ⟨T, N0, N2, N3, f8, s8, h1, h2, R⟩ := C
  have g10 := hsing 10 (by decide) (by decide)
  have o1 : nu_ok zm_X10_copy.2.1 10 1 2 = true := by decide
  exact ⟨nu_Tf (by decide) hfr hsing T, nu_c1 hcp N1, nu_c2 hcp T (by decide) (by decide) (by decide) N2, nu_c2 hcp T (by decide) (by decide) (by decide) N3, f8, s8, nu_fr o1 hfr g10 (by decide) (by decide) h1, nu_fr o1 hfr g10 (by decide) (by decide) h2, fun t ht => nu_c2 hcp T (by decide) (nu_m9 f9 t) (by omega) (R t ht)⟩
def nu_r3 (a1 : Int32) (f9 s9 : Nat) : Nat → Int
  | 0 => a1.toInt
  | x + 1 => nu_ρ f9 s9 x
theorem nu_r3E (a1 : Int32) (h8 : f9 ≤ 8) (h9 : s9 ≤ 8) : zf_okE [((-2147483648), 2147483647), (0, 8), (0, 8)] (nu_r3 a1 f9 s9)
  | 0 => ⟨zi_lo a1, zi_hi a1⟩
  | x + 1 => nu_ρE h8 h9 x
/-- towns, free and size as facts -/
theorem nu_f4 (hsing : ∀ g, g < 37 → g < 64 → Sg (th g) = some g) (hθ : ∀ i, i < 66 → θ i = nu_θ2 th tw i) (C : nu_C Sg th tw nm ws nsv k0 k1 f9 s9) (hf : ρ 1 = (f9 : Int)) (hs' : ρ 2 = (s9 : Int)) : ∀ x ∈ ([(0, 0, ([], 3), .inr (some (64, 64))), (0, 0, ([], 4), .inr (some (64, 65))), (10, 10, ([], 1), .inl ([(1, 1)], 0)), (10, 10, ([], 2), .inl ([(2, 1)], 0))] : List zf_H), zf_hok Sg ρ θ ws x := by
  obtain ⟨T, N0, N2, N3, f8, s8, h1, h2, R⟩ := C
  exact nu_tf2 hsing hθ T (nu_fs (n := 1) (hs := []) hsing ((hθ 10 (by decide)).trans (nu_t2 (by decide))) h1 h2 f8 s8 hf hs' zf_an)
end NUL
set_option maxRecDepth 100000 in
set_option maxHeartbeats 4000000 in
theorem zR_X12_ledger (l : Launch) (D : va_G) (k : Nat → ClassId) (B0 : Nat) (ad : Nat → Nat) (al sw : Nat) : zf_Rl l yX12_ledger (zw yX12_ledger cX12_ledger 3 (some .int)) ({ frames := 6, cells := 0, slots := 0, locals := 137 }) cX12_ledger 3 D k zGT 37 B0 [zm_X4_read, zm_X10_copy, zm_X4_live, zm_X1_all, zm_X3_bitsThere, zm_X5_hold, zm_X5_keepN] [(10, 10, 0, .inl (0, 0)), (21, 10, 1, .inl (0, 0)), (37, 10, 3, .inl (0, 0)), (41, 10, 4, .inl (0, 0)), (57, 10, 7, .inl (0, 0)), (64, 10, 8, .inl (0, 0)), (87, 10, 13, .inl (0, 0)), (122, 5, 9, .inl (0, 0)), (128, 5, 10, .inl (0, 0)), (142, 8, 2, .inl (0, 0)), (172, 8, 3, .inl (0, 0)), (333, 2, 6, .inl (0, 0)), (336, 2, 5, .inl (0, 0))] [(115, 7, 1, .inl ((-2147483648), 2147483647)), (125, 10, 14, .inl ((-2147483648), 2147483647))] zn_X12_ledger (zEx B0 ad al sw) := by
  have hEx := zEx_ok B0 ad al sw
  intro p e s m args below meth c Q Sg w0 A θ0 S hK hE hAB hA hone hsing
  refine ⟨?_, ?_, ?_⟩
  · exact zf_ac ((fun H locs ws a q0 fs v rest pc ls hP he hv hdg kk => va_get (D := D) (ci := 10) (C := RX12) (T := TX12) (N := 18) (own := RX12) S.1 S.2.1 S.2.2.2.2 (zg_in inW_X12) S.2.2.2.1 hK hP q0 he rfl 0 (by decide) (S.2.2.2.2 (.fieldLink RX12 10 "RungMoney" "tape" "LRungMoney$Tape;") (List.mem_cons_of_mem _ zw_399)) (fun _ h9 => h9) hv hdg kk)) (zf_ac ((fun H locs ws a q0 fs v rest pc ls hP he hv hdg kk => va_get (D := D) (ci := 10) (C := RX12) (T := TX12) (N := 18) (own := RX12) S.1 S.2.1 S.2.2.2.2 (zg_in inW_X12) S.2.2.2.1 hK hP q0 he rfl 1 (by decide) (S.2.2.2.2 (.fieldLink RX12 21 "RungMoney" "reader" "LRungMoney$Reader;") (List.mem_cons_of_mem _ zw_400)) (fun _ h9 => h9) hv hdg kk)) (zf_ac ((fun H locs ws a q0 fs v rest pc ls hP he hv hdg kk => va_get (D := D) (ci := 10) (C := RX12) (T := TX12) (N := 18) (own := RX12) S.1 S.2.1 S.2.2.2.2 (zg_in inW_X12) S.2.2.2.1 hK hP q0 he rfl 3 (by decide) (S.2.2.2.2 (.fieldLink RX12 37 "RungMoney" "town" "LRungMoney$Town;") (List.mem_cons_of_mem _ zw_402)) (fun _ h9 => h9) hv hdg kk)) (zf_ac ((fun H locs ws a q0 fs v rest pc ls hP he hv hdg kk => va_get (D := D) (ci := 10) (C := RX12) (T := TX12) (N := 18) (own := RX12) S.1 S.2.1 S.2.2.2.2 (zg_in inW_X12) S.2.2.2.1 hK hP q0 he rfl 4 (by decide) (S.2.2.2.2 (.fieldLink RX12 41 "RungMoney" "spare" "LRungMoney$Town;") (List.mem_cons_of_mem _ zw_403)) (fun _ h9 => h9) hv hdg kk)) (zf_ac ((fun H locs ws a q0 fs v rest pc ls hP he hv hdg kk => va_get (D := D) (ci := 10) (C := RX12) (T := TX12) (N := 18) (own := RX12) S.1 S.2.1 S.2.2.2.2 (zg_in inW_X12) S.2.2.2.1 hK hP q0 he rfl 7 (by decide) (S.2.2.2.2 (.fieldLink RX12 57 "RungMoney" "ledger" "LRungMoney$Ledger;") (List.mem_cons_of_mem _ zw_406)) (fun _ h9 => h9) hv hdg kk)) (zf_ac ((fun H locs ws a q0 fs v rest pc ls hP he hv hdg kk => va_get (D := D) (ci := 10) (C := RX12) (T := TX12) (N := 18) (own := RX12) S.1 S.2.1 S.2.2.2.2 (zg_in inW_X12) S.2.2.2.1 hK hP q0 he rfl 8 (by decide) (S.2.2.2.2 (.fieldLink RX12 64 "RungMoney" "past" "LRungMoney$Past;") (List.mem_cons_of_mem _ zw_407)) (fun _ h9 => h9) hv hdg kk)) (zf_ac ((fun H locs ws a q0 fs v rest pc ls hP he hv hdg kk => va_get (D := D) (ci := 10) (C := RX12) (T := TX12) (N := 18) (own := RX12) S.1 S.2.1 S.2.2.2.2 (zg_in inW_X12) S.2.2.2.1 hK hP q0 he rfl 13 (by decide) (S.2.2.2.2 (.fieldLink RX12 87 "RungMoney" "toldLast" "[I") (List.mem_cons_of_mem _ zw_412)) (fun _ h9 => h9) hv hdg kk)) (zf_ac ((fun H locs ws a q0 fs v rest pc ls hP he hv hdg kk => va_get (D := D) (ci := 5) (C := RX7) (T := TX7) (N := 11) (own := RX12) S.1 S.2.1 S.2.2.2.2 (zg_in inW_X7) S.2.2.2.1 hK hP q0 he rfl 9 (by decide) (S.2.2.2.2 (.fieldLink RX12 122 "RungMoney$Reader" "fault" "I") (List.mem_cons_of_mem _ zw_167)) (fun _ h9 => h9) hv hdg kk)) (zf_ac ((fun H locs ws a q0 fs v rest pc ls hP he hv hdg kk => va_get (D := D) (ci := 5) (C := RX7) (T := TX7) (N := 11) (own := RX12) S.1 S.2.1 S.2.2.2.2 (zg_in inW_X7) S.2.2.2.1 hK hP q0 he rfl 10 (by decide) (S.2.2.2.2 (.fieldLink RX12 128 "RungMoney$Reader" "place" "I") (List.mem_cons_of_mem _ zw_169)) (fun _ h9 => h9) hv hdg kk)) (zf_ac ((fun H locs ws a q0 fs v rest pc ls hP he hv hdg kk => va_get (D := D) (ci := 8) (C := RX10) (T := TX10) (N := 9) (own := RX12) S.1 S.2.1 S.2.2.2.2 (zg_in inW_X10) S.2.2.2.1 hK hP q0 he rfl 2 (by decide) (S.2.2.2.2 (.fieldLink RX12 142 "RungMoney$Town" "ladders" "LRungMoney$Ladders;") (List.mem_cons_of_mem _ zw_269)) (fun _ h9 => h9) hv hdg kk)) (zf_ac ((fun H locs ws a q0 fs v rest pc ls hP he hv hdg kk => va_get (D := D) (ci := 8) (C := RX10) (T := TX10) (N := 9) (own := RX12) S.1 S.2.1 S.2.2.2.2 (zg_in inW_X10) S.2.2.2.1 hK hP q0 he rfl 3 (by decide) (S.2.2.2.2 (.fieldLink RX12 172 "RungMoney$Town" "debts" "LRungMoney$Debts;") (List.mem_cons_of_mem _ zw_272)) (fun _ h9 => h9) hv hdg kk)) (zf_ac ((fun H locs ws a q0 fs v rest pc ls hP he hv hdg kk => va_get (D := D) (ci := 2) (C := RX4) (T := TX4) (N := 7) (own := RX12) S.1 S.2.1 S.2.2.2.2 (zg_in inW_X4) S.2.2.2.1 hK hP q0 he rfl 6 (by decide) (S.2.2.2.2 (.fieldLink RX12 333 "RungMoney$Ledger" "why" "I") (List.mem_cons_of_mem _ zw_349)) (fun _ h9 => h9) hv hdg kk)) (zf_ac ((fun H locs ws a q0 fs v rest pc ls hP he hv hdg kk => va_get (D := D) (ci := 2) (C := RX4) (T := TX4) (N := 7) (own := RX12) S.1 S.2.1 S.2.2.2.2 (zg_in inW_X4) S.2.2.2.1 hK hP q0 he rfl 5 (by decide) (S.2.2.2.2 (.fieldLink RX12 336 "RungMoney$Ledger" "done" "I") (List.mem_cons_of_mem _ zw_347)) (fun _ h9 => h9) hv hdg kk)) zf_an))))))))))))
  · exact zf_ac ((fun H locs ws a q0 fs v rest pc ls hP hD hS he hl hv hdg kk => by obtain ⟨x, rfl, h1, h2⟩ := hv; exact va_put (D := D) (ci := 7) (v := .int x) (ty := .int) (C := RX9) (T := TX9) (N := 2) (own := RX12) S.1 S.2.1 S.2.2.2.2 (zg_in inW_X9) tyX9 tyX9_ok nmX9 S.2.2.2.1 hK hP hD hS q0 he rfl 1 (by decide) (S.2.2.2.2 (.fieldLink RX12 115 "RungMoney$Tape" "size" "I") (List.mem_cons_of_mem _ zw_136)) (fun _ h9 => h9) rfl (by decide +kernel) rfl rfl hl hdg kk)) (zf_ac ((fun H locs ws a q0 fs v rest pc ls hP hD hS he hl hv hdg kk => by obtain ⟨x, rfl, h1, h2⟩ := hv; exact va_put (D := D) (ci := 10) (v := .int x) (ty := .int) (C := RX12) (T := TX12) (N := 18) (own := RX12) S.1 S.2.1 S.2.2.2.2 (zg_in inW_X12) tyX12 tyX12_ok nmX12 S.2.2.2.1 hK hP hD hS q0 he rfl 14 (by decide) (S.2.2.2.2 (.fieldLink RX12 125 "RungMoney" "faultKind" "I") (List.mem_cons_of_mem _ zw_413)) (fun _ h9 => h9) rfl (by decide +kernel) rfl rfl hl hdg kk)) zf_an)
  · exact zf_crl (xs := [(.invokevirtual 327, 3, 0), (.invokevirtual 131, 3, 1), (.invokevirtual 330, 3, 2), (.invokevirtual 203, 3, 3), (.invokevirtual 196, 3, 4), (.invokevirtual 219, 3, 5), (.invokevirtual 238, 3, 6)]) (by decide +kernel) (zf_ac (zf_crV S hEx hE hAB hA hK hone hsing (kc_X4_read l D k B0 ad al sw) (cwV 2 S.2.2.2.2 (zg_V zw_1038 zw_1039 zw_1040 zw_105 zw_1041) rfl rfl rfl (by decide +kernel) ⟨(Nat.le_of_ble_eq_true rfl), (Nat.le_of_ble_eq_true rfl)⟩) ⟨(Nat.le_of_ble_eq_true rfl), (Nat.le_of_ble_eq_true rfl)⟩ 2 rfl rfl (ar := [.inr (some (64, 64)), .inr (some (3, 3))]) rfl rfl (by decide +kernel)) (zf_ac (zf_crV S hEx hE hAB hA hK hone hsing (kc_X10_copy l D k B0 ad al sw) (cwV 1 S.2.2.2.2 (zg_V zw_608 zw_609 zw_610 zw_99 zw_611) rfl rfl rfl (by decide +kernel) ⟨(Nat.le_of_ble_eq_true rfl), (Nat.le_of_ble_eq_true rfl)⟩) ⟨(Nat.le_of_ble_eq_true rfl), (Nat.le_of_ble_eq_true rfl)⟩ 8 rfl rfl (ar := [.inr (some (64, 65))]) rfl rfl (by decide +kernel)) (zf_ac (zf_crV S hEx hE hAB hA hK hone hsing (kc_X4_live l D k B0 ad al sw) (cwV 1 S.2.2.2.2 (zg_V zw_1067 zw_1068 zw_1069 zw_105 zw_1070) rfl rfl rfl (by decide +kernel) ⟨(Nat.le_of_ble_eq_true rfl), (Nat.le_of_ble_eq_true rfl)⟩) ⟨(Nat.le_of_ble_eq_true rfl), (Nat.le_of_ble_eq_true rfl)⟩ 2 rfl rfl (ar := [.inr (some (64, 64))]) rfl rfl (by decide +kernel)) (zf_ac (zf_crV S hEx hE hAB hA hK hone hsing (kc_X1_all l D k B0 ad al sw) (cwV 0 S.2.2.2.2 (zg_V zw_717 zw_718 zw_719 zw_101 zw_720) rfl rfl rfl (by decide +kernel) ⟨(Nat.le_of_ble_eq_true rfl), (Nat.le_of_ble_eq_true rfl)⟩) ⟨(Nat.le_of_ble_eq_true rfl), (Nat.le_of_ble_eq_true rfl)⟩ 0 rfl rfl (ar := []) rfl rfl (by decide +kernel)) (zf_ac (zf_crV S hEx hE hAB hA hK hone hsing (kc_X3_bitsThere l D k B0 ad al sw) (cwV 0 S.2.2.2.2 (zg_V zw_708 zw_709 zw_710 zw_100 zw_711) rfl rfl rfl (by decide +kernel) ⟨(Nat.le_of_ble_eq_true rfl), (Nat.le_of_ble_eq_true rfl)⟩) ⟨(Nat.le_of_ble_eq_true rfl), (Nat.le_of_ble_eq_true rfl)⟩ 1 rfl rfl (ar := []) rfl rfl (by decide +kernel)) (zf_ac (zf_crV S hEx hE hAB hA hK hone hsing (kc_X5_hold l D k B0 ad al sw) (cwV 1 S.2.2.2.2 (zg_V zw_733 zw_734 zw_735 zw_106 zw_736) rfl rfl rfl (by decide +kernel) ⟨(Nat.le_of_ble_eq_true rfl), (Nat.le_of_ble_eq_true rfl)⟩) ⟨(Nat.le_of_ble_eq_true rfl), (Nat.le_of_ble_eq_true rfl)⟩ 3 rfl rfl (ar := [.inr (some (64, 64))]) rfl rfl (by decide +kernel)) (zf_ac (zf_crV S hEx hE hAB hA hK hone hsing (kc_X5_keepN l D k B0 ad al sw) (cwV 0 S.2.2.2.2 (zg_V zw_755 zw_756 zw_757 zw_106 zw_758) rfl rfl rfl (by decide +kernel) ⟨(Nat.le_of_ble_eq_true rfl), (Nat.le_of_ble_eq_true rfl)⟩) ⟨(Nat.le_of_ble_eq_true rfl), (Nat.le_of_ble_eq_true rfl)⟩ 3 rfl rfl (ar := []) rfl rfl (by decide +kernel)) zf_an)))))))
def zm_led1 : zf_M := (([((-2147483648), 2147483647), (0, 8), (0, 8)], [], 66, [], [], []), [(5, ([], 4), ([], 4)), (6, ([], 0), ([], 39)), (7, ([], 0), ([], 39)), (8, ([], 0), ([], 39)), (9, ([], 0), ([], 39)), (3, ([], 1), ([], 10)), (1, ([], 1), ([], 1)), (0, ([], 14), ([], 14))], [(some (.inl ([(3, 1)], 0)), ([((-2147483648), 2147483647), (0, 8), (0, 8), ((-2147483648), 2147483647)], [], 66, [], [], []))])
def zu_led1 : zf_U := (71, ([(0, 1), (0, 8), (0, 8)], [], 66, [(0, .inr (some (0, 0))), (1, .inl ([(0, 1)], 0))], [.inr (some (64, 64)), .inr (some (64, 65))], []), ([], 0), 0)
set_option maxRecDepth 100000 in
set_option maxHeartbeats 4000000 in
theorem kr_led1 : zf_run 3 66 37 3 zGT zm_led1 [zm_X4_read, zm_X10_copy, zm_X4_live, zm_X1_all, zm_X3_bitsThere, zm_X5_hold, zm_X5_keepN] [(10, 10, 0, .inl (0, 0)), (21, 10, 1, .inl (0, 0)), (37, 10, 3, .inl (0, 0)), (41, 10, 4, .inl (0, 0)), (57, 10, 7, .inl (0, 0)), (64, 10, 8, .inl (0, 0)), (87, 10, 13, .inl (0, 0)), (122, 5, 9, .inl (0, 0)), (128, 5, 10, .inl (0, 0)), (142, 8, 2, .inl (0, 0)), (172, 8, 3, .inl (0, 0)), (333, 2, 6, .inl (0, 0)), (336, 2, 5, .inl (0, 0))] [(115, 7, 1, .inl ((-2147483648), 2147483647)), (125, 10, 14, .inl ((-2147483648), 2147483647))] zn_X12_ledger [zu_led1] none 3000 0 ([((-2147483648), 2147483647), (0, 8), (0, 8)], [], 66, [(0, .inr (some (0, 0))), (1, .inl ([(0, 1)], 0))], [], [(0, 0, ([], 3), .inr (some (64, 64))), (0, 0, ([], 4), .inr (some (64, 65))), (10, 10, ([], 1), .inl ([(1, 1)], 0)), (10, 10, ([], 2), .inl ([(2, 1)], 0))]) = true := by decide +kernel
def zm_led2 : zf_M := (([(0, 1), (0, 8), (0, 8)], [], 66, [], [], []), [(66, ([], 0), ([], 0)), (67, ([], 0), ([], 15)), (68, ([], 0), ([], 15)), (69, ([], 0), ([], 15)), (70, ([], 0), ([], 15)), (71, ([], 0), ([], 15)), (73, ([], 0), ([], 35)), (75, ([], 0), ([], 5)), (64, ([], 5), ([], 8)), (5, ([], 4), ([], 6)), (17, ([], 0), ([], 3))], [(some (.inl ([(3, 1)], 0)), ([(0, 1), (0, 8), (0, 8), ((-2147483648), 2147483647)], [], 66, [], [], []))])
def zu_led2 : zf_U := (156, ([(1, 1), (0, 8), (0, 8)], [], 66, [(0, .inr (some (0, 0))), (1, .inl ([(0, 1)], 0))], [.inr (some (64, 64)), .inr (some (10, 10))], []), ([], 0), 0)
set_option maxRecDepth 100000 in
set_option maxHeartbeats 4000000 in
theorem kr_led2 : zf_run 3 66 37 3 zGT zm_led2 [zm_X4_read, zm_X10_copy, zm_X4_live, zm_X1_all, zm_X3_bitsThere, zm_X5_hold, zm_X5_keepN] [(10, 10, 0, .inl (0, 0)), (21, 10, 1, .inl (0, 0)), (37, 10, 3, .inl (0, 0)), (41, 10, 4, .inl (0, 0)), (57, 10, 7, .inl (0, 0)), (64, 10, 8, .inl (0, 0)), (87, 10, 13, .inl (0, 0)), (122, 5, 9, .inl (0, 0)), (128, 5, 10, .inl (0, 0)), (142, 8, 2, .inl (0, 0)), (172, 8, 3, .inl (0, 0)), (333, 2, 6, .inl (0, 0)), (336, 2, 5, .inl (0, 0))] [(115, 7, 1, .inl ((-2147483648), 2147483647)), (125, 10, 14, .inl ((-2147483648), 2147483647))] zn_X12_ledger [zu_led2] none 3000 74 ([(0, 1), (0, 8), (0, 8)], [], 66, [(0, .inr (some (0, 0))), (1, .inl ([(0, 1)], 0))], [], [(0, 0, ([], 3), .inr (some (64, 64))), (0, 0, ([], 4), .inr (some (64, 65))), (10, 10, ([], 1), .inl ([(1, 1)], 0)), (10, 10, ([], 2), .inl ([(2, 1)], 0))]) = true := by decide +kernel
def zm_led3 : zf_M := (([(1, 1), (0, 8), (0, 8)], [], 66, [], [], []), [], [])
def zu_led3 : zf_U := (163, ([(1, 1), (0, 8), (0, 8)], [], 66, [(0, .inr (some (0, 0)))], [.inr (some (10, 10))], []), ([], 0), 0)
set_option maxRecDepth 100000 in
set_option maxHeartbeats 4000000 in
theorem kr_led3 : zf_run 3 66 37 3 zGT zm_led3 [zm_X4_read, zm_X10_copy, zm_X4_live, zm_X1_all, zm_X3_bitsThere, zm_X5_hold, zm_X5_keepN] [(10, 10, 0, .inl (0, 0)), (21, 10, 1, .inl (0, 0)), (37, 10, 3, .inl (0, 0)), (41, 10, 4, .inl (0, 0)), (57, 10, 7, .inl (0, 0)), (64, 10, 8, .inl (0, 0)), (87, 10, 13, .inl (0, 0)), (122, 5, 9, .inl (0, 0)), (128, 5, 10, .inl (0, 0)), (142, 8, 2, .inl (0, 0)), (172, 8, 3, .inl (0, 0)), (333, 2, 6, .inl (0, 0)), (336, 2, 5, .inl (0, 0))] [(115, 7, 1, .inl ((-2147483648), 2147483647)), (125, 10, 14, .inl ((-2147483648), 2147483647))] zn_X12_ledger [zu_led3] none 3000 159 ([(1, 1), (0, 8), (0, 8)], [], 66, [(0, .inr (some (0, 0))), (1, .inl ([(0, 1)], 0))], [], [(0, 0, ([], 3), .inr (some (64, 64))), (0, 0, ([], 4), .inr (some (64, 65))), (10, 10, ([], 1), .inl ([(1, 1)], 0)), (10, 10, ([], 2), .inl ([(2, 1)], 0))]) = true := by decide +kernel
def zm_led4 : zf_M := (([], [], 66, [], [], []), [], [])
def zu_led4 : zf_U := (174, ([], [], 66, [(0, .inr (some (0, 0)))], [.inr (some (64, 65)), .inr (some (64, 64))], []), ([], 0), 0)
set_option maxRecDepth 100000 in
set_option maxHeartbeats 4000000 in
theorem kr_led4 : zf_run 0 66 37 3 zGT zm_led4 [zm_X4_read, zm_X10_copy, zm_X4_live, zm_X1_all, zm_X3_bitsThere, zm_X5_hold, zm_X5_keepN] [(10, 10, 0, .inl (0, 0)), (21, 10, 1, .inl (0, 0)), (37, 10, 3, .inl (0, 0)), (41, 10, 4, .inl (0, 0)), (57, 10, 7, .inl (0, 0)), (64, 10, 8, .inl (0, 0)), (87, 10, 13, .inl (0, 0)), (122, 5, 9, .inl (0, 0)), (128, 5, 10, .inl (0, 0)), (142, 8, 2, .inl (0, 0)), (172, 8, 3, .inl (0, 0)), (333, 2, 6, .inl (0, 0)), (336, 2, 5, .inl (0, 0))] [(115, 7, 1, .inl ((-2147483648), 2147483647)), (125, 10, 14, .inl ((-2147483648), 2147483647))] zn_X12_ledger [zu_led4] none 3000 166 ([], [], 66, [(0, .inr (some (0, 0)))], [], [(0, 0, ([], 3), .inr (some (64, 64))), (0, 0, ([], 4), .inr (some (64, 65)))]) = true := by decide +kernel
def zm_led5 : zf_M := (([], [], 66, [], [], []), [], [(some (.inl ([(0, 1)], 0)), ([((-2147483648), 2147483647)], [], 66, [], [], []))])
set_option maxRecDepth 100000 in
set_option maxHeartbeats 4000000 in
theorem kr_led5 : zf_run 0 66 37 3 zGT zm_led5 [zm_X4_read, zm_X10_copy, zm_X4_live, zm_X1_all, zm_X3_bitsThere, zm_X5_hold, zm_X5_keepN] [(10, 10, 0, .inl (0, 0)), (21, 10, 1, .inl (0, 0)), (37, 10, 3, .inl (0, 0)), (41, 10, 4, .inl (0, 0)), (57, 10, 7, .inl (0, 0)), (64, 10, 8, .inl (0, 0)), (87, 10, 13, .inl (0, 0)), (122, 5, 9, .inl (0, 0)), (128, 5, 10, .inl (0, 0)), (142, 8, 2, .inl (0, 0)), (172, 8, 3, .inl (0, 0)), (333, 2, 6, .inl (0, 0)), (336, 2, 5, .inl (0, 0))] [(115, 7, 1, .inl ((-2147483648), 2147483647)), (125, 10, 14, .inl ((-2147483648), 2147483647))] zn_X12_ledger [] none 3000 177 ([], [], 66, [(0, .inr (some (0, 0)))], [], [(0, 0, ([], 3), .inr (some (64, 64))), (0, 0, ([], 4), .inr (some (64, 65)))]) = true := by decide +kernel
theorem dNX12_ledger_71 : decode cX12_ledger 71 = .ok (.invokevirtual 131, 3) := by decide +kernel
theorem dNX12_ledger_156 : decode cX12_ledger 156 = .ok (.invokevirtual 219, 3) := by decide +kernel
theorem dNX12_ledger_163 : decode cX12_ledger 163 = .ok (.invokevirtual 238, 3) := by decide +kernel
theorem dNX12_ledger_174 : decode cX12_ledger 174 = .ok (.invokevirtual 131, 3) := by decide +kernel
theorem nu_E3n {E : zf_E} {ρ : Nat → Int} (h : zf_okE ((1, 1) :: (0, 8) :: (0, 8) :: E) ρ) (hE : E = []) : zf_okE [] ρ := by
  intro x
  subst hE
  match x with
  | 0 => exact ⟨by have := (h 0).1; have h1 : (1 : Int) ≤ ρ 0 := this; show (-2147483648 : Int) ≤ ρ 0; omega, by have h1 : ρ 0 ≤ (1 : Int) := (h 0).2; show ρ 0 ≤ (2147483647 : Int); omega⟩
  | 1 => exact ⟨by have h1 : (0 : Int) ≤ ρ 1 := (h 1).1; show (-2147483648 : Int) ≤ ρ 1; omega, by have h1 : ρ 1 ≤ (8 : Int) := (h 1).2; show ρ 1 ≤ (2147483647 : Int); omega⟩
  | 2 => exact ⟨by have h1 : (0 : Int) ≤ ρ 2 := (h 2).1; show (-2147483648 : Int) ≤ ρ 2; omega, by have h1 : ρ 2 ≤ (8 : Int) := (h 2).2; show ρ 2 ≤ (2147483647 : Int); omega⟩
  | x + 3 => exact h (x + 3)
set_option maxRecDepth 100000 in
set_option maxHeartbeats 4000000 in
theorem kn_X12_ledger (l : Launch) (D : va_G) (k : Nat → ClassId) (B0 : Nat) (ad : Nat → Nat) (al sw : Nat) {Sg : Nat → Option Nat} {ws : va_W} {th tw nm : Nat → Nat} (sz : Nat) (hone : ∀ a g, Sg a = some g → g < 64 → a = th g) (hsing : ∀ g, g < 37 → g < 64 → Sg (th g) = some g) (ht : zf_typ Sg k zGT ws) {nsv k0 k1 : List (List Int32)} {f9 s9 : Nat} (C : nu_C Sg th tw nm ws nsv k0 k1 f9 s9) (a1 : Int32) :
    Met l yX12_ledger (zw yX12_ledger cX12_ledger 3 (some .int)) ({ frames := 6, cells := 0, slots := 0, locals := 137 }) (va_Pc [.ref (th 0), .int a1] (g_pr D k (zEx B0 ad al sw Sg ws) sz ws)) (zf_Q (fun _ t => nu_Q D k Sg th tw nm nsv k0 k1 (va_A ws sz) t) (va_A ws sz)) 0 0 (va_A ws sz) := by
  have hEx := zEx_ok B0 ad al sw
  refine zp_open (Qp := fun A _ t => nu_Q D k Sg th tw nm nsv k0 k1 A t) (by decide) rfl hEx (Nat.le_of_ble_eq_true rfl) ?_
  intro p e s m below meth c A ls S hr hlocks hK hE hAB hA hP hD hS hl
  have hx := S.1
  have hb := S.2.1
  have g0 : Sg (th 0) = some 0 := hsing 0 (by decide) (by decide)
  have g10 : Sg (th 10) = some 10 := hsing 10 (by decide) (by decide)
  refine zp_run (M := zm_led1) (cuts := [zu_led1]) (σ := ([((-2147483648), 2147483647), (0, 8), (0, 8)], [], 66, [(0, .inr (some (0, 0))), (1, .inl ([(0, 1)], 0))], [], [(0, 0, ([], 3), .inr (some (64, 64))), (0, 0, ([], 4), .inr (some (64, 65))), (10, 10, ([], 1), .inl ([(1, 1)], 0)), (10, 10, ([], 2), .inl ([(2, 1)], 0))])) (ρ := nu_r3 a1 f9 s9) (θ := nu_θ2 th tw) hEx (by decide +kernel) (zR_X12_ledger l D k B0 ad al sw) S hK hE hAB hA (fun a g h1 h2 => by rw [nu_t2 h2]; exact hone a g h1 h2) (fun g h1 h2 => by rw [nu_t2 h2]; exact hsing g h1 h2) rfl (by decide +kernel) kr_led1 hP hD hS ht ⟨nu_r3E a1 C.2.2.2.2.1 C.2.2.2.2.2.1, fun g hg => (by cases hg), ⟨_, hl, ⟨⟨rfl, ⟨rfl, g0⟩⟩, ⟨rfl, ⟨a1, rfl, (zf_v_sym (nu_r3 a1 f9 s9) 0).symm⟩⟩, trivial⟩⟩, trivial, nu_f4 hsing (fun _ _ => rfl) C rfl rfl⟩ (zf_ac (fun ρ1 θ1 w1 H1 locs1 ls1 st1 hρ1 hθ1 hP1 hD1 hS1 ht1 hfr1 hsat1 => ?_) zf_an) (fun H locs w9 ls pc i v hP3 hD3 hS3 hpost hdg hrv => ?_)
  rotate_left
  · obtain ⟨rfl, v, rfl⟩ := zt_ri (by decide +kernel) hpost hrv
    exact W.iret hx hb hr (fun t ht' hW => ⟨⟨_, rfl, w9, by rw [ht']; exact hP3, hD3, hpost.2.1, _, _, nu_Cf (by decide) hpost.2.2 hsing C⟩, hS3.F ht'⟩) hS3.2.2 hdg hlocks
  obtain ⟨hE1, -, ⟨lv, hlv, hlv2⟩, hst, -⟩ := hsat1
  obtain ⟨v1, st4, rfl, ⟨rfl, b1⟩, hst_1⟩ := zf_f2_c hst
  obtain ⟨v2, st5, rfl, ⟨rfl, b2⟩, hst_2⟩ := zf_f2_c hst_1
  cases zf_nil hst_2
  have e64v : Value.ref (θ1 64) = .ref (tw 0) := by rw [hθ1 64 (by decide), nu_t64]
  have e65v : Value.ref (θ1 65) = .ref (tw 1) := by rw [hθ1 65 (by decide), nu_t65]
  have C1 := nu_Cf (by decide) hfr1 hsing C
  have t0 := C1.1.1 0 (by decide)
  have t1 := C1.1.1 1 (by decide)
  have hM := kn_X10_copy l D k B0 ad al sw H1.size hone hsing ht1 t1.1 t0.1 t1.2.1 t0.2.1 t1.2.2 t0.2.2
  show W p l e _ s m _ below meth c H1 locs1 0 0 _ (F0 m 71 ls1 [.ref (θ1 64), .ref (θ1 65)])
  rw [e64v, e65v]
  refine zp_call (cells := 0) (slots := 0) (As := [.ref (tw 0)]) (b := tw 1) (g := 64) (ci := 8) (rest := []) S hEx hE hAB hA hK hM (cwV 1 S.2.2.2.2 (zg_V zw_608 zw_609 zw_610 zw_99 zw_611) rfl rfl rfl (by decide +kernel) ⟨(Nat.le_of_ble_eq_true rfl), (Nat.le_of_ble_eq_true rfl)⟩) ⟨Nat.le_of_ble_eq_true rfl, Nat.le_of_ble_eq_true rfl⟩ rfl rfl (by decide +kernel) t1.1 rfl hP1 hD1 hS1 ht1 hlv.1 (Nat.zero_le _) dNX12_ledger_71 (fun v t H2 locs2 ht2 hB hDD hS2 => ?_)
  obtain ⟨rfl, w2, u1, u2, u3, u4, u5⟩ := hB
  rw [ht2] at u1
  have C2 := nu_spare hsing C1 u4 u5
  have N2 := nu_sp1 C1 u5
  have q1 : ρ1 1 = (f9 : Int) := hρ1 1 (by decide)
  have q2 : ρ1 2 = (s9 : Int) := hρ1 2 (by decide)
  -- what is lived in the spare town
  refine zp_run (M := zm_led2) (cuts := [zu_led2]) (σ := ([(0, 1), (0, 8), (0, 8)], [], 66, [(0, .inr (some (0, 0))), (1, .inl ([(0, 1)], 0))], [], [(0, 0, ([], 3), .inr (some (64, 64))), (0, 0, ([], 4), .inr (some (64, 65))), (10, 10, ([], 1), .inl ([(1, 1)], 0)), (10, 10, ([], 2), .inl ([(2, 1)], 0))])) (ρ := ρ1) (θ := θ1) hEx (by decide +kernel) (zR_X12_ledger l D k B0 ad al sw) S hK hE hAB hA (fun a g h1 h2 => by rw [hθ1 g (Nat.lt_trans h2 (by decide)), nu_t2 h2]; exact hone a g h1 h2) (fun g h1 h2 => by rw [hθ1 g (Nat.lt_trans h2 (by decide)), nu_t2 h2]; exact hsing g h1 h2) rfl (by decide +kernel) kr_led2 u1 (hDD _ u1 u2) hS2 u3 ⟨hE1, fun g hg => (by cases hg), ⟨lv, hlv, hlv2⟩, trivial, nu_f4 hsing hθ1 C2 q1 q2⟩ (zf_ac (fun ρ3 θ3 w3 H3 locs3 ls3 st3 hρ3 hθ3 hP3 hD3 hS3 ht3 hfr3 hsat3 => ?_) zf_an) (fun H locs w9 ls pc i v hP3 hD3 hS3 hpost hdg hrv => ?_)
  rotate_left
  · obtain ⟨rfl, v, rfl⟩ := zt_ri (by decide +kernel) hpost hrv
    exact W.iret hx hb hr (fun t ht' hW => ⟨⟨_, rfl, w9, by rw [ht']; exact hP3, hD3, hpost.2.1, _, _, nu_Cf (by decide) hpost.2.2 hsing C2⟩, hS3.F ht'⟩) hS3.2.2 hdg hlocks
  clear hlv hlv2
  obtain ⟨hE3, -, ⟨lv3, hlv, hlv2⟩, hst, -⟩ := hsat3
  obtain ⟨v3, st6, rfl, ⟨rfl, b3⟩, hst_1⟩ := zf_f2_c hst
  obtain ⟨v4, st7, rfl, ⟨rfl, b4⟩, hst_2⟩ := zf_f2_c hst_1
  cases zf_nil hst_2
  have hθ4 : ∀ i, i < 66 → θ3 i = nu_θ2 th tw i := fun i hi => (hθ3 i hi).trans (hθ1 i hi)
  have e64w : Value.ref (θ3 64) = .ref (tw 0) := by rw [hθ4 64 (by decide), nu_t64]
  have e10w : Value.ref (θ3 10) = .ref (th 10) := by rw [hθ4 10 (by decide), nu_t2 (by decide)]
  have C3 := nu_Cf (by decide) hfr3 hsing C2
  have N3 := nu_Nf (by decide) hfr3 C2.1 (by decide) N2
  have hM := kn_X5_hold l D k B0 ad al sw H3.size hone hsing ht3 C3.1 C3.2.2.2.2.1 C3.2.2.2.2.2.2.1
  show W p l e _ s m _ below meth c H3 locs3 0 0 _ (F0 m 156 ls3 [.ref (θ3 64), .ref (θ3 10)])
  rw [e64w, e10w]
  refine zp_call (cells := 0) (slots := 0) (As := [.ref (tw 0)]) (b := th 10) (g := 10) (ci := 3) (rest := []) S hEx hE hAB hA hK hM (cwV 1 S.2.2.2.2 (zg_V zw_733 zw_734 zw_735 zw_106 zw_736) rfl rfl rfl (by decide +kernel) ⟨(Nat.le_of_ble_eq_true rfl), (Nat.le_of_ble_eq_true rfl)⟩) ⟨Nat.le_of_ble_eq_true rfl, Nat.le_of_ble_eq_true rfl⟩ rfl rfl (by decide +kernel) g10 rfl hP3 hD3 hS3 ht3 hlv.1 (Nat.zero_le _) dNX12_ledger_156 (fun v t H4 locs4 ht4 hB hDD hS4 => ?_)
  obtain ⟨rfl, w4, x1, x2, x3, x4, x5⟩ := hB
  rw [ht4] at x1
  obtain ⟨C4, c1, c2⟩ := nu_hold hsing C3 x4 x5
  have N4 := nu_c2 x5 C3.1 (by have := C3.2.2.2.2.1; omega) (by decide) (by omega) N3
  have q3 : ρ3 1 = (f9 : Int) := (hρ3 1 (by decide)).trans q1
  have q4 : ρ3 2 = (s9 : Int) := (hρ3 2 (by decide)).trans q2
  have D5 := hDD _ x1 x2
  refine zp_run (M := zm_led3) (cuts := [zu_led3]) (σ := ([(1, 1), (0, 8), (0, 8)], [], 66, [(0, .inr (some (0, 0))), (1, .inl ([(0, 1)], 0))], [], [(0, 0, ([], 3), .inr (some (64, 64))), (0, 0, ([], 4), .inr (some (64, 65))), (10, 10, ([], 1), .inl ([(1, 1)], 0)), (10, 10, ([], 2), .inl ([(2, 1)], 0))])) (ρ := ρ3) (θ := θ3) hEx (by decide +kernel) (zR_X12_ledger l D k B0 ad al sw) S hK hE hAB hA (fun a g h1 h2 => by rw [hθ4 g (Nat.lt_trans h2 (by decide)), nu_t2 h2]; exact hone a g h1 h2) (fun g h1 h2 => by rw [hθ4 g (Nat.lt_trans h2 (by decide)), nu_t2 h2]; exact hsing g h1 h2) rfl (by decide +kernel) kr_led3 x1 D5 hS4 x3 ⟨hE3, fun g hg => (by cases hg), ⟨lv3, hlv, hlv2⟩, trivial, nu_tf2 hsing hθ4 C4.1 (nu_fs (n := 1) (hs := []) hsing ((hθ4 10 (by decide)).trans (nu_t2 (by decide))) c1 c2 C4.2.2.2.2.1 C4.2.2.2.2.2.1 q3 q4 zf_an)⟩ (zf_ac (fun ρ5 θ5 w5 H5 locs5 ls5 st5 hρ5 hθ5 hP5 hD5 hS5 ht5 hfr5 hsat5 => ?_) zf_an) (fun H locs w9 ls pc i v _ _ _ hpost _ _ => by obtain ⟨⟨o, ho, -⟩, -, -⟩ := hpost; cases ho)
  clear hlv hlv2
  obtain ⟨hE5, -, ⟨lv5, hlv, hlv2⟩, hst, -⟩ := hsat5
  obtain ⟨v5, st8, rfl, ⟨rfl, b5⟩, hst_1⟩ := zf_f2_c hst
  cases zf_nil hst_1
  have hθ6 : ∀ i, i < 66 → θ5 i = nu_θ2 th tw i := fun i hi => (hθ5 i hi).trans (hθ4 i hi)
  have e10x : θ5 10 = th 10 := (hθ6 10 (by decide)).trans (nu_t2 (by decide))
  have e10y : Value.ref (θ5 10) = .ref (th 10) := by rw [e10x]
  have C5 := nu_CHf (by decide) hfr5 hsing C4
  have N5 := nu_Nf (by decide) hfr5 C4.1 (by decide) N4
  have c3 := nu_fr0 hfr5 g10 c1
  have c4 := nu_fr0 hfr5 g10 c2
  have q5 : ρ5 1 = (f9 : Int) := (hρ5 1 (by decide)).trans q3
  have q6 : ρ5 2 = (s9 : Int) := (hρ5 2 (by decide)).trans q4
  have hM := kc_X5_keepN l D k B0 ad al sw Sg w5 (nu_ρ f9 s9) θ5 [.ref (th 10)] H5.size (fun a g h1 h2 => by rw [hθ6 g (Nat.lt_trans h2 (by decide)), nu_t2 h2]; exact hone a g h1 h2) (fun g h1 h2 => by rw [hθ6 g (Nat.lt_trans h2 (by decide)), nu_t2 h2]; exact hsing g h1 h2) ht5 ⟨nu_ρE C5.2.2.2.2.1 C5.2.2.2.2.2.1, fun g hg => (by cases hg), ⟨⟨e10y.symm, by rw [e10x]; exact g10⟩, trivial⟩, nu_fs (n := 0) (hs := []) hsing e10x c3 c4 C5.2.2.2.2.1 C5.2.2.2.2.2.1 rfl rfl zf_an⟩
  show W p l e _ s m _ below meth c H5 locs5 0 0 _ (F0 m 163 ls5 [.ref (θ5 10)])
  rw [e10y]
  refine zp_call (cells := 0) (slots := 0) (As := []) (b := th 10) (g := 10) (ci := 3) (rest := []) S hEx hE hAB hA hK hM (cwV 0 S.2.2.2.2 (zg_V zw_755 zw_756 zw_757 zw_106 zw_758) rfl rfl rfl (by decide +kernel) ⟨(Nat.le_of_ble_eq_true rfl), (Nat.le_of_ble_eq_true rfl)⟩) ⟨Nat.le_of_ble_eq_true rfl, Nat.le_of_ble_eq_true rfl⟩ rfl rfl (by decide +kernel) g10 rfl hP5 hD5 hS5 ht5 hlv.1 (Nat.zero_le _) dNX12_ledger_163 (fun v t H6 locs6 ht6 hB hDD hS6 => ?_)
  obtain ⟨w6, y1, y2, y3, y4⟩ := hB
  rw [ht6] at y1
  have hv := nu_void (by decide +kernel) y4
  subst hv
  obtain ⟨f7, s7, C6⟩ := nu_fin (n := 0) (by decide +kernel) (by decide) (by decide) (by decide) y4 e10x rfl rfl hsing C5
  have N6 := nu_Nf (by decide) y4.2.2 C5.1 (by decide) N5
  have D6 := hDD _ y1 y3
  refine zp_run (M := zm_led4) (cuts := [zu_led4]) (σ := ([], [], 66, [(0, .inr (some (0, 0)))], [], [(0, 0, ([], 3), .inr (some (64, 64))), (0, 0, ([], 4), .inr (some (64, 65)))])) (ρ := ρ5) (θ := θ5) hEx (by decide +kernel) (zR_X12_ledger l D k B0 ad al sw) S hK hE hAB hA (fun a g h1 h2 => by rw [hθ6 g (Nat.lt_trans h2 (by decide)), nu_t2 h2]; exact hone a g h1 h2) (fun g h1 h2 => by rw [hθ6 g (Nat.lt_trans h2 (by decide)), nu_t2 h2]; exact hsing g h1 h2) rfl (by decide +kernel) kr_led4 y1 D6 hS6 y4.2.1 ⟨nu_E3n hE5 rfl, fun g hg => (by cases hg), ⟨lv5, hlv, hlv2⟩, trivial, nu_tf2 hsing hθ6 C6.1 zf_an⟩ (zf_ac (fun ρ7 θ7 w7 H7 locs7 ls7 st7 hρ7 hθ7 hP7 hD7 hS7 ht7 hfr7 hsat7 => ?_) zf_an) (fun H locs w9 ls pc i v _ _ _ hpost _ _ => by obtain ⟨⟨o, ho, -⟩, -, -⟩ := hpost; cases ho)
  clear hlv hlv2
  obtain ⟨hE7, -, ⟨lv7, hlv, hlv2⟩, hst, -⟩ := hsat7
  obtain ⟨v7, st9, rfl, ⟨rfl, b7⟩, hst_1⟩ := zf_f2_c hst
  obtain ⟨v8, st10, rfl, ⟨rfl, b8⟩, hst_2⟩ := zf_f2_c hst_1
  cases zf_nil hst_2
  have hθ8 : ∀ i, i < 66 → θ7 i = nu_θ2 th tw i := fun i hi => (hθ7 i hi).trans (hθ6 i hi)
  have e64x : Value.ref (θ7 64) = .ref (tw 0) := by rw [hθ8 64 (by decide), nu_t64]
  have e65x : Value.ref (θ7 65) = .ref (tw 1) := by rw [hθ8 65 (by decide), nu_t65]
  have C7 := nu_Cf (by decide) hfr7 hsing C6
  have N7 := nu_Nf (by decide) hfr7 C6.1 (by decide) N6
  have t0 := C7.1.1 0 (by decide)
  have t1 := C7.1.1 1 (by decide)
  have hM := kn_X10_copy l D k B0 ad al sw H7.size hone hsing ht7 t0.1 t1.1 t0.2.1 t1.2.1 t0.2.2 t1.2.2
  show W p l e _ s m _ below meth c H7 locs7 0 0 _ (F0 m 174 ls7 [.ref (θ7 65), .ref (θ7 64)])
  rw [e64x, e65x]
  refine zp_call (cells := 0) (slots := 0) (As := [.ref (tw 1)]) (b := tw 0) (g := 64) (ci := 8) (rest := []) S hEx hE hAB hA hK hM (cwV 1 S.2.2.2.2 (zg_V zw_608 zw_609 zw_610 zw_99 zw_611) rfl rfl rfl (by decide +kernel) ⟨(Nat.le_of_ble_eq_true rfl), (Nat.le_of_ble_eq_true rfl)⟩) ⟨Nat.le_of_ble_eq_true rfl, Nat.le_of_ble_eq_true rfl⟩ rfl rfl (by decide +kernel) t0.1 rfl hP7 hD7 hS7 ht7 hlv.1 (Nat.zero_le _) dNX12_ledger_174 (fun v t H8 locs8 ht8 hB hDD hS8 => ?_)
  obtain ⟨rfl, w8, z1, z2, z3, z4, z5⟩ := hB
  rw [ht8] at z1
  have C8 := nu_own hsing C7 N7 z4 z5
  refine zp_run (M := zm_led5) (σ := ([], [], 66, [(0, .inr (some (0, 0)))], [], [(0, 0, ([], 3), .inr (some (64, 64))), (0, 0, ([], 4), .inr (some (64, 65)))])) (ρ := ρ7) (θ := θ7) hEx (by decide +kernel) (zR_X12_ledger l D k B0 ad al sw) S hK hE hAB hA (fun a g h1 h2 => by rw [hθ8 g (Nat.lt_trans h2 (by decide)), nu_t2 h2]; exact hone a g h1 h2) (fun g h1 h2 => by rw [hθ8 g (Nat.lt_trans h2 (by decide)), nu_t2 h2]; exact hsing g h1 h2) rfl (by decide +kernel) kr_led5 z1 (hDD _ z1 z2) hS8 z3 ⟨hE7, fun g hg => (by cases hg), ⟨lv7, hlv, hlv2⟩, trivial, nu_tf2 hsing hθ8 C8.1 zf_an⟩ zf_an (fun H locs w9 ls pc i v hP3 hD3 hS3 hpost hdg hrv => ?_)
  obtain ⟨rfl, v, rfl⟩ := zt_ri (by decide +kernel) hpost hrv
  exact W.iret hx hb hr (fun t ht' hW => ⟨⟨_, rfl, w9, by rw [ht']; exact hP3, hD3, hpost.2.1, _, _, nu_Cf (by decide) hpost.2.2 hsing C8⟩, hS3.F ht'⟩) hS3.2.2 hdg hlocks
