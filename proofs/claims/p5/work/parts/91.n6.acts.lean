/-! ===== the acts that hold ===== -/
def nu_ra (f9 s9 : Nat) : List Int32 → Nat → Int
  | [], x => nu_ρ f9 s9 x
  | a :: _, 0 => a.toInt
  | _ :: t, x + 1 => nu_ra f9 s9 t x
theorem nu_raE {f9 s9 : Nat} (h8 : f9 ≤ 8) (h9 : s9 ≤ 8) : ∀ l : List Int32, zf_okE ((l.map fun _ => ((-2147483648 : Int), (2147483647 : Int))) ++ [(0, 8), (0, 8)]) (nu_ra f9 s9 l)
  | [], x => nu_ρE h8 h9 x
  | a :: _, 0 => ⟨zi_lo a, zi_hi a⟩
  | _ :: t, x + 1 => nu_raE h8 h9 t x
/-- the town of the class as a fact -/
theorem nu_tf {Sg : Nat → Option Nat} {θ th tw nm : Nat → Nat} {ρ : Nat → Int} {ws : va_W} {hs : List zf_H} (hsing : ∀ g, g < 37 → g < 64 → Sg (th g) = some g) (e0 : θ 0 = th 0) (e64 : θ 64 = tw 0) (T : nu_T Sg th tw nm ws) (hh : ∀ x ∈ hs, zf_hok Sg ρ θ ws x) : ∀ x ∈ ((0, 0, ([], 3), .inr (some (64, 64))) : zf_H) :: hs, zf_hok Sg ρ θ ws x := by
  have g0 := hsing 0 (by decide) (by decide)
  refine zf_ac ((zf_hokT (show (0 : Nat) < 1000 by decide)).mpr ⟨?_, zp_0 (by decide), _, ?_, rfl, ?_⟩) hh
  · show Sg (θ 0) = some 0
    rw [e0]; exact g0
  · show zf_rd ws (θ 0) 3 (.ref (θ 64))
    rw [e0, e64]; exact T.2.2.2.1
  · show Sg (θ 64) = some 64
    rw [e64]; exact (T.1 0 (by decide)).1
set_option maxRecDepth 100000 in
set_option maxHeartbeats 4000000 in
theorem zR_X12_pay (l : Launch) (D : va_G) (k : Nat → ClassId) (B0 : Nat) (ad : Nat → Nat) (al sw : Nat) : zf_Rl l yX12_pay (zw yX12_pay cX12_pay 4 (some .int)) ({ frames := 4, cells := 0, slots := 0, locals := 123 }) cX12_pay 4 D k zGT 37 B0 [zm_X5_hold, zm_X10_payWith, zm_X12_keepIfDoneN] [(37, 10, 3, .inl (0, 0)), (64, 10, 8, .inl (0, 0))] [] zn_X12_pay (zEx B0 ad al sw) := by
  have hEx := zEx_ok B0 ad al sw
  intro p e s m args below meth c Q Sg w0 A θ0 S hK hE hAB hA hone hsing
  refine ⟨?_, ?_, ?_⟩
  · exact zf_ac ((fun H locs ws a q0 fs v rest pc ls hP he hv hdg kk => va_get (D := D) (ci := 10) (C := RX12) (T := TX12) (N := 18) (own := RX12) S.1 S.2.1 S.2.2.2.2 (zg_in inW_X12) S.2.2.2.1 hK hP q0 he rfl 3 (by decide) (S.2.2.2.2 (.fieldLink RX12 37 "RungMoney" "town" "LRungMoney$Town;") (List.mem_cons_of_mem _ zw_402)) (fun _ h9 => h9) hv hdg kk)) (zf_ac ((fun H locs ws a q0 fs v rest pc ls hP he hv hdg kk => va_get (D := D) (ci := 10) (C := RX12) (T := TX12) (N := 18) (own := RX12) S.1 S.2.1 S.2.2.2.2 (zg_in inW_X12) S.2.2.2.1 hK hP q0 he rfl 8 (by decide) (S.2.2.2.2 (.fieldLink RX12 64 "RungMoney" "past" "LRungMoney$Past;") (List.mem_cons_of_mem _ zw_407)) (fun _ h9 => h9) hv hdg kk)) zf_an)
  · exact zf_an
  · exact zf_crl (xs := [(.invokevirtual 219, 3, 0), (.invokevirtual 222, 3, 1), (.invokevirtual 226, 3, 2)]) (by decide +kernel) (zf_ac (zf_crV S hEx hE hAB hA hK hone hsing (kc_X5_hold l D k B0 ad al sw) (cwV 1 S.2.2.2.2 (zg_V zw_733 zw_734 zw_735 zw_106 zw_736) rfl rfl rfl (by decide +kernel) ⟨(Nat.le_of_ble_eq_true rfl), (Nat.le_of_ble_eq_true rfl)⟩) ⟨(Nat.le_of_ble_eq_true rfl), (Nat.le_of_ble_eq_true rfl)⟩ 3 rfl rfl (ar := [.inr (some (64, 64))]) rfl rfl (by decide +kernel)) (zf_ac (zf_crV S hEx hE hAB hA hK hone hsing (kc_X10_payWith l D k B0 ad al sw) (cwV 3 S.2.2.2.2 (zg_V zw_738 zw_739 zw_740 zw_99 zw_741) rfl rfl rfl (by decide +kernel) ⟨(Nat.le_of_ble_eq_true rfl), (Nat.le_of_ble_eq_true rfl)⟩) ⟨(Nat.le_of_ble_eq_true rfl), (Nat.le_of_ble_eq_true rfl)⟩ 8 rfl rfl (ar := [.inl ([(2, 1)], 0), .inl ([(1, 1)], 0), .inl ([(0, 1)], 0)]) rfl rfl (by decide +kernel)) (zf_ac (zf_crV S hEx hE hAB hA hK hone hsing (kc_X12_keepIfDoneN l D k B0 ad al sw) (cwV 1 S.2.2.2.2 (zg_V zw_751 zw_753 zw_8 zw_95 zw_754) rfl rfl rfl (by decide +kernel) ⟨(Nat.le_of_ble_eq_true rfl), (Nat.le_of_ble_eq_true rfl)⟩) ⟨(Nat.le_of_ble_eq_true rfl), (Nat.le_of_ble_eq_true rfl)⟩ 10 rfl rfl (ar := [.inl ([(0, 1)], 0)]) rfl rfl (by decide +kernel)) zf_an)))
def zm_pay1 : zf_M := (([((-2147483648), 2147483647), ((-2147483648), 2147483647), ((-2147483648), 2147483647), (0, 8), (0, 8)], [], 65, [], [], []), [], [])
def zu_pay1 : zf_U := (8, ([((-2147483648), 2147483647), ((-2147483648), 2147483647), ((-2147483648), 2147483647), (0, 8), (0, 8)], [], 65, [(0, .inr (some (0, 0))), (1, .inl ([(0, 1)], 0)), (2, .inl ([(1, 1)], 0)), (3, .inl ([(2, 1)], 0))], [.inr (some (64, 64)), .inr (some (10, 10))], [(0, 0, ([], 3), .inr (some (64, 64))), (10, 10, ([], 1), .inl ([(3, 1)], 0)), (10, 10, ([], 2), .inl ([(4, 1)], 0))]), ([], 0), 0)
set_option maxRecDepth 100000 in
set_option maxHeartbeats 4000000 in
theorem kr_pay1 : zf_run 5 65 37 4 zGT zm_pay1 [zm_X5_hold, zm_X10_payWith, zm_X12_keepIfDoneN] [(37, 10, 3, .inl (0, 0)), (64, 10, 8, .inl (0, 0))] [] zn_X12_pay [zu_pay1] none 3000 0 ([((-2147483648), 2147483647), ((-2147483648), 2147483647), ((-2147483648), 2147483647), (0, 8), (0, 8)], [], 65, [(0, .inr (some (0, 0))), (1, .inl ([(0, 1)], 0)), (2, .inl ([(1, 1)], 0)), (3, .inl ([(2, 1)], 0))], [], [(0, 0, ([], 3), .inr (some (64, 64))), (10, 10, ([], 1), .inl ([(3, 1)], 0)), (10, 10, ([], 2), .inl ([(4, 1)], 0))]) = true := by decide +kernel
def zm_pay2 : zf_M := (([((-2147483648), 2147483647), ((-2147483648), 2147483647), ((-2147483648), 2147483647), (0, 8), (0, 8)], [], 65, [], [], []), [(66, ([], 0), ([], 0)), (67, ([], 0), ([], 15)), (68, ([], 0), ([], 15)), (69, ([], 0), ([], 15)), (70, ([], 0), ([], 15)), (71, ([], 0), ([], 15)), (73, ([], 0), ([], 35)), (75, ([], 0), ([], 5)), (64, ([], 5), ([], 8)), (10, ([], 1), ([], 2))], [(some (.inl ([(5, 1)], 0)), ([((-2147483648), 2147483647), ((-2147483648), 2147483647), ((-2147483648), 2147483647), (0, 7), (0, 7), ((-2147483648), 2147483647)], [], 65, [], [], [(10, 10, ([], 1), .inl ([(3, 1)], 1)), (10, 10, ([], 2), .inl ([(4, 1)], 1))])), (some (.inl ([(5, 1)], 0)), ([((-2147483648), 2147483647), ((-2147483648), 2147483647), ((-2147483648), 2147483647), (0, 7), (7, 8), ((-2147483648), 2147483647)], [], 65, [], [], [(10, 10, ([], 1), .inl ([(3, 1)], 1)), (10, 10, ([], 2), .inl ([], 8))])), (some (.inl ([(5, 1)], 0)), ([((-2147483648), 2147483647), ((-2147483648), 2147483647), ((-2147483648), 2147483647), (8, 8), (0, 7), ((-2147483648), 2147483647)], [], 65, [], [], [(10, 10, ([], 1), .inl ([], 0)), (10, 10, ([], 2), .inl ([(4, 1)], 1))])), (some (.inl ([(5, 1)], 0)), ([((-2147483648), 2147483647), ((-2147483648), 2147483647), ((-2147483648), 2147483647), (8, 8), (7, 8), ((-2147483648), 2147483647)], [], 65, [], [], [(10, 10, ([], 1), .inl ([], 0)), (10, 10, ([], 2), .inl ([], 8))])), (some (.inl ([(5, 1)], 0)), ([((-2147483648), 2147483647), ((-2147483648), 2147483647), ((-2147483648), 2147483647), (0, 8), (0, 8), ((-2147483648), 2147483647)], [], 65, [], [], [(10, 10, ([], 1), .inl ([(3, 1)], 0)), (10, 10, ([], 2), .inl ([(4, 1)], 0))]))])
set_option maxRecDepth 100000 in
set_option maxHeartbeats 4000000 in
theorem kr_pay2 : zf_run 5 65 37 4 zGT zm_pay2 [zm_X5_hold, zm_X10_payWith, zm_X12_keepIfDoneN] [(37, 10, 3, .inl (0, 0)), (64, 10, 8, .inl (0, 0))] [] zn_X12_pay [] none 3000 11 ([((-2147483648), 2147483647), ((-2147483648), 2147483647), ((-2147483648), 2147483647), (0, 8), (0, 8)], [], 65, [(0, .inr (some (0, 0))), (1, .inl ([(0, 1)], 0)), (2, .inl ([(1, 1)], 0)), (3, .inl ([(2, 1)], 0))], [], [(0, 0, ([], 3), .inr (some (64, 64))), (10, 10, ([], 1), .inl ([(3, 1)], 0)), (10, 10, ([], 2), .inl ([(4, 1)], 0))]) = true := by decide +kernel
theorem dNX12_pay_8 : decode cX12_pay 8 = .ok (.invokevirtual 219, 3) := by decide +kernel
set_option maxRecDepth 100000 in
set_option maxHeartbeats 4000000 in
theorem kn_X12_pay (l : Launch) (D : va_G) (k : Nat → ClassId) (B0 : Nat) (ad : Nat → Nat) (al sw : Nat) {Sg : Nat → Option Nat} {ws : va_W} {th tw nm : Nat → Nat} (sz : Nat) (hone : ∀ a g, Sg a = some g → g < 64 → a = th g) (hsing : ∀ g, g < 37 → g < 64 → Sg (th g) = some g) (ht : zf_typ Sg k zGT ws) {nsv k0 k1 : List (List Int32)} {f9 s9 : Nat} (C : nu_C Sg th tw nm ws nsv k0 k1 f9 s9) (a1 a2 a3 : Int32) :
    Met l yX12_pay (zw yX12_pay cX12_pay 4 (some .int)) ({ frames := 4, cells := 0, slots := 0, locals := 123 }) (va_Pc [.ref (th 0), .int a1, .int a2, .int a3] (g_pr D k (zEx B0 ad al sw Sg ws) sz ws)) (zf_Q (fun _ t => nu_Q D k Sg th tw nm nsv k0 k1 (va_A ws sz) t) (va_A ws sz)) 0 0 (va_A ws sz) := by
  have hEx := zEx_ok B0 ad al sw
  refine zp_open (Qp := fun A _ t => nu_Q D k Sg th tw nm nsv k0 k1 A t) (by decide) rfl hEx (Nat.le_of_ble_eq_true rfl) ?_
  intro p e s m below meth c A ls S hr hlocks hK hE hAB hA hP hD hS hl
  have hx := S.1
  have hb := S.2.1
  have g0 : Sg (th 0) = some 0 := hsing 0 (by decide) (by decide)
  have g10 : Sg (th 10) = some 10 := hsing 10 (by decide) (by decide)
  obtain ⟨T, N0, N2, N3, f8, s8, d1, d2, R⟩ := id C
  have t0 := (T.1 0 (by decide)).1
  refine zp_run (M := zm_pay1) (cuts := [zu_pay1]) (σ := ([((-2147483648), 2147483647), ((-2147483648), 2147483647), ((-2147483648), 2147483647), (0, 8), (0, 8)], [], 65, [(0, .inr (some (0, 0))), (1, .inl ([(0, 1)], 0)), (2, .inl ([(1, 1)], 0)), (3, .inl ([(2, 1)], 0))], [], [(0, 0, ([], 3), .inr (some (64, 64))), (10, 10, ([], 1), .inl ([(3, 1)], 0)), (10, 10, ([], 2), .inl ([(4, 1)], 0))])) (ρ := nu_ra f9 s9 [a1, a2, a3]) (θ := zf_upr th 64 (tw 0)) hEx (by decide +kernel) (zR_X12_pay l D k B0 ad al sw) S hK hE hAB hA (fun a g h1 h2 => by rw [nu_up h2]; exact hone a g h1 h2) (fun g h1 h2 => by rw [nu_up h2]; exact hsing g h1 h2) rfl (by decide +kernel) kr_pay1 hP hD hS ht ⟨nu_raE f8 s8 [a1, a2, a3], fun g hg => (by cases hg), ⟨_, hl, ⟨⟨rfl, ⟨rfl, g0⟩⟩, ⟨rfl, ⟨a1, rfl, (zf_v_sym (nu_ra f9 s9 [a1, a2, a3]) 0).symm⟩⟩, ⟨rfl, ⟨a2, rfl, (zf_v_sym (nu_ra f9 s9 [a1, a2, a3]) 1).symm⟩⟩, ⟨rfl, ⟨a3, rfl, (zf_v_sym (nu_ra f9 s9 [a1, a2, a3]) 2).symm⟩⟩, trivial⟩⟩, trivial, nu_tf hsing (nu_up (by decide)) nu_u64 T (nu_fs (n := 3) (hs := []) hsing (nu_up (by decide)) d1 d2 f8 s8 rfl rfl zf_an)⟩ (zf_ac (fun ρ' θ' w1 H1 locs1 ls1 st1 hρ hθ hP1 hD1 hS1 ht1 hfr hsat => ?_) zf_an) (fun H locs w3 ls pc i v hP3 hD3 hS3 hpost hdg hrv => ?_)
  · obtain ⟨hE1, hF1, ⟨lv, hlv, hlv2⟩, hst, hh⟩ := hsat
    obtain ⟨v1, st2, rfl, ⟨rfl, b1⟩, hst_1⟩ := zf_f2_c hst
    obtain ⟨v2, st3, rfl, ⟨rfl, b2⟩, hst_2⟩ := zf_f2_c hst_1
    cases zf_nil hst_2
    have e10 : θ' 10 = th 10 := (hθ 10 (by decide)).trans (nu_up (by decide))
    have e64 : θ' 64 = tw 0 := (hθ 64 (by decide)).trans nu_u64
    have C1 := nu_Cf (by decide) hfr hsing C
    have hM := kn_X5_hold l D k B0 ad al sw H1.size hone hsing ht1 C1.1 f8 C1.2.2.2.2.2.2.1
    have e64v : Value.ref (θ' 64) = .ref (tw 0) := by rw [e64]
    have e10v : Value.ref (θ' 10) = .ref (th 10) := by rw [e10]
    show W p l e _ s m _ below meth c H1 locs1 0 0 _ (F0 m 8 ls1 [.ref (θ' 64), .ref (θ' 10)])
    rw [e64v, e10v]
    refine zp_call (cells := 0) (slots := 0) (As := [.ref (tw 0)]) (b := th 10) (g := 10) (ci := 3) (rest := []) S hEx hE hAB hA hK hM (cwV 1 S.2.2.2.2 (zg_V zw_733 zw_734 zw_735 zw_106 zw_736) rfl rfl rfl (by decide +kernel) ⟨(Nat.le_of_ble_eq_true rfl), (Nat.le_of_ble_eq_true rfl)⟩) ⟨Nat.le_of_ble_eq_true rfl, Nat.le_of_ble_eq_true rfl⟩ rfl rfl (by decide +kernel) g10 rfl hP1 hD1 hS1 ht1 hlv.1 (Nat.zero_le _) dNX12_pay_8 (fun v t H2 locs2 ht2 hB hDD hS2 => ?_)
    obtain ⟨rfl, w2, u1, u2, u3, u4, u5⟩ := hB
    rw [ht2] at u1
    obtain ⟨C2, c1, c2⟩ := nu_hold hsing C1 u4 u5
    refine zp_run (M := zm_pay2) (σ := ([((-2147483648), 2147483647), ((-2147483648), 2147483647), ((-2147483648), 2147483647), (0, 8), (0, 8)], [], 65, [(0, .inr (some (0, 0))), (1, .inl ([(0, 1)], 0)), (2, .inl ([(1, 1)], 0)), (3, .inl ([(2, 1)], 0))], [], [(0, 0, ([], 3), .inr (some (64, 64))), (10, 10, ([], 1), .inl ([(3, 1)], 0)), (10, 10, ([], 2), .inl ([(4, 1)], 0))])) (ρ := ρ') (θ := θ') hEx (by decide +kernel) (zR_X12_pay l D k B0 ad al sw) S hK hE hAB hA (fun a g h1 h2 => by rw [hθ g (Nat.lt_trans h2 (by decide)), nu_up h2]; exact hone a g h1 h2) (fun g h1 h2 => by rw [hθ g (Nat.lt_trans h2 (by decide)), nu_up h2]; exact hsing g h1 h2) rfl (by decide +kernel) kr_pay2 u1 (hDD _ u1 u2) hS2 u3 ⟨hE1, hF1, ⟨lv, hlv, hlv2⟩, trivial, nu_hk (eff := zm_X10_copy.2.1) (by decide) u4 hh⟩ zf_an (fun H locs w3 ls pc i v hP3 hD3 hS3 hpost hdg hrv => ?_)
    obtain ⟨rfl, v, rfl⟩ := zt_ri (by decide +kernel) hpost hrv
    refine W.iret hx hb hr (fun t ht' hW => ⟨⟨_, rfl, w3, by rw [ht']; exact hP3, hD3, hpost.2.1, nu_fin (n := 3) (by decide +kernel) (by decide) (by decide) (by decide) hpost e10 (hρ 3 (by decide)) (hρ 4 (by decide)) hsing C2⟩, hS3.F ht'⟩) hS3.2.2 hdg hlocks
  · obtain ⟨rfl, v, rfl⟩ := zt_ri (by decide +kernel) hpost hrv
    exact W.iret hx hb hr (fun t ht' hW => ⟨⟨_, rfl, w3, by rw [ht']; exact hP3, hD3, hpost.2.1, f9, s9, nu_Cf (by decide) hpost.2.2 hsing C⟩, hS3.F ht'⟩) hS3.2.2 hdg hlocks
set_option maxRecDepth 100000 in
set_option maxHeartbeats 4000000 in
theorem zR_X12_saw (l : Launch) (D : va_G) (k : Nat → ClassId) (B0 : Nat) (ad : Nat → Nat) (al sw : Nat) : zf_Rl l yX12_saw (zw yX12_saw cX12_saw 3 (some .int)) ({ frames := 4, cells := 0, slots := 0, locals := 123 }) cX12_saw 3 D k zGT 37 B0 [zm_X5_hold, zm_X10_sawAbove, zm_X12_keepIfDoneN] [(37, 10, 3, .inl (0, 0)), (64, 10, 8, .inl (0, 0))] [] zn_X12_saw (zEx B0 ad al sw) := by
  have hEx := zEx_ok B0 ad al sw
  intro p e s m args below meth c Q Sg w0 A θ0 S hK hE hAB hA hone hsing
  refine ⟨?_, ?_, ?_⟩
  · exact zf_ac ((fun H locs ws a q0 fs v rest pc ls hP he hv hdg kk => va_get (D := D) (ci := 10) (C := RX12) (T := TX12) (N := 18) (own := RX12) S.1 S.2.1 S.2.2.2.2 (zg_in inW_X12) S.2.2.2.1 hK hP q0 he rfl 3 (by decide) (S.2.2.2.2 (.fieldLink RX12 37 "RungMoney" "town" "LRungMoney$Town;") (List.mem_cons_of_mem _ zw_402)) (fun _ h9 => h9) hv hdg kk)) (zf_ac ((fun H locs ws a q0 fs v rest pc ls hP he hv hdg kk => va_get (D := D) (ci := 10) (C := RX12) (T := TX12) (N := 18) (own := RX12) S.1 S.2.1 S.2.2.2.2 (zg_in inW_X12) S.2.2.2.1 hK hP q0 he rfl 8 (by decide) (S.2.2.2.2 (.fieldLink RX12 64 "RungMoney" "past" "LRungMoney$Past;") (List.mem_cons_of_mem _ zw_407)) (fun _ h9 => h9) hv hdg kk)) zf_an)
  · exact zf_an
  · exact zf_crl (xs := [(.invokevirtual 219, 3, 0), (.invokevirtual 229, 3, 1), (.invokevirtual 226, 3, 2)]) (by decide +kernel) (zf_ac (zf_crV S hEx hE hAB hA hK hone hsing (kc_X5_hold l D k B0 ad al sw) (cwV 1 S.2.2.2.2 (zg_V zw_733 zw_734 zw_735 zw_106 zw_736) rfl rfl rfl (by decide +kernel) ⟨(Nat.le_of_ble_eq_true rfl), (Nat.le_of_ble_eq_true rfl)⟩) ⟨(Nat.le_of_ble_eq_true rfl), (Nat.le_of_ble_eq_true rfl)⟩ 3 rfl rfl (ar := [.inr (some (64, 64))]) rfl rfl (by decide +kernel)) (zf_ac (zf_crV S hEx hE hAB hA hK hone hsing (kc_X10_sawAbove l D k B0 ad al sw) (cwV 2 S.2.2.2.2 (zg_V zw_766 zw_767 zw_768 zw_99 zw_769) rfl rfl rfl (by decide +kernel) ⟨(Nat.le_of_ble_eq_true rfl), (Nat.le_of_ble_eq_true rfl)⟩) ⟨(Nat.le_of_ble_eq_true rfl), (Nat.le_of_ble_eq_true rfl)⟩ 8 rfl rfl (ar := [.inl ([(1, 1)], 0), .inl ([(0, 1)], 0)]) rfl rfl (by decide +kernel)) (zf_ac (zf_crV S hEx hE hAB hA hK hone hsing (kc_X12_keepIfDoneN l D k B0 ad al sw) (cwV 1 S.2.2.2.2 (zg_V zw_751 zw_753 zw_8 zw_95 zw_754) rfl rfl rfl (by decide +kernel) ⟨(Nat.le_of_ble_eq_true rfl), (Nat.le_of_ble_eq_true rfl)⟩) ⟨(Nat.le_of_ble_eq_true rfl), (Nat.le_of_ble_eq_true rfl)⟩ 10 rfl rfl (ar := [.inl ([(0, 1)], 0)]) rfl rfl (by decide +kernel)) zf_an)))
def zm_saw1 : zf_M := (([((-2147483648), 2147483647), ((-2147483648), 2147483647), (0, 8), (0, 8)], [], 65, [], [], []), [], [])
def zu_saw1 : zf_U := (8, ([((-2147483648), 2147483647), ((-2147483648), 2147483647), (0, 8), (0, 8)], [], 65, [(0, .inr (some (0, 0))), (1, .inl ([(0, 1)], 0)), (2, .inl ([(1, 1)], 0))], [.inr (some (64, 64)), .inr (some (10, 10))], [(0, 0, ([], 3), .inr (some (64, 64))), (10, 10, ([], 1), .inl ([(2, 1)], 0)), (10, 10, ([], 2), .inl ([(3, 1)], 0))]), ([], 0), 0)
set_option maxRecDepth 100000 in
set_option maxHeartbeats 4000000 in
theorem kr_saw1 : zf_run 4 65 37 3 zGT zm_saw1 [zm_X5_hold, zm_X10_sawAbove, zm_X12_keepIfDoneN] [(37, 10, 3, .inl (0, 0)), (64, 10, 8, .inl (0, 0))] [] zn_X12_saw [zu_saw1] none 3000 0 ([((-2147483648), 2147483647), ((-2147483648), 2147483647), (0, 8), (0, 8)], [], 65, [(0, .inr (some (0, 0))), (1, .inl ([(0, 1)], 0)), (2, .inl ([(1, 1)], 0))], [], [(0, 0, ([], 3), .inr (some (64, 64))), (10, 10, ([], 1), .inl ([(2, 1)], 0)), (10, 10, ([], 2), .inl ([(3, 1)], 0))]) = true := by decide +kernel
def zm_saw2 : zf_M := (([((-2147483648), 2147483647), ((-2147483648), 2147483647), (0, 8), (0, 8)], [], 65, [], [], []), [(66, ([], 0), ([], 0)), (67, ([], 0), ([], 15)), (68, ([], 0), ([], 15)), (69, ([], 0), ([], 15)), (70, ([], 0), ([], 15)), (71, ([], 0), ([], 15)), (73, ([], 0), ([], 35)), (75, ([], 0), ([], 5)), (64, ([], 5), ([], 8)), (10, ([], 1), ([], 2))], [(some (.inl ([(4, 1)], 0)), ([((-2147483648), 2147483647), ((-2147483648), 2147483647), (0, 7), (0, 7), ((-2147483648), 2147483647)], [], 65, [], [], [(10, 10, ([], 1), .inl ([(2, 1)], 1)), (10, 10, ([], 2), .inl ([(3, 1)], 1))])), (some (.inl ([(4, 1)], 0)), ([((-2147483648), 2147483647), ((-2147483648), 2147483647), (0, 7), (7, 8), ((-2147483648), 2147483647)], [], 65, [], [], [(10, 10, ([], 1), .inl ([(2, 1)], 1)), (10, 10, ([], 2), .inl ([], 8))])), (some (.inl ([(4, 1)], 0)), ([((-2147483648), 2147483647), ((-2147483648), 2147483647), (8, 8), (0, 7), ((-2147483648), 2147483647)], [], 65, [], [], [(10, 10, ([], 1), .inl ([], 0)), (10, 10, ([], 2), .inl ([(3, 1)], 1))])), (some (.inl ([(4, 1)], 0)), ([((-2147483648), 2147483647), ((-2147483648), 2147483647), (8, 8), (7, 8), ((-2147483648), 2147483647)], [], 65, [], [], [(10, 10, ([], 1), .inl ([], 0)), (10, 10, ([], 2), .inl ([], 8))])), (some (.inl ([(4, 1)], 0)), ([((-2147483648), 2147483647), ((-2147483648), 2147483647), (0, 8), (0, 8), ((-2147483648), 2147483647)], [], 65, [], [], [(10, 10, ([], 1), .inl ([(2, 1)], 0)), (10, 10, ([], 2), .inl ([(3, 1)], 0))]))])
set_option maxRecDepth 100000 in
set_option maxHeartbeats 4000000 in
theorem kr_saw2 : zf_run 4 65 37 3 zGT zm_saw2 [zm_X5_hold, zm_X10_sawAbove, zm_X12_keepIfDoneN] [(37, 10, 3, .inl (0, 0)), (64, 10, 8, .inl (0, 0))] [] zn_X12_saw [] none 3000 11 ([((-2147483648), 2147483647), ((-2147483648), 2147483647), (0, 8), (0, 8)], [], 65, [(0, .inr (some (0, 0))), (1, .inl ([(0, 1)], 0)), (2, .inl ([(1, 1)], 0))], [], [(0, 0, ([], 3), .inr (some (64, 64))), (10, 10, ([], 1), .inl ([(2, 1)], 0)), (10, 10, ([], 2), .inl ([(3, 1)], 0))]) = true := by decide +kernel
theorem dNX12_saw_8 : decode cX12_saw 8 = .ok (.invokevirtual 219, 3) := by decide +kernel
set_option maxRecDepth 100000 in
set_option maxHeartbeats 4000000 in
theorem kn_X12_saw (l : Launch) (D : va_G) (k : Nat → ClassId) (B0 : Nat) (ad : Nat → Nat) (al sw : Nat) {Sg : Nat → Option Nat} {ws : va_W} {th tw nm : Nat → Nat} (sz : Nat) (hone : ∀ a g, Sg a = some g → g < 64 → a = th g) (hsing : ∀ g, g < 37 → g < 64 → Sg (th g) = some g) (ht : zf_typ Sg k zGT ws) {nsv k0 k1 : List (List Int32)} {f9 s9 : Nat} (C : nu_C Sg th tw nm ws nsv k0 k1 f9 s9) (a1 a2 : Int32) :
    Met l yX12_saw (zw yX12_saw cX12_saw 3 (some .int)) ({ frames := 4, cells := 0, slots := 0, locals := 123 }) (va_Pc [.ref (th 0), .int a1, .int a2] (g_pr D k (zEx B0 ad al sw Sg ws) sz ws)) (zf_Q (fun _ t => nu_Q D k Sg th tw nm nsv k0 k1 (va_A ws sz) t) (va_A ws sz)) 0 0 (va_A ws sz) := by
  have hEx := zEx_ok B0 ad al sw
  refine zp_open (Qp := fun A _ t => nu_Q D k Sg th tw nm nsv k0 k1 A t) (by decide) rfl hEx (Nat.le_of_ble_eq_true rfl) ?_
  intro p e s m below meth c A ls S hr hlocks hK hE hAB hA hP hD hS hl
  have hx := S.1
  have hb := S.2.1
  have g0 : Sg (th 0) = some 0 := hsing 0 (by decide) (by decide)
  have g10 : Sg (th 10) = some 10 := hsing 10 (by decide) (by decide)
  obtain ⟨T, N0, N2, N3, f8, s8, d1, d2, R⟩ := id C
  have t0 := (T.1 0 (by decide)).1
  refine zp_run (M := zm_saw1) (cuts := [zu_saw1]) (σ := ([((-2147483648), 2147483647), ((-2147483648), 2147483647), (0, 8), (0, 8)], [], 65, [(0, .inr (some (0, 0))), (1, .inl ([(0, 1)], 0)), (2, .inl ([(1, 1)], 0))], [], [(0, 0, ([], 3), .inr (some (64, 64))), (10, 10, ([], 1), .inl ([(2, 1)], 0)), (10, 10, ([], 2), .inl ([(3, 1)], 0))])) (ρ := nu_ra f9 s9 [a1, a2]) (θ := zf_upr th 64 (tw 0)) hEx (by decide +kernel) (zR_X12_saw l D k B0 ad al sw) S hK hE hAB hA (fun a g h1 h2 => by rw [nu_up h2]; exact hone a g h1 h2) (fun g h1 h2 => by rw [nu_up h2]; exact hsing g h1 h2) rfl (by decide +kernel) kr_saw1 hP hD hS ht ⟨nu_raE f8 s8 [a1, a2], fun g hg => (by cases hg), ⟨_, hl, ⟨⟨rfl, ⟨rfl, g0⟩⟩, ⟨rfl, ⟨a1, rfl, (zf_v_sym (nu_ra f9 s9 [a1, a2]) 0).symm⟩⟩, ⟨rfl, ⟨a2, rfl, (zf_v_sym (nu_ra f9 s9 [a1, a2]) 1).symm⟩⟩, trivial⟩⟩, trivial, nu_tf hsing (nu_up (by decide)) nu_u64 T (nu_fs (n := 2) (hs := []) hsing (nu_up (by decide)) d1 d2 f8 s8 rfl rfl zf_an)⟩ (zf_ac (fun ρ' θ' w1 H1 locs1 ls1 st1 hρ hθ hP1 hD1 hS1 ht1 hfr hsat => ?_) zf_an) (fun H locs w3 ls pc i v hP3 hD3 hS3 hpost hdg hrv => ?_)
  · obtain ⟨hE1, hF1, ⟨lv, hlv, hlv2⟩, hst, hh⟩ := hsat
    obtain ⟨v1, st2, rfl, ⟨rfl, b1⟩, hst_1⟩ := zf_f2_c hst
    obtain ⟨v2, st3, rfl, ⟨rfl, b2⟩, hst_2⟩ := zf_f2_c hst_1
    cases zf_nil hst_2
    have e10 : θ' 10 = th 10 := (hθ 10 (by decide)).trans (nu_up (by decide))
    have e64 : θ' 64 = tw 0 := (hθ 64 (by decide)).trans nu_u64
    have C1 := nu_Cf (by decide) hfr hsing C
    have hM := kn_X5_hold l D k B0 ad al sw H1.size hone hsing ht1 C1.1 f8 C1.2.2.2.2.2.2.1
    have e64v : Value.ref (θ' 64) = .ref (tw 0) := by rw [e64]
    have e10v : Value.ref (θ' 10) = .ref (th 10) := by rw [e10]
    show W p l e _ s m _ below meth c H1 locs1 0 0 _ (F0 m 8 ls1 [.ref (θ' 64), .ref (θ' 10)])
    rw [e64v, e10v]
    refine zp_call (cells := 0) (slots := 0) (As := [.ref (tw 0)]) (b := th 10) (g := 10) (ci := 3) (rest := []) S hEx hE hAB hA hK hM (cwV 1 S.2.2.2.2 (zg_V zw_733 zw_734 zw_735 zw_106 zw_736) rfl rfl rfl (by decide +kernel) ⟨(Nat.le_of_ble_eq_true rfl), (Nat.le_of_ble_eq_true rfl)⟩) ⟨Nat.le_of_ble_eq_true rfl, Nat.le_of_ble_eq_true rfl⟩ rfl rfl (by decide +kernel) g10 rfl hP1 hD1 hS1 ht1 hlv.1 (Nat.zero_le _) dNX12_saw_8 (fun v t H2 locs2 ht2 hB hDD hS2 => ?_)
    obtain ⟨rfl, w2, u1, u2, u3, u4, u5⟩ := hB
    rw [ht2] at u1
    obtain ⟨C2, c1, c2⟩ := nu_hold hsing C1 u4 u5
    refine zp_run (M := zm_saw2) (σ := ([((-2147483648), 2147483647), ((-2147483648), 2147483647), (0, 8), (0, 8)], [], 65, [(0, .inr (some (0, 0))), (1, .inl ([(0, 1)], 0)), (2, .inl ([(1, 1)], 0))], [], [(0, 0, ([], 3), .inr (some (64, 64))), (10, 10, ([], 1), .inl ([(2, 1)], 0)), (10, 10, ([], 2), .inl ([(3, 1)], 0))])) (ρ := ρ') (θ := θ') hEx (by decide +kernel) (zR_X12_saw l D k B0 ad al sw) S hK hE hAB hA (fun a g h1 h2 => by rw [hθ g (Nat.lt_trans h2 (by decide)), nu_up h2]; exact hone a g h1 h2) (fun g h1 h2 => by rw [hθ g (Nat.lt_trans h2 (by decide)), nu_up h2]; exact hsing g h1 h2) rfl (by decide +kernel) kr_saw2 u1 (hDD _ u1 u2) hS2 u3 ⟨hE1, hF1, ⟨lv, hlv, hlv2⟩, trivial, nu_hk (eff := zm_X10_copy.2.1) (by decide) u4 hh⟩ zf_an (fun H locs w3 ls pc i v hP3 hD3 hS3 hpost hdg hrv => ?_)
    obtain ⟨rfl, v, rfl⟩ := zt_ri (by decide +kernel) hpost hrv
    refine W.iret hx hb hr (fun t ht' hW => ⟨⟨_, rfl, w3, by rw [ht']; exact hP3, hD3, hpost.2.1, nu_fin (n := 2) (by decide +kernel) (by decide) (by decide) (by decide) hpost e10 (hρ 2 (by decide)) (hρ 3 (by decide)) hsing C2⟩, hS3.F ht'⟩) hS3.2.2 hdg hlocks
  · obtain ⟨rfl, v, rfl⟩ := zt_ri (by decide +kernel) hpost hrv
    exact W.iret hx hb hr (fun t ht' hW => ⟨⟨_, rfl, w3, by rw [ht']; exact hP3, hD3, hpost.2.1, f9, s9, nu_Cf (by decide) hpost.2.2 hsing C⟩, hS3.F ht'⟩) hS3.2.2 hdg hlocks
set_option maxRecDepth 100000 in
set_option maxHeartbeats 4000000 in
theorem zR_X12_splice (l : Launch) (D : va_G) (k : Nat → ClassId) (B0 : Nat) (ad : Nat → Nat) (al sw : Nat) : zf_Rl l yX12_splice (zw yX12_splice cX12_splice 3 (some .int)) ({ frames := 4, cells := 0, slots := 0, locals := 123 }) cX12_splice 3 D k zGT 37 B0 [zm_X5_hold, zm_X10_spliceOnto, zm_X12_keepIfDoneN] [(37, 10, 3, .inl (0, 0)), (64, 10, 8, .inl (0, 0))] [] zn_X12_splice (zEx B0 ad al sw) := by
  have hEx := zEx_ok B0 ad al sw
  intro p e s m args below meth c Q Sg w0 A θ0 S hK hE hAB hA hone hsing
  refine ⟨?_, ?_, ?_⟩
  · exact zf_ac ((fun H locs ws a q0 fs v rest pc ls hP he hv hdg kk => va_get (D := D) (ci := 10) (C := RX12) (T := TX12) (N := 18) (own := RX12) S.1 S.2.1 S.2.2.2.2 (zg_in inW_X12) S.2.2.2.1 hK hP q0 he rfl 3 (by decide) (S.2.2.2.2 (.fieldLink RX12 37 "RungMoney" "town" "LRungMoney$Town;") (List.mem_cons_of_mem _ zw_402)) (fun _ h9 => h9) hv hdg kk)) (zf_ac ((fun H locs ws a q0 fs v rest pc ls hP he hv hdg kk => va_get (D := D) (ci := 10) (C := RX12) (T := TX12) (N := 18) (own := RX12) S.1 S.2.1 S.2.2.2.2 (zg_in inW_X12) S.2.2.2.1 hK hP q0 he rfl 8 (by decide) (S.2.2.2.2 (.fieldLink RX12 64 "RungMoney" "past" "LRungMoney$Past;") (List.mem_cons_of_mem _ zw_407)) (fun _ h9 => h9) hv hdg kk)) zf_an)
  · exact zf_an
  · exact zf_crl (xs := [(.invokevirtual 219, 3, 0), (.invokevirtual 232, 3, 1), (.invokevirtual 226, 3, 2)]) (by decide +kernel) (zf_ac (zf_crV S hEx hE hAB hA hK hone hsing (kc_X5_hold l D k B0 ad al sw) (cwV 1 S.2.2.2.2 (zg_V zw_733 zw_734 zw_735 zw_106 zw_736) rfl rfl rfl (by decide +kernel) ⟨(Nat.le_of_ble_eq_true rfl), (Nat.le_of_ble_eq_true rfl)⟩) ⟨(Nat.le_of_ble_eq_true rfl), (Nat.le_of_ble_eq_true rfl)⟩ 3 rfl rfl (ar := [.inr (some (64, 64))]) rfl rfl (by decide +kernel)) (zf_ac (zf_crV S hEx hE hAB hA hK hone hsing (kc_X10_spliceOnto l D k B0 ad al sw) (cwV 2 S.2.2.2.2 (zg_V zw_787 zw_788 zw_789 zw_99 zw_790) rfl rfl rfl (by decide +kernel) ⟨(Nat.le_of_ble_eq_true rfl), (Nat.le_of_ble_eq_true rfl)⟩) ⟨(Nat.le_of_ble_eq_true rfl), (Nat.le_of_ble_eq_true rfl)⟩ 8 rfl rfl (ar := [.inl ([(1, 1)], 0), .inl ([(0, 1)], 0)]) rfl rfl (by decide +kernel)) (zf_ac (zf_crV S hEx hE hAB hA hK hone hsing (kc_X12_keepIfDoneN l D k B0 ad al sw) (cwV 1 S.2.2.2.2 (zg_V zw_751 zw_753 zw_8 zw_95 zw_754) rfl rfl rfl (by decide +kernel) ⟨(Nat.le_of_ble_eq_true rfl), (Nat.le_of_ble_eq_true rfl)⟩) ⟨(Nat.le_of_ble_eq_true rfl), (Nat.le_of_ble_eq_true rfl)⟩ 10 rfl rfl (ar := [.inl ([(0, 1)], 0)]) rfl rfl (by decide +kernel)) zf_an)))
def zm_splice1 : zf_M := (([((-2147483648), 2147483647), ((-2147483648), 2147483647), (0, 8), (0, 8)], [], 65, [], [], []), [], [])
def zu_splice1 : zf_U := (8, ([((-2147483648), 2147483647), ((-2147483648), 2147483647), (0, 8), (0, 8)], [], 65, [(0, .inr (some (0, 0))), (1, .inl ([(0, 1)], 0)), (2, .inl ([(1, 1)], 0))], [.inr (some (64, 64)), .inr (some (10, 10))], [(0, 0, ([], 3), .inr (some (64, 64))), (10, 10, ([], 1), .inl ([(2, 1)], 0)), (10, 10, ([], 2), .inl ([(3, 1)], 0))]), ([], 0), 0)
set_option maxRecDepth 100000 in
set_option maxHeartbeats 4000000 in
theorem kr_splice1 : zf_run 4 65 37 3 zGT zm_splice1 [zm_X5_hold, zm_X10_spliceOnto, zm_X12_keepIfDoneN] [(37, 10, 3, .inl (0, 0)), (64, 10, 8, .inl (0, 0))] [] zn_X12_splice [zu_splice1] none 3000 0 ([((-2147483648), 2147483647), ((-2147483648), 2147483647), (0, 8), (0, 8)], [], 65, [(0, .inr (some (0, 0))), (1, .inl ([(0, 1)], 0)), (2, .inl ([(1, 1)], 0))], [], [(0, 0, ([], 3), .inr (some (64, 64))), (10, 10, ([], 1), .inl ([(2, 1)], 0)), (10, 10, ([], 2), .inl ([(3, 1)], 0))]) = true := by decide +kernel
def zm_splice2 : zf_M := (([((-2147483648), 2147483647), ((-2147483648), 2147483647), (0, 8), (0, 8)], [], 65, [], [], []), [(66, ([], 0), ([], 0)), (67, ([], 0), ([], 15)), (68, ([], 0), ([], 15)), (69, ([], 0), ([], 15)), (70, ([], 0), ([], 15)), (71, ([], 0), ([], 15)), (73, ([], 0), ([], 35)), (75, ([], 0), ([], 5)), (64, ([], 5), ([], 8)), (10, ([], 1), ([], 2))], [(some (.inl ([(4, 1)], 0)), ([((-2147483648), 2147483647), ((-2147483648), 2147483647), (0, 7), (0, 7), ((-2147483648), 2147483647)], [], 65, [], [], [(10, 10, ([], 1), .inl ([(2, 1)], 1)), (10, 10, ([], 2), .inl ([(3, 1)], 1))])), (some (.inl ([(4, 1)], 0)), ([((-2147483648), 2147483647), ((-2147483648), 2147483647), (0, 7), (7, 8), ((-2147483648), 2147483647)], [], 65, [], [], [(10, 10, ([], 1), .inl ([(2, 1)], 1)), (10, 10, ([], 2), .inl ([], 8))])), (some (.inl ([(4, 1)], 0)), ([((-2147483648), 2147483647), ((-2147483648), 2147483647), (8, 8), (0, 7), ((-2147483648), 2147483647)], [], 65, [], [], [(10, 10, ([], 1), .inl ([], 0)), (10, 10, ([], 2), .inl ([(3, 1)], 1))])), (some (.inl ([(4, 1)], 0)), ([((-2147483648), 2147483647), ((-2147483648), 2147483647), (8, 8), (7, 8), ((-2147483648), 2147483647)], [], 65, [], [], [(10, 10, ([], 1), .inl ([], 0)), (10, 10, ([], 2), .inl ([], 8))])), (some (.inl ([(4, 1)], 0)), ([((-2147483648), 2147483647), ((-2147483648), 2147483647), (0, 8), (0, 8), ((-2147483648), 2147483647)], [], 65, [], [], [(10, 10, ([], 1), .inl ([(2, 1)], 0)), (10, 10, ([], 2), .inl ([(3, 1)], 0))]))])
set_option maxRecDepth 100000 in
set_option maxHeartbeats 4000000 in
theorem kr_splice2 : zf_run 4 65 37 3 zGT zm_splice2 [zm_X5_hold, zm_X10_spliceOnto, zm_X12_keepIfDoneN] [(37, 10, 3, .inl (0, 0)), (64, 10, 8, .inl (0, 0))] [] zn_X12_splice [] none 3000 11 ([((-2147483648), 2147483647), ((-2147483648), 2147483647), (0, 8), (0, 8)], [], 65, [(0, .inr (some (0, 0))), (1, .inl ([(0, 1)], 0)), (2, .inl ([(1, 1)], 0))], [], [(0, 0, ([], 3), .inr (some (64, 64))), (10, 10, ([], 1), .inl ([(2, 1)], 0)), (10, 10, ([], 2), .inl ([(3, 1)], 0))]) = true := by decide +kernel
theorem dNX12_splice_8 : decode cX12_splice 8 = .ok (.invokevirtual 219, 3) := by decide +kernel
set_option maxRecDepth 100000 in
set_option maxHeartbeats 4000000 in
theorem kn_X12_splice (l : Launch) (D : va_G) (k : Nat → ClassId) (B0 : Nat) (ad : Nat → Nat) (al sw : Nat) {Sg : Nat → Option Nat} {ws : va_W} {th tw nm : Nat → Nat} (sz : Nat) (hone : ∀ a g, Sg a = some g → g < 64 → a = th g) (hsing : ∀ g, g < 37 → g < 64 → Sg (th g) = some g) (ht : zf_typ Sg k zGT ws) {nsv k0 k1 : List (List Int32)} {f9 s9 : Nat} (C : nu_C Sg th tw nm ws nsv k0 k1 f9 s9) (a1 a2 : Int32) :
    Met l yX12_splice (zw yX12_splice cX12_splice 3 (some .int)) ({ frames := 4, cells := 0, slots := 0, locals := 123 }) (va_Pc [.ref (th 0), .int a1, .int a2] (g_pr D k (zEx B0 ad al sw Sg ws) sz ws)) (zf_Q (fun _ t => nu_Q D k Sg th tw nm nsv k0 k1 (va_A ws sz) t) (va_A ws sz)) 0 0 (va_A ws sz) := by
  have hEx := zEx_ok B0 ad al sw
  refine zp_open (Qp := fun A _ t => nu_Q D k Sg th tw nm nsv k0 k1 A t) (by decide) rfl hEx (Nat.le_of_ble_eq_true rfl) ?_
  intro p e s m below meth c A ls S hr hlocks hK hE hAB hA hP hD hS hl
  have hx := S.1
  have hb := S.2.1
  have g0 : Sg (th 0) = some 0 := hsing 0 (by decide) (by decide)
  have g10 : Sg (th 10) = some 10 := hsing 10 (by decide) (by decide)
  obtain ⟨T, N0, N2, N3, f8, s8, d1, d2, R⟩ := id C
  have t0 := (T.1 0 (by decide)).1
  refine zp_run (M := zm_splice1) (cuts := [zu_splice1]) (σ := ([((-2147483648), 2147483647), ((-2147483648), 2147483647), (0, 8), (0, 8)], [], 65, [(0, .inr (some (0, 0))), (1, .inl ([(0, 1)], 0)), (2, .inl ([(1, 1)], 0))], [], [(0, 0, ([], 3), .inr (some (64, 64))), (10, 10, ([], 1), .inl ([(2, 1)], 0)), (10, 10, ([], 2), .inl ([(3, 1)], 0))])) (ρ := nu_ra f9 s9 [a1, a2]) (θ := zf_upr th 64 (tw 0)) hEx (by decide +kernel) (zR_X12_splice l D k B0 ad al sw) S hK hE hAB hA (fun a g h1 h2 => by rw [nu_up h2]; exact hone a g h1 h2) (fun g h1 h2 => by rw [nu_up h2]; exact hsing g h1 h2) rfl (by decide +kernel) kr_splice1 hP hD hS ht ⟨nu_raE f8 s8 [a1, a2], fun g hg => (by cases hg), ⟨_, hl, ⟨⟨rfl, ⟨rfl, g0⟩⟩, ⟨rfl, ⟨a1, rfl, (zf_v_sym (nu_ra f9 s9 [a1, a2]) 0).symm⟩⟩, ⟨rfl, ⟨a2, rfl, (zf_v_sym (nu_ra f9 s9 [a1, a2]) 1).symm⟩⟩, trivial⟩⟩, trivial, nu_tf hsing (nu_up (by decide)) nu_u64 T (nu_fs (n := 2) (hs := []) hsing (nu_up (by decide)) d1 d2 f8 s8 rfl rfl zf_an)⟩ (zf_ac (fun ρ' θ' w1 H1 locs1 ls1 st1 hρ hθ hP1 hD1 hS1 ht1 hfr hsat => ?_) zf_an) (fun H locs w3 ls pc i v hP3 hD3 hS3 hpost hdg hrv => ?_)
  · obtain ⟨hE1, hF1, ⟨lv, hlv, hlv2⟩, hst, hh⟩ := hsat
    obtain ⟨v1, st2, rfl, ⟨rfl, b1⟩, hst_1⟩ := zf_f2_c hst
    obtain ⟨v2, st3, rfl, ⟨rfl, b2⟩, hst_2⟩ := zf_f2_c hst_1
    cases zf_nil hst_2
    have e10 : θ' 10 = th 10 := (hθ 10 (by decide)).trans (nu_up (by decide))
    have e64 : θ' 64 = tw 0 := (hθ 64 (by decide)).trans nu_u64
    have C1 := nu_Cf (by decide) hfr hsing C
    have hM := kn_X5_hold l D k B0 ad al sw H1.size hone hsing ht1 C1.1 f8 C1.2.2.2.2.2.2.1
    have e64v : Value.ref (θ' 64) = .ref (tw 0) := by rw [e64]
    have e10v : Value.ref (θ' 10) = .ref (th 10) := by rw [e10]
    show W p l e _ s m _ below meth c H1 locs1 0 0 _ (F0 m 8 ls1 [.ref (θ' 64), .ref (θ' 10)])
    rw [e64v, e10v]
    refine zp_call (cells := 0) (slots := 0) (As := [.ref (tw 0)]) (b := th 10) (g := 10) (ci := 3) (rest := []) S hEx hE hAB hA hK hM (cwV 1 S.2.2.2.2 (zg_V zw_733 zw_734 zw_735 zw_106 zw_736) rfl rfl rfl (by decide +kernel) ⟨(Nat.le_of_ble_eq_true rfl), (Nat.le_of_ble_eq_true rfl)⟩) ⟨Nat.le_of_ble_eq_true rfl, Nat.le_of_ble_eq_true rfl⟩ rfl rfl (by decide +kernel) g10 rfl hP1 hD1 hS1 ht1 hlv.1 (Nat.zero_le _) dNX12_splice_8 (fun v t H2 locs2 ht2 hB hDD hS2 => ?_)
    obtain ⟨rfl, w2, u1, u2, u3, u4, u5⟩ := hB
    rw [ht2] at u1
    obtain ⟨C2, c1, c2⟩ := nu_hold hsing C1 u4 u5
    refine zp_run (M := zm_splice2) (σ := ([((-2147483648), 2147483647), ((-2147483648), 2147483647), (0, 8), (0, 8)], [], 65, [(0, .inr (some (0, 0))), (1, .inl ([(0, 1)], 0)), (2, .inl ([(1, 1)], 0))], [], [(0, 0, ([], 3), .inr (some (64, 64))), (10, 10, ([], 1), .inl ([(2, 1)], 0)), (10, 10, ([], 2), .inl ([(3, 1)], 0))])) (ρ := ρ') (θ := θ') hEx (by decide +kernel) (zR_X12_splice l D k B0 ad al sw) S hK hE hAB hA (fun a g h1 h2 => by rw [hθ g (Nat.lt_trans h2 (by decide)), nu_up h2]; exact hone a g h1 h2) (fun g h1 h2 => by rw [hθ g (Nat.lt_trans h2 (by decide)), nu_up h2]; exact hsing g h1 h2) rfl (by decide +kernel) kr_splice2 u1 (hDD _ u1 u2) hS2 u3 ⟨hE1, hF1, ⟨lv, hlv, hlv2⟩, trivial, nu_hk (eff := zm_X10_copy.2.1) (by decide) u4 hh⟩ zf_an (fun H locs w3 ls pc i v hP3 hD3 hS3 hpost hdg hrv => ?_)
    obtain ⟨rfl, v, rfl⟩ := zt_ri (by decide +kernel) hpost hrv
    refine W.iret hx hb hr (fun t ht' hW => ⟨⟨_, rfl, w3, by rw [ht']; exact hP3, hD3, hpost.2.1, nu_fin (n := 2) (by decide +kernel) (by decide) (by decide) (by decide) hpost e10 (hρ 2 (by decide)) (hρ 3 (by decide)) hsing C2⟩, hS3.F ht'⟩) hS3.2.2 hdg hlocks
  · obtain ⟨rfl, v, rfl⟩ := zt_ri (by decide +kernel) hpost hrv
    exact W.iret hx hb hr (fun t ht' hW => ⟨⟨_, rfl, w3, by rw [ht']; exact hP3, hD3, hpost.2.1, f9, s9, nu_Cf (by decide) hpost.2.2 hsing C⟩, hS3.F ht'⟩) hS3.2.2 hdg hlocks
set_option maxRecDepth 100000 in
set_option maxHeartbeats 4000000 in
theorem zR_X12_climb (l : Launch) (D : va_G) (k : Nat → ClassId) (B0 : Nat) (ad : Nat → Nat) (al sw : Nat) : zf_Rl l yX12_climb (zw yX12_climb cX12_climb 4 (some .int)) ({ frames := 4, cells := 0, slots := 0, locals := 123 }) cX12_climb 4 D k zGT 37 B0 [zm_X5_hold, zm_X10_climbUp, zm_X5_keepN] [(37, 10, 3, .inl (0, 0)), (64, 10, 8, .inl (0, 0))] [] zn_X12_climb (zEx B0 ad al sw) := by
  have hEx := zEx_ok B0 ad al sw
  intro p e s m args below meth c Q Sg w0 A θ0 S hK hE hAB hA hone hsing
  refine ⟨?_, ?_, ?_⟩
  · exact zf_ac ((fun H locs ws a q0 fs v rest pc ls hP he hv hdg kk => va_get (D := D) (ci := 10) (C := RX12) (T := TX12) (N := 18) (own := RX12) S.1 S.2.1 S.2.2.2.2 (zg_in inW_X12) S.2.2.2.1 hK hP q0 he rfl 3 (by decide) (S.2.2.2.2 (.fieldLink RX12 37 "RungMoney" "town" "LRungMoney$Town;") (List.mem_cons_of_mem _ zw_402)) (fun _ h9 => h9) hv hdg kk)) (zf_ac ((fun H locs ws a q0 fs v rest pc ls hP he hv hdg kk => va_get (D := D) (ci := 10) (C := RX12) (T := TX12) (N := 18) (own := RX12) S.1 S.2.1 S.2.2.2.2 (zg_in inW_X12) S.2.2.2.1 hK hP q0 he rfl 8 (by decide) (S.2.2.2.2 (.fieldLink RX12 64 "RungMoney" "past" "LRungMoney$Past;") (List.mem_cons_of_mem _ zw_407)) (fun _ h9 => h9) hv hdg kk)) zf_an)
  · exact zf_an
  · exact zf_crl (xs := [(.invokevirtual 219, 3, 0), (.invokevirtual 235, 3, 1), (.invokevirtual 238, 3, 2)]) (by decide +kernel) (zf_ac (zf_crV S hEx hE hAB hA hK hone hsing (kc_X5_hold l D k B0 ad al sw) (cwV 1 S.2.2.2.2 (zg_V zw_733 zw_734 zw_735 zw_106 zw_736) rfl rfl rfl (by decide +kernel) ⟨(Nat.le_of_ble_eq_true rfl), (Nat.le_of_ble_eq_true rfl)⟩) ⟨(Nat.le_of_ble_eq_true rfl), (Nat.le_of_ble_eq_true rfl)⟩ 3 rfl rfl (ar := [.inr (some (64, 64))]) rfl rfl (by decide +kernel)) (zf_ac (zf_crV S hEx hE hAB hA hK hone hsing (kc_X10_climbUp l D k B0 ad al sw) (cwV 2 S.2.2.2.2 (zg_V zw_803 zw_804 zw_805 zw_99 zw_806) rfl rfl rfl (by decide +kernel) ⟨(Nat.le_of_ble_eq_true rfl), (Nat.le_of_ble_eq_true rfl)⟩) ⟨(Nat.le_of_ble_eq_true rfl), (Nat.le_of_ble_eq_true rfl)⟩ 8 rfl rfl (ar := [.inl ([(1, 1)], 0), .inl ([(0, 1)], 0)]) rfl rfl (by decide +kernel)) (zf_ac (zf_crV S hEx hE hAB hA hK hone hsing (kc_X5_keepN l D k B0 ad al sw) (cwV 0 S.2.2.2.2 (zg_V zw_755 zw_756 zw_757 zw_106 zw_758) rfl rfl rfl (by decide +kernel) ⟨(Nat.le_of_ble_eq_true rfl), (Nat.le_of_ble_eq_true rfl)⟩) ⟨(Nat.le_of_ble_eq_true rfl), (Nat.le_of_ble_eq_true rfl)⟩ 3 rfl rfl (ar := []) rfl rfl (by decide +kernel)) zf_an)))
def zm_climb1 : zf_M := (([((-2147483648), 2147483647), ((-2147483648), 2147483647), (0, 8), (0, 8)], [], 65, [], [], []), [], [])
def zu_climb1 : zf_U := (8, ([((-2147483648), 2147483647), ((-2147483648), 2147483647), (0, 8), (0, 8)], [], 65, [(0, .inr (some (0, 0))), (1, .inl ([(0, 1)], 0)), (2, .inl ([(1, 1)], 0))], [.inr (some (64, 64)), .inr (some (10, 10))], [(0, 0, ([], 3), .inr (some (64, 64))), (10, 10, ([], 1), .inl ([(2, 1)], 0)), (10, 10, ([], 2), .inl ([(3, 1)], 0))]), ([], 0), 0)
set_option maxRecDepth 100000 in
set_option maxHeartbeats 4000000 in
theorem kr_climb1 : zf_run 4 65 37 4 zGT zm_climb1 [zm_X5_hold, zm_X10_climbUp, zm_X5_keepN] [(37, 10, 3, .inl (0, 0)), (64, 10, 8, .inl (0, 0))] [] zn_X12_climb [zu_climb1] none 3000 0 ([((-2147483648), 2147483647), ((-2147483648), 2147483647), (0, 8), (0, 8)], [], 65, [(0, .inr (some (0, 0))), (1, .inl ([(0, 1)], 0)), (2, .inl ([(1, 1)], 0))], [], [(0, 0, ([], 3), .inr (some (64, 64))), (10, 10, ([], 1), .inl ([(2, 1)], 0)), (10, 10, ([], 2), .inl ([(3, 1)], 0))]) = true := by decide +kernel
def zm_climb2 : zf_M := (([((-2147483648), 2147483647), ((-2147483648), 2147483647), (0, 8), (0, 8)], [], 65, [], [], []), [(66, ([], 0), ([], 0)), (67, ([], 0), ([], 15)), (68, ([], 0), ([], 15)), (69, ([], 0), ([], 15)), (70, ([], 0), ([], 15)), (71, ([], 0), ([], 15)), (73, ([], 0), ([], 35)), (75, ([], 0), ([], 5)), (64, ([], 5), ([], 8)), (10, ([], 1), ([], 2))], [(some (.inl ([(4, 1)], 0)), ([((-2147483648), 2147483647), ((-2147483648), 2147483647), (0, 7), (0, 7), ((-2147483648), 2147483647)], [], 65, [], [], [(10, 10, ([], 1), .inl ([(2, 1)], 1)), (10, 10, ([], 2), .inl ([(3, 1)], 1))])), (some (.inl ([(4, 1)], 0)), ([((-2147483648), 2147483647), ((-2147483648), 2147483647), (0, 7), (7, 8), ((-2147483648), 2147483647)], [], 65, [], [], [(10, 10, ([], 1), .inl ([(2, 1)], 1)), (10, 10, ([], 2), .inl ([], 8))])), (some (.inl ([(4, 1)], 0)), ([((-2147483648), 2147483647), ((-2147483648), 2147483647), (8, 8), (0, 7), ((-2147483648), 2147483647)], [], 65, [], [], [(10, 10, ([], 1), .inl ([], 0)), (10, 10, ([], 2), .inl ([(3, 1)], 1))])), (some (.inl ([(4, 1)], 0)), ([((-2147483648), 2147483647), ((-2147483648), 2147483647), (8, 8), (7, 8), ((-2147483648), 2147483647)], [], 65, [], [], [(10, 10, ([], 1), .inl ([], 0)), (10, 10, ([], 2), .inl ([], 8))])), (some (.inl ([(4, 1)], 0)), ([((-2147483648), 2147483647), ((-2147483648), 2147483647), (0, 8), (0, 8), ((-2147483648), 2147483647)], [], 65, [], [], [(10, 10, ([], 1), .inl ([(2, 1)], 0)), (10, 10, ([], 2), .inl ([(3, 1)], 0))]))])
set_option maxRecDepth 100000 in
set_option maxHeartbeats 4000000 in
theorem kr_climb2 : zf_run 4 65 37 4 zGT zm_climb2 [zm_X5_hold, zm_X10_climbUp, zm_X5_keepN] [(37, 10, 3, .inl (0, 0)), (64, 10, 8, .inl (0, 0))] [] zn_X12_climb [] none 3000 11 ([((-2147483648), 2147483647), ((-2147483648), 2147483647), (0, 8), (0, 8)], [], 65, [(0, .inr (some (0, 0))), (1, .inl ([(0, 1)], 0)), (2, .inl ([(1, 1)], 0))], [], [(0, 0, ([], 3), .inr (some (64, 64))), (10, 10, ([], 1), .inl ([(2, 1)], 0)), (10, 10, ([], 2), .inl ([(3, 1)], 0))]) = true := by decide +kernel
theorem dNX12_climb_8 : decode cX12_climb 8 = .ok (.invokevirtual 219, 3) := by decide +kernel
set_option maxRecDepth 100000 in
set_option maxHeartbeats 4000000 in
theorem kn_X12_climb (l : Launch) (D : va_G) (k : Nat → ClassId) (B0 : Nat) (ad : Nat → Nat) (al sw : Nat) {Sg : Nat → Option Nat} {ws : va_W} {th tw nm : Nat → Nat} (sz : Nat) (hone : ∀ a g, Sg a = some g → g < 64 → a = th g) (hsing : ∀ g, g < 37 → g < 64 → Sg (th g) = some g) (ht : zf_typ Sg k zGT ws) {nsv k0 k1 : List (List Int32)} {f9 s9 : Nat} (C : nu_C Sg th tw nm ws nsv k0 k1 f9 s9) (a1 a2 : Int32) :
    Met l yX12_climb (zw yX12_climb cX12_climb 4 (some .int)) ({ frames := 4, cells := 0, slots := 0, locals := 123 }) (va_Pc [.ref (th 0), .int a1, .int a2] (g_pr D k (zEx B0 ad al sw Sg ws) sz ws)) (zf_Q (fun _ t => nu_Q D k Sg th tw nm nsv k0 k1 (va_A ws sz) t) (va_A ws sz)) 0 0 (va_A ws sz) := by
  have hEx := zEx_ok B0 ad al sw
  refine zp_open (Qp := fun A _ t => nu_Q D k Sg th tw nm nsv k0 k1 A t) (by decide) rfl hEx (Nat.le_of_ble_eq_true rfl) ?_
  intro p e s m below meth c A ls S hr hlocks hK hE hAB hA hP hD hS hl
  have hx := S.1
  have hb := S.2.1
  have g0 : Sg (th 0) = some 0 := hsing 0 (by decide) (by decide)
  have g10 : Sg (th 10) = some 10 := hsing 10 (by decide) (by decide)
  obtain ⟨T, N0, N2, N3, f8, s8, d1, d2, R⟩ := id C
  have t0 := (T.1 0 (by decide)).1
  refine zp_run (M := zm_climb1) (cuts := [zu_climb1]) (σ := ([((-2147483648), 2147483647), ((-2147483648), 2147483647), (0, 8), (0, 8)], [], 65, [(0, .inr (some (0, 0))), (1, .inl ([(0, 1)], 0)), (2, .inl ([(1, 1)], 0))], [], [(0, 0, ([], 3), .inr (some (64, 64))), (10, 10, ([], 1), .inl ([(2, 1)], 0)), (10, 10, ([], 2), .inl ([(3, 1)], 0))])) (ρ := nu_ra f9 s9 [a1, a2]) (θ := zf_upr th 64 (tw 0)) hEx (by decide +kernel) (zR_X12_climb l D k B0 ad al sw) S hK hE hAB hA (fun a g h1 h2 => by rw [nu_up h2]; exact hone a g h1 h2) (fun g h1 h2 => by rw [nu_up h2]; exact hsing g h1 h2) rfl (by decide +kernel) kr_climb1 hP hD hS ht ⟨nu_raE f8 s8 [a1, a2], fun g hg => (by cases hg), ⟨_, hl, ⟨⟨rfl, ⟨rfl, g0⟩⟩, ⟨rfl, ⟨a1, rfl, (zf_v_sym (nu_ra f9 s9 [a1, a2]) 0).symm⟩⟩, ⟨rfl, ⟨a2, rfl, (zf_v_sym (nu_ra f9 s9 [a1, a2]) 1).symm⟩⟩, trivial⟩⟩, trivial, nu_tf hsing (nu_up (by decide)) nu_u64 T (nu_fs (n := 2) (hs := []) hsing (nu_up (by decide)) d1 d2 f8 s8 rfl rfl zf_an)⟩ (zf_ac (fun ρ' θ' w1 H1 locs1 ls1 st1 hρ hθ hP1 hD1 hS1 ht1 hfr hsat => ?_) zf_an) (fun H locs w3 ls pc i v hP3 hD3 hS3 hpost hdg hrv => ?_)
  · obtain ⟨hE1, hF1, ⟨lv, hlv, hlv2⟩, hst, hh⟩ := hsat
    obtain ⟨v1, st2, rfl, ⟨rfl, b1⟩, hst_1⟩ := zf_f2_c hst
    obtain ⟨v2, st3, rfl, ⟨rfl, b2⟩, hst_2⟩ := zf_f2_c hst_1
    cases zf_nil hst_2
    have e10 : θ' 10 = th 10 := (hθ 10 (by decide)).trans (nu_up (by decide))
    have e64 : θ' 64 = tw 0 := (hθ 64 (by decide)).trans nu_u64
    have C1 := nu_Cf (by decide) hfr hsing C
    have hM := kn_X5_hold l D k B0 ad al sw H1.size hone hsing ht1 C1.1 f8 C1.2.2.2.2.2.2.1
    have e64v : Value.ref (θ' 64) = .ref (tw 0) := by rw [e64]
    have e10v : Value.ref (θ' 10) = .ref (th 10) := by rw [e10]
    show W p l e _ s m _ below meth c H1 locs1 0 0 _ (F0 m 8 ls1 [.ref (θ' 64), .ref (θ' 10)])
    rw [e64v, e10v]
    refine zp_call (cells := 0) (slots := 0) (As := [.ref (tw 0)]) (b := th 10) (g := 10) (ci := 3) (rest := []) S hEx hE hAB hA hK hM (cwV 1 S.2.2.2.2 (zg_V zw_733 zw_734 zw_735 zw_106 zw_736) rfl rfl rfl (by decide +kernel) ⟨(Nat.le_of_ble_eq_true rfl), (Nat.le_of_ble_eq_true rfl)⟩) ⟨Nat.le_of_ble_eq_true rfl, Nat.le_of_ble_eq_true rfl⟩ rfl rfl (by decide +kernel) g10 rfl hP1 hD1 hS1 ht1 hlv.1 (Nat.zero_le _) dNX12_climb_8 (fun v t H2 locs2 ht2 hB hDD hS2 => ?_)
    obtain ⟨rfl, w2, u1, u2, u3, u4, u5⟩ := hB
    rw [ht2] at u1
    obtain ⟨C2, c1, c2⟩ := nu_hold hsing C1 u4 u5
    refine zp_run (M := zm_climb2) (σ := ([((-2147483648), 2147483647), ((-2147483648), 2147483647), (0, 8), (0, 8)], [], 65, [(0, .inr (some (0, 0))), (1, .inl ([(0, 1)], 0)), (2, .inl ([(1, 1)], 0))], [], [(0, 0, ([], 3), .inr (some (64, 64))), (10, 10, ([], 1), .inl ([(2, 1)], 0)), (10, 10, ([], 2), .inl ([(3, 1)], 0))])) (ρ := ρ') (θ := θ') hEx (by decide +kernel) (zR_X12_climb l D k B0 ad al sw) S hK hE hAB hA (fun a g h1 h2 => by rw [hθ g (Nat.lt_trans h2 (by decide)), nu_up h2]; exact hone a g h1 h2) (fun g h1 h2 => by rw [hθ g (Nat.lt_trans h2 (by decide)), nu_up h2]; exact hsing g h1 h2) rfl (by decide +kernel) kr_climb2 u1 (hDD _ u1 u2) hS2 u3 ⟨hE1, hF1, ⟨lv, hlv, hlv2⟩, trivial, nu_hk (eff := zm_X10_copy.2.1) (by decide) u4 hh⟩ zf_an (fun H locs w3 ls pc i v hP3 hD3 hS3 hpost hdg hrv => ?_)
    obtain ⟨rfl, v, rfl⟩ := zt_ri (by decide +kernel) hpost hrv
    refine W.iret hx hb hr (fun t ht' hW => ⟨⟨_, rfl, w3, by rw [ht']; exact hP3, hD3, hpost.2.1, nu_fin (n := 2) (by decide +kernel) (by decide) (by decide) (by decide) hpost e10 (hρ 2 (by decide)) (hρ 3 (by decide)) hsing C2⟩, hS3.F ht'⟩) hS3.2.2 hdg hlocks
  · obtain ⟨rfl, v, rfl⟩ := zt_ri (by decide +kernel) hpost hrv
    exact W.iret hx hb hr (fun t ht' hW => ⟨⟨_, rfl, w3, by rw [ht']; exact hP3, hD3, hpost.2.1, f9, s9, nu_Cf (by decide) hpost.2.2 hsing C⟩, hS3.F ht'⟩) hS3.2.2 hdg hlocks
set_option maxRecDepth 100000 in
set_option maxHeartbeats 4000000 in
theorem zR_X12_burn (l : Launch) (D : va_G) (k : Nat → ClassId) (B0 : Nat) (ad : Nat → Nat) (al sw : Nat) : zf_Rl l yX12_burn (zw yX12_burn cX12_burn 2 (some .int)) ({ frames := 4, cells := 0, slots := 0, locals := 123 }) cX12_burn 2 D k zGT 37 B0 [zm_X5_hold, zm_X10_burnDown, zm_X12_keepIfDoneN] [(37, 10, 3, .inl (0, 0)), (64, 10, 8, .inl (0, 0))] [] zn_X12_burn (zEx B0 ad al sw) := by
  have hEx := zEx_ok B0 ad al sw
  intro p e s m args below meth c Q Sg w0 A θ0 S hK hE hAB hA hone hsing
  refine ⟨?_, ?_, ?_⟩
  · exact zf_ac ((fun H locs ws a q0 fs v rest pc ls hP he hv hdg kk => va_get (D := D) (ci := 10) (C := RX12) (T := TX12) (N := 18) (own := RX12) S.1 S.2.1 S.2.2.2.2 (zg_in inW_X12) S.2.2.2.1 hK hP q0 he rfl 3 (by decide) (S.2.2.2.2 (.fieldLink RX12 37 "RungMoney" "town" "LRungMoney$Town;") (List.mem_cons_of_mem _ zw_402)) (fun _ h9 => h9) hv hdg kk)) (zf_ac ((fun H locs ws a q0 fs v rest pc ls hP he hv hdg kk => va_get (D := D) (ci := 10) (C := RX12) (T := TX12) (N := 18) (own := RX12) S.1 S.2.1 S.2.2.2.2 (zg_in inW_X12) S.2.2.2.1 hK hP q0 he rfl 8 (by decide) (S.2.2.2.2 (.fieldLink RX12 64 "RungMoney" "past" "LRungMoney$Past;") (List.mem_cons_of_mem _ zw_407)) (fun _ h9 => h9) hv hdg kk)) zf_an)
  · exact zf_an
  · exact zf_crl (xs := [(.invokevirtual 219, 3, 0), (.invokevirtual 241, 3, 1), (.invokevirtual 226, 3, 2)]) (by decide +kernel) (zf_ac (zf_crV S hEx hE hAB hA hK hone hsing (kc_X5_hold l D k B0 ad al sw) (cwV 1 S.2.2.2.2 (zg_V zw_733 zw_734 zw_735 zw_106 zw_736) rfl rfl rfl (by decide +kernel) ⟨(Nat.le_of_ble_eq_true rfl), (Nat.le_of_ble_eq_true rfl)⟩) ⟨(Nat.le_of_ble_eq_true rfl), (Nat.le_of_ble_eq_true rfl)⟩ 3 rfl rfl (ar := [.inr (some (64, 64))]) rfl rfl (by decide +kernel)) (zf_ac (zf_crV S hEx hE hAB hA hK hone hsing (kc_X10_burnDown l D k B0 ad al sw) (cwV 1 S.2.2.2.2 (zg_V zw_816 zw_817 zw_818 zw_99 zw_819) rfl rfl rfl (by decide +kernel) ⟨(Nat.le_of_ble_eq_true rfl), (Nat.le_of_ble_eq_true rfl)⟩) ⟨(Nat.le_of_ble_eq_true rfl), (Nat.le_of_ble_eq_true rfl)⟩ 8 rfl rfl (ar := [.inl ([(0, 1)], 0)]) rfl rfl (by decide +kernel)) (zf_ac (zf_crV S hEx hE hAB hA hK hone hsing (kc_X12_keepIfDoneN l D k B0 ad al sw) (cwV 1 S.2.2.2.2 (zg_V zw_751 zw_753 zw_8 zw_95 zw_754) rfl rfl rfl (by decide +kernel) ⟨(Nat.le_of_ble_eq_true rfl), (Nat.le_of_ble_eq_true rfl)⟩) ⟨(Nat.le_of_ble_eq_true rfl), (Nat.le_of_ble_eq_true rfl)⟩ 10 rfl rfl (ar := [.inl ([(0, 1)], 0)]) rfl rfl (by decide +kernel)) zf_an)))
def zm_burn1 : zf_M := (([((-2147483648), 2147483647), (0, 8), (0, 8)], [], 65, [], [], []), [], [])
def zu_burn1 : zf_U := (8, ([((-2147483648), 2147483647), (0, 8), (0, 8)], [], 65, [(0, .inr (some (0, 0))), (1, .inl ([(0, 1)], 0))], [.inr (some (64, 64)), .inr (some (10, 10))], [(0, 0, ([], 3), .inr (some (64, 64))), (10, 10, ([], 1), .inl ([(1, 1)], 0)), (10, 10, ([], 2), .inl ([(2, 1)], 0))]), ([], 0), 0)
set_option maxRecDepth 100000 in
set_option maxHeartbeats 4000000 in
theorem kr_burn1 : zf_run 3 65 37 2 zGT zm_burn1 [zm_X5_hold, zm_X10_burnDown, zm_X12_keepIfDoneN] [(37, 10, 3, .inl (0, 0)), (64, 10, 8, .inl (0, 0))] [] zn_X12_burn [zu_burn1] none 3000 0 ([((-2147483648), 2147483647), (0, 8), (0, 8)], [], 65, [(0, .inr (some (0, 0))), (1, .inl ([(0, 1)], 0))], [], [(0, 0, ([], 3), .inr (some (64, 64))), (10, 10, ([], 1), .inl ([(1, 1)], 0)), (10, 10, ([], 2), .inl ([(2, 1)], 0))]) = true := by decide +kernel
def zm_burn2 : zf_M := (([((-2147483648), 2147483647), (0, 8), (0, 8)], [], 65, [], [], []), [(66, ([], 0), ([], 0)), (67, ([], 0), ([], 15)), (68, ([], 0), ([], 15)), (69, ([], 0), ([], 15)), (70, ([], 0), ([], 15)), (71, ([], 0), ([], 15)), (73, ([], 0), ([], 35)), (75, ([], 0), ([], 5)), (64, ([], 5), ([], 8)), (10, ([], 1), ([], 2))], [(some (.inl ([(3, 1)], 0)), ([((-2147483648), 2147483647), (0, 7), (0, 7), ((-2147483648), 2147483647)], [], 65, [], [], [(10, 10, ([], 1), .inl ([(1, 1)], 1)), (10, 10, ([], 2), .inl ([(2, 1)], 1))])), (some (.inl ([(3, 1)], 0)), ([((-2147483648), 2147483647), (0, 7), (7, 8), ((-2147483648), 2147483647)], [], 65, [], [], [(10, 10, ([], 1), .inl ([(1, 1)], 1)), (10, 10, ([], 2), .inl ([], 8))])), (some (.inl ([(3, 1)], 0)), ([((-2147483648), 2147483647), (8, 8), (0, 7), ((-2147483648), 2147483647)], [], 65, [], [], [(10, 10, ([], 1), .inl ([], 0)), (10, 10, ([], 2), .inl ([(2, 1)], 1))])), (some (.inl ([(3, 1)], 0)), ([((-2147483648), 2147483647), (8, 8), (7, 8), ((-2147483648), 2147483647)], [], 65, [], [], [(10, 10, ([], 1), .inl ([], 0)), (10, 10, ([], 2), .inl ([], 8))])), (some (.inl ([(3, 1)], 0)), ([((-2147483648), 2147483647), (0, 8), (0, 8), ((-2147483648), 2147483647)], [], 65, [], [], [(10, 10, ([], 1), .inl ([(1, 1)], 0)), (10, 10, ([], 2), .inl ([(2, 1)], 0))]))])
set_option maxRecDepth 100000 in
set_option maxHeartbeats 4000000 in
theorem kr_burn2 : zf_run 3 65 37 2 zGT zm_burn2 [zm_X5_hold, zm_X10_burnDown, zm_X12_keepIfDoneN] [(37, 10, 3, .inl (0, 0)), (64, 10, 8, .inl (0, 0))] [] zn_X12_burn [] none 3000 11 ([((-2147483648), 2147483647), (0, 8), (0, 8)], [], 65, [(0, .inr (some (0, 0))), (1, .inl ([(0, 1)], 0))], [], [(0, 0, ([], 3), .inr (some (64, 64))), (10, 10, ([], 1), .inl ([(1, 1)], 0)), (10, 10, ([], 2), .inl ([(2, 1)], 0))]) = true := by decide +kernel
theorem dNX12_burn_8 : decode cX12_burn 8 = .ok (.invokevirtual 219, 3) := by decide +kernel
set_option maxRecDepth 100000 in
set_option maxHeartbeats 4000000 in
theorem kn_X12_burn (l : Launch) (D : va_G) (k : Nat → ClassId) (B0 : Nat) (ad : Nat → Nat) (al sw : Nat) {Sg : Nat → Option Nat} {ws : va_W} {th tw nm : Nat → Nat} (sz : Nat) (hone : ∀ a g, Sg a = some g → g < 64 → a = th g) (hsing : ∀ g, g < 37 → g < 64 → Sg (th g) = some g) (ht : zf_typ Sg k zGT ws) {nsv k0 k1 : List (List Int32)} {f9 s9 : Nat} (C : nu_C Sg th tw nm ws nsv k0 k1 f9 s9) (a1 : Int32) :
    Met l yX12_burn (zw yX12_burn cX12_burn 2 (some .int)) ({ frames := 4, cells := 0, slots := 0, locals := 123 }) (va_Pc [.ref (th 0), .int a1] (g_pr D k (zEx B0 ad al sw Sg ws) sz ws)) (zf_Q (fun _ t => nu_Q D k Sg th tw nm nsv k0 k1 (va_A ws sz) t) (va_A ws sz)) 0 0 (va_A ws sz) := by
  have hEx := zEx_ok B0 ad al sw
  refine zp_open (Qp := fun A _ t => nu_Q D k Sg th tw nm nsv k0 k1 A t) (by decide) rfl hEx (Nat.le_of_ble_eq_true rfl) ?_
  intro p e s m below meth c A ls S hr hlocks hK hE hAB hA hP hD hS hl
  have hx := S.1
  have hb := S.2.1
  have g0 : Sg (th 0) = some 0 := hsing 0 (by decide) (by decide)
  have g10 : Sg (th 10) = some 10 := hsing 10 (by decide) (by decide)
  obtain ⟨T, N0, N2, N3, f8, s8, d1, d2, R⟩ := id C
  have t0 := (T.1 0 (by decide)).1
  refine zp_run (M := zm_burn1) (cuts := [zu_burn1]) (σ := ([((-2147483648), 2147483647), (0, 8), (0, 8)], [], 65, [(0, .inr (some (0, 0))), (1, .inl ([(0, 1)], 0))], [], [(0, 0, ([], 3), .inr (some (64, 64))), (10, 10, ([], 1), .inl ([(1, 1)], 0)), (10, 10, ([], 2), .inl ([(2, 1)], 0))])) (ρ := nu_ra f9 s9 [a1]) (θ := zf_upr th 64 (tw 0)) hEx (by decide +kernel) (zR_X12_burn l D k B0 ad al sw) S hK hE hAB hA (fun a g h1 h2 => by rw [nu_up h2]; exact hone a g h1 h2) (fun g h1 h2 => by rw [nu_up h2]; exact hsing g h1 h2) rfl (by decide +kernel) kr_burn1 hP hD hS ht ⟨nu_raE f8 s8 [a1], fun g hg => (by cases hg), ⟨_, hl, ⟨⟨rfl, ⟨rfl, g0⟩⟩, ⟨rfl, ⟨a1, rfl, (zf_v_sym (nu_ra f9 s9 [a1]) 0).symm⟩⟩, trivial⟩⟩, trivial, nu_tf hsing (nu_up (by decide)) nu_u64 T (nu_fs (n := 1) (hs := []) hsing (nu_up (by decide)) d1 d2 f8 s8 rfl rfl zf_an)⟩ (zf_ac (fun ρ' θ' w1 H1 locs1 ls1 st1 hρ hθ hP1 hD1 hS1 ht1 hfr hsat => ?_) zf_an) (fun H locs w3 ls pc i v hP3 hD3 hS3 hpost hdg hrv => ?_)
  · obtain ⟨hE1, hF1, ⟨lv, hlv, hlv2⟩, hst, hh⟩ := hsat
    obtain ⟨v1, st2, rfl, ⟨rfl, b1⟩, hst_1⟩ := zf_f2_c hst
    obtain ⟨v2, st3, rfl, ⟨rfl, b2⟩, hst_2⟩ := zf_f2_c hst_1
    cases zf_nil hst_2
    have e10 : θ' 10 = th 10 := (hθ 10 (by decide)).trans (nu_up (by decide))
    have e64 : θ' 64 = tw 0 := (hθ 64 (by decide)).trans nu_u64
    have C1 := nu_Cf (by decide) hfr hsing C
    have hM := kn_X5_hold l D k B0 ad al sw H1.size hone hsing ht1 C1.1 f8 C1.2.2.2.2.2.2.1
    have e64v : Value.ref (θ' 64) = .ref (tw 0) := by rw [e64]
    have e10v : Value.ref (θ' 10) = .ref (th 10) := by rw [e10]
    show W p l e _ s m _ below meth c H1 locs1 0 0 _ (F0 m 8 ls1 [.ref (θ' 64), .ref (θ' 10)])
    rw [e64v, e10v]
    refine zp_call (cells := 0) (slots := 0) (As := [.ref (tw 0)]) (b := th 10) (g := 10) (ci := 3) (rest := []) S hEx hE hAB hA hK hM (cwV 1 S.2.2.2.2 (zg_V zw_733 zw_734 zw_735 zw_106 zw_736) rfl rfl rfl (by decide +kernel) ⟨(Nat.le_of_ble_eq_true rfl), (Nat.le_of_ble_eq_true rfl)⟩) ⟨Nat.le_of_ble_eq_true rfl, Nat.le_of_ble_eq_true rfl⟩ rfl rfl (by decide +kernel) g10 rfl hP1 hD1 hS1 ht1 hlv.1 (Nat.zero_le _) dNX12_burn_8 (fun v t H2 locs2 ht2 hB hDD hS2 => ?_)
    obtain ⟨rfl, w2, u1, u2, u3, u4, u5⟩ := hB
    rw [ht2] at u1
    obtain ⟨C2, c1, c2⟩ := nu_hold hsing C1 u4 u5
    refine zp_run (M := zm_burn2) (σ := ([((-2147483648), 2147483647), (0, 8), (0, 8)], [], 65, [(0, .inr (some (0, 0))), (1, .inl ([(0, 1)], 0))], [], [(0, 0, ([], 3), .inr (some (64, 64))), (10, 10, ([], 1), .inl ([(1, 1)], 0)), (10, 10, ([], 2), .inl ([(2, 1)], 0))])) (ρ := ρ') (θ := θ') hEx (by decide +kernel) (zR_X12_burn l D k B0 ad al sw) S hK hE hAB hA (fun a g h1 h2 => by rw [hθ g (Nat.lt_trans h2 (by decide)), nu_up h2]; exact hone a g h1 h2) (fun g h1 h2 => by rw [hθ g (Nat.lt_trans h2 (by decide)), nu_up h2]; exact hsing g h1 h2) rfl (by decide +kernel) kr_burn2 u1 (hDD _ u1 u2) hS2 u3 ⟨hE1, hF1, ⟨lv, hlv, hlv2⟩, trivial, nu_hk (eff := zm_X10_copy.2.1) (by decide) u4 hh⟩ zf_an (fun H locs w3 ls pc i v hP3 hD3 hS3 hpost hdg hrv => ?_)
    obtain ⟨rfl, v, rfl⟩ := zt_ri (by decide +kernel) hpost hrv
    refine W.iret hx hb hr (fun t ht' hW => ⟨⟨_, rfl, w3, by rw [ht']; exact hP3, hD3, hpost.2.1, nu_fin (n := 1) (by decide +kernel) (by decide) (by decide) (by decide) hpost e10 (hρ 1 (by decide)) (hρ 2 (by decide)) hsing C2⟩, hS3.F ht'⟩) hS3.2.2 hdg hlocks
  · obtain ⟨rfl, v, rfl⟩ := zt_ri (by decide +kernel) hpost hrv
    exact W.iret hx hb hr (fun t ht' hW => ⟨⟨_, rfl, w3, by rw [ht']; exact hP3, hD3, hpost.2.1, f9, s9, nu_Cf (by decide) hpost.2.2 hsing C⟩, hS3.F ht'⟩) hS3.2.2 hdg hlocks
set_option maxRecDepth 100000 in
set_option maxHeartbeats 4000000 in
theorem zR_X12_paint (l : Launch) (D : va_G) (k : Nat → ClassId) (B0 : Nat) (ad : Nat → Nat) (al sw : Nat) : zf_Rl l yX12_paint (zw yX12_paint cX12_paint 3 (some .int)) ({ frames := 4, cells := 0, slots := 0, locals := 123 }) cX12_paint 3 D k zGT 37 B0 [zm_X5_hold, zm_X10_paintRung, zm_X12_keepIfDoneN] [(37, 10, 3, .inl (0, 0)), (64, 10, 8, .inl (0, 0))] [] zn_X12_paint (zEx B0 ad al sw) := by
  have hEx := zEx_ok B0 ad al sw
  intro p e s m args below meth c Q Sg w0 A θ0 S hK hE hAB hA hone hsing
  refine ⟨?_, ?_, ?_⟩
  · exact zf_ac ((fun H locs ws a q0 fs v rest pc ls hP he hv hdg kk => va_get (D := D) (ci := 10) (C := RX12) (T := TX12) (N := 18) (own := RX12) S.1 S.2.1 S.2.2.2.2 (zg_in inW_X12) S.2.2.2.1 hK hP q0 he rfl 3 (by decide) (S.2.2.2.2 (.fieldLink RX12 37 "RungMoney" "town" "LRungMoney$Town;") (List.mem_cons_of_mem _ zw_402)) (fun _ h9 => h9) hv hdg kk)) (zf_ac ((fun H locs ws a q0 fs v rest pc ls hP he hv hdg kk => va_get (D := D) (ci := 10) (C := RX12) (T := TX12) (N := 18) (own := RX12) S.1 S.2.1 S.2.2.2.2 (zg_in inW_X12) S.2.2.2.1 hK hP q0 he rfl 8 (by decide) (S.2.2.2.2 (.fieldLink RX12 64 "RungMoney" "past" "LRungMoney$Past;") (List.mem_cons_of_mem _ zw_407)) (fun _ h9 => h9) hv hdg kk)) zf_an)
  · exact zf_an
  · exact zf_crl (xs := [(.invokevirtual 219, 3, 0), (.invokevirtual 244, 3, 1), (.invokevirtual 226, 3, 2)]) (by decide +kernel) (zf_ac (zf_crV S hEx hE hAB hA hK hone hsing (kc_X5_hold l D k B0 ad al sw) (cwV 1 S.2.2.2.2 (zg_V zw_733 zw_734 zw_735 zw_106 zw_736) rfl rfl rfl (by decide +kernel) ⟨(Nat.le_of_ble_eq_true rfl), (Nat.le_of_ble_eq_true rfl)⟩) ⟨(Nat.le_of_ble_eq_true rfl), (Nat.le_of_ble_eq_true rfl)⟩ 3 rfl rfl (ar := [.inr (some (64, 64))]) rfl rfl (by decide +kernel)) (zf_ac (zf_crV S hEx hE hAB hA hK hone hsing (kc_X10_paintRung l D k B0 ad al sw) (cwV 2 S.2.2.2.2 (zg_V zw_825 zw_826 zw_827 zw_99 zw_828) rfl rfl rfl (by decide +kernel) ⟨(Nat.le_of_ble_eq_true rfl), (Nat.le_of_ble_eq_true rfl)⟩) ⟨(Nat.le_of_ble_eq_true rfl), (Nat.le_of_ble_eq_true rfl)⟩ 8 rfl rfl (ar := [.inl ([(1, 1)], 0), .inl ([(0, 1)], 0)]) rfl rfl (by decide +kernel)) (zf_ac (zf_crV S hEx hE hAB hA hK hone hsing (kc_X12_keepIfDoneN l D k B0 ad al sw) (cwV 1 S.2.2.2.2 (zg_V zw_751 zw_753 zw_8 zw_95 zw_754) rfl rfl rfl (by decide +kernel) ⟨(Nat.le_of_ble_eq_true rfl), (Nat.le_of_ble_eq_true rfl)⟩) ⟨(Nat.le_of_ble_eq_true rfl), (Nat.le_of_ble_eq_true rfl)⟩ 10 rfl rfl (ar := [.inl ([(0, 1)], 0)]) rfl rfl (by decide +kernel)) zf_an)))
def zm_paint1 : zf_M := (([((-2147483648), 2147483647), ((-2147483648), 2147483647), (0, 8), (0, 8)], [], 65, [], [], []), [], [])
def zu_paint1 : zf_U := (8, ([((-2147483648), 2147483647), ((-2147483648), 2147483647), (0, 8), (0, 8)], [], 65, [(0, .inr (some (0, 0))), (1, .inl ([(0, 1)], 0)), (2, .inl ([(1, 1)], 0))], [.inr (some (64, 64)), .inr (some (10, 10))], [(0, 0, ([], 3), .inr (some (64, 64))), (10, 10, ([], 1), .inl ([(2, 1)], 0)), (10, 10, ([], 2), .inl ([(3, 1)], 0))]), ([], 0), 0)
set_option maxRecDepth 100000 in
set_option maxHeartbeats 4000000 in
theorem kr_paint1 : zf_run 4 65 37 3 zGT zm_paint1 [zm_X5_hold, zm_X10_paintRung, zm_X12_keepIfDoneN] [(37, 10, 3, .inl (0, 0)), (64, 10, 8, .inl (0, 0))] [] zn_X12_paint [zu_paint1] none 3000 0 ([((-2147483648), 2147483647), ((-2147483648), 2147483647), (0, 8), (0, 8)], [], 65, [(0, .inr (some (0, 0))), (1, .inl ([(0, 1)], 0)), (2, .inl ([(1, 1)], 0))], [], [(0, 0, ([], 3), .inr (some (64, 64))), (10, 10, ([], 1), .inl ([(2, 1)], 0)), (10, 10, ([], 2), .inl ([(3, 1)], 0))]) = true := by decide +kernel
def zm_paint2 : zf_M := (([((-2147483648), 2147483647), ((-2147483648), 2147483647), (0, 8), (0, 8)], [], 65, [], [], []), [(66, ([], 0), ([], 0)), (67, ([], 0), ([], 15)), (68, ([], 0), ([], 15)), (69, ([], 0), ([], 15)), (70, ([], 0), ([], 15)), (71, ([], 0), ([], 15)), (73, ([], 0), ([], 35)), (75, ([], 0), ([], 5)), (64, ([], 5), ([], 8)), (10, ([], 1), ([], 2))], [(some (.inl ([(4, 1)], 0)), ([((-2147483648), 2147483647), ((-2147483648), 2147483647), (0, 7), (0, 7), ((-2147483648), 2147483647)], [], 65, [], [], [(10, 10, ([], 1), .inl ([(2, 1)], 1)), (10, 10, ([], 2), .inl ([(3, 1)], 1))])), (some (.inl ([(4, 1)], 0)), ([((-2147483648), 2147483647), ((-2147483648), 2147483647), (0, 7), (7, 8), ((-2147483648), 2147483647)], [], 65, [], [], [(10, 10, ([], 1), .inl ([(2, 1)], 1)), (10, 10, ([], 2), .inl ([], 8))])), (some (.inl ([(4, 1)], 0)), ([((-2147483648), 2147483647), ((-2147483648), 2147483647), (8, 8), (0, 7), ((-2147483648), 2147483647)], [], 65, [], [], [(10, 10, ([], 1), .inl ([], 0)), (10, 10, ([], 2), .inl ([(3, 1)], 1))])), (some (.inl ([(4, 1)], 0)), ([((-2147483648), 2147483647), ((-2147483648), 2147483647), (8, 8), (7, 8), ((-2147483648), 2147483647)], [], 65, [], [], [(10, 10, ([], 1), .inl ([], 0)), (10, 10, ([], 2), .inl ([], 8))])), (some (.inl ([(4, 1)], 0)), ([((-2147483648), 2147483647), ((-2147483648), 2147483647), (0, 8), (0, 8), ((-2147483648), 2147483647)], [], 65, [], [], [(10, 10, ([], 1), .inl ([(2, 1)], 0)), (10, 10, ([], 2), .inl ([(3, 1)], 0))]))])
set_option maxRecDepth 100000 in
set_option maxHeartbeats 4000000 in
theorem kr_paint2 : zf_run 4 65 37 3 zGT zm_paint2 [zm_X5_hold, zm_X10_paintRung, zm_X12_keepIfDoneN] [(37, 10, 3, .inl (0, 0)), (64, 10, 8, .inl (0, 0))] [] zn_X12_paint [] none 3000 11 ([((-2147483648), 2147483647), ((-2147483648), 2147483647), (0, 8), (0, 8)], [], 65, [(0, .inr (some (0, 0))), (1, .inl ([(0, 1)], 0)), (2, .inl ([(1, 1)], 0))], [], [(0, 0, ([], 3), .inr (some (64, 64))), (10, 10, ([], 1), .inl ([(2, 1)], 0)), (10, 10, ([], 2), .inl ([(3, 1)], 0))]) = true := by decide +kernel
theorem dNX12_paint_8 : decode cX12_paint 8 = .ok (.invokevirtual 219, 3) := by decide +kernel
set_option maxRecDepth 100000 in
set_option maxHeartbeats 4000000 in
theorem kn_X12_paint (l : Launch) (D : va_G) (k : Nat → ClassId) (B0 : Nat) (ad : Nat → Nat) (al sw : Nat) {Sg : Nat → Option Nat} {ws : va_W} {th tw nm : Nat → Nat} (sz : Nat) (hone : ∀ a g, Sg a = some g → g < 64 → a = th g) (hsing : ∀ g, g < 37 → g < 64 → Sg (th g) = some g) (ht : zf_typ Sg k zGT ws) {nsv k0 k1 : List (List Int32)} {f9 s9 : Nat} (C : nu_C Sg th tw nm ws nsv k0 k1 f9 s9) (a1 a2 : Int32) :
    Met l yX12_paint (zw yX12_paint cX12_paint 3 (some .int)) ({ frames := 4, cells := 0, slots := 0, locals := 123 }) (va_Pc [.ref (th 0), .int a1, .int a2] (g_pr D k (zEx B0 ad al sw Sg ws) sz ws)) (zf_Q (fun _ t => nu_Q D k Sg th tw nm nsv k0 k1 (va_A ws sz) t) (va_A ws sz)) 0 0 (va_A ws sz) := by
  have hEx := zEx_ok B0 ad al sw
  refine zp_open (Qp := fun A _ t => nu_Q D k Sg th tw nm nsv k0 k1 A t) (by decide) rfl hEx (Nat.le_of_ble_eq_true rfl) ?_
  intro p e s m below meth c A ls S hr hlocks hK hE hAB hA hP hD hS hl
  have hx := S.1
  have hb := S.2.1
  have g0 : Sg (th 0) = some 0 := hsing 0 (by decide) (by decide)
  have g10 : Sg (th 10) = some 10 := hsing 10 (by decide) (by decide)
  obtain ⟨T, N0, N2, N3, f8, s8, d1, d2, R⟩ := id C
  have t0 := (T.1 0 (by decide)).1
  refine zp_run (M := zm_paint1) (cuts := [zu_paint1]) (σ := ([((-2147483648), 2147483647), ((-2147483648), 2147483647), (0, 8), (0, 8)], [], 65, [(0, .inr (some (0, 0))), (1, .inl ([(0, 1)], 0)), (2, .inl ([(1, 1)], 0))], [], [(0, 0, ([], 3), .inr (some (64, 64))), (10, 10, ([], 1), .inl ([(2, 1)], 0)), (10, 10, ([], 2), .inl ([(3, 1)], 0))])) (ρ := nu_ra f9 s9 [a1, a2]) (θ := zf_upr th 64 (tw 0)) hEx (by decide +kernel) (zR_X12_paint l D k B0 ad al sw) S hK hE hAB hA (fun a g h1 h2 => by rw [nu_up h2]; exact hone a g h1 h2) (fun g h1 h2 => by rw [nu_up h2]; exact hsing g h1 h2) rfl (by decide +kernel) kr_paint1 hP hD hS ht ⟨nu_raE f8 s8 [a1, a2], fun g hg => (by cases hg), ⟨_, hl, ⟨⟨rfl, ⟨rfl, g0⟩⟩, ⟨rfl, ⟨a1, rfl, (zf_v_sym (nu_ra f9 s9 [a1, a2]) 0).symm⟩⟩, ⟨rfl, ⟨a2, rfl, (zf_v_sym (nu_ra f9 s9 [a1, a2]) 1).symm⟩⟩, trivial⟩⟩, trivial, nu_tf hsing (nu_up (by decide)) nu_u64 T (nu_fs (n := 2) (hs := []) hsing (nu_up (by decide)) d1 d2 f8 s8 rfl rfl zf_an)⟩ (zf_ac (fun ρ' θ' w1 H1 locs1 ls1 st1 hρ hθ hP1 hD1 hS1 ht1 hfr hsat => ?_) zf_an) (fun H locs w3 ls pc i v hP3 hD3 hS3 hpost hdg hrv => ?_)
  · obtain ⟨hE1, hF1, ⟨lv, hlv, hlv2⟩, hst, hh⟩ := hsat
    obtain ⟨v1, st2, rfl, ⟨rfl, b1⟩, hst_1⟩ := zf_f2_c hst
    obtain ⟨v2, st3, rfl, ⟨rfl, b2⟩, hst_2⟩ := zf_f2_c hst_1
    cases zf_nil hst_2
    have e10 : θ' 10 = th 10 := (hθ 10 (by decide)).trans (nu_up (by decide))
    have e64 : θ' 64 = tw 0 := (hθ 64 (by decide)).trans nu_u64
    have C1 := nu_Cf (by decide) hfr hsing C
    have hM := kn_X5_hold l D k B0 ad al sw H1.size hone hsing ht1 C1.1 f8 C1.2.2.2.2.2.2.1
    have e64v : Value.ref (θ' 64) = .ref (tw 0) := by rw [e64]
    have e10v : Value.ref (θ' 10) = .ref (th 10) := by rw [e10]
    show W p l e _ s m _ below meth c H1 locs1 0 0 _ (F0 m 8 ls1 [.ref (θ' 64), .ref (θ' 10)])
    rw [e64v, e10v]
    refine zp_call (cells := 0) (slots := 0) (As := [.ref (tw 0)]) (b := th 10) (g := 10) (ci := 3) (rest := []) S hEx hE hAB hA hK hM (cwV 1 S.2.2.2.2 (zg_V zw_733 zw_734 zw_735 zw_106 zw_736) rfl rfl rfl (by decide +kernel) ⟨(Nat.le_of_ble_eq_true rfl), (Nat.le_of_ble_eq_true rfl)⟩) ⟨Nat.le_of_ble_eq_true rfl, Nat.le_of_ble_eq_true rfl⟩ rfl rfl (by decide +kernel) g10 rfl hP1 hD1 hS1 ht1 hlv.1 (Nat.zero_le _) dNX12_paint_8 (fun v t H2 locs2 ht2 hB hDD hS2 => ?_)
    obtain ⟨rfl, w2, u1, u2, u3, u4, u5⟩ := hB
    rw [ht2] at u1
    obtain ⟨C2, c1, c2⟩ := nu_hold hsing C1 u4 u5
    refine zp_run (M := zm_paint2) (σ := ([((-2147483648), 2147483647), ((-2147483648), 2147483647), (0, 8), (0, 8)], [], 65, [(0, .inr (some (0, 0))), (1, .inl ([(0, 1)], 0)), (2, .inl ([(1, 1)], 0))], [], [(0, 0, ([], 3), .inr (some (64, 64))), (10, 10, ([], 1), .inl ([(2, 1)], 0)), (10, 10, ([], 2), .inl ([(3, 1)], 0))])) (ρ := ρ') (θ := θ') hEx (by decide +kernel) (zR_X12_paint l D k B0 ad al sw) S hK hE hAB hA (fun a g h1 h2 => by rw [hθ g (Nat.lt_trans h2 (by decide)), nu_up h2]; exact hone a g h1 h2) (fun g h1 h2 => by rw [hθ g (Nat.lt_trans h2 (by decide)), nu_up h2]; exact hsing g h1 h2) rfl (by decide +kernel) kr_paint2 u1 (hDD _ u1 u2) hS2 u3 ⟨hE1, hF1, ⟨lv, hlv, hlv2⟩, trivial, nu_hk (eff := zm_X10_copy.2.1) (by decide) u4 hh⟩ zf_an (fun H locs w3 ls pc i v hP3 hD3 hS3 hpost hdg hrv => ?_)
    obtain ⟨rfl, v, rfl⟩ := zt_ri (by decide +kernel) hpost hrv
    refine W.iret hx hb hr (fun t ht' hW => ⟨⟨_, rfl, w3, by rw [ht']; exact hP3, hD3, hpost.2.1, nu_fin (n := 2) (by decide +kernel) (by decide) (by decide) (by decide) hpost e10 (hρ 2 (by decide)) (hρ 3 (by decide)) hsing C2⟩, hS3.F ht'⟩) hS3.2.2 hdg hlocks
  · obtain ⟨rfl, v, rfl⟩ := zt_ri (by decide +kernel) hpost hrv
    exact W.iret hx hb hr (fun t ht' hW => ⟨⟨_, rfl, w3, by rw [ht']; exact hP3, hD3, hpost.2.1, f9, s9, nu_Cf (by decide) hpost.2.2 hsing C⟩, hS3.F ht'⟩) hS3.2.2 hdg hlocks
set_option maxRecDepth 100000 in
set_option maxHeartbeats 4000000 in
theorem zR_X12_taxes (l : Launch) (D : va_G) (k : Nat → ClassId) (B0 : Nat) (ad : Nat → Nat) (al sw : Nat) : zf_Rl l yX12_taxes (zw yX12_taxes cX12_taxes 1 (some .int)) ({ frames := 4, cells := 0, slots := 0, locals := 123 }) cX12_taxes 1 D k zGT 37 B0 [zm_X5_hold, zm_X10_raiseTaxes, zm_X12_keepIfDoneN] [(37, 10, 3, .inl (0, 0)), (64, 10, 8, .inl (0, 0))] [] zn_X12_taxes (zEx B0 ad al sw) := by
  have hEx := zEx_ok B0 ad al sw
  intro p e s m args below meth c Q Sg w0 A θ0 S hK hE hAB hA hone hsing
  refine ⟨?_, ?_, ?_⟩
  · exact zf_ac ((fun H locs ws a q0 fs v rest pc ls hP he hv hdg kk => va_get (D := D) (ci := 10) (C := RX12) (T := TX12) (N := 18) (own := RX12) S.1 S.2.1 S.2.2.2.2 (zg_in inW_X12) S.2.2.2.1 hK hP q0 he rfl 3 (by decide) (S.2.2.2.2 (.fieldLink RX12 37 "RungMoney" "town" "LRungMoney$Town;") (List.mem_cons_of_mem _ zw_402)) (fun _ h9 => h9) hv hdg kk)) (zf_ac ((fun H locs ws a q0 fs v rest pc ls hP he hv hdg kk => va_get (D := D) (ci := 10) (C := RX12) (T := TX12) (N := 18) (own := RX12) S.1 S.2.1 S.2.2.2.2 (zg_in inW_X12) S.2.2.2.1 hK hP q0 he rfl 8 (by decide) (S.2.2.2.2 (.fieldLink RX12 64 "RungMoney" "past" "LRungMoney$Past;") (List.mem_cons_of_mem _ zw_407)) (fun _ h9 => h9) hv hdg kk)) zf_an)
  · exact zf_an
  · exact zf_crl (xs := [(.invokevirtual 219, 3, 0), (.invokevirtual 247, 3, 1), (.invokevirtual 226, 3, 2)]) (by decide +kernel) (zf_ac (zf_crV S hEx hE hAB hA hK hone hsing (kc_X5_hold l D k B0 ad al sw) (cwV 1 S.2.2.2.2 (zg_V zw_733 zw_734 zw_735 zw_106 zw_736) rfl rfl rfl (by decide +kernel) ⟨(Nat.le_of_ble_eq_true rfl), (Nat.le_of_ble_eq_true rfl)⟩) ⟨(Nat.le_of_ble_eq_true rfl), (Nat.le_of_ble_eq_true rfl)⟩ 3 rfl rfl (ar := [.inr (some (64, 64))]) rfl rfl (by decide +kernel)) (zf_ac (zf_crV S hEx hE hAB hA hK hone hsing (kc_X10_raiseTaxes l D k B0 ad al sw) (cwV 0 S.2.2.2.2 (zg_V zw_837 zw_838 zw_839 zw_99 zw_840) rfl rfl rfl (by decide +kernel) ⟨(Nat.le_of_ble_eq_true rfl), (Nat.le_of_ble_eq_true rfl)⟩) ⟨(Nat.le_of_ble_eq_true rfl), (Nat.le_of_ble_eq_true rfl)⟩ 8 rfl rfl (ar := []) rfl rfl (by decide +kernel)) (zf_ac (zf_crV S hEx hE hAB hA hK hone hsing (kc_X12_keepIfDoneN l D k B0 ad al sw) (cwV 1 S.2.2.2.2 (zg_V zw_751 zw_753 zw_8 zw_95 zw_754) rfl rfl rfl (by decide +kernel) ⟨(Nat.le_of_ble_eq_true rfl), (Nat.le_of_ble_eq_true rfl)⟩) ⟨(Nat.le_of_ble_eq_true rfl), (Nat.le_of_ble_eq_true rfl)⟩ 10 rfl rfl (ar := [.inl ([(0, 1)], 0)]) rfl rfl (by decide +kernel)) zf_an)))
def zm_taxes1 : zf_M := (([(0, 8), (0, 8)], [], 65, [], [], []), [], [])
def zu_taxes1 : zf_U := (8, ([(0, 8), (0, 8)], [], 65, [(0, .inr (some (0, 0)))], [.inr (some (64, 64)), .inr (some (10, 10))], [(0, 0, ([], 3), .inr (some (64, 64))), (10, 10, ([], 1), .inl ([(0, 1)], 0)), (10, 10, ([], 2), .inl ([(1, 1)], 0))]), ([], 0), 0)
set_option maxRecDepth 100000 in
set_option maxHeartbeats 4000000 in
theorem kr_taxes1 : zf_run 2 65 37 1 zGT zm_taxes1 [zm_X5_hold, zm_X10_raiseTaxes, zm_X12_keepIfDoneN] [(37, 10, 3, .inl (0, 0)), (64, 10, 8, .inl (0, 0))] [] zn_X12_taxes [zu_taxes1] none 3000 0 ([(0, 8), (0, 8)], [], 65, [(0, .inr (some (0, 0)))], [], [(0, 0, ([], 3), .inr (some (64, 64))), (10, 10, ([], 1), .inl ([(0, 1)], 0)), (10, 10, ([], 2), .inl ([(1, 1)], 0))]) = true := by decide +kernel
def zm_taxes2 : zf_M := (([(0, 8), (0, 8)], [], 65, [], [], []), [(66, ([], 0), ([], 0)), (67, ([], 0), ([], 15)), (68, ([], 0), ([], 15)), (69, ([], 0), ([], 15)), (70, ([], 0), ([], 15)), (71, ([], 0), ([], 15)), (73, ([], 0), ([], 35)), (75, ([], 0), ([], 5)), (64, ([], 5), ([], 8)), (10, ([], 1), ([], 2))], [(some (.inl ([(2, 1)], 0)), ([(0, 7), (0, 7), ((-2147483648), 2147483647)], [], 65, [], [], [(10, 10, ([], 1), .inl ([(0, 1)], 1)), (10, 10, ([], 2), .inl ([(1, 1)], 1))])), (some (.inl ([(2, 1)], 0)), ([(0, 7), (7, 8), ((-2147483648), 2147483647)], [], 65, [], [], [(10, 10, ([], 1), .inl ([(0, 1)], 1)), (10, 10, ([], 2), .inl ([], 8))])), (some (.inl ([(2, 1)], 0)), ([(8, 8), (0, 7), ((-2147483648), 2147483647)], [], 65, [], [], [(10, 10, ([], 1), .inl ([], 0)), (10, 10, ([], 2), .inl ([(1, 1)], 1))])), (some (.inl ([(2, 1)], 0)), ([(8, 8), (7, 8), ((-2147483648), 2147483647)], [], 65, [], [], [(10, 10, ([], 1), .inl ([], 0)), (10, 10, ([], 2), .inl ([], 8))])), (some (.inl ([(2, 1)], 0)), ([(0, 8), (0, 8), ((-2147483648), 2147483647)], [], 65, [], [], [(10, 10, ([], 1), .inl ([(0, 1)], 0)), (10, 10, ([], 2), .inl ([(1, 1)], 0))]))])
set_option maxRecDepth 100000 in
set_option maxHeartbeats 4000000 in
theorem kr_taxes2 : zf_run 2 65 37 1 zGT zm_taxes2 [zm_X5_hold, zm_X10_raiseTaxes, zm_X12_keepIfDoneN] [(37, 10, 3, .inl (0, 0)), (64, 10, 8, .inl (0, 0))] [] zn_X12_taxes [] none 3000 11 ([(0, 8), (0, 8)], [], 65, [(0, .inr (some (0, 0)))], [], [(0, 0, ([], 3), .inr (some (64, 64))), (10, 10, ([], 1), .inl ([(0, 1)], 0)), (10, 10, ([], 2), .inl ([(1, 1)], 0))]) = true := by decide +kernel
theorem dNX12_taxes_8 : decode cX12_taxes 8 = .ok (.invokevirtual 219, 3) := by decide +kernel
set_option maxRecDepth 100000 in
set_option maxHeartbeats 4000000 in
theorem kn_X12_taxes (l : Launch) (D : va_G) (k : Nat → ClassId) (B0 : Nat) (ad : Nat → Nat) (al sw : Nat) {Sg : Nat → Option Nat} {ws : va_W} {th tw nm : Nat → Nat} (sz : Nat) (hone : ∀ a g, Sg a = some g → g < 64 → a = th g) (hsing : ∀ g, g < 37 → g < 64 → Sg (th g) = some g) (ht : zf_typ Sg k zGT ws) {nsv k0 k1 : List (List Int32)} {f9 s9 : Nat} (C : nu_C Sg th tw nm ws nsv k0 k1 f9 s9) :
    Met l yX12_taxes (zw yX12_taxes cX12_taxes 1 (some .int)) ({ frames := 4, cells := 0, slots := 0, locals := 123 }) (va_Pc [.ref (th 0)] (g_pr D k (zEx B0 ad al sw Sg ws) sz ws)) (zf_Q (fun _ t => nu_Q D k Sg th tw nm nsv k0 k1 (va_A ws sz) t) (va_A ws sz)) 0 0 (va_A ws sz) := by
  have hEx := zEx_ok B0 ad al sw
  refine zp_open (Qp := fun A _ t => nu_Q D k Sg th tw nm nsv k0 k1 A t) (by decide) rfl hEx (Nat.le_of_ble_eq_true rfl) ?_
  intro p e s m below meth c A ls S hr hlocks hK hE hAB hA hP hD hS hl
  have hx := S.1
  have hb := S.2.1
  have g0 : Sg (th 0) = some 0 := hsing 0 (by decide) (by decide)
  have g10 : Sg (th 10) = some 10 := hsing 10 (by decide) (by decide)
  obtain ⟨T, N0, N2, N3, f8, s8, d1, d2, R⟩ := id C
  have t0 := (T.1 0 (by decide)).1
  refine zp_run (M := zm_taxes1) (cuts := [zu_taxes1]) (σ := ([(0, 8), (0, 8)], [], 65, [(0, .inr (some (0, 0)))], [], [(0, 0, ([], 3), .inr (some (64, 64))), (10, 10, ([], 1), .inl ([(0, 1)], 0)), (10, 10, ([], 2), .inl ([(1, 1)], 0))])) (ρ := nu_ra f9 s9 []) (θ := zf_upr th 64 (tw 0)) hEx (by decide +kernel) (zR_X12_taxes l D k B0 ad al sw) S hK hE hAB hA (fun a g h1 h2 => by rw [nu_up h2]; exact hone a g h1 h2) (fun g h1 h2 => by rw [nu_up h2]; exact hsing g h1 h2) rfl (by decide +kernel) kr_taxes1 hP hD hS ht ⟨nu_raE f8 s8 [], fun g hg => (by cases hg), ⟨_, hl, ⟨⟨rfl, ⟨rfl, g0⟩⟩, trivial⟩⟩, trivial, nu_tf hsing (nu_up (by decide)) nu_u64 T (nu_fs (n := 0) (hs := []) hsing (nu_up (by decide)) d1 d2 f8 s8 rfl rfl zf_an)⟩ (zf_ac (fun ρ' θ' w1 H1 locs1 ls1 st1 hρ hθ hP1 hD1 hS1 ht1 hfr hsat => ?_) zf_an) (fun H locs w3 ls pc i v hP3 hD3 hS3 hpost hdg hrv => ?_)
  · obtain ⟨hE1, hF1, ⟨lv, hlv, hlv2⟩, hst, hh⟩ := hsat
    obtain ⟨v1, st2, rfl, ⟨rfl, b1⟩, hst_1⟩ := zf_f2_c hst
    obtain ⟨v2, st3, rfl, ⟨rfl, b2⟩, hst_2⟩ := zf_f2_c hst_1
    cases zf_nil hst_2
    have e10 : θ' 10 = th 10 := (hθ 10 (by decide)).trans (nu_up (by decide))
    have e64 : θ' 64 = tw 0 := (hθ 64 (by decide)).trans nu_u64
    have C1 := nu_Cf (by decide) hfr hsing C
    have hM := kn_X5_hold l D k B0 ad al sw H1.size hone hsing ht1 C1.1 f8 C1.2.2.2.2.2.2.1
    have e64v : Value.ref (θ' 64) = .ref (tw 0) := by rw [e64]
    have e10v : Value.ref (θ' 10) = .ref (th 10) := by rw [e10]
    show W p l e _ s m _ below meth c H1 locs1 0 0 _ (F0 m 8 ls1 [.ref (θ' 64), .ref (θ' 10)])
    rw [e64v, e10v]
    refine zp_call (cells := 0) (slots := 0) (As := [.ref (tw 0)]) (b := th 10) (g := 10) (ci := 3) (rest := []) S hEx hE hAB hA hK hM (cwV 1 S.2.2.2.2 (zg_V zw_733 zw_734 zw_735 zw_106 zw_736) rfl rfl rfl (by decide +kernel) ⟨(Nat.le_of_ble_eq_true rfl), (Nat.le_of_ble_eq_true rfl)⟩) ⟨Nat.le_of_ble_eq_true rfl, Nat.le_of_ble_eq_true rfl⟩ rfl rfl (by decide +kernel) g10 rfl hP1 hD1 hS1 ht1 hlv.1 (Nat.zero_le _) dNX12_taxes_8 (fun v t H2 locs2 ht2 hB hDD hS2 => ?_)
    obtain ⟨rfl, w2, u1, u2, u3, u4, u5⟩ := hB
    rw [ht2] at u1
    obtain ⟨C2, c1, c2⟩ := nu_hold hsing C1 u4 u5
    refine zp_run (M := zm_taxes2) (σ := ([(0, 8), (0, 8)], [], 65, [(0, .inr (some (0, 0)))], [], [(0, 0, ([], 3), .inr (some (64, 64))), (10, 10, ([], 1), .inl ([(0, 1)], 0)), (10, 10, ([], 2), .inl ([(1, 1)], 0))])) (ρ := ρ') (θ := θ') hEx (by decide +kernel) (zR_X12_taxes l D k B0 ad al sw) S hK hE hAB hA (fun a g h1 h2 => by rw [hθ g (Nat.lt_trans h2 (by decide)), nu_up h2]; exact hone a g h1 h2) (fun g h1 h2 => by rw [hθ g (Nat.lt_trans h2 (by decide)), nu_up h2]; exact hsing g h1 h2) rfl (by decide +kernel) kr_taxes2 u1 (hDD _ u1 u2) hS2 u3 ⟨hE1, hF1, ⟨lv, hlv, hlv2⟩, trivial, nu_hk (eff := zm_X10_copy.2.1) (by decide) u4 hh⟩ zf_an (fun H locs w3 ls pc i v hP3 hD3 hS3 hpost hdg hrv => ?_)
    obtain ⟨rfl, v, rfl⟩ := zt_ri (by decide +kernel) hpost hrv
    refine W.iret hx hb hr (fun t ht' hW => ⟨⟨_, rfl, w3, by rw [ht']; exact hP3, hD3, hpost.2.1, nu_fin (n := 0) (by decide +kernel) (by decide) (by decide) (by decide) hpost e10 (hρ 0 (by decide)) (hρ 1 (by decide)) hsing C2⟩, hS3.F ht'⟩) hS3.2.2 hdg hlocks
  · obtain ⟨rfl, v, rfl⟩ := zt_ri (by decide +kernel) hpost hrv
    exact W.iret hx hb hr (fun t ht' hW => ⟨⟨_, rfl, w3, by rw [ht']; exact hP3, hD3, hpost.2.1, f9, s9, nu_Cf (by decide) hpost.2.2 hsing C⟩, hS3.F ht'⟩) hS3.2.2 hdg hlocks
set_option maxRecDepth 100000 in
set_option maxHeartbeats 4000000 in
theorem zR_X12_winter (l : Launch) (D : va_G) (k : Nat → ClassId) (B0 : Nat) (ad : Nat → Nat) (al sw : Nat) : zf_Rl l yX12_winter (zw yX12_winter cX12_winter 2 (some .int)) ({ frames := 4, cells := 0, slots := 0, locals := 123 }) cX12_winter 2 D k zGT 37 B0 [zm_X5_hold, zm_X10_passWinter, zm_X12_keepIfDoneN] [(37, 10, 3, .inl (0, 0)), (64, 10, 8, .inl (0, 0))] [] zn_X12_winter (zEx B0 ad al sw) := by
  have hEx := zEx_ok B0 ad al sw
  intro p e s m args below meth c Q Sg w0 A θ0 S hK hE hAB hA hone hsing
  refine ⟨?_, ?_, ?_⟩
  · exact zf_ac ((fun H locs ws a q0 fs v rest pc ls hP he hv hdg kk => va_get (D := D) (ci := 10) (C := RX12) (T := TX12) (N := 18) (own := RX12) S.1 S.2.1 S.2.2.2.2 (zg_in inW_X12) S.2.2.2.1 hK hP q0 he rfl 3 (by decide) (S.2.2.2.2 (.fieldLink RX12 37 "RungMoney" "town" "LRungMoney$Town;") (List.mem_cons_of_mem _ zw_402)) (fun _ h9 => h9) hv hdg kk)) (zf_ac ((fun H locs ws a q0 fs v rest pc ls hP he hv hdg kk => va_get (D := D) (ci := 10) (C := RX12) (T := TX12) (N := 18) (own := RX12) S.1 S.2.1 S.2.2.2.2 (zg_in inW_X12) S.2.2.2.1 hK hP q0 he rfl 8 (by decide) (S.2.2.2.2 (.fieldLink RX12 64 "RungMoney" "past" "LRungMoney$Past;") (List.mem_cons_of_mem _ zw_407)) (fun _ h9 => h9) hv hdg kk)) zf_an)
  · exact zf_an
  · exact zf_crl (xs := [(.invokevirtual 219, 3, 0), (.invokevirtual 250, 3, 1), (.invokevirtual 226, 3, 2)]) (by decide +kernel) (zf_ac (zf_crV S hEx hE hAB hA hK hone hsing (kc_X5_hold l D k B0 ad al sw) (cwV 1 S.2.2.2.2 (zg_V zw_733 zw_734 zw_735 zw_106 zw_736) rfl rfl rfl (by decide +kernel) ⟨(Nat.le_of_ble_eq_true rfl), (Nat.le_of_ble_eq_true rfl)⟩) ⟨(Nat.le_of_ble_eq_true rfl), (Nat.le_of_ble_eq_true rfl)⟩ 3 rfl rfl (ar := [.inr (some (64, 64))]) rfl rfl (by decide +kernel)) (zf_ac (zf_crV S hEx hE hAB hA hK hone hsing (kc_X10_passWinter l D k B0 ad al sw) (cwV 1 S.2.2.2.2 (zg_V zw_849 zw_850 zw_851 zw_99 zw_852) rfl rfl rfl (by decide +kernel) ⟨(Nat.le_of_ble_eq_true rfl), (Nat.le_of_ble_eq_true rfl)⟩) ⟨(Nat.le_of_ble_eq_true rfl), (Nat.le_of_ble_eq_true rfl)⟩ 8 rfl rfl (ar := [.inl ([(0, 1)], 0)]) rfl rfl (by decide +kernel)) (zf_ac (zf_crV S hEx hE hAB hA hK hone hsing (kc_X12_keepIfDoneN l D k B0 ad al sw) (cwV 1 S.2.2.2.2 (zg_V zw_751 zw_753 zw_8 zw_95 zw_754) rfl rfl rfl (by decide +kernel) ⟨(Nat.le_of_ble_eq_true rfl), (Nat.le_of_ble_eq_true rfl)⟩) ⟨(Nat.le_of_ble_eq_true rfl), (Nat.le_of_ble_eq_true rfl)⟩ 10 rfl rfl (ar := [.inl ([(0, 1)], 0)]) rfl rfl (by decide +kernel)) zf_an)))
def zm_winter1 : zf_M := (([((-2147483648), 2147483647), (0, 8), (0, 8)], [], 65, [], [], []), [], [])
def zu_winter1 : zf_U := (8, ([((-2147483648), 2147483647), (0, 8), (0, 8)], [], 65, [(0, .inr (some (0, 0))), (1, .inl ([(0, 1)], 0))], [.inr (some (64, 64)), .inr (some (10, 10))], [(0, 0, ([], 3), .inr (some (64, 64))), (10, 10, ([], 1), .inl ([(1, 1)], 0)), (10, 10, ([], 2), .inl ([(2, 1)], 0))]), ([], 0), 0)
set_option maxRecDepth 100000 in
set_option maxHeartbeats 4000000 in
theorem kr_winter1 : zf_run 3 65 37 2 zGT zm_winter1 [zm_X5_hold, zm_X10_passWinter, zm_X12_keepIfDoneN] [(37, 10, 3, .inl (0, 0)), (64, 10, 8, .inl (0, 0))] [] zn_X12_winter [zu_winter1] none 3000 0 ([((-2147483648), 2147483647), (0, 8), (0, 8)], [], 65, [(0, .inr (some (0, 0))), (1, .inl ([(0, 1)], 0))], [], [(0, 0, ([], 3), .inr (some (64, 64))), (10, 10, ([], 1), .inl ([(1, 1)], 0)), (10, 10, ([], 2), .inl ([(2, 1)], 0))]) = true := by decide +kernel
def zm_winter2 : zf_M := (([((-2147483648), 2147483647), (0, 8), (0, 8)], [], 65, [], [], []), [(66, ([], 0), ([], 0)), (67, ([], 0), ([], 15)), (68, ([], 0), ([], 15)), (69, ([], 0), ([], 15)), (70, ([], 0), ([], 15)), (71, ([], 0), ([], 15)), (73, ([], 0), ([], 35)), (75, ([], 0), ([], 5)), (64, ([], 5), ([], 8)), (10, ([], 1), ([], 2))], [(some (.inl ([(3, 1)], 0)), ([((-2147483648), 2147483647), (0, 7), (0, 7), ((-2147483648), 2147483647)], [], 65, [], [], [(10, 10, ([], 1), .inl ([(1, 1)], 1)), (10, 10, ([], 2), .inl ([(2, 1)], 1))])), (some (.inl ([(3, 1)], 0)), ([((-2147483648), 2147483647), (0, 7), (7, 8), ((-2147483648), 2147483647)], [], 65, [], [], [(10, 10, ([], 1), .inl ([(1, 1)], 1)), (10, 10, ([], 2), .inl ([], 8))])), (some (.inl ([(3, 1)], 0)), ([((-2147483648), 2147483647), (8, 8), (0, 7), ((-2147483648), 2147483647)], [], 65, [], [], [(10, 10, ([], 1), .inl ([], 0)), (10, 10, ([], 2), .inl ([(2, 1)], 1))])), (some (.inl ([(3, 1)], 0)), ([((-2147483648), 2147483647), (8, 8), (7, 8), ((-2147483648), 2147483647)], [], 65, [], [], [(10, 10, ([], 1), .inl ([], 0)), (10, 10, ([], 2), .inl ([], 8))])), (some (.inl ([(3, 1)], 0)), ([((-2147483648), 2147483647), (0, 8), (0, 8), ((-2147483648), 2147483647)], [], 65, [], [], [(10, 10, ([], 1), .inl ([(1, 1)], 0)), (10, 10, ([], 2), .inl ([(2, 1)], 0))]))])
set_option maxRecDepth 100000 in
set_option maxHeartbeats 4000000 in
theorem kr_winter2 : zf_run 3 65 37 2 zGT zm_winter2 [zm_X5_hold, zm_X10_passWinter, zm_X12_keepIfDoneN] [(37, 10, 3, .inl (0, 0)), (64, 10, 8, .inl (0, 0))] [] zn_X12_winter [] none 3000 11 ([((-2147483648), 2147483647), (0, 8), (0, 8)], [], 65, [(0, .inr (some (0, 0))), (1, .inl ([(0, 1)], 0))], [], [(0, 0, ([], 3), .inr (some (64, 64))), (10, 10, ([], 1), .inl ([(1, 1)], 0)), (10, 10, ([], 2), .inl ([(2, 1)], 0))]) = true := by decide +kernel
theorem dNX12_winter_8 : decode cX12_winter 8 = .ok (.invokevirtual 219, 3) := by decide +kernel
set_option maxRecDepth 100000 in
set_option maxHeartbeats 4000000 in
theorem kn_X12_winter (l : Launch) (D : va_G) (k : Nat → ClassId) (B0 : Nat) (ad : Nat → Nat) (al sw : Nat) {Sg : Nat → Option Nat} {ws : va_W} {th tw nm : Nat → Nat} (sz : Nat) (hone : ∀ a g, Sg a = some g → g < 64 → a = th g) (hsing : ∀ g, g < 37 → g < 64 → Sg (th g) = some g) (ht : zf_typ Sg k zGT ws) {nsv k0 k1 : List (List Int32)} {f9 s9 : Nat} (C : nu_C Sg th tw nm ws nsv k0 k1 f9 s9) (a1 : Int32) :
    Met l yX12_winter (zw yX12_winter cX12_winter 2 (some .int)) ({ frames := 4, cells := 0, slots := 0, locals := 123 }) (va_Pc [.ref (th 0), .int a1] (g_pr D k (zEx B0 ad al sw Sg ws) sz ws)) (zf_Q (fun _ t => nu_Q D k Sg th tw nm nsv k0 k1 (va_A ws sz) t) (va_A ws sz)) 0 0 (va_A ws sz) := by
  have hEx := zEx_ok B0 ad al sw
  refine zp_open (Qp := fun A _ t => nu_Q D k Sg th tw nm nsv k0 k1 A t) (by decide) rfl hEx (Nat.le_of_ble_eq_true rfl) ?_
  intro p e s m below meth c A ls S hr hlocks hK hE hAB hA hP hD hS hl
  have hx := S.1
  have hb := S.2.1
  have g0 : Sg (th 0) = some 0 := hsing 0 (by decide) (by decide)
  have g10 : Sg (th 10) = some 10 := hsing 10 (by decide) (by decide)
  obtain ⟨T, N0, N2, N3, f8, s8, d1, d2, R⟩ := id C
  have t0 := (T.1 0 (by decide)).1
  refine zp_run (M := zm_winter1) (cuts := [zu_winter1]) (σ := ([((-2147483648), 2147483647), (0, 8), (0, 8)], [], 65, [(0, .inr (some (0, 0))), (1, .inl ([(0, 1)], 0))], [], [(0, 0, ([], 3), .inr (some (64, 64))), (10, 10, ([], 1), .inl ([(1, 1)], 0)), (10, 10, ([], 2), .inl ([(2, 1)], 0))])) (ρ := nu_ra f9 s9 [a1]) (θ := zf_upr th 64 (tw 0)) hEx (by decide +kernel) (zR_X12_winter l D k B0 ad al sw) S hK hE hAB hA (fun a g h1 h2 => by rw [nu_up h2]; exact hone a g h1 h2) (fun g h1 h2 => by rw [nu_up h2]; exact hsing g h1 h2) rfl (by decide +kernel) kr_winter1 hP hD hS ht ⟨nu_raE f8 s8 [a1], fun g hg => (by cases hg), ⟨_, hl, ⟨⟨rfl, ⟨rfl, g0⟩⟩, ⟨rfl, ⟨a1, rfl, (zf_v_sym (nu_ra f9 s9 [a1]) 0).symm⟩⟩, trivial⟩⟩, trivial, nu_tf hsing (nu_up (by decide)) nu_u64 T (nu_fs (n := 1) (hs := []) hsing (nu_up (by decide)) d1 d2 f8 s8 rfl rfl zf_an)⟩ (zf_ac (fun ρ' θ' w1 H1 locs1 ls1 st1 hρ hθ hP1 hD1 hS1 ht1 hfr hsat => ?_) zf_an) (fun H locs w3 ls pc i v hP3 hD3 hS3 hpost hdg hrv => ?_)
  · obtain ⟨hE1, hF1, ⟨lv, hlv, hlv2⟩, hst, hh⟩ := hsat
    obtain ⟨v1, st2, rfl, ⟨rfl, b1⟩, hst_1⟩ := zf_f2_c hst
    obtain ⟨v2, st3, rfl, ⟨rfl, b2⟩, hst_2⟩ := zf_f2_c hst_1
    cases zf_nil hst_2
    have e10 : θ' 10 = th 10 := (hθ 10 (by decide)).trans (nu_up (by decide))
    have e64 : θ' 64 = tw 0 := (hθ 64 (by decide)).trans nu_u64
    have C1 := nu_Cf (by decide) hfr hsing C
    have hM := kn_X5_hold l D k B0 ad al sw H1.size hone hsing ht1 C1.1 f8 C1.2.2.2.2.2.2.1
    have e64v : Value.ref (θ' 64) = .ref (tw 0) := by rw [e64]
    have e10v : Value.ref (θ' 10) = .ref (th 10) := by rw [e10]
    show W p l e _ s m _ below meth c H1 locs1 0 0 _ (F0 m 8 ls1 [.ref (θ' 64), .ref (θ' 10)])
    rw [e64v, e10v]
    refine zp_call (cells := 0) (slots := 0) (As := [.ref (tw 0)]) (b := th 10) (g := 10) (ci := 3) (rest := []) S hEx hE hAB hA hK hM (cwV 1 S.2.2.2.2 (zg_V zw_733 zw_734 zw_735 zw_106 zw_736) rfl rfl rfl (by decide +kernel) ⟨(Nat.le_of_ble_eq_true rfl), (Nat.le_of_ble_eq_true rfl)⟩) ⟨Nat.le_of_ble_eq_true rfl, Nat.le_of_ble_eq_true rfl⟩ rfl rfl (by decide +kernel) g10 rfl hP1 hD1 hS1 ht1 hlv.1 (Nat.zero_le _) dNX12_winter_8 (fun v t H2 locs2 ht2 hB hDD hS2 => ?_)
    obtain ⟨rfl, w2, u1, u2, u3, u4, u5⟩ := hB
    rw [ht2] at u1
    obtain ⟨C2, c1, c2⟩ := nu_hold hsing C1 u4 u5
    refine zp_run (M := zm_winter2) (σ := ([((-2147483648), 2147483647), (0, 8), (0, 8)], [], 65, [(0, .inr (some (0, 0))), (1, .inl ([(0, 1)], 0))], [], [(0, 0, ([], 3), .inr (some (64, 64))), (10, 10, ([], 1), .inl ([(1, 1)], 0)), (10, 10, ([], 2), .inl ([(2, 1)], 0))])) (ρ := ρ') (θ := θ') hEx (by decide +kernel) (zR_X12_winter l D k B0 ad al sw) S hK hE hAB hA (fun a g h1 h2 => by rw [hθ g (Nat.lt_trans h2 (by decide)), nu_up h2]; exact hone a g h1 h2) (fun g h1 h2 => by rw [hθ g (Nat.lt_trans h2 (by decide)), nu_up h2]; exact hsing g h1 h2) rfl (by decide +kernel) kr_winter2 u1 (hDD _ u1 u2) hS2 u3 ⟨hE1, hF1, ⟨lv, hlv, hlv2⟩, trivial, nu_hk (eff := zm_X10_copy.2.1) (by decide) u4 hh⟩ zf_an (fun H locs w3 ls pc i v hP3 hD3 hS3 hpost hdg hrv => ?_)
    obtain ⟨rfl, v, rfl⟩ := zt_ri (by decide +kernel) hpost hrv
    refine W.iret hx hb hr (fun t ht' hW => ⟨⟨_, rfl, w3, by rw [ht']; exact hP3, hD3, hpost.2.1, nu_fin (n := 1) (by decide +kernel) (by decide) (by decide) (by decide) hpost e10 (hρ 1 (by decide)) (hρ 2 (by decide)) hsing C2⟩, hS3.F ht'⟩) hS3.2.2 hdg hlocks
  · obtain ⟨rfl, v, rfl⟩ := zt_ri (by decide +kernel) hpost hrv
    exact W.iret hx hb hr (fun t ht' hW => ⟨⟨_, rfl, w3, by rw [ht']; exact hP3, hD3, hpost.2.1, f9, s9, nu_Cf (by decide) hpost.2.2 hsing C⟩, hS3.F ht'⟩) hS3.2.2 hdg hlocks
set_option maxRecDepth 100000 in
set_option maxHeartbeats 4000000 in
theorem zR_X12_drawn (l : Launch) (D : va_G) (k : Nat → ClassId) (B0 : Nat) (ad : Nat → Nat) (al sw : Nat) : zf_Rl l yX12_drawn (zw yX12_drawn cX12_drawn 4 (some .int)) ({ frames := 4, cells := 0, slots := 0, locals := 123 }) cX12_drawn 4 D k zGT 37 B0 [zm_X5_hold, zm_X10_passWinters, zm_X5_keepN] [(37, 10, 3, .inl (0, 0)), (64, 10, 8, .inl (0, 0))] [] zn_X12_drawn (zEx B0 ad al sw) := by
  have hEx := zEx_ok B0 ad al sw
  intro p e s m args below meth c Q Sg w0 A θ0 S hK hE hAB hA hone hsing
  refine ⟨?_, ?_, ?_⟩
  · exact zf_ac ((fun H locs ws a q0 fs v rest pc ls hP he hv hdg kk => va_get (D := D) (ci := 10) (C := RX12) (T := TX12) (N := 18) (own := RX12) S.1 S.2.1 S.2.2.2.2 (zg_in inW_X12) S.2.2.2.1 hK hP q0 he rfl 3 (by decide) (S.2.2.2.2 (.fieldLink RX12 37 "RungMoney" "town" "LRungMoney$Town;") (List.mem_cons_of_mem _ zw_402)) (fun _ h9 => h9) hv hdg kk)) (zf_ac ((fun H locs ws a q0 fs v rest pc ls hP he hv hdg kk => va_get (D := D) (ci := 10) (C := RX12) (T := TX12) (N := 18) (own := RX12) S.1 S.2.1 S.2.2.2.2 (zg_in inW_X12) S.2.2.2.1 hK hP q0 he rfl 8 (by decide) (S.2.2.2.2 (.fieldLink RX12 64 "RungMoney" "past" "LRungMoney$Past;") (List.mem_cons_of_mem _ zw_407)) (fun _ h9 => h9) hv hdg kk)) zf_an)
  · exact zf_an
  · exact zf_crl (xs := [(.invokevirtual 219, 3, 0), (.invokevirtual 263, 3, 1), (.invokevirtual 238, 3, 2)]) (by decide +kernel) (zf_ac (zf_crV S hEx hE hAB hA hK hone hsing (kc_X5_hold l D k B0 ad al sw) (cwV 1 S.2.2.2.2 (zg_V zw_733 zw_734 zw_735 zw_106 zw_736) rfl rfl rfl (by decide +kernel) ⟨(Nat.le_of_ble_eq_true rfl), (Nat.le_of_ble_eq_true rfl)⟩) ⟨(Nat.le_of_ble_eq_true rfl), (Nat.le_of_ble_eq_true rfl)⟩ 3 rfl rfl (ar := [.inr (some (64, 64))]) rfl rfl (by decide +kernel)) (zf_ac (zf_crV S hEx hE hAB hA hK hone hsing (kc_X10_passWinters l D k B0 ad al sw) (cwV 2 S.2.2.2.2 (zg_V zw_888 zw_854 zw_855 zw_99 zw_856) rfl rfl rfl (by decide +kernel) ⟨(Nat.le_of_ble_eq_true rfl), (Nat.le_of_ble_eq_true rfl)⟩) ⟨(Nat.le_of_ble_eq_true rfl), (Nat.le_of_ble_eq_true rfl)⟩ 8 rfl rfl (ar := [.inl ([(1, 1)], 0), .inl ([(0, 1)], 0)]) rfl rfl (by decide +kernel)) (zf_ac (zf_crV S hEx hE hAB hA hK hone hsing (kc_X5_keepN l D k B0 ad al sw) (cwV 0 S.2.2.2.2 (zg_V zw_755 zw_756 zw_757 zw_106 zw_758) rfl rfl rfl (by decide +kernel) ⟨(Nat.le_of_ble_eq_true rfl), (Nat.le_of_ble_eq_true rfl)⟩) ⟨(Nat.le_of_ble_eq_true rfl), (Nat.le_of_ble_eq_true rfl)⟩ 3 rfl rfl (ar := []) rfl rfl (by decide +kernel)) zf_an)))
def zm_drawn1 : zf_M := (([((-2147483648), 2147483647), ((-2147483648), 2147483647), (0, 8), (0, 8)], [], 65, [], [], []), [], [(some (.inl ([], (-1))), ([((-2147483648), 2147483647), ((-2147483648), 2147483647), (0, 8), (0, 8)], [], 65, [], [], []))])
def zu_drawn1 : zf_U := (21, ([(1, 30), ((-2147483648), 2147483647), (0, 8), (0, 8)], [], 65, [(0, .inr (some (0, 0))), (1, .inl ([(0, 1)], 0)), (2, .inl ([(1, 1)], 0))], [.inr (some (64, 64)), .inr (some (10, 10))], [(0, 0, ([], 3), .inr (some (64, 64))), (10, 10, ([], 1), .inl ([(2, 1)], 0)), (10, 10, ([], 2), .inl ([(3, 1)], 0))]), ([], 0), 0)
set_option maxRecDepth 100000 in
set_option maxHeartbeats 4000000 in
theorem kr_drawn1 : zf_run 4 65 37 4 zGT zm_drawn1 [zm_X5_hold, zm_X10_passWinters, zm_X5_keepN] [(37, 10, 3, .inl (0, 0)), (64, 10, 8, .inl (0, 0))] [] zn_X12_drawn [zu_drawn1] none 3000 0 ([((-2147483648), 2147483647), ((-2147483648), 2147483647), (0, 8), (0, 8)], [], 65, [(0, .inr (some (0, 0))), (1, .inl ([(0, 1)], 0)), (2, .inl ([(1, 1)], 0))], [], [(0, 0, ([], 3), .inr (some (64, 64))), (10, 10, ([], 1), .inl ([(2, 1)], 0)), (10, 10, ([], 2), .inl ([(3, 1)], 0))]) = true := by decide +kernel
def zm_drawn2 : zf_M := (([(1, 30), ((-2147483648), 2147483647), (0, 8), (0, 8)], [], 65, [], [], []), [(66, ([], 0), ([], 0)), (67, ([], 0), ([], 15)), (68, ([], 0), ([], 15)), (69, ([], 0), ([], 15)), (70, ([], 0), ([], 15)), (71, ([], 0), ([], 15)), (73, ([], 0), ([], 35)), (75, ([], 0), ([], 5)), (64, ([], 5), ([], 8)), (10, ([], 1), ([], 2))], [(some (.inl ([(4, 1)], 0)), ([(1, 30), ((-2147483648), 2147483647), (0, 7), (0, 7), ((-2147483648), 2147483647)], [], 65, [], [], [(10, 10, ([], 1), .inl ([(2, 1)], 1)), (10, 10, ([], 2), .inl ([(3, 1)], 1))])), (some (.inl ([(4, 1)], 0)), ([(1, 30), ((-2147483648), 2147483647), (0, 7), (7, 8), ((-2147483648), 2147483647)], [], 65, [], [], [(10, 10, ([], 1), .inl ([(2, 1)], 1)), (10, 10, ([], 2), .inl ([], 8))])), (some (.inl ([(4, 1)], 0)), ([(1, 30), ((-2147483648), 2147483647), (8, 8), (0, 7), ((-2147483648), 2147483647)], [], 65, [], [], [(10, 10, ([], 1), .inl ([], 0)), (10, 10, ([], 2), .inl ([(3, 1)], 1))])), (some (.inl ([(4, 1)], 0)), ([(1, 30), ((-2147483648), 2147483647), (8, 8), (7, 8), ((-2147483648), 2147483647)], [], 65, [], [], [(10, 10, ([], 1), .inl ([], 0)), (10, 10, ([], 2), .inl ([], 8))])), (some (.inl ([(4, 1)], 0)), ([(1, 30), ((-2147483648), 2147483647), (0, 8), (0, 8), ((-2147483648), 2147483647)], [], 65, [], [], [(10, 10, ([], 1), .inl ([(2, 1)], 0)), (10, 10, ([], 2), .inl ([(3, 1)], 0))]))])
set_option maxRecDepth 100000 in
set_option maxHeartbeats 4000000 in
theorem kr_drawn2 : zf_run 4 65 37 4 zGT zm_drawn2 [zm_X5_hold, zm_X10_passWinters, zm_X5_keepN] [(37, 10, 3, .inl (0, 0)), (64, 10, 8, .inl (0, 0))] [] zn_X12_drawn [] none 3000 24 ([(1, 30), ((-2147483648), 2147483647), (0, 8), (0, 8)], [], 65, [(0, .inr (some (0, 0))), (1, .inl ([(0, 1)], 0)), (2, .inl ([(1, 1)], 0))], [], [(0, 0, ([], 3), .inr (some (64, 64))), (10, 10, ([], 1), .inl ([(2, 1)], 0)), (10, 10, ([], 2), .inl ([(3, 1)], 0))]) = true := by decide +kernel
theorem dNX12_drawn_21 : decode cX12_drawn 21 = .ok (.invokevirtual 219, 3) := by decide +kernel
set_option maxRecDepth 100000 in
set_option maxHeartbeats 4000000 in
theorem kn_X12_drawn (l : Launch) (D : va_G) (k : Nat → ClassId) (B0 : Nat) (ad : Nat → Nat) (al sw : Nat) {Sg : Nat → Option Nat} {ws : va_W} {th tw nm : Nat → Nat} (sz : Nat) (hone : ∀ a g, Sg a = some g → g < 64 → a = th g) (hsing : ∀ g, g < 37 → g < 64 → Sg (th g) = some g) (ht : zf_typ Sg k zGT ws) {nsv k0 k1 : List (List Int32)} {f9 s9 : Nat} (C : nu_C Sg th tw nm ws nsv k0 k1 f9 s9) (a1 a2 : Int32) :
    Met l yX12_drawn (zw yX12_drawn cX12_drawn 4 (some .int)) ({ frames := 4, cells := 0, slots := 0, locals := 123 }) (va_Pc [.ref (th 0), .int a1, .int a2] (g_pr D k (zEx B0 ad al sw Sg ws) sz ws)) (zf_Q (fun _ t => nu_Q D k Sg th tw nm nsv k0 k1 (va_A ws sz) t) (va_A ws sz)) 0 0 (va_A ws sz) := by
  have hEx := zEx_ok B0 ad al sw
  refine zp_open (Qp := fun A _ t => nu_Q D k Sg th tw nm nsv k0 k1 A t) (by decide) rfl hEx (Nat.le_of_ble_eq_true rfl) ?_
  intro p e s m below meth c A ls S hr hlocks hK hE hAB hA hP hD hS hl
  have hx := S.1
  have hb := S.2.1
  have g0 : Sg (th 0) = some 0 := hsing 0 (by decide) (by decide)
  have g10 : Sg (th 10) = some 10 := hsing 10 (by decide) (by decide)
  obtain ⟨T, N0, N2, N3, f8, s8, d1, d2, R⟩ := id C
  have t0 := (T.1 0 (by decide)).1
  refine zp_run (M := zm_drawn1) (cuts := [zu_drawn1]) (σ := ([((-2147483648), 2147483647), ((-2147483648), 2147483647), (0, 8), (0, 8)], [], 65, [(0, .inr (some (0, 0))), (1, .inl ([(0, 1)], 0)), (2, .inl ([(1, 1)], 0))], [], [(0, 0, ([], 3), .inr (some (64, 64))), (10, 10, ([], 1), .inl ([(2, 1)], 0)), (10, 10, ([], 2), .inl ([(3, 1)], 0))])) (ρ := nu_ra f9 s9 [a1, a2]) (θ := zf_upr th 64 (tw 0)) hEx (by decide +kernel) (zR_X12_drawn l D k B0 ad al sw) S hK hE hAB hA (fun a g h1 h2 => by rw [nu_up h2]; exact hone a g h1 h2) (fun g h1 h2 => by rw [nu_up h2]; exact hsing g h1 h2) rfl (by decide +kernel) kr_drawn1 hP hD hS ht ⟨nu_raE f8 s8 [a1, a2], fun g hg => (by cases hg), ⟨_, hl, ⟨⟨rfl, ⟨rfl, g0⟩⟩, ⟨rfl, ⟨a1, rfl, (zf_v_sym (nu_ra f9 s9 [a1, a2]) 0).symm⟩⟩, ⟨rfl, ⟨a2, rfl, (zf_v_sym (nu_ra f9 s9 [a1, a2]) 1).symm⟩⟩, trivial⟩⟩, trivial, nu_tf hsing (nu_up (by decide)) nu_u64 T (nu_fs (n := 2) (hs := []) hsing (nu_up (by decide)) d1 d2 f8 s8 rfl rfl zf_an)⟩ (zf_ac (fun ρ' θ' w1 H1 locs1 ls1 st1 hρ hθ hP1 hD1 hS1 ht1 hfr hsat => ?_) zf_an) (fun H locs w3 ls pc i v hP3 hD3 hS3 hpost hdg hrv => ?_)
  · obtain ⟨hE1, hF1, ⟨lv, hlv, hlv2⟩, hst, hh⟩ := hsat
    obtain ⟨v1, st2, rfl, ⟨rfl, b1⟩, hst_1⟩ := zf_f2_c hst
    obtain ⟨v2, st3, rfl, ⟨rfl, b2⟩, hst_2⟩ := zf_f2_c hst_1
    cases zf_nil hst_2
    have e10 : θ' 10 = th 10 := (hθ 10 (by decide)).trans (nu_up (by decide))
    have e64 : θ' 64 = tw 0 := (hθ 64 (by decide)).trans nu_u64
    have C1 := nu_Cf (by decide) hfr hsing C
    have hM := kn_X5_hold l D k B0 ad al sw H1.size hone hsing ht1 C1.1 f8 C1.2.2.2.2.2.2.1
    have e64v : Value.ref (θ' 64) = .ref (tw 0) := by rw [e64]
    have e10v : Value.ref (θ' 10) = .ref (th 10) := by rw [e10]
    show W p l e _ s m _ below meth c H1 locs1 0 0 _ (F0 m 21 ls1 [.ref (θ' 64), .ref (θ' 10)])
    rw [e64v, e10v]
    refine zp_call (cells := 0) (slots := 0) (As := [.ref (tw 0)]) (b := th 10) (g := 10) (ci := 3) (rest := []) S hEx hE hAB hA hK hM (cwV 1 S.2.2.2.2 (zg_V zw_733 zw_734 zw_735 zw_106 zw_736) rfl rfl rfl (by decide +kernel) ⟨(Nat.le_of_ble_eq_true rfl), (Nat.le_of_ble_eq_true rfl)⟩) ⟨Nat.le_of_ble_eq_true rfl, Nat.le_of_ble_eq_true rfl⟩ rfl rfl (by decide +kernel) g10 rfl hP1 hD1 hS1 ht1 hlv.1 (Nat.zero_le _) dNX12_drawn_21 (fun v t H2 locs2 ht2 hB hDD hS2 => ?_)
    obtain ⟨rfl, w2, u1, u2, u3, u4, u5⟩ := hB
    rw [ht2] at u1
    obtain ⟨C2, c1, c2⟩ := nu_hold hsing C1 u4 u5
    refine zp_run (M := zm_drawn2) (σ := ([(1, 30), ((-2147483648), 2147483647), (0, 8), (0, 8)], [], 65, [(0, .inr (some (0, 0))), (1, .inl ([(0, 1)], 0)), (2, .inl ([(1, 1)], 0))], [], [(0, 0, ([], 3), .inr (some (64, 64))), (10, 10, ([], 1), .inl ([(2, 1)], 0)), (10, 10, ([], 2), .inl ([(3, 1)], 0))])) (ρ := ρ') (θ := θ') hEx (by decide +kernel) (zR_X12_drawn l D k B0 ad al sw) S hK hE hAB hA (fun a g h1 h2 => by rw [hθ g (Nat.lt_trans h2 (by decide)), nu_up h2]; exact hone a g h1 h2) (fun g h1 h2 => by rw [hθ g (Nat.lt_trans h2 (by decide)), nu_up h2]; exact hsing g h1 h2) rfl (by decide +kernel) kr_drawn2 u1 (hDD _ u1 u2) hS2 u3 ⟨hE1, hF1, ⟨lv, hlv, hlv2⟩, trivial, nu_hk (eff := zm_X10_copy.2.1) (by decide) u4 hh⟩ zf_an (fun H locs w3 ls pc i v hP3 hD3 hS3 hpost hdg hrv => ?_)
    obtain ⟨rfl, v, rfl⟩ := zt_ri (by decide +kernel) hpost hrv
    refine W.iret hx hb hr (fun t ht' hW => ⟨⟨_, rfl, w3, by rw [ht']; exact hP3, hD3, hpost.2.1, nu_fin (n := 2) (by decide +kernel) (by decide) (by decide) (by decide) hpost e10 (hρ 2 (by decide)) (hρ 3 (by decide)) hsing C2⟩, hS3.F ht'⟩) hS3.2.2 hdg hlocks
  · obtain ⟨rfl, v, rfl⟩ := zt_ri (by decide +kernel) hpost hrv
    exact W.iret hx hb hr (fun t ht' hW => ⟨⟨_, rfl, w3, by rw [ht']; exact hP3, hD3, hpost.2.1, f9, s9, nu_Cf (by decide) hpost.2.2 hsing C⟩, hS3.F ht'⟩) hS3.2.2 hdg hlocks
set_option maxRecDepth 100000 in
set_option maxHeartbeats 4000000 in
theorem zR_X12_strike (l : Launch) (D : va_G) (k : Nat → ClassId) (B0 : Nat) (ad : Nat → Nat) (al sw : Nat) : zf_Rl l yX12_strike (zw yX12_strike cX12_strike 2 (some .int)) ({ frames := 6, cells := 0, slots := 0, locals := 133 }) cX12_strike 2 D k zGT 37 B0 [zm_X1_strikeFrom, zm_X1_same, zm_X1_all, zm_X5_hold, zm_X5_keepN, zm_X1_copy] [(37, 10, 3, .inl (0, 0)), (41, 10, 4, .inl (0, 0)), (64, 10, 8, .inl (0, 0)), (172, 8, 3, .inl (0, 0))] [] zn_X12_strike (zEx B0 ad al sw) := by
  have hEx := zEx_ok B0 ad al sw
  intro p e s m args below meth c Q Sg w0 A θ0 S hK hE hAB hA hone hsing
  refine ⟨?_, ?_, ?_⟩
  · exact zf_ac ((fun H locs ws a q0 fs v rest pc ls hP he hv hdg kk => va_get (D := D) (ci := 10) (C := RX12) (T := TX12) (N := 18) (own := RX12) S.1 S.2.1 S.2.2.2.2 (zg_in inW_X12) S.2.2.2.1 hK hP q0 he rfl 3 (by decide) (S.2.2.2.2 (.fieldLink RX12 37 "RungMoney" "town" "LRungMoney$Town;") (List.mem_cons_of_mem _ zw_402)) (fun _ h9 => h9) hv hdg kk)) (zf_ac ((fun H locs ws a q0 fs v rest pc ls hP he hv hdg kk => va_get (D := D) (ci := 10) (C := RX12) (T := TX12) (N := 18) (own := RX12) S.1 S.2.1 S.2.2.2.2 (zg_in inW_X12) S.2.2.2.1 hK hP q0 he rfl 4 (by decide) (S.2.2.2.2 (.fieldLink RX12 41 "RungMoney" "spare" "LRungMoney$Town;") (List.mem_cons_of_mem _ zw_403)) (fun _ h9 => h9) hv hdg kk)) (zf_ac ((fun H locs ws a q0 fs v rest pc ls hP he hv hdg kk => va_get (D := D) (ci := 10) (C := RX12) (T := TX12) (N := 18) (own := RX12) S.1 S.2.1 S.2.2.2.2 (zg_in inW_X12) S.2.2.2.1 hK hP q0 he rfl 8 (by decide) (S.2.2.2.2 (.fieldLink RX12 64 "RungMoney" "past" "LRungMoney$Past;") (List.mem_cons_of_mem _ zw_407)) (fun _ h9 => h9) hv hdg kk)) (zf_ac ((fun H locs ws a q0 fs v rest pc ls hP he hv hdg kk => va_get (D := D) (ci := 8) (C := RX10) (T := TX10) (N := 9) (own := RX12) S.1 S.2.1 S.2.2.2.2 (zg_in inW_X10) S.2.2.2.1 hK hP q0 he rfl 3 (by decide) (S.2.2.2.2 (.fieldLink RX12 172 "RungMoney$Town" "debts" "LRungMoney$Debts;") (List.mem_cons_of_mem _ zw_272)) (fun _ h9 => h9) hv hdg kk)) zf_an)))
  · exact zf_an
  · exact zf_crl (xs := [(.invokevirtual 253, 3, 0), (.invokevirtual 257, 3, 1), (.invokevirtual 203, 3, 2), (.invokevirtual 219, 3, 3), (.invokevirtual 238, 3, 4), (.invokevirtual 261, 3, 5)]) (by decide +kernel) (zf_ac (zf_crV S hEx hE hAB hA hK hone hsing (kc_X1_strikeFrom l D k B0 ad al sw) (cwV 1 S.2.2.2.2 (zg_V zw_866 zw_867 zw_868 zw_101 zw_869) rfl rfl rfl (by decide +kernel) ⟨(Nat.le_of_ble_eq_true rfl), (Nat.le_of_ble_eq_true rfl)⟩) ⟨(Nat.le_of_ble_eq_true rfl), (Nat.le_of_ble_eq_true rfl)⟩ 0 rfl rfl (ar := [.inr (some (72, 65))]) rfl rfl (by decide +kernel)) (zf_ac (zf_crV S hEx hE hAB hA hK hone hsing (kc_X1_same l D k B0 ad al sw) (cwV 1 S.2.2.2.2 (zg_V zw_879 zw_880 zw_881 zw_101 zw_882) rfl rfl rfl (by decide +kernel) ⟨(Nat.le_of_ble_eq_true rfl), (Nat.le_of_ble_eq_true rfl)⟩) ⟨(Nat.le_of_ble_eq_true rfl), (Nat.le_of_ble_eq_true rfl)⟩ 0 rfl rfl (ar := [.inr (some (72, 65))]) rfl rfl (by decide +kernel)) (zf_ac (zf_crV S hEx hE hAB hA hK hone hsing (kc_X1_all l D k B0 ad al sw) (cwV 0 S.2.2.2.2 (zg_V zw_717 zw_718 zw_719 zw_101 zw_720) rfl rfl rfl (by decide +kernel) ⟨(Nat.le_of_ble_eq_true rfl), (Nat.le_of_ble_eq_true rfl)⟩) ⟨(Nat.le_of_ble_eq_true rfl), (Nat.le_of_ble_eq_true rfl)⟩ 0 rfl rfl (ar := []) rfl rfl (by decide +kernel)) (zf_ac (zf_crV S hEx hE hAB hA hK hone hsing (kc_X5_hold l D k B0 ad al sw) (cwV 1 S.2.2.2.2 (zg_V zw_733 zw_734 zw_735 zw_106 zw_736) rfl rfl rfl (by decide +kernel) ⟨(Nat.le_of_ble_eq_true rfl), (Nat.le_of_ble_eq_true rfl)⟩) ⟨(Nat.le_of_ble_eq_true rfl), (Nat.le_of_ble_eq_true rfl)⟩ 3 rfl rfl (ar := [.inr (some (64, 64))]) rfl rfl (by decide +kernel)) (zf_ac (zf_crV S hEx hE hAB hA hK hone hsing (kc_X5_keepN l D k B0 ad al sw) (cwV 0 S.2.2.2.2 (zg_V zw_755 zw_756 zw_757 zw_106 zw_758) rfl rfl rfl (by decide +kernel) ⟨(Nat.le_of_ble_eq_true rfl), (Nat.le_of_ble_eq_true rfl)⟩) ⟨(Nat.le_of_ble_eq_true rfl), (Nat.le_of_ble_eq_true rfl)⟩ 3 rfl rfl (ar := []) rfl rfl (by decide +kernel)) (zf_ac (zf_crV S hEx hE hAB hA hK hone hsing (kc_X1_copy l D k B0 ad al sw) (cwV 1 S.2.2.2.2 (zg_V zw_883 zw_621 zw_622 zw_101 zw_623) rfl rfl rfl (by decide +kernel) ⟨(Nat.le_of_ble_eq_true rfl), (Nat.le_of_ble_eq_true rfl)⟩) ⟨(Nat.le_of_ble_eq_true rfl), (Nat.le_of_ble_eq_true rfl)⟩ 0 rfl rfl (ar := [.inr (some (72, 65))]) rfl rfl (by decide +kernel)) zf_an))))))
def zm_strike1 : zf_M := (([(0, 8), (0, 8)], [], 65, [], [], []), [(73, ([], 0), ([], 35)), (74, ([], 0), ([], 5))], [(some (.inl ([], (-2))), ([(0, 8), (0, 8)], [], 65, [], [], []))])
def zu_strike1 : zf_U := (70, ([(0, 8), (0, 8), ((-2147483648), 2147483647)], [], 65, [(0, .inr (some (0, 0))), (1, .inl ([(2, 1)], 0))], [.inr (some (64, 64)), .inr (some (10, 10))], [(0, 0, ([], 3), .inr (some (64, 64))), (10, 10, ([], 1), .inl ([(0, 1)], 0)), (10, 10, ([], 2), .inl ([(1, 1)], 0))]), ([], 0), 0)
set_option maxRecDepth 100000 in
set_option maxHeartbeats 4000000 in
theorem kr_strike1 : zf_run 2 65 37 2 zGT zm_strike1 [zm_X1_strikeFrom, zm_X1_same, zm_X1_all, zm_X5_hold, zm_X5_keepN, zm_X1_copy] [(37, 10, 3, .inl (0, 0)), (41, 10, 4, .inl (0, 0)), (64, 10, 8, .inl (0, 0)), (172, 8, 3, .inl (0, 0))] [] zn_X12_strike [zu_strike1] none 3000 0 ([(0, 8), (0, 8)], [], 65, [(0, .inr (some (0, 0)))], [], [(0, 0, ([], 3), .inr (some (64, 64))), (10, 10, ([], 1), .inl ([(0, 1)], 0)), (10, 10, ([], 2), .inl ([(1, 1)], 0))]) = true := by decide +kernel
def zm_strike2 : zf_M := (([(0, 8), (0, 8), ((-2147483648), 2147483647)], [], 65, [], [], []), [(73, ([], 0), ([], 35)), (74, ([], 0), ([], 5)), (66, ([], 0), ([], 0)), (67, ([], 0), ([], 15)), (68, ([], 0), ([], 15)), (69, ([], 0), ([], 15)), (70, ([], 0), ([], 15)), (71, ([], 0), ([], 15)), (75, ([], 0), ([], 5)), (64, ([], 5), ([], 8)), (10, ([], 1), ([], 2))], [(some (.inl ([(3, 1)], 0)), ([(0, 7), (0, 7), ((-2147483648), 2147483647), ((-2147483648), 2147483647)], [], 65, [], [], [(10, 10, ([], 1), .inl ([(0, 1)], 1)), (10, 10, ([], 2), .inl ([(1, 1)], 1))])), (some (.inl ([(3, 1)], 0)), ([(0, 7), (7, 8), ((-2147483648), 2147483647), ((-2147483648), 2147483647)], [], 65, [], [], [(10, 10, ([], 1), .inl ([(0, 1)], 1)), (10, 10, ([], 2), .inl ([], 8))])), (some (.inl ([(3, 1)], 0)), ([(8, 8), (0, 7), ((-2147483648), 2147483647), ((-2147483648), 2147483647)], [], 65, [], [], [(10, 10, ([], 1), .inl ([], 0)), (10, 10, ([], 2), .inl ([(1, 1)], 1))])), (some (.inl ([(3, 1)], 0)), ([(8, 8), (7, 8), ((-2147483648), 2147483647), ((-2147483648), 2147483647)], [], 65, [], [], [(10, 10, ([], 1), .inl ([], 0)), (10, 10, ([], 2), .inl ([], 8))]))])
set_option maxRecDepth 100000 in
set_option maxHeartbeats 4000000 in
theorem kr_strike2 : zf_run 3 65 37 2 zGT zm_strike2 [zm_X1_strikeFrom, zm_X1_same, zm_X1_all, zm_X5_hold, zm_X5_keepN, zm_X1_copy] [(37, 10, 3, .inl (0, 0)), (41, 10, 4, .inl (0, 0)), (64, 10, 8, .inl (0, 0)), (172, 8, 3, .inl (0, 0))] [] zn_X12_strike [] none 3000 73 ([(0, 8), (0, 8), ((-2147483648), 2147483647)], [], 65, [(0, .inr (some (0, 0))), (1, .inl ([(2, 1)], 0))], [], [(0, 0, ([], 3), .inr (some (64, 64))), (10, 10, ([], 1), .inl ([(0, 1)], 0)), (10, 10, ([], 2), .inl ([(1, 1)], 0))]) = true := by decide +kernel
theorem dNX12_strike_70 : decode cX12_strike 70 = .ok (.invokevirtual 219, 3) := by decide +kernel
set_option maxRecDepth 100000 in
set_option maxHeartbeats 4000000 in
theorem kn_X12_strike (l : Launch) (D : va_G) (k : Nat → ClassId) (B0 : Nat) (ad : Nat → Nat) (al sw : Nat) {Sg : Nat → Option Nat} {ws : va_W} {th tw nm : Nat → Nat} (sz : Nat) (hone : ∀ a g, Sg a = some g → g < 64 → a = th g) (hsing : ∀ g, g < 37 → g < 64 → Sg (th g) = some g) (ht : zf_typ Sg k zGT ws) {nsv k0 k1 : List (List Int32)} {f9 s9 : Nat} (C : nu_C Sg th tw nm ws nsv k0 k1 f9 s9) :
    Met l yX12_strike (zw yX12_strike cX12_strike 2 (some .int)) ({ frames := 6, cells := 0, slots := 0, locals := 133 }) (va_Pc [.ref (th 0)] (g_pr D k (zEx B0 ad al sw Sg ws) sz ws)) (zf_Q (fun _ t => nu_Q D k Sg th tw nm nsv k0 k1 (va_A ws sz) t) (va_A ws sz)) 0 0 (va_A ws sz) := by
  have hEx := zEx_ok B0 ad al sw
  refine zp_open (Qp := fun A _ t => nu_Q D k Sg th tw nm nsv k0 k1 A t) (by decide) rfl hEx (Nat.le_of_ble_eq_true rfl) ?_
  intro p e s m below meth c A ls S hr hlocks hK hE hAB hA hP hD hS hl
  have hx := S.1
  have hb := S.2.1
  have g0 : Sg (th 0) = some 0 := hsing 0 (by decide) (by decide)
  have g10 : Sg (th 10) = some 10 := hsing 10 (by decide) (by decide)
  obtain ⟨T, N0, N2, N3, f8, s8, d1, d2, R⟩ := id C
  have t0 := (T.1 0 (by decide)).1
  refine zp_run (M := zm_strike1) (cuts := [zu_strike1]) (σ := ([(0, 8), (0, 8)], [], 65, [(0, .inr (some (0, 0)))], [], [(0, 0, ([], 3), .inr (some (64, 64))), (10, 10, ([], 1), .inl ([(0, 1)], 0)), (10, 10, ([], 2), .inl ([(1, 1)], 0))])) (ρ := nu_ra f9 s9 []) (θ := zf_upr th 64 (tw 0)) hEx (by decide +kernel) (zR_X12_strike l D k B0 ad al sw) S hK hE hAB hA (fun a g h1 h2 => by rw [nu_up h2]; exact hone a g h1 h2) (fun g h1 h2 => by rw [nu_up h2]; exact hsing g h1 h2) rfl (by decide +kernel) kr_strike1 hP hD hS ht ⟨nu_raE f8 s8 [], fun g hg => (by cases hg), ⟨_, hl, ⟨⟨rfl, ⟨rfl, g0⟩⟩, trivial⟩⟩, trivial, nu_tf hsing (nu_up (by decide)) nu_u64 T (nu_fs (n := 0) (hs := []) hsing (nu_up (by decide)) d1 d2 f8 s8 rfl rfl zf_an)⟩ (zf_ac (fun ρ' θ' w1 H1 locs1 ls1 st1 hρ hθ hP1 hD1 hS1 ht1 hfr hsat => ?_) zf_an) (fun H locs w3 ls pc i v hP3 hD3 hS3 hpost hdg hrv => ?_)
  · obtain ⟨hE1, hF1, ⟨lv, hlv, hlv2⟩, hst, hh⟩ := hsat
    obtain ⟨v1, st2, rfl, ⟨rfl, b1⟩, hst_1⟩ := zf_f2_c hst
    obtain ⟨v2, st3, rfl, ⟨rfl, b2⟩, hst_2⟩ := zf_f2_c hst_1
    cases zf_nil hst_2
    have e10 : θ' 10 = th 10 := (hθ 10 (by decide)).trans (nu_up (by decide))
    have e64 : θ' 64 = tw 0 := (hθ 64 (by decide)).trans nu_u64
    have C1 := nu_Cf (by decide) hfr hsing C
    have hM := kn_X5_hold l D k B0 ad al sw H1.size hone hsing ht1 C1.1 f8 C1.2.2.2.2.2.2.1
    have e64v : Value.ref (θ' 64) = .ref (tw 0) := by rw [e64]
    have e10v : Value.ref (θ' 10) = .ref (th 10) := by rw [e10]
    show W p l e _ s m _ below meth c H1 locs1 0 0 _ (F0 m 70 ls1 [.ref (θ' 64), .ref (θ' 10)])
    rw [e64v, e10v]
    refine zp_call (cells := 0) (slots := 0) (As := [.ref (tw 0)]) (b := th 10) (g := 10) (ci := 3) (rest := []) S hEx hE hAB hA hK hM (cwV 1 S.2.2.2.2 (zg_V zw_733 zw_734 zw_735 zw_106 zw_736) rfl rfl rfl (by decide +kernel) ⟨(Nat.le_of_ble_eq_true rfl), (Nat.le_of_ble_eq_true rfl)⟩) ⟨Nat.le_of_ble_eq_true rfl, Nat.le_of_ble_eq_true rfl⟩ rfl rfl (by decide +kernel) g10 rfl hP1 hD1 hS1 ht1 hlv.1 (Nat.zero_le _) dNX12_strike_70 (fun v t H2 locs2 ht2 hB hDD hS2 => ?_)
    obtain ⟨rfl, w2, u1, u2, u3, u4, u5⟩ := hB
    rw [ht2] at u1
    obtain ⟨C2, c1, c2⟩ := nu_hold hsing C1 u4 u5
    refine zp_run (M := zm_strike2) (σ := ([(0, 8), (0, 8), ((-2147483648), 2147483647)], [], 65, [(0, .inr (some (0, 0))), (1, .inl ([(2, 1)], 0))], [], [(0, 0, ([], 3), .inr (some (64, 64))), (10, 10, ([], 1), .inl ([(0, 1)], 0)), (10, 10, ([], 2), .inl ([(1, 1)], 0))])) (ρ := ρ') (θ := θ') hEx (by decide +kernel) (zR_X12_strike l D k B0 ad al sw) S hK hE hAB hA (fun a g h1 h2 => by rw [hθ g (Nat.lt_trans h2 (by decide)), nu_up h2]; exact hone a g h1 h2) (fun g h1 h2 => by rw [hθ g (Nat.lt_trans h2 (by decide)), nu_up h2]; exact hsing g h1 h2) rfl (by decide +kernel) kr_strike2 u1 (hDD _ u1 u2) hS2 u3 ⟨hE1, hF1, ⟨lv, hlv, hlv2⟩, trivial, nu_hk (eff := zm_X10_copy.2.1) (by decide) u4 hh⟩ zf_an (fun H locs w3 ls pc i v hP3 hD3 hS3 hpost hdg hrv => ?_)
    obtain ⟨rfl, v, rfl⟩ := zt_ri (by decide +kernel) hpost hrv
    refine W.iret hx hb hr (fun t ht' hW => ⟨⟨_, rfl, w3, by rw [ht']; exact hP3, hD3, hpost.2.1, nu_fin (n := 0) (by decide +kernel) (by decide) (by decide) (by decide) hpost e10 (hρ 0 (by decide)) (hρ 1 (by decide)) hsing C2⟩, hS3.F ht'⟩) hS3.2.2 hdg hlocks
  · obtain ⟨rfl, v, rfl⟩ := zt_ri (by decide +kernel) hpost hrv
    exact W.iret hx hb hr (fun t ht' hW => ⟨⟨_, rfl, w3, by rw [ht']; exact hP3, hD3, hpost.2.1, f9, s9, nu_Cf (by decide) hpost.2.2 hsing C⟩, hS3.F ht'⟩) hS3.2.2 hdg hlocks
set_option maxRecDepth 100000 in
set_option maxHeartbeats 4000000 in
theorem zR_X12_undo (l : Launch) (D : va_G) (k : Nat → ClassId) (B0 : Nat) (ad : Nat → Nat) (al sw : Nat) : zf_Rl l yX12_undo (zw yX12_undo cX12_undo 1 (some .int)) ({ frames := 4, cells := 0, slots := 0, locals := 123 }) cX12_undo 1 D k zGT 37 B0 [zm_X5_takeBack] [(37, 10, 3, .inl (0, 0)), (64, 10, 8, .inl (0, 0)), (269, 3, 2, .inl (0, 0))] [] zn_X12_undo (zEx B0 ad al sw) := by
  have hEx := zEx_ok B0 ad al sw
  intro p e s m args below meth c Q Sg w0 A θ0 S hK hE hAB hA hone hsing
  refine ⟨?_, ?_, ?_⟩
  · exact zf_ac ((fun H locs ws a q0 fs v rest pc ls hP he hv hdg kk => va_get (D := D) (ci := 10) (C := RX12) (T := TX12) (N := 18) (own := RX12) S.1 S.2.1 S.2.2.2.2 (zg_in inW_X12) S.2.2.2.1 hK hP q0 he rfl 3 (by decide) (S.2.2.2.2 (.fieldLink RX12 37 "RungMoney" "town" "LRungMoney$Town;") (List.mem_cons_of_mem _ zw_402)) (fun _ h9 => h9) hv hdg kk)) (zf_ac ((fun H locs ws a q0 fs v rest pc ls hP he hv hdg kk => va_get (D := D) (ci := 10) (C := RX12) (T := TX12) (N := 18) (own := RX12) S.1 S.2.1 S.2.2.2.2 (zg_in inW_X12) S.2.2.2.1 hK hP q0 he rfl 8 (by decide) (S.2.2.2.2 (.fieldLink RX12 64 "RungMoney" "past" "LRungMoney$Past;") (List.mem_cons_of_mem _ zw_407)) (fun _ h9 => h9) hv hdg kk)) (zf_ac ((fun H locs ws a q0 fs v rest pc ls hP he hv hdg kk => va_get (D := D) (ci := 3) (C := RX5) (T := TX5) (N := 3) (own := RX12) S.1 S.2.1 S.2.2.2.2 (zg_in inW_X5) S.2.2.2.1 hK hP q0 he rfl 2 (by decide) (S.2.2.2.2 (.fieldLink RX12 269 "RungMoney$Past" "size" "I") (List.mem_cons_of_mem _ zw_377)) (fun _ h9 => h9) hv hdg kk)) zf_an))
  · exact zf_an
  · exact zf_crl (xs := [(.invokevirtual 266, 3, 0)]) (by decide +kernel) (zf_ac (zf_crV S hEx hE hAB hA hK hone hsing (kc_X5_takeBack l D k B0 ad al sw) (cwV 1 S.2.2.2.2 (zg_V zw_893 zw_894 zw_895 zw_106 zw_896) rfl rfl rfl (by decide +kernel) ⟨(Nat.le_of_ble_eq_true rfl), (Nat.le_of_ble_eq_true rfl)⟩) ⟨(Nat.le_of_ble_eq_true rfl), (Nat.le_of_ble_eq_true rfl)⟩ 3 rfl rfl (ar := [.inr (some (64, 64))]) rfl rfl (by decide +kernel)) zf_an)
def zm_undo1 : zf_M := (([], [], 65, [], [], []), [], [])
def zu_undo1 : zf_U := (8, ([], [], 65, [(0, .inr (some (0, 0)))], [.inr (some (64, 64)), .inr (some (10, 10))], [(0, 0, ([], 3), .inr (some (64, 64)))]), ([], 0), 0)
set_option maxRecDepth 100000 in
set_option maxHeartbeats 4000000 in
theorem kr_undo1 : zf_run 0 65 37 1 zGT zm_undo1 [zm_X5_takeBack] [(37, 10, 3, .inl (0, 0)), (64, 10, 8, .inl (0, 0)), (269, 3, 2, .inl (0, 0))] [] zn_X12_undo [zu_undo1] none 3000 0 ([], [], 65, [(0, .inr (some (0, 0)))], [], [(0, 0, ([], 3), .inr (some (64, 64)))]) = true := by decide +kernel
def zm_undo2 : zf_M := (([(0, 1)], [], 64, [], [], []), [], [(some (.inl ([(1, 1)], 0)), ([(0, 1), ((-2147483648), 2147483647)], [], 64, [], [], []))])
set_option maxRecDepth 100000 in
set_option maxHeartbeats 4000000 in
theorem kr_undo2 : zf_run 1 64 37 1 zGT zm_undo2 [zm_X5_takeBack] [(37, 10, 3, .inl (0, 0)), (64, 10, 8, .inl (0, 0)), (269, 3, 2, .inl (0, 0))] [] zn_X12_undo [] none 3000 11 ([(0, 1)], [], 64, [(0, .inr (some (0, 0)))], [.inl ([(0, 1)], 0)], []) = true := by decide +kernel
theorem dNX12_undo_8 : decode cX12_undo 8 = .ok (.invokevirtual 266, 3) := by decide +kernel
theorem nu_E01 {x : Int32} (h : x = 0 ∨ x = 1) : zf_okE [(0, 1)] (fun _ => x.toInt) := fun i => by
  match i with
  | 0 => rcases h with rfl | rfl <;> exact ⟨by decide, by decide⟩
  | i + 1 => exact ⟨zi_lo _, zi_hi _⟩
set_option maxRecDepth 100000 in
set_option maxHeartbeats 4000000 in
theorem kn_X12_undo (l : Launch) (D : va_G) (k : Nat → ClassId) (B0 : Nat) (ad : Nat → Nat) (al sw : Nat) {Sg : Nat → Option Nat} {ws : va_W} {th tw nm : Nat → Nat} (sz : Nat) (hone : ∀ a g, Sg a = some g → g < 64 → a = th g) (hsing : ∀ g, g < 37 → g < 64 → Sg (th g) = some g) (ht : zf_typ Sg k zGT ws) {nsv k0 k1 : List (List Int32)} {f9 s9 : Nat} (C : nu_C Sg th tw nm ws nsv k0 k1 f9 s9) :
    Met l yX12_undo (zw yX12_undo cX12_undo 1 (some .int)) ({ frames := 4, cells := 0, slots := 0, locals := 123 }) (va_Pc [.ref (th 0)] (g_pr D k (zEx B0 ad al sw Sg ws) sz ws)) (zf_Q (fun _ t => nu_Q D k Sg th tw nm nsv k0 k1 (va_A ws sz) t) (va_A ws sz)) 0 0 (va_A ws sz) := by
  have hEx := zEx_ok B0 ad al sw
  refine zp_open (Qp := fun A _ t => nu_Q D k Sg th tw nm nsv k0 k1 A t) (by decide) rfl hEx (Nat.le_of_ble_eq_true rfl) ?_
  intro p e s m below meth c A ls S hr hlocks hK hE hAB hA hP hD hS hl
  have hx := S.1
  have hb := S.2.1
  have g0 : Sg (th 0) = some 0 := hsing 0 (by decide) (by decide)
  have g10 : Sg (th 10) = some 10 := hsing 10 (by decide) (by decide)
  have hl0 := hl
  obtain ⟨T, N0, N2, N3, f8, s8, d1, d2, R⟩ := id C
  refine zp_run (M := zm_undo1) (cuts := [zu_undo1]) (σ := ([], [], 65, [(0, .inr (some (0, 0)))], [], [(0, 0, ([], 3), .inr (some (64, 64)))])) (ρ := fun _ => 0) (θ := zf_upr th 64 (tw 0)) hEx (by decide +kernel) (zR_X12_undo l D k B0 ad al sw) S hK hE hAB hA (fun a g h1 h2 => by rw [nu_up h2]; exact hone a g h1 h2) (fun g h1 h2 => by rw [nu_up h2]; exact hsing g h1 h2) rfl (by decide +kernel) kr_undo1 hP hD hS ht ⟨lp_zr rfl, fun g hg => (by cases hg), ⟨_, hl, ⟨⟨rfl, ⟨rfl, g0⟩⟩, trivial⟩⟩, trivial, nu_tf hsing (nu_up (by decide)) nu_u64 T zf_an⟩ (zf_ac (fun ρ' θ' w1 H1 locs1 ls1 st1 hρ hθ hP1 hD1 hS1 ht1 hfr hsat => ?_) zf_an) (fun H locs w3 ls pc i v hP3 hD3 hS3 hpost hdg hrv => by obtain ⟨⟨o, ho, -⟩, -, -⟩ := hpost; cases ho)
  obtain ⟨hE1, hF1, ⟨lv, hlv, hlv2⟩, hst, hh⟩ := hsat
  obtain ⟨v1, st2, rfl, ⟨rfl, b1⟩, hst_1⟩ := zf_f2_c hst
  obtain ⟨v2, st3, rfl, ⟨rfl, b2⟩, hst_2⟩ := zf_f2_c hst_1
  cases zf_nil hst_2
  have e10 : θ' 10 = th 10 := (hθ 10 (by decide)).trans (nu_up (by decide))
  have e0 : θ' 0 = th 0 := (hθ 0 (by decide)).trans (nu_up (by decide))
  have e64 : θ' 64 = tw 0 := (hθ 64 (by decide)).trans nu_u64
  have C1 := nu_Cf (by decide) hfr hsing C
  have hM := kn_X5_takeBack l D k B0 ad al sw H1.size hone hsing ht1 C1
  have e64v : Value.ref (θ' 64) = .ref (tw 0) := by rw [e64]
  have e10v : Value.ref (θ' 10) = .ref (th 10) := by rw [e10]
  show W p l e _ s m _ below meth c H1 locs1 0 0 _ (F0 m 8 ls1 [.ref (θ' 64), .ref (θ' 10)])
  rw [e64v, e10v]
  refine zp_call (cells := 0) (slots := 0) (As := [.ref (tw 0)]) (b := th 10) (g := 10) (ci := 3) (rest := []) S hEx hE hAB hA hK hM (cwV 1 S.2.2.2.2 (zg_V zw_893 zw_894 zw_895 zw_106 zw_896) rfl rfl rfl (by decide +kernel) ⟨(Nat.le_of_ble_eq_true rfl), (Nat.le_of_ble_eq_true rfl)⟩) ⟨Nat.le_of_ble_eq_true rfl, Nat.le_of_ble_eq_true rfl⟩ rfl rfl (by decide +kernel) g10 rfl hP1 hD1 hS1 ht1 hlv.1 (Nat.zero_le _) dNX12_undo_8 (fun v t H2 locs2 ht2 hB hDD hS2 => ?_)
  obtain ⟨⟨x, rfl, hx01⟩, w2, u1, u2, u3, f7, s7, C2⟩ := hB
  rw [ht2] at u1
  refine zp_run (M := zm_undo2) (σ := ([(0, 1)], [], 64, [(0, .inr (some (0, 0)))], [.inl ([(0, 1)], 0)], [])) (ρ := fun _ => x.toInt) (θ := th) hEx (by decide +kernel) (zR_X12_undo l D k B0 ad al sw) S hK hE hAB hA hone hsing rfl (by decide +kernel) kr_undo2 u1 (hDD _ u1 u2) hS2 u3 ⟨nu_E01 hx01, fun g hg => (by cases hg), ⟨lv, hlv, ?_⟩, ⟨⟨x, rfl, (zf_v_sym (fun _ => x.toInt) 0).symm⟩, trivial⟩, fun h hh => (by cases hh)⟩ zf_an (fun H locs w3 ls pc i v hP3 hD3 hS3 hpost hdg hrv => ?_)
  · obtain ⟨q5, lv2, rfl, ⟨h5, h6, h7⟩, hlv3⟩ := zf_f2_c hlv2
    have h6 : q5.2 = .ref (θ' 0) := h6
    rw [e0] at h6
    cases lv2 with
    | nil => exact ⟨⟨h5, h6, g0⟩, trivial⟩
    | cons q6 lv3 => exact hlv3.elim
  · obtain ⟨rfl, v, rfl⟩ := zt_ri (by decide +kernel) hpost hrv
    exact W.iret hx hb hr (fun t ht' hW => ⟨⟨_, rfl, w3, by rw [ht']; exact hP3, hD3, hpost.2.1, f7, s7, nu_Cf (by decide) hpost.2.2 hsing C2⟩, hS3.F ht'⟩) hS3.2.2 hdg hlocks
