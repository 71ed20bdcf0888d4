/-! ===== what is past: hold, take back, keep ===== -/
set_option maxRecDepth 100000 in
set_option maxHeartbeats 4000000 in
theorem zR_X5_hold (l : Launch) (D : va_G) (k : Nat → ClassId) (B0 : Nat) (ad : Nat → Nat) (al sw : Nat) : zf_Rl l yX5_hold (zw yX5_hold cX5_hold 2 none) ({ frames := 3, cells := 0, slots := 0, locals := 102 }) cX5_hold 2 D k zGT 37 B0 [zm_X10_copy] [(11, 3, 0, .inl (0, 0)), (20, 3, 1, .inl (0, 0))] [] zn_X5_hold (zEx B0 ad al sw) := by
  have hEx := zEx_ok B0 ad al sw
  intro p e s m args below meth c Q Sg w0 A θ0 S hK hE hAB hA hone hsing
  refine ⟨?_, ?_, ?_⟩
  · exact zf_ac ((fun H locs ws a q0 fs v rest pc ls hP he hv hdg kk => va_get (D := D) (ci := 3) (C := RX5) (T := TX5) (N := 3) (own := RX5) S.1 S.2.1 S.2.2.2.2 (zg_in inW_X5) S.2.2.2.1 hK hP q0 he rfl 0 (by decide) (S.2.2.2.2 (.fieldLink RX5 11 "RungMoney$Past" "ring" "[LRungMoney$Town;") (List.mem_cons_of_mem _ zw_374)) (fun _ h9 => h9) hv hdg kk)) (zf_ac ((fun H locs ws a q0 fs v rest pc ls hP he hv hdg kk => va_get (D := D) (ci := 3) (C := RX5) (T := TX5) (N := 3) (own := RX5) S.1 S.2.1 S.2.2.2.2 (zg_in inW_X5) S.2.2.2.1 hK hP q0 he rfl 1 (by decide) (S.2.2.2.2 (.fieldLink RX5 20 "RungMoney$Past" "free" "I") (List.mem_cons_of_mem _ zw_375)) (fun _ h9 => h9) hv hdg kk)) zf_an)
  · exact zf_an
  · exact zf_crl (xs := [(.invokevirtual 23, 3, 0)]) (by decide +kernel) (zf_ac (zf_crV S hEx hE hAB hA hK hone hsing (kc_X10_copy l D k B0 ad al sw) (cwV 1 S.2.2.2.2 (zg_V zw_737 zw_609 zw_610 zw_99 zw_611) rfl rfl rfl (by decide +kernel) ⟨(Nat.le_of_ble_eq_true rfl), (Nat.le_of_ble_eq_true rfl)⟩) ⟨(Nat.le_of_ble_eq_true rfl), (Nat.le_of_ble_eq_true rfl)⟩ 8 rfl rfl (ar := [.inr (some (64, 65))]) rfl rfl (by decide +kernel)) zf_an)
def zm_X5_hN : zf_M := (([(0, 8)], [], 65, [], [], []), [], [])
def zu_X5_hN : zf_U := (10, ([(0, 8)], [], 66, [(0, .inr (some (10, 10))), (1, .inr (some (64, 64)))], [.inr (some (64, 64)), .inr (some (64, 65))], [(11, 11, ([(0, 1)], 0), .inr (some (64, 65)))]), ([], 0), 0)
set_option maxRecDepth 100000 in
set_option maxHeartbeats 4000000 in
theorem kr_X5_hN : zf_run 1 65 37 2 zGT zm_X5_hN [zm_X10_copy] [(11, 3, 0, .inl (0, 0)), (20, 3, 1, .inl (0, 0))] [] zn_X5_hold [zu_X5_hN] none 3000 0 ([(0, 8)], [], 65, [(0, .inr (some (10, 10))), (1, .inr (some (64, 64)))], [], [(10, 10, ([], 1), .inl ([(0, 1)], 0))]) = true := by decide +kernel
theorem dNX5_hold_10 : decode cX5_hold 10 = .ok (.invokevirtual 23, 3) := by decide +kernel
theorem dNX5_hold_13 : decode cX5_hold 13 = .ok (.return_, 1) := by decide +kernel
theorem nu_E8 {f : Nat} (h : f ≤ 8) : zf_okE [(0, 8)] (fun _ => ((Int32.ofNat f).toInt)) := fun x => by
  have e : (Int32.ofNat f).toInt = (f : Int) := ti (by omega)
  match x with
  | 0 => exact ⟨(show (0 : Int) ≤ (Int32.ofNat f).toInt by omega), (show (Int32.ofNat f).toInt ≤ 8 by omega)⟩
  | x + 1 => exact ⟨zi_lo _, zi_hi _⟩
theorem nu_up {th : Nat → Nat} {a g : Nat} (h : g < 64) : zf_upr th 64 a g = th g := if_neg (Nat.ne_of_lt h)
theorem nu_u64 {th : Nat → Nat} {a : Nat} : zf_upr th 64 a 64 = a := if_pos rfl
theorem nu_fr0 {Sg : Nat → Option Nat} {ρ : Nat → Int} {ws ws' : va_W} (h : zf_fr Sg [] ρ ws ws') {a g i : Nat} {v : Value} (ha : Sg a = some g) (hr : zf_rd ws a i v) : zf_rd ws' a i v := h a g i v ha (fun q => by obtain ⟨q, hq, -⟩ := q; cases hq) hr
set_option maxRecDepth 100000 in
set_option maxHeartbeats 4000000 in
theorem kn_X5_hold (l : Launch) (D : va_G) (k : Nat → ClassId) (B0 : Nat) (ad : Nat → Nat) (al sw : Nat) {Sg : Nat → Option Nat} {ws : va_W} {th tw nm : Nat → Nat} (sz : Nat) (hone : ∀ a g, Sg a = some g → g < 64 → a = th g) (hsing : ∀ g, g < 37 → g < 64 → Sg (th g) = some g) (ht : zf_typ Sg k zGT ws) (T : nu_T Sg th tw nm ws) {f : Nat} (hf8 : f ≤ 8) (hrf : zf_rd ws (th 10) 1 (.int (Int32.ofNat f))) :
    Met l yX5_hold (zw yX5_hold cX5_hold 2 none) ({ frames := 3, cells := 0, slots := 0, locals := 102 }) (va_Pc [.ref (th 10), .ref (tw 0)] (g_pr D k (zEx B0 ad al sw Sg ws) sz ws)) (zf_Q (nu_P D k Sg ws (tw (4 + f)) (tw 0) (nm (4 + f)) (nm 0) (va_A ws sz)) (va_A ws sz)) 0 0 (va_A ws sz) := by
  have hEx := zEx_ok B0 ad al sw
  refine zp_open (Qp := nu_P D k Sg ws (tw (4 + f)) (tw 0) (nm (4 + f)) (nm 0)) (by decide) rfl hEx (Nat.le_of_ble_eq_true rfl) ?_
  intro p e s m below meth c A ls S hr hlocks hK hE hAB hA hP hD hS hl
  have hx := S.1
  have hb := S.2.1
  have g10 : Sg (th 10) = some 10 := hsing 10 (by decide) (by decide)
  have t0 := (T.1 0 (by decide)).1
  refine zp_run (M := zm_X5_hN) (cuts := [zu_X5_hN]) (σ := ([(0, 8)], [], 65, [(0, .inr (some (10, 10))), (1, .inr (some (64, 64)))], [], [(10, 10, ([], 1), .inl ([(0, 1)], 0))])) (ρ := fun _ => (Int32.ofNat f).toInt) (θ := zf_upr th 64 (tw 0)) hEx (by decide +kernel) (zR_X5_hold l D k B0 ad al sw) S hK hE hAB hA (fun a g h1 h2 => by rw [nu_up h2]; exact hone a g h1 h2) (fun g h1 h2 => by rw [nu_up h2]; exact hsing g h1 h2) rfl (by decide +kernel) kr_X5_hN hP hD hS ht ⟨nu_E8 hf8, fun g hg => (by cases hg), ⟨_, hl, ⟨⟨rfl, ⟨rfl, g10⟩⟩, ⟨rfl, ⟨by rw [nu_u64], by rw [nu_u64]; exact t0⟩⟩, trivial⟩⟩, trivial, zf_ac ((zf_hokT (show (10 : Nat) < 1000 by decide)).mpr ⟨g10, zp_0 (by decide), _, hrf, ⟨_, rfl, (zf_v_sym (fun _ => (Int32.ofNat f).toInt) 0).symm⟩⟩) zf_an⟩ ?_ (fun H locs ws' ls pc i v _ _ _ hpost _ _ => by obtain ⟨⟨o, ho, -⟩, -, -⟩ := hpost; cases ho)
  refine zf_ac (fun ρ' θ' w1 H1 locs1 ls1 st1 hρ hθ hP1 hD1 hS1 ht1 hfr hsat => ?_) zf_an
  obtain ⟨-, -, ⟨lv, hlv, -⟩, hst, hh⟩ := hsat
  obtain ⟨v1, st1, rfl, ⟨rfl, b1⟩, hst_1⟩ := zf_f2_c hst
  obtain ⟨v2, st1, rfl, ⟨rfl, b2⟩, hst_2⟩ := zf_f2_c hst_1
  cases zf_nil hst_2
  obtain ⟨-, -, v3, d1, rfl, d2⟩ := (zf_hokT (h := (11, 11, ([(0, 1)], 0), .inr (some (64, 65)))) (show (11 : Nat) < 1000 by decide)).mp (hh _ List.mem_cons_self)
  have d1 : zf_rd w1 (θ' 11) (zf_v ρ' ([(0, 1)], 0)).toNat (.ref (θ' 65)) := d1
  have e11 : θ' 11 = th 11 := (hθ 11 (by decide)).trans (nu_up (by decide))
  have e64 : θ' 64 = tw 0 := (hθ 64 (by decide)).trans nu_u64
  have ev : (zf_v ρ' ([(0, 1)], 0)).toNat = f := by
    rw [show zf_v ρ' ([(0, 1)], 0) = ρ' 0 from zf_v_sym ρ' 0, hρ 0 (by decide), ti (by omega)]
    exact Int.toNat_natCast f
  rw [e11, ev] at d1
  have d3 := nu_fr0 hfr (hsing 11 (by decide) (by decide)) (T.2.2.2.2.2.2 f (by omega))
  have e65 : θ' 65 = tw (4 + f) := by
    have h9 := zf_rd_fun hD1 d1 d3
    injection h9
  have t1 := T.1 (4 + f) (by omega)
  have e64 : Value.ref (θ' 64) = .ref (tw 0) := by rw [e64]
  have e65 : Value.ref (θ' 65) = .ref (tw (4 + f)) := by rw [e65]
  have hM := kn_X10_copy l D k B0 ad al sw H1.size hone hsing ht1 t1.1 t0 t1.2.1 (T.1 0 (by decide)).2.1 (nu_fr0 hfr t1.1 t1.2.2) (nu_fr0 hfr t0 (T.1 0 (by decide)).2.2)
  show W p l e _ s m _ below meth c H1 locs1 0 0 _ (F0 m 10 ls1 [.ref (θ' 64), .ref (θ' 65)])
  rw [e64, e65]
  refine zp_call (cells := 0) (slots := 0) (As := [.ref (tw 0)]) (b := tw (4 + f)) (g := 64) (ci := 8) (rest := []) S hEx hE hAB hA hK hM (cwV 1 S.2.2.2.2 (zg_V zw_737 zw_609 zw_610 zw_99 zw_611) rfl rfl rfl (by decide +kernel) ⟨(Nat.le_of_ble_eq_true rfl), (Nat.le_of_ble_eq_true rfl)⟩) ⟨Nat.le_of_ble_eq_true rfl, Nat.le_of_ble_eq_true rfl⟩ rfl rfl (by decide +kernel) t1.1 rfl hP1 hD1 hS1 ht1 hlv.1 (Nat.zero_le _) dNX5_hold_10 (fun v t H2 locs2 ht2 hB hDD hS2 => ?_)
  obtain ⟨rfl, w2, z1, z2, z3, z4, z5, z6, z7, z8⟩ := hB
  rw [ht2] at z1
  have h0 : ∀ (a g i : Nat) (v : Value), Sg a = some g → zf_rd ws a i v → zf_rd w1 a i v := fun a g i v ha h => nu_fr0 hfr ha h
  refine W.vret hx hb hr (fun t ht' hW => ⟨⟨_, rfl, rfl, w2, by rw [ht']; exact z1, hDD _ z1 z2, z3, fun a g i v ha hn h => z4 a g i v ha hn (h0 a g i v ha h), fun m9 h => z5 m9 (h0 _ _ _ _ t0 h), fun i v hi h => z6 i v hi (h0 _ _ _ _ (T.1 0 (by decide)).2.1 h), fun a v ha hne h => z7 a v ha hne (h0 _ _ _ _ ha h), fun a i v ha hne h => z8 a i v ha hne (h0 _ _ _ _ ha h)⟩, hS2.F ht'⟩) hS2.2.2 dNX5_hold_13 hlocks
def zm_X5_keepN : zf_M := (([(0, 8), (0, 8)], [], 64, [], [.inr (some (10, 10))], [(10, 10, ([], 1), .inl ([(0, 1)], 0)), (10, 10, ([], 2), .inl ([(1, 1)], 0))]), [(10, ([], 1), ([], 2))], [(none, ([(0, 7), (0, 7)], [], 64, [], [], [(10, 10, ([], 1), .inl ([(0, 1)], 1)), (10, 10, ([], 2), .inl ([(1, 1)], 1))])), (none, ([(0, 7), (7, 8)], [], 64, [], [], [(10, 10, ([], 1), .inl ([(0, 1)], 1)), (10, 10, ([], 2), .inl ([], 8))])), (none, ([(8, 8), (0, 7)], [], 64, [], [], [(10, 10, ([], 1), .inl ([], 0)), (10, 10, ([], 2), .inl ([(1, 1)], 1))])), (none, ([(8, 8), (7, 8)], [], 64, [], [], [(10, 10, ([], 1), .inl ([], 0)), (10, 10, ([], 2), .inl ([], 8))]))])
set_option maxRecDepth 100000 in
set_option maxHeartbeats 4000000 in
theorem kc_X5_keepN (l : Launch) (D : va_G) (k : Nat → ClassId) (B0 : Nat) (ad : Nat → Nat) (al sw : Nat) : zf_Con l yX5_keep (zw yX5_keep cX5_keep 1 none) ({ frames := 1, cells := 0, slots := 0, locals := 21 }) D k (zEx B0 ad al sw) zGT 37 zm_X5_keepN := by
  have hEx := zEx_ok B0 ad al sw
  refine zf_mk (cc := cX5_keep) (nL := 1) (ret := none) (Ms := [zf_mMin]) (fg := [(16, 3, 2, .inl (0, 0)), (20, 3, 1, .inl (0, 0))]) (fp := [(16, 3, 2, .inl ((-2147483648), 2147483647)), (20, 3, 1, .inl ((-2147483648), 2147483647))]) (ins := zn_X5_keep) (cuts := zu_X5_keep) (fuel := 3000) (by decide) rfl hEx (by decide +kernel) (by decide +kernel) (by decide +kernel) (by decide +kernel) ?_
  intro p e s m args below meth c Q Sg w0 A θ0 S hK hE hAB hA hone hsing
  refine ⟨?_, ?_, ?_⟩
  · exact zf_ac ((fun H locs ws a q0 fs v rest pc ls hP he hv hdg kk => va_get (D := D) (ci := 3) (C := RX5) (T := TX5) (N := 3) (own := RX5) S.1 S.2.1 S.2.2.2.2 (zg_in inW_X5) S.2.2.2.1 hK hP q0 he rfl 2 (by decide) (S.2.2.2.2 (.fieldLink RX5 16 "RungMoney$Past" "size" "I") (List.mem_cons_of_mem _ zw_376)) (fun _ h9 => h9) hv hdg kk)) (zf_ac ((fun H locs ws a q0 fs v rest pc ls hP he hv hdg kk => va_get (D := D) (ci := 3) (C := RX5) (T := TX5) (N := 3) (own := RX5) S.1 S.2.1 S.2.2.2.2 (zg_in inW_X5) S.2.2.2.1 hK hP q0 he rfl 1 (by decide) (S.2.2.2.2 (.fieldLink RX5 20 "RungMoney$Past" "free" "I") (List.mem_cons_of_mem _ zw_375)) (fun _ h9 => h9) hv hdg kk)) zf_an)
  · exact zf_ac ((fun H locs ws a q0 fs v rest pc ls hP hD hS he hl hv hdg kk => by obtain ⟨x, rfl, h1, h2⟩ := hv; exact va_put (D := D) (ci := 3) (v := .int x) (ty := .int) (C := RX5) (T := TX5) (N := 3) (own := RX5) S.1 S.2.1 S.2.2.2.2 (zg_in inW_X5) tyX5 tyX5_ok nmX5 S.2.2.2.1 hK hP hD hS q0 he rfl 2 (by decide) (S.2.2.2.2 (.fieldLink RX5 16 "RungMoney$Past" "size" "I") (List.mem_cons_of_mem _ zw_376)) (fun _ h9 => h9) rfl (by decide +kernel) rfl rfl hl hdg kk)) (zf_ac ((fun H locs ws a q0 fs v rest pc ls hP hD hS he hl hv hdg kk => by obtain ⟨x, rfl, h1, h2⟩ := hv; exact va_put (D := D) (ci := 3) (v := .int x) (ty := .int) (C := RX5) (T := TX5) (N := 3) (own := RX5) S.1 S.2.1 S.2.2.2.2 (zg_in inW_X5) tyX5 tyX5_ok nmX5 S.2.2.2.1 hK hP hD hS q0 he rfl 1 (by decide) (S.2.2.2.2 (.fieldLink RX5 20 "RungMoney$Past" "free" "I") (List.mem_cons_of_mem _ zw_375)) (fun _ h9 => h9) rfl (by decide +kernel) rfl rfl hl hdg kk)) zf_an)
  · exact zf_crl (xs := [(.invokestatic 27, 3, 0)]) (by decide +kernel) (zf_ac (zf_crmin (own := RX5) S.1 S.2.1 S.2.2.1 S.2.2.2.1 (S.2.2.2.2 (.methodLink RX5 27 Lib.Math.min.name) (List.mem_cons_of_mem _ zw_759)) (S.2.2.2.2 (.static Lib.Math.min.name) (List.mem_cons_of_mem _ zw_760)) (S.2.2.2.2 (.initialized "java/lang/Math") (List.mem_cons_of_mem _ zw_116)) (S.2.2.2.2 (.code Lib.Math.min.name Lib.Math.min.code 2 (some .int)) (List.mem_cons_of_mem _ zw_761)) (Nat.le_of_ble_eq_true rfl) (Nat.le_of_ble_eq_true rfl) (Nat.le_of_ble_eq_true rfl) (Nat.le_of_ble_eq_true rfl)) zf_an)
def zm_X12_keepIfDoneN : zf_M := (([((-2147483648), 2147483647), (0, 8), (0, 8)], [], 64, [], [.inl ([(0, 1)], 0), .inr (some (0, 0))], [(10, 10, ([], 1), .inl ([(1, 1)], 0)), (10, 10, ([], 2), .inl ([(2, 1)], 0))]), [(10, ([], 1), ([], 2))], [(some (.inl ([(0, 1)], 0)), ([((-2147483648), 2147483647), (0, 7), (0, 7)], [], 64, [], [], [(10, 10, ([], 1), .inl ([(1, 1)], 1)), (10, 10, ([], 2), .inl ([(2, 1)], 1))])), (some (.inl ([(0, 1)], 0)), ([((-2147483648), 2147483647), (0, 7), (7, 8)], [], 64, [], [], [(10, 10, ([], 1), .inl ([(1, 1)], 1)), (10, 10, ([], 2), .inl ([], 8))])), (some (.inl ([(0, 1)], 0)), ([((-2147483648), 2147483647), (8, 8), (0, 7)], [], 64, [], [], [(10, 10, ([], 1), .inl ([], 0)), (10, 10, ([], 2), .inl ([(2, 1)], 1))])), (some (.inl ([(0, 1)], 0)), ([((-2147483648), 2147483647), (8, 8), (7, 8)], [], 64, [], [], [(10, 10, ([], 1), .inl ([], 0)), (10, 10, ([], 2), .inl ([], 8))])), (some (.inl ([(0, 1)], 0)), ([((-2147483648), 2147483647), (0, 8), (0, 8)], [], 64, [], [], [(10, 10, ([], 1), .inl ([(1, 1)], 0)), (10, 10, ([], 2), .inl ([(2, 1)], 0))]))])
set_option maxRecDepth 100000 in
set_option maxHeartbeats 4000000 in
theorem kc_X12_keepIfDoneN (l : Launch) (D : va_G) (k : Nat → ClassId) (B0 : Nat) (ad : Nat → Nat) (al sw : Nat) : zf_Con l yX12_keepIfDone (zw yX12_keepIfDone cX12_keepIfDone 2 (some .int)) ({ frames := 2, cells := 0, slots := 0, locals := 41 }) D k (zEx B0 ad al sw) zGT 37 zm_X12_keepIfDoneN := by
  have hEx := zEx_ok B0 ad al sw
  refine zf_mk (cc := cX12_keepIfDone) (nL := 2) (ret := (some .int)) (Ms := [zm_X5_keepN]) (fg := [(64, 10, 8, .inl (0, 0))]) (fp := []) (ins := zn_X12_keepIfDone) (cuts := zu_X12_keepIfDone) (fuel := 3000) (by decide) rfl hEx (by decide +kernel) (by decide +kernel) (by decide +kernel) (by decide +kernel) ?_
  intro p e s m args below meth c Q Sg w0 A θ0 S hK hE hAB hA hone hsing
  refine ⟨?_, ?_, ?_⟩
  · exact zf_ac ((fun H locs ws a q0 fs v rest pc ls hP he hv hdg kk => va_get (D := D) (ci := 10) (C := RX12) (T := TX12) (N := 18) (own := RX12) S.1 S.2.1 S.2.2.2.2 (zg_in inW_X12) S.2.2.2.1 hK hP q0 he rfl 8 (by decide) (S.2.2.2.2 (.fieldLink RX12 64 "RungMoney" "past" "LRungMoney$Past;") (List.mem_cons_of_mem _ zw_407)) (fun _ h9 => h9) hv hdg kk)) zf_an
  · exact zf_an
  · exact zf_crl (xs := [(.invokevirtual 238, 3, 0)]) (by decide +kernel) (zf_ac (zf_crV S hEx hE hAB hA hK hone hsing (kc_X5_keepN l D k B0 ad al sw) (cwV 0 S.2.2.2.2 (zg_V zw_755 zw_756 zw_757 zw_106 zw_758) rfl rfl rfl (by decide +kernel) ⟨(Nat.le_of_ble_eq_true rfl), (Nat.le_of_ble_eq_true rfl)⟩) ⟨(Nat.le_of_ble_eq_true rfl), (Nat.le_of_ble_eq_true rfl)⟩ 3 rfl rfl (ar := []) rfl rfl (by decide +kernel)) zf_an)
