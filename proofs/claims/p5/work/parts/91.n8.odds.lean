/-! ===== odds: the spare town alone ===== -/
section NUO
variable {Sg : Nat → Option Nat} {th tw nm : Nat → Nat} {ws ws' : va_W} {nsv k0 k1 : List (List Int32)} {f9 s9 : Nat}
theorem nu_spare (hsing : ∀ g, g < 37 → g < 64 → Sg (th g) = some g) (C : nu_C Sg th tw nm ws nsv k0 k1 f9 s9) {b : Nat} (hfr : zf_fr Sg zm_X10_copy.2.1 (fun _ => 0) ws ws') (hcp : nu_cp Sg ws ws' (tw 1) (tw b) (nm 1) (nm b)) : nu_C Sg th tw nm ws' nsv k0 k1 f9 s9 := by
  obtain ⟨T, N0, N2, N3, f8, s8, h1, h2, R⟩ := C
  have g10 := hsing 10 (by decide) (by decide)
  have o1 : nu_ok zm_X10_copy.2.1 10 1 2 = true := by decide
  exact ⟨nu_Tf (by decide) hfr hsing T, nu_c2 hcp T (by decide) (by decide) (by decide) N0, nu_c2 hcp T (by decide) (by decide) (by decide) N2, nu_c2 hcp T (by decide) (by decide) (by decide) N3, f8, s8, nu_fr o1 hfr g10 (by decide) (by decide) h1, nu_fr o1 hfr g10 (by decide) (by decide) h2, fun t ht => nu_c2 hcp T (by decide) (nu_m9 f9 t) (by omega) (R t ht)⟩
def nu_θ2 (th tw : Nat → Nat) : Nat → Nat := fun i => if i = 64 then tw 0 else if i = 65 then tw 1 else th i
theorem nu_t2 {g : Nat} (h : g < 64) : nu_θ2 th tw g = th g := by
  unfold nu_θ2
  rw [if_neg (by omega), if_neg (by omega)]
theorem nu_t64 : nu_θ2 th tw 64 = tw 0 := if_pos rfl
theorem nu_t65 : nu_θ2 th tw 65 = tw 1 := by
  unfold nu_θ2
  rw [if_neg (by decide), if_pos rfl]
/-- the towns of the class as facts -/
theorem nu_tf2 {θ : Nat → Nat} {ρ : Nat → Int} {hs : List zf_H} (hsing : ∀ g, g < 37 → g < 64 → Sg (th g) = some g) (hθ : ∀ i, i < 66 → θ i = nu_θ2 th tw i) (T : nu_T Sg th tw nm ws) (hh : ∀ x ∈ hs, zf_hok Sg ρ θ ws x) : ∀ x ∈ ((0, 0, ([], 3), .inr (some (64, 64))) : zf_H) :: (0, 0, ([], 4), .inr (some (64, 65))) :: hs, zf_hok Sg ρ θ ws x := by
  have g0 := hsing 0 (by decide) (by decide)
  have e0 : θ 0 = th 0 := (hθ 0 (by decide)).trans (nu_t2 (by decide))
  have e64 : θ 64 = tw 0 := (hθ 64 (by decide)).trans nu_t64
  have e65 : θ 65 = tw 1 := (hθ 65 (by decide)).trans nu_t65
  refine zf_ac ((zf_hokT (show (0 : Nat) < 1000 by decide)).mpr ⟨?_, zp_0 (by decide), _, ?_, rfl, ?_⟩) (zf_ac ((zf_hokT (show (0 : Nat) < 1000 by decide)).mpr ⟨?_, zp_0 (by decide), _, ?_, rfl, ?_⟩) hh)
  · show Sg (θ 0) = some 0
    rw [e0]; exact g0
  · show zf_rd ws (θ 0) 3 (.ref (θ 64))
    rw [e0, e64]; exact T.2.2.2.1
  · show Sg (θ 64) = some 64
    rw [e64]; exact (T.1 0 (by decide)).1
  · show Sg (θ 0) = some 0
    rw [e0]; exact g0
  · show zf_rd ws (θ 0) 4 (.ref (θ 65))
    rw [e0, e65]; exact T.2.2.2.2.1
  · show Sg (θ 65) = some 64
    rw [e65]; exact (T.1 1 (by decide)).1
def nu_ρ4 (ρ : Nat → Int) : Nat → Int := fun x => if x = 4 then ρ 6 else if x = 5 then ρ 5 + 1 else ρ x
end NUO
set_option maxRecDepth 100000 in
set_option maxHeartbeats 4000000 in
theorem zR_X12_odds (l : Launch) (D : va_G) (k : Nat → ClassId) (B0 : Nat) (ad : Nat → Nat) (al sw : Nat) : zf_Rl l yX12_odds (zw yX12_odds cX12_odds 7 (some .int)) ({ frames := 3, cells := 0, slots := 0, locals := 102 }) cX12_odds 7 D k zGT 37 B0 [zm_X10_hasMan, zm_X10_copy, zm_X10_passWinters, zm_X3_sumOf] [(37, 10, 3, .inl (0, 0)), (41, 10, 4, .inl (0, 0)), (142, 8, 2, .inl (0, 0))] [] zn_X12_odds (zEx B0 ad al sw) := by
  have hEx := zEx_ok B0 ad al sw
  intro p e s m args below meth c Q Sg w0 A θ0 S hK hE hAB hA hone hsing
  refine ⟨?_, ?_, ?_⟩
  · exact zf_ac ((fun H locs ws a q0 fs v rest pc ls hP he hv hdg kk => va_get (D := D) (ci := 10) (C := RX12) (T := TX12) (N := 18) (own := RX12) S.1 S.2.1 S.2.2.2.2 (zg_in inW_X12) S.2.2.2.1 hK hP q0 he rfl 3 (by decide) (S.2.2.2.2 (.fieldLink RX12 37 "RungMoney" "town" "LRungMoney$Town;") (List.mem_cons_of_mem _ zw_402)) (fun _ h9 => h9) hv hdg kk)) (zf_ac ((fun H locs ws a q0 fs v rest pc ls hP he hv hdg kk => va_get (D := D) (ci := 10) (C := RX12) (T := TX12) (N := 18) (own := RX12) S.1 S.2.1 S.2.2.2.2 (zg_in inW_X12) S.2.2.2.1 hK hP q0 he rfl 4 (by decide) (S.2.2.2.2 (.fieldLink RX12 41 "RungMoney" "spare" "LRungMoney$Town;") (List.mem_cons_of_mem _ zw_403)) (fun _ h9 => h9) hv hdg kk)) (zf_ac ((fun H locs ws a q0 fs v rest pc ls hP he hv hdg kk => va_get (D := D) (ci := 8) (C := RX10) (T := TX10) (N := 9) (own := RX12) S.1 S.2.1 S.2.2.2.2 (zg_in inW_X10) S.2.2.2.1 hK hP q0 he rfl 2 (by decide) (S.2.2.2.2 (.fieldLink RX12 142 "RungMoney$Town" "ladders" "LRungMoney$Ladders;") (List.mem_cons_of_mem _ zw_269)) (fun _ h9 => h9) hv hdg kk)) zf_an))
  · exact zf_an
  · exact zf_crl (xs := [(.invokevirtual 162, 3, 0), (.invokevirtual 131, 3, 1), (.invokevirtual 263, 3, 2), (.invokevirtual 169, 3, 3)]) (by decide +kernel) (zf_ac (zf_crV S hEx hE hAB hA hK hone hsing (kc_X10_hasMan l D k B0 ad al sw) (cwV 1 S.2.2.2.2 (zg_V zw_653 zw_654 zw_655 zw_99 zw_656) rfl rfl rfl (by decide +kernel) ⟨(Nat.le_of_ble_eq_true rfl), (Nat.le_of_ble_eq_true rfl)⟩) ⟨(Nat.le_of_ble_eq_true rfl), (Nat.le_of_ble_eq_true rfl)⟩ 8 rfl rfl (ar := [.inl ([(0, 1)], 0)]) rfl rfl (by decide +kernel)) (zf_ac (zf_crV S hEx hE hAB hA hK hone hsing (kc_X10_copy l D k B0 ad al sw) (cwV 1 S.2.2.2.2 (zg_V zw_608 zw_609 zw_610 zw_99 zw_611) rfl rfl rfl (by decide +kernel) ⟨(Nat.le_of_ble_eq_true rfl), (Nat.le_of_ble_eq_true rfl)⟩) ⟨(Nat.le_of_ble_eq_true rfl), (Nat.le_of_ble_eq_true rfl)⟩ 8 rfl rfl (ar := [.inr (some (64, 65))]) rfl rfl (by decide +kernel)) (zf_ac (zf_crV S hEx hE hAB hA hK hone hsing (kc_X10_passWinters l D k B0 ad al sw) (cwV 2 S.2.2.2.2 (zg_V zw_888 zw_854 zw_855 zw_99 zw_856) rfl rfl rfl (by decide +kernel) ⟨(Nat.le_of_ble_eq_true rfl), (Nat.le_of_ble_eq_true rfl)⟩) ⟨(Nat.le_of_ble_eq_true rfl), (Nat.le_of_ble_eq_true rfl)⟩ 8 rfl rfl (ar := [.inl ([(1, 1)], 0), .inl ([(0, 1)], 0)]) rfl rfl (by decide +kernel)) (zf_ac (zf_crV S hEx hE hAB hA hK hone hsing (kc_X3_sumOf l D k B0 ad al sw) (cwV 2 S.2.2.2.2 (zg_V zw_661 zw_662 zw_663 zw_100 zw_664) rfl rfl rfl (by decide +kernel) ⟨(Nat.le_of_ble_eq_true rfl), (Nat.le_of_ble_eq_true rfl)⟩) ⟨(Nat.le_of_ble_eq_true rfl), (Nat.le_of_ble_eq_true rfl)⟩ 1 rfl rfl (ar := [.inl ([(1, 1)], 0), .inl ([(0, 1)], 0)]) rfl rfl (by decide +kernel)) zf_an))))
def zm_odds0 : zf_M := (([((-2147483648), 2147483647), ((-2147483648), 2147483647), ((-2147483648), 2147483647), ((-2147483648), 2147483647)], [], 66, [], [], []), [], [(some (.inl ([], (-1))), ([((-2147483648), 2147483647), ((-2147483648), 2147483647), ((-2147483648), 2147483647), ((-2147483648), 2147483647)], [], 66, [], [], []))])
def zu_odds0 : zf_U := (41, ([(0, 5), (0, 500), (1, 30), ((-2147483648), 2147483647), ((-2147483648), 2147483647), (0, 30)], [], 66, [(0, .inr (some (0, 0))), (1, .inl ([(0, 1)], 0)), (2, .inl ([(1, 1)], 0)), (3, .inl ([(2, 1)], 0)), (4, .inl ([(3, 1)], 0)), (5, .inl ([(4, 1)], 0)), (6, .inl ([(5, 1)], 0))], [], [(0, 0, ([], 3), .inr (some (64, 64))), (0, 0, ([], 4), .inr (some (64, 65)))]), ([], 0), 0)
set_option maxRecDepth 100000 in
set_option maxHeartbeats 4000000 in
theorem kr_odds0 : zf_run 4 66 37 7 zGT zm_odds0 [zm_X10_hasMan, zm_X10_copy, zm_X10_passWinters, zm_X3_sumOf] [(37, 10, 3, .inl (0, 0)), (41, 10, 4, .inl (0, 0)), (142, 8, 2, .inl (0, 0))] [] zn_X12_odds [zu_odds0] none 3000 0 ([((-2147483648), 2147483647), ((-2147483648), 2147483647), ((-2147483648), 2147483647), ((-2147483648), 2147483647)], [], 66, [(0, .inr (some (0, 0))), (1, .inl ([(0, 1)], 0)), (2, .inl ([(1, 1)], 0)), (3, .inl ([(2, 1)], 0)), (4, .inl ([(3, 1)], 0))], [], [(0, 0, ([], 3), .inr (some (64, 64))), (0, 0, ([], 4), .inr (some (64, 65)))]) = true := by decide +kernel
def zm_oddsL : zf_M := (([(0, 5), (0, 500), (1, 30), ((-2147483648), 2147483647), ((-2147483648), 2147483647), (0, 30)], [], 66, [], [], []), [], [(some (.inl ([(6, 1)], 0)), ([(0, 5), (0, 500), (1, 30), ((-2147483648), 2147483647), ((-2147483648), 2147483647), (0, 30), ((-2147483648), 2147483647)], [], 66, [], [], []))])
def zu_oddsL : zf_U := (55, ([(0, 5), (0, 500), (1, 30), ((-2147483648), 2147483647), ((-2147483648), 2147483647), (0, 30)], [([(2, 1), (5, (-1))], (-1))], 66, [(0, .inr (some (0, 0))), (1, .inl ([(0, 1)], 0)), (2, .inl ([(1, 1)], 0)), (3, .inl ([(2, 1)], 0)), (4, .inl ([(3, 1)], 0)), (5, .inl ([(4, 1)], 0)), (6, .inl ([(5, 1)], 0))], [.inr (some (64, 64)), .inr (some (64, 65))], [(0, 0, ([], 3), .inr (some (64, 64))), (0, 0, ([], 4), .inr (some (64, 65)))]), ([], 0), 0)
set_option maxRecDepth 100000 in
set_option maxHeartbeats 4000000 in
theorem kr_oddsL : zf_run 6 66 37 7 zGT zm_oddsL [zm_X10_hasMan, zm_X10_copy, zm_X10_passWinters, zm_X3_sumOf] [(37, 10, 3, .inl (0, 0)), (41, 10, 4, .inl (0, 0)), (142, 8, 2, .inl (0, 0))] [] zn_X12_odds [zu_oddsL] none 3000 41 ([(0, 5), (0, 500), (1, 30), ((-2147483648), 2147483647), ((-2147483648), 2147483647), (0, 30)], [], 66, [(0, .inr (some (0, 0))), (1, .inl ([(0, 1)], 0)), (2, .inl ([(1, 1)], 0)), (3, .inl ([(2, 1)], 0)), (4, .inl ([(3, 1)], 0)), (5, .inl ([(4, 1)], 0)), (6, .inl ([(5, 1)], 0))], [], [(0, 0, ([], 3), .inr (some (64, 64))), (0, 0, ([], 4), .inr (some (64, 65)))]) = true := by decide +kernel
def zm_oddsM : zf_M := (([(0, 5), (0, 500), (1, 30), ((-2147483648), 2147483647), ((-2147483648), 2147483647), (0, 30)], [], 66, [], [], []), [(66, ([], 0), ([], 0)), (67, ([], 0), ([], 15)), (68, ([], 0), ([], 15)), (69, ([], 0), ([], 15)), (70, ([], 0), ([], 15)), (71, ([], 0), ([], 15)), (73, ([], 0), ([], 35)), (75, ([], 0), ([], 5)), (64, ([], 5), ([], 8))], [])
def zu_oddsM : zf_U := (41, ([(0, 5), (0, 500), (1, 30), ((-2147483648), 2147483647), ((-2147483648), 2147483647), (0, 30), ((-2147483648), 2147483647)], [([(2, 1), (5, (-1))], (-1))], 66, [(0, .inr (some (0, 0))), (1, .inl ([(0, 1)], 0)), (2, .inl ([(1, 1)], 0)), (3, .inl ([(2, 1)], 0)), (4, .inl ([(3, 1)], 0)), (5, .inl ([(6, 1)], 0)), (6, .inl ([(5, 1)], 1))], [], [(0, 0, ([], 3), .inr (some (64, 64))), (0, 0, ([], 4), .inr (some (64, 65)))]), ([], 0), 0)
set_option maxRecDepth 100000 in
set_option maxHeartbeats 4000000 in
theorem kr_oddsM : zf_run 6 66 37 7 zGT zm_oddsM [zm_X10_hasMan, zm_X10_copy, zm_X10_passWinters, zm_X3_sumOf] [(37, 10, 3, .inl (0, 0)), (41, 10, 4, .inl (0, 0)), (142, 8, 2, .inl (0, 0))] [] zn_X12_odds [zu_oddsM] none 3000 58 ([(0, 5), (0, 500), (1, 30), ((-2147483648), 2147483647), ((-2147483648), 2147483647), (0, 30)], [([(2, 1), (5, (-1))], (-1))], 66, [(0, .inr (some (0, 0))), (1, .inl ([(0, 1)], 0)), (2, .inl ([(1, 1)], 0)), (3, .inl ([(2, 1)], 0)), (4, .inl ([(3, 1)], 0)), (5, .inl ([(4, 1)], 0)), (6, .inl ([(5, 1)], 0))], [], [(0, 0, ([], 3), .inr (some (64, 64))), (0, 0, ([], 4), .inr (some (64, 65)))]) = true := by decide +kernel
theorem dNX12_odds_55 : decode cX12_odds 55 = .ok (.invokevirtual 131, 3) := by decide +kernel
def nu_r4 (a1 a2 a3 a4 : Int32) : Nat → Int
  | 0 => a1.toInt
  | 1 => a2.toInt
  | 2 => a3.toInt
  | _ => a4.toInt
theorem nu_r4E (a1 a2 a3 a4 : Int32) : zf_okE [((-2147483648), 2147483647), ((-2147483648), 2147483647), ((-2147483648), 2147483647), ((-2147483648), 2147483647)] (nu_r4 a1 a2 a3 a4)
  | 0 => ⟨zi_lo a1, zi_hi a1⟩
  | 1 => ⟨zi_lo a2, zi_hi a2⟩
  | 2 => ⟨zi_lo a3, zi_hi a3⟩
  | 3 => ⟨zi_lo a4, zi_hi a4⟩
  | _ + 4 => ⟨zi_lo a4, zi_hi a4⟩
theorem nu_big (ρ3 : Nat → Int) (x : Nat) (h : zf_okE [(0, 5), (0, 500), (1, 30), ((-2147483648), 2147483647), ((-2147483648), 2147483647), (0, 30), ((-2147483648), 2147483647)] ρ3) : (zf_at [(0, 5), (0, 500), (1, 30), ((-2147483648), 2147483647), ((-2147483648), 2147483647), (0, 30)] (x + 6)).1 ≤ nu_ρ4 ρ3 (x + 6) ∧ nu_ρ4 ρ3 (x + 6) ≤ (zf_at [(0, 5), (0, 500), (1, 30), ((-2147483648), 2147483647), ((-2147483648), 2147483647), (0, 30)] (x + 6)).2 := by
  have h1 : ((-2147483648 : Int)) ≤ ρ3 (x + 6) ∧ ρ3 (x + 6) ≤ 2147483647 := by
    match x with
    | 0 => exact h 6
    | x + 1 => exact h (x + 7)
  have e : nu_ρ4 ρ3 (x + 6) = ρ3 (x + 6) := by
    unfold nu_ρ4
    rw [if_neg (by omega), if_neg (by omega)]
  rw [e]
  exact h1
set_option maxRecDepth 100000 in
set_option maxHeartbeats 4000000 in
theorem kn_X12_odds (l : Launch) (D : va_G) (k : Nat → ClassId) (B0 : Nat) (ad : Nat → Nat) (al sw : Nat) {Sg : Nat → Option Nat} {ws : va_W} {th tw nm : Nat → Nat} (sz : Nat) (hone : ∀ a g, Sg a = some g → g < 64 → a = th g) (hsing : ∀ g, g < 37 → g < 64 → Sg (th g) = some g) (ht : zf_typ Sg k zGT ws) {nsv k0 k1 : List (List Int32)} {f9 s9 : Nat} (C : nu_C Sg th tw nm ws nsv k0 k1 f9 s9) (a1 a2 a3 a4 : Int32) :
    Met l yX12_odds (zw yX12_odds cX12_odds 7 (some .int)) ({ frames := 3, cells := 0, slots := 0, locals := 102 }) (va_Pc [.ref (th 0), .int a1, .int a2, .int a3, .int a4] (g_pr D k (zEx B0 ad al sw Sg ws) sz ws)) (zf_Q (fun _ t => nu_Q D k Sg th tw nm nsv k0 k1 (va_A ws sz) t) (va_A ws sz)) 0 0 (va_A ws sz) := by
  have hEx := zEx_ok B0 ad al sw
  refine zp_open (Qp := fun A _ t => nu_Q D k Sg th tw nm nsv k0 k1 A t) (by decide) rfl hEx (Nat.le_of_ble_eq_true rfl) ?_
  intro p e s m below meth c A ls S hr hlocks hK hE hAB hA hP hD hS hl
  have hx := S.1
  have hb := S.2.1
  have g0 : Sg (th 0) = some 0 := hsing 0 (by decide) (by decide)
  have loop : ∀ (dd : Nat) (ρ1 : Nat → Int) (θ1 : Nat → Nat) (w1 : va_W) (H1 : Heap) (locs1 : List Loc) (ls1 : Array Slot) (st1 : List Value), (∀ i, i < 66 → θ1 i = nu_θ2 th tw i) → va_P D vwCl w1 H1 → va_D A w1 → va_S A s.heap H1 locs1 → zf_typ Sg k zGT w1 → nu_C Sg th tw nm w1 nsv k0 k1 f9 s9 → zf_sat Sg ρ1 θ1 7 ([(0, 5), (0, 500), (1, 30), ((-2147483648), 2147483647), ((-2147483648), 2147483647), (0, 30)], [], 66, [(0, .inr (some (0, 0))), (1, .inl ([(0, 1)], 0)), (2, .inl ([(1, 1)], 0)), (3, .inl ([(2, 1)], 0)), (4, .inl ([(3, 1)], 0)), (5, .inl ([(4, 1)], 0)), (6, .inl ([(5, 1)], 0))], [], [(0, 0, ([], 3), .inr (some (64, 64))), (0, 0, ([], 4), .inr (some (64, 65)))]) ls1 st1 w1 → ρ1 2 - ρ1 5 ≤ (dd : Int) → W p l e ({ frames := 3, cells := 0, slots := 0, locals := 102 } : Room) s m ([.ref (th 0), .int a1, .int a2, .int a3, .int a4] : List Value).toArray below meth c H1 locs1 0 0 (MQ below (zf_Q ((fun _ t => nu_Q D k Sg th tw nm nsv k0 k1 A t)) A) ([.ref (th 0), .int a1, .int a2, .int a3, .int a4] : List Value).toArray s 0 0 A) (F0 m 41 ls1 st1) := by
    intro dd
    induction dd with
    | zero =>
      intro ρ1 θ1 w1 H1 locs1 ls1 st1 hθ hP1 hD1 hS1 ht1 C1 hsat hdd
      refine zp_run (M := zm_oddsL) (cuts := [zu_oddsL]) (σ := ([(0, 5), (0, 500), (1, 30), ((-2147483648), 2147483647), ((-2147483648), 2147483647), (0, 30)], [], 66, [(0, .inr (some (0, 0))), (1, .inl ([(0, 1)], 0)), (2, .inl ([(1, 1)], 0)), (3, .inl ([(2, 1)], 0)), (4, .inl ([(3, 1)], 0)), (5, .inl ([(4, 1)], 0)), (6, .inl ([(5, 1)], 0))], [], [(0, 0, ([], 3), .inr (some (64, 64))), (0, 0, ([], 4), .inr (some (64, 65)))])) (ρ := ρ1) (θ := θ1) hEx (by decide +kernel) (zR_X12_odds l D k B0 ad al sw) S hK hE hAB hA (fun a g h1 h2 => by rw [hθ g (Nat.lt_trans h2 (by decide)), nu_t2 h2]; exact hone a g h1 h2) (fun g h1 h2 => by rw [hθ g (Nat.lt_trans h2 (by decide)), nu_t2 h2]; exact hsing g h1 h2) rfl (by decide +kernel) kr_oddsL hP1 hD1 hS1 ht1 hsat (zf_ac (fun ρ2 θ2 w2 H2 locs2 ls2 st2 hρ2 hθ2 hP2 hD2 hS2 ht2 hfr2 hsat2 => ?_) zf_an) (fun H locs w3 ls pc i v hP3 hD3 hS3 hpost hdg hrv => ?_)
      · exfalso
        have h1 : (0 : Int) ≤ 1 * ρ2 2 + ((-1) * ρ2 5 + (-1)) := hsat2.2.1 _ List.mem_cons_self
        rw [hρ2 2 (by decide), hρ2 5 (by decide)] at h1
        have hdd : ρ1 2 - ρ1 5 ≤ 0 := hdd
        omega
      · obtain ⟨rfl, v, rfl⟩ := zt_ri (by decide +kernel) hpost hrv
        exact W.iret hx hb hr (fun t ht' hW => ⟨⟨_, rfl, w3, by rw [ht']; exact hP3, hD3, hpost.2.1, f9, s9, nu_Cf (by decide) hpost.2.2 hsing C1⟩, hS3.F ht'⟩) hS3.2.2 hdg hlocks
    | succ dd ih =>
      intro ρ1 θ1 w1 H1 locs1 ls1 st1 hθ hP1 hD1 hS1 ht1 C1 hsat hdd
      refine zp_run (M := zm_oddsL) (cuts := [zu_oddsL]) (σ := ([(0, 5), (0, 500), (1, 30), ((-2147483648), 2147483647), ((-2147483648), 2147483647), (0, 30)], [], 66, [(0, .inr (some (0, 0))), (1, .inl ([(0, 1)], 0)), (2, .inl ([(1, 1)], 0)), (3, .inl ([(2, 1)], 0)), (4, .inl ([(3, 1)], 0)), (5, .inl ([(4, 1)], 0)), (6, .inl ([(5, 1)], 0))], [], [(0, 0, ([], 3), .inr (some (64, 64))), (0, 0, ([], 4), .inr (some (64, 65)))])) (ρ := ρ1) (θ := θ1) hEx (by decide +kernel) (zR_X12_odds l D k B0 ad al sw) S hK hE hAB hA (fun a g h1 h2 => by rw [hθ g (Nat.lt_trans h2 (by decide)), nu_t2 h2]; exact hone a g h1 h2) (fun g h1 h2 => by rw [hθ g (Nat.lt_trans h2 (by decide)), nu_t2 h2]; exact hsing g h1 h2) rfl (by decide +kernel) kr_oddsL hP1 hD1 hS1 ht1 hsat (zf_ac (fun ρ2 θ2 w2 H2 locs2 ls2 st2 hρ2 hθ2 hP2 hD2 hS2 ht2 hfr2 hsat2 => ?_) zf_an) (fun H locs w3 ls pc i v hP3 hD3 hS3 hpost hdg hrv => ?_)
      · obtain ⟨hE2, hF2, ⟨lv, hlv, hlv2⟩, hst, hh⟩ := hsat2
        have h1 : (0 : Int) ≤ 1 * ρ2 2 + ((-1) * ρ2 5 + (-1)) := hF2 _ List.mem_cons_self
        obtain ⟨v1, st4, rfl, ⟨rfl, b1⟩, hst_1⟩ := zf_f2_c hst
        obtain ⟨v2, st5, rfl, ⟨rfl, b2⟩, hst_2⟩ := zf_f2_c hst_1
        cases zf_nil hst_2
        have hθ3 : ∀ i, i < 66 → θ2 i = nu_θ2 th tw i := fun i hi => (hθ2 i hi).trans (hθ i hi)
        have e64 : θ2 64 = tw 0 := (hθ3 64 (by decide)).trans nu_t64
        have e65 : θ2 65 = tw 1 := (hθ3 65 (by decide)).trans nu_t65
        have C2 := nu_Cf (by decide) hfr2 hsing C1
        have t0 := C2.1.1 0 (by decide)
        have t1 := C2.1.1 1 (by decide)
        have hM := kn_X10_copy l D k B0 ad al sw H2.size hone hsing ht2 t1.1 t0.1 t1.2.1 t0.2.1 t1.2.2 t0.2.2
        have e64v : Value.ref (θ2 64) = .ref (tw 0) := by rw [e64]
        have e65v : Value.ref (θ2 65) = .ref (tw 1) := by rw [e65]
        show W p l e _ s m _ below meth c H2 locs2 0 0 _ (F0 m 55 ls2 [.ref (θ2 64), .ref (θ2 65)])
        rw [e64v, e65v]
        refine zp_call (cells := 0) (slots := 0) (As := [.ref (tw 0)]) (b := tw 1) (g := 64) (ci := 8) (rest := []) S hEx hE hAB hA hK hM (cwV 1 S.2.2.2.2 (zg_V zw_608 zw_609 zw_610 zw_99 zw_611) rfl rfl rfl (by decide +kernel) ⟨(Nat.le_of_ble_eq_true rfl), (Nat.le_of_ble_eq_true rfl)⟩) ⟨Nat.le_of_ble_eq_true rfl, Nat.le_of_ble_eq_true rfl⟩ rfl rfl (by decide +kernel) t1.1 rfl hP2 hD2 hS2 ht2 hlv.1 (Nat.zero_le _) dNX12_odds_55 (fun v t H3 locs3 ht3 hB hDD hS3 => ?_)
        obtain ⟨rfl, w3, u1, u2, u3, u4, u5⟩ := hB
        rw [ht3] at u1
        have C3 := nu_spare hsing C2 u4 u5
        refine zp_run (M := zm_oddsM) (cuts := [zu_oddsM]) (σ := ([(0, 5), (0, 500), (1, 30), ((-2147483648), 2147483647), ((-2147483648), 2147483647), (0, 30)], [([(2, 1), (5, (-1))], (-1))], 66, [(0, .inr (some (0, 0))), (1, .inl ([(0, 1)], 0)), (2, .inl ([(1, 1)], 0)), (3, .inl ([(2, 1)], 0)), (4, .inl ([(3, 1)], 0)), (5, .inl ([(4, 1)], 0)), (6, .inl ([(5, 1)], 0))], [], [(0, 0, ([], 3), .inr (some (64, 64))), (0, 0, ([], 4), .inr (some (64, 65)))])) (ρ := ρ2) (θ := θ2) hEx (by decide +kernel) (zR_X12_odds l D k B0 ad al sw) S hK hE hAB hA (fun a g h1 h2 => by rw [hθ3 g (Nat.lt_trans h2 (by decide)), nu_t2 h2]; exact hone a g h1 h2) (fun g h1 h2 => by rw [hθ3 g (Nat.lt_trans h2 (by decide)), nu_t2 h2]; exact hsing g h1 h2) rfl (by decide +kernel) kr_oddsM u1 (hDD _ u1 u2) hS3 u3 ⟨hE2, hF2, ⟨lv, hlv, hlv2⟩, trivial, nu_tf2 hsing hθ3 C3.1 zf_an⟩ (zf_ac (fun ρ3 θ3 w4 H4 locs4 ls4 st6 hρ3 hθ4 hP4 hD4 hS4 ht4 hfr4 hsat4 => ?_) zf_an) (fun H locs w5 ls pc i v _ _ _ hpost _ _ => by obtain ⟨⟨o, ho, -⟩, -, -⟩ := hpost; cases ho)
        have hθ5 : ∀ i, i < 66 → θ3 i = nu_θ2 th tw i := fun i hi => (hθ4 i hi).trans (hθ3 i hi)
        have C4 := nu_Cf (by decide) hfr4 hsing C3
        have r2 : ρ3 2 = ρ1 2 := (hρ3 2 (by decide)).trans (hρ2 2 (by decide))
        have r5 : ρ3 5 = ρ1 5 := (hρ3 5 (by decide)).trans (hρ2 5 (by decide))
        rw [hρ2 2 (by decide), hρ2 5 (by decide)] at h1
        obtain ⟨hE4, hF4, ⟨lv4, hlv4, hlv5⟩, hst4, hh4⟩ := hsat4
        refine ih (nu_ρ4 ρ3) θ3 w4 H4 locs4 ls4 st6 hθ5 hP4 hD4 hS4 ht4 C4 ⟨?_, fun g hg => (by cases hg), ⟨lv4, hlv4, ?_⟩, ?_, nu_tf2 hsing hθ5 C4.1 zf_an⟩ ?_
        · intro x
          match x with
          | 0 => exact hE4 0
          | 1 => exact hE4 1
          | 2 => exact hE4 2
          | 3 => exact hE4 3
          | 4 => exact hE4 6
          | 5 =>
            have q5 : (0 : Int) ≤ ρ3 5 ∧ ρ3 5 ≤ 30 := hE4 5
            have q2 : (1 : Int) ≤ ρ3 2 ∧ ρ3 2 ≤ 30 := hE4 2
            exact ⟨(show (0 : Int) ≤ ρ3 5 + 1 by omega), (show ρ3 5 + 1 ≤ 30 by omega)⟩
          | x + 6 => exact nu_big ρ3 x hE4
        · obtain ⟨z0, y0, rfl, l0, hlw_1⟩ := zf_f2_c hlv5
          obtain ⟨z1, y1, rfl, l1, hlw_2⟩ := zf_f2_c hlw_1
          obtain ⟨z2, y2, rfl, l2, hlw_3⟩ := zf_f2_c hlw_2
          obtain ⟨z3, y3, rfl, l3, hlw_4⟩ := zf_f2_c hlw_3
          obtain ⟨z4, y4, rfl, l4, hlw_5⟩ := zf_f2_c hlw_4
          obtain ⟨z5, y5, rfl, l5, hlw_6⟩ := zf_f2_c hlw_5
          obtain ⟨z6, y6, rfl, l6, hlw_7⟩ := zf_f2_c hlw_6
          cases y6 with
          | cons a9 b9 => exact hlw_7.elim
          | nil =>
            refine ⟨l0, l1, l2, l3, l4, l5, ⟨l6.1, ?_⟩, trivial⟩
            obtain ⟨x9, e9, q9⟩ := l6.2
            have q9 : x9.toInt = 1 * ρ3 5 + 1 := q9
            exact ⟨x9, e9, q9.trans (show 1 * ρ3 5 + 1 = 1 * (ρ3 5 + 1) + 0 by omega)⟩
        · cases zf_nil hst4
          trivial
        · show ρ3 2 - (ρ3 5 + 1) ≤ (dd : Int)
          omega
      · obtain ⟨rfl, v, rfl⟩ := zt_ri (by decide +kernel) hpost hrv
        exact W.iret hx hb hr (fun t ht' hW => ⟨⟨_, rfl, w3, by rw [ht']; exact hP3, hD3, hpost.2.1, f9, s9, nu_Cf (by decide) hpost.2.2 hsing C1⟩, hS3.F ht'⟩) hS3.2.2 hdg hlocks
  refine zp_run (M := zm_odds0) (cuts := [zu_odds0]) (σ := ([((-2147483648), 2147483647), ((-2147483648), 2147483647), ((-2147483648), 2147483647), ((-2147483648), 2147483647)], [], 66, [(0, .inr (some (0, 0))), (1, .inl ([(0, 1)], 0)), (2, .inl ([(1, 1)], 0)), (3, .inl ([(2, 1)], 0)), (4, .inl ([(3, 1)], 0))], [], [(0, 0, ([], 3), .inr (some (64, 64))), (0, 0, ([], 4), .inr (some (64, 65)))])) (ρ := nu_r4 a1 a2 a3 a4) (θ := nu_θ2 th tw) hEx (by decide +kernel) (zR_X12_odds l D k B0 ad al sw) S hK hE hAB hA (fun a g h1 h2 => by rw [nu_t2 h2]; exact hone a g h1 h2) (fun g h1 h2 => by rw [nu_t2 h2]; exact hsing g h1 h2) rfl (by decide +kernel) kr_odds0 hP hD hS ht ⟨nu_r4E a1 a2 a3 a4, fun g hg => (by cases hg), ⟨_, hl, ⟨⟨rfl, ⟨rfl, g0⟩⟩, ⟨rfl, ⟨a1, rfl, (zf_v_sym (nu_r4 a1 a2 a3 a4) 0).symm⟩⟩, ⟨rfl, ⟨a2, rfl, (zf_v_sym (nu_r4 a1 a2 a3 a4) 1).symm⟩⟩, ⟨rfl, ⟨a3, rfl, (zf_v_sym (nu_r4 a1 a2 a3 a4) 2).symm⟩⟩, ⟨rfl, ⟨a4, rfl, (zf_v_sym (nu_r4 a1 a2 a3 a4) 3).symm⟩⟩, trivial⟩⟩, trivial, nu_tf2 hsing (fun _ _ => rfl) C.1 zf_an⟩ (zf_ac (fun ρ1 θ1 w1 H1 locs1 ls1 st1 hρ hθ hP1 hD1 hS1 ht1 hfr hsat => ?_) zf_an) (fun H locs w3 ls pc i v hP3 hD3 hS3 hpost hdg hrv => ?_)
  · have q5 : (0 : Int) ≤ ρ1 5 ∧ ρ1 5 ≤ 30 := hsat.1 5
    have q2 : (1 : Int) ≤ ρ1 2 ∧ ρ1 2 ≤ 30 := hsat.1 2
    exact loop 30 ρ1 θ1 w1 H1 locs1 ls1 st1 hθ hP1 hD1 hS1 ht1 (nu_Cf (by decide) hfr hsing C) hsat (show ρ1 2 - ρ1 5 ≤ 30 by omega)
  · obtain ⟨rfl, v, rfl⟩ := zt_ri (by decide +kernel) hpost hrv
    exact W.iret hx hb hr (fun t ht' hW => ⟨⟨_, rfl, w3, by rw [ht']; exact hP3, hD3, hpost.2.1, f9, s9, nu_Cf (by decide) hpost.2.2 hsing C⟩, hS3.F ht'⟩) hS3.2.2 hdg hlocks
