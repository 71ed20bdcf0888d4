/-! ===== image and restore ===== -/
section NUI
variable {Sg : Nat → Option Nat} {th tw nm : Nat → Nat} {ws ws' : va_W} {nsv k0 k1 : List (List Int32)} {f9 s9 : Nat}
def nu_g {α : Type} (b a : Int32) (u v : α) : α := if a = b then u else v
theorem nu_img (hsing : ∀ g, g < 37 → g < 64 → Sg (th g) = some g) (C : nu_C Sg th tw nm ws nsv k0 k1 f9 s9) {j : Nat} {a : Int32} (hj : (j = 0 ∧ a = 0) ∨ (j = 1 ∧ a = 1)) (hfr : zf_fr Sg zm_X10_copy.2.1 (fun _ => 0) ws ws') (hcp : nu_cp Sg ws ws' (tw (2 + j)) (tw 0) (nm (2 + j)) (nm 0)) : nu_C Sg th tw nm ws' nsv (nu_g 0 a nsv k0) (nu_g 1 a nsv k1) f9 s9 := by
  obtain ⟨T, N0, N2, N3, f8, s8, h1, h2, R⟩ := C
  have g10 := hsing 10 (by decide) (by decide)
  have o1 : nu_ok zm_X10_copy.2.1 10 1 2 = true := by decide
  have T' := nu_Tf (by decide) hfr hsing T
  have b1 := nu_fr o1 hfr g10 (by decide) (by decide) h1
  have b2 := nu_fr o1 hfr g10 (by decide) (by decide) h2
  rcases hj with ⟨rfl, rfl⟩ | ⟨rfl, rfl⟩
  · rw [show nu_g 0 0 nsv k0 = nsv from if_pos rfl, show nu_g 1 0 nsv k1 = k1 from if_neg (by decide)]
    exact ⟨T', nu_c2 hcp T (by decide) (by decide) (by decide) N0, nu_c1 hcp N0, nu_c2 hcp T (by decide) (by decide) (by decide) N3, f8, s8, b1, b2, fun t ht => nu_c2 hcp T (by decide) (nu_m9 f9 t) (by omega) (R t ht)⟩
  · rw [show nu_g 0 1 nsv k0 = k0 from if_neg (by decide), show nu_g 1 1 nsv k1 = nsv from if_pos rfl]
    exact ⟨T', nu_c2 hcp T (by decide) (by decide) (by decide) N0, nu_c2 hcp T (by decide) (by decide) (by decide) N2, nu_c1 hcp N0, f8, s8, b1, b2, fun t ht => nu_c2 hcp T (by decide) (nu_m9 f9 t) (by omega) (R t ht)⟩
theorem nu_rst (hsing : ∀ g, g < 37 → g < 64 → Sg (th g) = some g) (C : nu_C Sg th tw nm ws nsv k0 k1 f9 s9) {j : Nat} {a : Int32} (hj : (j = 0 ∧ a = 0) ∨ (j = 1 ∧ a = 1)) (hfr : zf_fr Sg zm_X10_copy.2.1 (fun _ => 0) ws ws') (hcp : nu_cp Sg ws ws' (tw 0) (tw (2 + j)) (nm 0) (nm (2 + j))) : nu_T Sg th tw nm ws' ∧ nu_N tw nm ws' 0 (nu_g 0 a k0 k1) ∧ nu_N tw nm ws' 2 k0 ∧ nu_N tw nm ws' 3 k1 ∧ f9 ≤ 8 ∧ zf_rd ws' (th 10) 1 (.int (Int32.ofNat f9)) := by
  obtain ⟨T, N0, N2, N3, f8, s8, h1, h2, R⟩ := C
  have g10 := hsing 10 (by decide) (by decide)
  have o1 : nu_ok zm_X10_copy.2.1 10 1 2 = true := by decide
  have T' := nu_Tf (by decide) hfr hsing T
  have b1 := nu_fr o1 hfr g10 (by decide) (by decide) h1
  rcases hj with ⟨rfl, rfl⟩ | ⟨rfl, rfl⟩
  · rw [show nu_g 0 0 k0 k1 = k0 from if_pos rfl]
    exact ⟨T', nu_c1 hcp N2, nu_c2 hcp T (by decide) (by decide) (by decide) N2, nu_c2 hcp T (by decide) (by decide) (by decide) N3, f8, b1⟩
  · rw [show nu_g 0 1 k0 k1 = k1 from if_neg (by decide)]
    exact ⟨T', nu_c1 hcp N3, nu_c2 hcp T (by decide) (by decide) (by decide) N2, nu_c2 hcp T (by decide) (by decide) (by decide) N3, f8, b1⟩
theorem nu_Fo {a : Int32} : zf_okE [((-2147483648 : Int), (2147483647 : Int))] (fun _ => a.toInt) := fun x => by
  match x with
  | 0 => exact ⟨zi_lo _, zi_hi _⟩
  | x + 1 => exact ⟨zi_lo _, zi_hi _⟩
theorem nu_01 {a : Int32} (h1 : 0 ≤ a.toInt) (h2 : a.toInt ≤ 1) : ∃ j : Nat, j < 2 ∧ a.toInt = (j : Int) ∧ ((j = 0 ∧ a = 0) ∨ (j = 1 ∧ a = 1)) := by
  have h3 : a.toInt = 0 ∨ a.toInt = 1 := by omega
  rcases h3 with h | h
  · exact ⟨0, by decide, h, .inl ⟨rfl, Int32.toInt_inj.mp h⟩⟩
  · exact ⟨1, by decide, h, .inr ⟨rfl, Int32.toInt_inj.mp h⟩⟩
end NUI
set_option maxRecDepth 100000 in
set_option maxHeartbeats 4000000 in
theorem zR_X12_image (l : Launch) (D : va_G) (k : Nat → ClassId) (B0 : Nat) (ad : Nat → Nat) (al sw : Nat) : zf_Rl l yX12_image (zw yX12_image cX12_image 2 (some .boolean)) ({ frames := 3, cells := 0, slots := 0, locals := 102 }) cX12_image 2 D k zGT 37 B0 [zm_X10_copy, zm_X8_copy] [(37, 10, 3, .inl (0, 0)), (47, 10, 5, .inl (0, 0)), (75, 10, 10, .inl (0, 0)), (79, 10, 11, .inl (0, 0)), (83, 10, 12, .inl (0, 0))] [] zn_X12_image (zEx B0 ad al sw) := by
  have hEx := zEx_ok B0 ad al sw
  intro p e s m args below meth c Q Sg w0 A θ0 S hK hE hAB hA hone hsing
  refine ⟨?_, ?_, ?_⟩
  · exact zf_ac ((fun H locs ws a q0 fs v rest pc ls hP he hv hdg kk => va_get (D := D) (ci := 10) (C := RX12) (T := TX12) (N := 18) (own := RX12) S.1 S.2.1 S.2.2.2.2 (zg_in inW_X12) S.2.2.2.1 hK hP q0 he rfl 3 (by decide) (S.2.2.2.2 (.fieldLink RX12 37 "RungMoney" "town" "LRungMoney$Town;") (List.mem_cons_of_mem _ zw_402)) (fun _ h9 => h9) hv hdg kk)) (zf_ac ((fun H locs ws a q0 fs v rest pc ls hP he hv hdg kk => va_get (D := D) (ci := 10) (C := RX12) (T := TX12) (N := 18) (own := RX12) S.1 S.2.1 S.2.2.2.2 (zg_in inW_X12) S.2.2.2.1 hK hP q0 he rfl 5 (by decide) (S.2.2.2.2 (.fieldLink RX12 47 "RungMoney" "sentence" "LRungMoney$Sentence;") (List.mem_cons_of_mem _ zw_404)) (fun _ h9 => h9) hv hdg kk)) (zf_ac ((fun H locs ws a q0 fs v rest pc ls hP he hv hdg kk => va_get (D := D) (ci := 10) (C := RX12) (T := TX12) (N := 18) (own := RX12) S.1 S.2.1 S.2.2.2.2 (zg_in inW_X12) S.2.2.2.1 hK hP q0 he rfl 10 (by decide) (S.2.2.2.2 (.fieldLink RX12 75 "RungMoney" "keptTowns" "[LRungMoney$Town;") (List.mem_cons_of_mem _ zw_409)) (fun _ h9 => h9) hv hdg kk)) (zf_ac ((fun H locs ws a q0 fs v rest pc ls hP he hv hdg kk => va_get (D := D) (ci := 10) (C := RX12) (T := TX12) (N := 18) (own := RX12) S.1 S.2.1 S.2.2.2.2 (zg_in inW_X12) S.2.2.2.1 hK hP q0 he rfl 11 (by decide) (S.2.2.2.2 (.fieldLink RX12 79 "RungMoney" "keptSentences" "[LRungMoney$Sentence;") (List.mem_cons_of_mem _ zw_410)) (fun _ h9 => h9) hv hdg kk)) (zf_ac ((fun H locs ws a q0 fs v rest pc ls hP he hv hdg kk => va_get (D := D) (ci := 10) (C := RX12) (T := TX12) (N := 18) (own := RX12) S.1 S.2.1 S.2.2.2.2 (zg_in inW_X12) S.2.2.2.1 hK hP q0 he rfl 12 (by decide) (S.2.2.2.2 (.fieldLink RX12 83 "RungMoney" "kept" "[Z") (List.mem_cons_of_mem _ zw_411)) (fun _ h9 => h9) hv hdg kk)) zf_an))))
  · exact zf_an
  · exact zf_crl (xs := [(.invokevirtual 131, 3, 0), (.invokevirtual 340, 3, 1)]) (by decide +kernel) (zf_ac (zf_crV S hEx hE hAB hA hK hone hsing (kc_X10_copy l D k B0 ad al sw) (cwV 1 S.2.2.2.2 (zg_V zw_608 zw_609 zw_610 zw_99 zw_611) rfl rfl rfl (by decide +kernel) ⟨(Nat.le_of_ble_eq_true rfl), (Nat.le_of_ble_eq_true rfl)⟩) ⟨(Nat.le_of_ble_eq_true rfl), (Nat.le_of_ble_eq_true rfl)⟩ 8 rfl rfl (ar := [.inr (some (64, 65))]) rfl rfl (by decide +kernel)) (zf_ac (zf_crV S hEx hE hAB hA hK hone hsing (kc_X8_copy l D k B0 ad al sw) (cwV 1 S.2.2.2.2 (zg_V zw_1169 zw_1170 zw_1171 zw_102 zw_1172) rfl rfl rfl (by decide +kernel) ⟨(Nat.le_of_ble_eq_true rfl), (Nat.le_of_ble_eq_true rfl)⟩) ⟨(Nat.le_of_ble_eq_true rfl), (Nat.le_of_ble_eq_true rfl)⟩ 6 rfl rfl (ar := [.inr (some (76, 65))]) rfl rfl (by decide +kernel)) zf_an))
def zm_image1 : zf_M := (([((-2147483648), 2147483647)], [], 65, [], [], []), [], [(some (.inl ([], 0)), ([(2, 2147483647)], [], 65, [], [], [])), (some (.inl ([], 0)), ([((-2147483648), (-1))], [], 65, [], [], []))])
def zu_image1 : zf_U := (21, ([(0, 1)], [], 66, [(0, .inr (some (0, 0))), (1, .inl ([(0, 1)], 0))], [.inr (some (64, 64)), .inr (some (64, 65))], [(14, 14, ([(0, 1)], 0), .inr (some (64, 65)))]), ([], 0), 0)
set_option maxRecDepth 100000 in
set_option maxHeartbeats 4000000 in
theorem kr_image1 : zf_run 1 65 37 2 zGT zm_image1 [zm_X10_copy, zm_X8_copy] [(37, 10, 3, .inl (0, 0)), (47, 10, 5, .inl (0, 0)), (75, 10, 10, .inl (0, 0)), (79, 10, 11, .inl (0, 0)), (83, 10, 12, .inl (0, 0))] [] zn_X12_image [zu_image1] none 3000 0 ([((-2147483648), 2147483647)], [], 65, [(0, .inr (some (0, 0))), (1, .inl ([(0, 1)], 0))], [], [(0, 0, ([], 3), .inr (some (64, 64)))]) = true := by decide +kernel
def zm_image2 : zf_M := (([(0, 1)], [], 64, [], [], []), [(77, ([], 0), ([], 39)), (78, ([], 0), ([], 39)), (79, ([], 0), ([], 39)), (76, ([], 4), ([], 5)), (16, ([], 0), ([], 1))], [(some (.inl ([], 1)), ([(0, 1)], [], 64, [], [], []))])
set_option maxRecDepth 100000 in
set_option maxHeartbeats 4000000 in
theorem kr_image2 : zf_run 1 64 37 2 zGT zm_image2 [zm_X10_copy, zm_X8_copy] [(37, 10, 3, .inl (0, 0)), (47, 10, 5, .inl (0, 0)), (75, 10, 10, .inl (0, 0)), (79, 10, 11, .inl (0, 0)), (83, 10, 12, .inl (0, 0))] [] zn_X12_image [] none 3000 24 ([(0, 1)], [], 64, [(0, .inr (some (0, 0))), (1, .inl ([(0, 1)], 0))], [], []) = true := by decide +kernel
theorem dNX12_image_21 : decode cX12_image 21 = .ok (.invokevirtual 131, 3) := by decide +kernel
set_option maxRecDepth 100000 in
set_option maxHeartbeats 4000000 in
theorem kn_X12_image (l : Launch) (D : va_G) (k : Nat → ClassId) (B0 : Nat) (ad : Nat → Nat) (al sw : Nat) {Sg : Nat → Option Nat} {ws : va_W} {th tw nm : Nat → Nat} (sz : Nat) (hone : ∀ a g, Sg a = some g → g < 64 → a = th g) (hsing : ∀ g, g < 37 → g < 64 → Sg (th g) = some g) (ht : zf_typ Sg k zGT ws) {nsv k0 k1 : List (List Int32)} {f9 s9 : Nat} (C : nu_C Sg th tw nm ws nsv k0 k1 f9 s9) (a1 : Int32) :
    Met l yX12_image (zw yX12_image cX12_image 2 (some .boolean)) ({ frames := 3, cells := 0, slots := 0, locals := 102 }) (va_Pc [.ref (th 0), .int a1] (g_pr D k (zEx B0 ad al sw Sg ws) sz ws)) (zf_Q (fun _ t => nu_Q D k Sg th tw nm nsv (nu_g 0 a1 nsv k0) (nu_g 1 a1 nsv k1) (va_A ws sz) t) (va_A ws sz)) 0 0 (va_A ws sz) := by
  have hEx := zEx_ok B0 ad al sw
  refine zp_open (Qp := fun A => fun _ t => nu_Q D k Sg th tw nm nsv (nu_g 0 a1 nsv k0) (nu_g 1 a1 nsv k1) A t) (by decide) rfl hEx (Nat.le_of_ble_eq_true rfl) ?_
  intro p e s m below meth c A ls S hr hlocks hK hE hAB hA hP hD hS hl
  have hx := S.1
  have hb := S.2.1
  have g0 : Sg (th 0) = some 0 := hsing 0 (by decide) (by decide)
  have g10 : Sg (th 10) = some 10 := hsing 10 (by decide) (by decide)
  have g14 : Sg (th 14) = some 14 := hsing 14 (by decide) (by decide)
  obtain ⟨T, N0, N2, N3, f8, s8, d1, d2, R⟩ := id C
  have t0 := T.1 0 (by decide)
  refine zp_run (M := zm_image1) (cuts := [zu_image1]) (σ := ([((-2147483648), 2147483647)], [], 65, [(0, .inr (some (0, 0))), (1, .inl ([(0, 1)], 0))], [], [(0, 0, ([], 3), .inr (some (64, 64)))])) (ρ := fun _ => a1.toInt) (θ := zf_upr th 64 (tw 0)) hEx (by decide +kernel) (zR_X12_image l D k B0 ad al sw) S hK hE hAB hA (fun a g h1 h2 => by rw [nu_up h2]; exact hone a g h1 h2) (fun g h1 h2 => by rw [nu_up h2]; exact hsing g h1 h2) rfl (by decide +kernel) kr_image1 hP hD hS ht ⟨nu_Fo, fun g hg => (by cases hg), ⟨_, hl, ⟨⟨rfl, ⟨rfl, g0⟩⟩, ⟨rfl, ⟨a1, rfl, (zf_v_sym (fun _ => a1.toInt) 0).symm⟩⟩, trivial⟩⟩, trivial, nu_tf hsing (nu_up (by decide)) nu_u64 T zf_an⟩ (zf_ac (fun ρ' θ' w1 H1 locs1 ls1 st1 hρ hθ hP1 hD1 hS1 ht1 hfr hsat => ?_) zf_an) (fun H locs w3 ls pc i v hP3 hD3 hS3 hpost hdg hrv => ?_)
  · obtain ⟨hE1, hF1, ⟨lv, hlv, hlv2⟩, hst, hh⟩ := hsat
    obtain ⟨v1, st2, rfl, ⟨rfl, b1⟩, hst_1⟩ := zf_f2_c hst
    obtain ⟨v2, st3, rfl, ⟨rfl, b2⟩, hst_2⟩ := zf_f2_c hst_1
    cases zf_nil hst_2
    have ra : ρ' 0 = a1.toInt := hρ 0 (by decide)
    have hb0 : (0 : Int) ≤ ρ' 0 ∧ ρ' 0 ≤ 1 := hE1 0
    rw [ra] at hb0
    obtain ⟨j, hj2, hja, hj⟩ := nu_01 hb0.1 hb0.2
    have e14 : θ' 14 = th 14 := (hθ 14 (by decide)).trans (nu_up (by decide))
    have e64 : θ' 64 = tw 0 := (hθ 64 (by decide)).trans nu_u64
    have C1 := nu_Cf (by decide) hfr hsing C
    obtain ⟨-, -, v3, z1, rfl, z2⟩ := (zf_hokT (h := (14, 14, ([(0, 1)], 0), .inr (some (64, 65)))) (show (14 : Nat) < 1000 by decide)).mp (hh _ List.mem_cons_self)
    have z1 : zf_rd w1 (θ' 14) (zf_v ρ' ([(0, 1)], 0)).toNat (.ref (θ' 65)) := z1
    rw [e14, show zf_v ρ' ([(0, 1)], 0) = ρ' 0 from zf_v_sym ρ' 0, ra, hja, show ((j : Int)).toNat = j from Int.toNat_natCast j] at z1
    have z3 := C1.1.2.2.2.2.2.1 j hj2
    have e65 : θ' 65 = tw (2 + j) := by
      have h9 := zf_rd_fun hD1 z1 z3
      injection h9
    have t1 := C1.1.1 (2 + j) (by omega)
    have t2 := C1.1.1 0 (by decide)
    have e64v : Value.ref (θ' 64) = .ref (tw 0) := by rw [e64]
    have e65v : Value.ref (θ' 65) = .ref (tw (2 + j)) := by rw [e65]
    have hM := kn_X10_copy l D k B0 ad al sw H1.size hone hsing ht1 t1.1 t2.1 t1.2.1 t2.2.1 t1.2.2 t2.2.2
    show W p l e _ s m _ below meth c H1 locs1 0 0 _ (F0 m 21 ls1 [.ref (θ' 64), .ref (θ' 65)])
    rw [e64v, e65v]
    refine zp_call (cells := 0) (slots := 0) (As := [.ref (tw 0)]) (b := (tw (2 + j))) (g := 64) (ci := 8) (rest := []) S hEx hE hAB hA hK hM (cwV 1 S.2.2.2.2 (zg_V zw_608 zw_609 zw_610 zw_99 zw_611) rfl rfl rfl (by decide +kernel) ⟨(Nat.le_of_ble_eq_true rfl), (Nat.le_of_ble_eq_true rfl)⟩) ⟨Nat.le_of_ble_eq_true rfl, Nat.le_of_ble_eq_true rfl⟩ rfl rfl (by decide +kernel) t1.1 rfl hP1 hD1 hS1 ht1 hlv.1 (Nat.zero_le _) dNX12_image_21 (fun v t H2 locs2 ht2 hB hDD hS2 => ?_)
    obtain ⟨rfl, w2, u1, u2, u3, u4, u5⟩ := hB
    rw [ht2] at u1
    have C2 := nu_img hsing C1 hj u4 u5
    refine zp_run (M := zm_image2) (σ := ([(0, 1)], [], 64, [(0, .inr (some (0, 0))), (1, .inl ([(0, 1)], 0))], [], [])) (ρ := ρ') (θ := θ') hEx (by decide +kernel) (zR_X12_image l D k B0 ad al sw) S hK hE hAB hA (fun a g h1 h2 => by rw [hθ g (Nat.lt_trans h2 (by decide)), nu_up h2]; exact hone a g h1 h2) (fun g h1 h2 => by rw [hθ g (Nat.lt_trans h2 (by decide)), nu_up h2]; exact hsing g h1 h2) rfl (by decide +kernel) kr_image2 u1 (hDD _ u1 u2) hS2 u3 ⟨hE1, fun g hg => (by cases hg), ⟨lv, hlv, hlv2⟩, trivial, fun h hh => (by cases hh)⟩ zf_an (fun H locs w3 ls pc i v hP3 hD3 hS3 hpost hdg hrv => ?_)
    obtain ⟨rfl, x, rfl, hx01⟩ := zp_rz (by decide +kernel) hpost hrv
    exact W.zret hx hb hr (by rcases hx01 with rfl | rfl <;> rfl) (fun t ht' hW => ⟨⟨_, rfl, w3, by rw [ht']; exact hP3, hD3, hpost.2.1, f9, s9, nu_Cf (by decide) hpost.2.2 hsing C2⟩, hS3.F ht'⟩) hS3.2.2 hdg hlocks
  · obtain ⟨rfl, x, rfl, hx01⟩ := zp_rz (by decide +kernel) hpost hrv
    have hne : a1 ≠ 0 ∧ a1 ≠ 1 := by
      obtain ⟨⟨o, ho, ρ1, θ1, y1, y2, y3, -⟩, -, -⟩ := hpost
      have r0 : ρ1 0 = a1.toInt := y1 0 (by decide)
      have y3 := y3 0
      rw [r0] at y3
      rcases List.mem_cons.mp ho with rfl | ho
      · have y4 : (2 : Int) ≤ a1.toInt := y3.1
        exact ⟨fun q => by subst q; exact absurd y4 (by decide), fun q => by subst q; exact absurd y4 (by decide)⟩
      · cases List.mem_singleton.mp ho
        have y4 : a1.toInt ≤ (-1 : Int) := y3.2
        exact ⟨fun q => by subst q; exact absurd y4 (by decide), fun q => by subst q; exact absurd y4 (by decide)⟩
    have e0 : nu_g 0 a1 nsv k0 = k0 := if_neg hne.1
    have e1 : nu_g 1 a1 nsv k1 = k1 := if_neg hne.2
    refine W.zret hx hb hr (by rcases hx01 with rfl | rfl <;> rfl) (fun t ht' hW => ⟨⟨_, rfl, ?_⟩, hS3.F ht'⟩) hS3.2.2 hdg hlocks
    show nu_Q D k Sg th tw nm nsv (nu_g 0 a1 nsv k0) (nu_g 1 a1 nsv k1) A t
    rw [e0, e1]
    exact ⟨w3, by rw [ht']; exact hP3, hD3, hpost.2.1, f9, s9, nu_Cf (by decide) hpost.2.2 hsing C⟩
def zm_X5_forgetN : zf_M := (([], [], 64, [], [.inr (some (10, 10))], []), [(10, ([], 2), ([], 2))], [(none, ([], [], 64, [], [], [(10, 10, ([], 2), .inl ([], 0))]))])
set_option maxRecDepth 100000 in
set_option maxHeartbeats 4000000 in
theorem kc_X5_forgetN (l : Launch) (D : va_G) (k : Nat → ClassId) (B0 : Nat) (ad : Nat → Nat) (al sw : Nat) : zf_Con l yX5_forget (zw yX5_forget cX5_forget 1 none) ({ frames := 0, cells := 0, slots := 0, locals := 0 }) D k (zEx B0 ad al sw) zGT 37 zm_X5_forgetN := by
  have hEx := zEx_ok B0 ad al sw
  refine zf_mk (cc := cX5_forget) (nL := 1) (ret := none) (Ms := []) (fg := []) (fp := [(16, 3, 2, .inl ((-2147483648), 2147483647))]) (ins := zn_X5_forget) (cuts := zu_X5_forget) (fuel := 3000) (by decide) rfl hEx (by decide +kernel) (by decide +kernel) (by decide +kernel) (by decide +kernel) ?_
  intro p e s m args below meth c Q Sg w0 A θ0 S hK hE hAB hA hone hsing
  refine ⟨?_, ?_, ?_⟩
  · exact zf_an
  · exact zf_ac ((fun H locs ws a q0 fs v rest pc ls hP hD hS he hl hv hdg kk => by obtain ⟨x, rfl, h1, h2⟩ := hv; exact va_put (D := D) (ci := 3) (v := .int x) (ty := .int) (C := RX5) (T := TX5) (N := 3) (own := RX5) S.1 S.2.1 S.2.2.2.2 (zg_in inW_X5) tyX5 tyX5_ok nmX5 S.2.2.2.1 hK hP hD hS q0 he rfl 2 (by decide) (S.2.2.2.2 (.fieldLink RX5 16 "RungMoney$Past" "size" "I") (List.mem_cons_of_mem _ zw_376)) (fun _ h9 => h9) rfl (by decide +kernel) rfl rfl hl hdg kk)) zf_an
  · exact zf_crl (xs := []) (by decide +kernel) (zf_an)
set_option maxRecDepth 100000 in
set_option maxHeartbeats 4000000 in
theorem zR_X12_restore (l : Launch) (D : va_G) (k : Nat → ClassId) (B0 : Nat) (ad : Nat → Nat) (al sw : Nat) : zf_Rl l yX12_restore (zw yX12_restore cX12_restore 2 (some .boolean)) ({ frames := 3, cells := 0, slots := 0, locals := 102 }) cX12_restore 2 D k zGT 37 B0 [zm_X10_copy, zm_X8_copy, zm_X5_forgetN] [(37, 10, 3, .inl (0, 0)), (47, 10, 5, .inl (0, 0)), (64, 10, 8, .inl (0, 0)), (75, 10, 10, .inl (0, 0)), (79, 10, 11, .inl (0, 0)), (83, 10, 12, .inl (0, 0))] [] zn_X12_restore (zEx B0 ad al sw) := by
  have hEx := zEx_ok B0 ad al sw
  intro p e s m args below meth c Q Sg w0 A θ0 S hK hE hAB hA hone hsing
  refine ⟨?_, ?_, ?_⟩
  · exact zf_ac ((fun H locs ws a q0 fs v rest pc ls hP he hv hdg kk => va_get (D := D) (ci := 10) (C := RX12) (T := TX12) (N := 18) (own := RX12) S.1 S.2.1 S.2.2.2.2 (zg_in inW_X12) S.2.2.2.1 hK hP q0 he rfl 3 (by decide) (S.2.2.2.2 (.fieldLink RX12 37 "RungMoney" "town" "LRungMoney$Town;") (List.mem_cons_of_mem _ zw_402)) (fun _ h9 => h9) hv hdg kk)) (zf_ac ((fun H locs ws a q0 fs v rest pc ls hP he hv hdg kk => va_get (D := D) (ci := 10) (C := RX12) (T := TX12) (N := 18) (own := RX12) S.1 S.2.1 S.2.2.2.2 (zg_in inW_X12) S.2.2.2.1 hK hP q0 he rfl 5 (by decide) (S.2.2.2.2 (.fieldLink RX12 47 "RungMoney" "sentence" "LRungMoney$Sentence;") (List.mem_cons_of_mem _ zw_404)) (fun _ h9 => h9) hv hdg kk)) (zf_ac ((fun H locs ws a q0 fs v rest pc ls hP he hv hdg kk => va_get (D := D) (ci := 10) (C := RX12) (T := TX12) (N := 18) (own := RX12) S.1 S.2.1 S.2.2.2.2 (zg_in inW_X12) S.2.2.2.1 hK hP q0 he rfl 8 (by decide) (S.2.2.2.2 (.fieldLink RX12 64 "RungMoney" "past" "LRungMoney$Past;") (List.mem_cons_of_mem _ zw_407)) (fun _ h9 => h9) hv hdg kk)) (zf_ac ((fun H locs ws a q0 fs v rest pc ls hP he hv hdg kk => va_get (D := D) (ci := 10) (C := RX12) (T := TX12) (N := 18) (own := RX12) S.1 S.2.1 S.2.2.2.2 (zg_in inW_X12) S.2.2.2.1 hK hP q0 he rfl 10 (by decide) (S.2.2.2.2 (.fieldLink RX12 75 "RungMoney" "keptTowns" "[LRungMoney$Town;") (List.mem_cons_of_mem _ zw_409)) (fun _ h9 => h9) hv hdg kk)) (zf_ac ((fun H locs ws a q0 fs v rest pc ls hP he hv hdg kk => va_get (D := D) (ci := 10) (C := RX12) (T := TX12) (N := 18) (own := RX12) S.1 S.2.1 S.2.2.2.2 (zg_in inW_X12) S.2.2.2.1 hK hP q0 he rfl 11 (by decide) (S.2.2.2.2 (.fieldLink RX12 79 "RungMoney" "keptSentences" "[LRungMoney$Sentence;") (List.mem_cons_of_mem _ zw_410)) (fun _ h9 => h9) hv hdg kk)) (zf_ac ((fun H locs ws a q0 fs v rest pc ls hP he hv hdg kk => va_get (D := D) (ci := 10) (C := RX12) (T := TX12) (N := 18) (own := RX12) S.1 S.2.1 S.2.2.2.2 (zg_in inW_X12) S.2.2.2.1 hK hP q0 he rfl 12 (by decide) (S.2.2.2.2 (.fieldLink RX12 83 "RungMoney" "kept" "[Z") (List.mem_cons_of_mem _ zw_411)) (fun _ h9 => h9) hv hdg kk)) zf_an)))))
  · exact zf_an
  · exact zf_crl (xs := [(.invokevirtual 131, 3, 0), (.invokevirtual 340, 3, 1), (.invokevirtual 138, 3, 2)]) (by decide +kernel) (zf_ac (zf_crV S hEx hE hAB hA hK hone hsing (kc_X10_copy l D k B0 ad al sw) (cwV 1 S.2.2.2.2 (zg_V zw_608 zw_609 zw_610 zw_99 zw_611) rfl rfl rfl (by decide +kernel) ⟨(Nat.le_of_ble_eq_true rfl), (Nat.le_of_ble_eq_true rfl)⟩) ⟨(Nat.le_of_ble_eq_true rfl), (Nat.le_of_ble_eq_true rfl)⟩ 8 rfl rfl (ar := [.inr (some (64, 65))]) rfl rfl (by decide +kernel)) (zf_ac (zf_crV S hEx hE hAB hA hK hone hsing (kc_X8_copy l D k B0 ad al sw) (cwV 1 S.2.2.2.2 (zg_V zw_1169 zw_1170 zw_1171 zw_102 zw_1172) rfl rfl rfl (by decide +kernel) ⟨(Nat.le_of_ble_eq_true rfl), (Nat.le_of_ble_eq_true rfl)⟩) ⟨(Nat.le_of_ble_eq_true rfl), (Nat.le_of_ble_eq_true rfl)⟩ 6 rfl rfl (ar := [.inr (some (76, 65))]) rfl rfl (by decide +kernel)) (zf_ac (zf_crV S hEx hE hAB hA hK hone hsing (kc_X5_forgetN l D k B0 ad al sw) (cwV 0 S.2.2.2.2 (zg_V zw_629 zw_630 zw_631 zw_106 zw_632) rfl rfl rfl (by decide +kernel) ⟨(Nat.le_of_ble_eq_true rfl), (Nat.le_of_ble_eq_true rfl)⟩) ⟨(Nat.le_of_ble_eq_true rfl), (Nat.le_of_ble_eq_true rfl)⟩ 3 rfl rfl (ar := []) rfl rfl (by decide +kernel)) zf_an)))
def zm_restore1 : zf_M := (([((-2147483648), 2147483647)], [], 65, [], [], []), [], [(some (.inl ([], 0)), ([((-2147483648), 2147483647)], [], 65, [], [], []))])
def zu_restore1 : zf_U := (30, ([(0, 1)], [], 66, [(0, .inr (some (0, 0))), (1, .inl ([(0, 1)], 0))], [.inr (some (64, 65)), .inr (some (64, 64))], [(14, 14, ([(0, 1)], 0), .inr (some (64, 65)))]), ([], 0), 0)
set_option maxRecDepth 100000 in
set_option maxHeartbeats 4000000 in
theorem kr_restore1 : zf_run 1 65 37 2 zGT zm_restore1 [zm_X10_copy, zm_X8_copy, zm_X5_forgetN] [(37, 10, 3, .inl (0, 0)), (47, 10, 5, .inl (0, 0)), (64, 10, 8, .inl (0, 0)), (75, 10, 10, .inl (0, 0)), (79, 10, 11, .inl (0, 0)), (83, 10, 12, .inl (0, 0))] [] zn_X12_restore [zu_restore1] none 3000 0 ([((-2147483648), 2147483647)], [], 65, [(0, .inr (some (0, 0))), (1, .inl ([(0, 1)], 0))], [], [(0, 0, ([], 3), .inr (some (64, 64)))]) = true := by decide +kernel
def zm_restore2 : zf_M := (([(0, 1)], [], 64, [], [], []), [(77, ([], 0), ([], 39)), (78, ([], 0), ([], 39)), (79, ([], 0), ([], 39)), (76, ([], 4), ([], 5)), (10, ([], 2), ([], 2))], [(some (.inl ([], 1)), ([(0, 1)], [], 64, [], [], [(10, 10, ([], 2), .inl ([], 0))]))])
set_option maxRecDepth 100000 in
set_option maxHeartbeats 4000000 in
theorem kr_restore2 : zf_run 1 64 37 2 zGT zm_restore2 [zm_X10_copy, zm_X8_copy, zm_X5_forgetN] [(37, 10, 3, .inl (0, 0)), (47, 10, 5, .inl (0, 0)), (64, 10, 8, .inl (0, 0)), (75, 10, 10, .inl (0, 0)), (79, 10, 11, .inl (0, 0)), (83, 10, 12, .inl (0, 0))] [] zn_X12_restore [] none 3000 33 ([(0, 1)], [], 64, [(0, .inr (some (0, 0))), (1, .inl ([(0, 1)], 0))], [], []) = true := by decide +kernel
theorem dNX12_restore_30 : decode cX12_restore 30 = .ok (.invokevirtual 131, 3) := by decide +kernel
set_option maxRecDepth 100000 in
set_option maxHeartbeats 4000000 in
theorem kn_X12_restore (l : Launch) (D : va_G) (k : Nat → ClassId) (B0 : Nat) (ad : Nat → Nat) (al sw : Nat) {Sg : Nat → Option Nat} {ws : va_W} {th tw nm : Nat → Nat} (sz : Nat) (hone : ∀ a g, Sg a = some g → g < 64 → a = th g) (hsing : ∀ g, g < 37 → g < 64 → Sg (th g) = some g) (ht : zf_typ Sg k zGT ws) {nsv k0 k1 : List (List Int32)} {f9 s9 : Nat} (C : nu_C Sg th tw nm ws nsv k0 k1 f9 s9) (a1 : Int32) :
    Met l yX12_restore (zw yX12_restore cX12_restore 2 (some .boolean)) ({ frames := 3, cells := 0, slots := 0, locals := 102 }) (va_Pc [.ref (th 0), .int a1] (g_pr D k (zEx B0 ad al sw Sg ws) sz ws)) (zf_Q (fun v t => ∃ x : Int32, v = some (.int x) ∧ ((x = 0 ∧ nu_Q D k Sg th tw nm nsv k0 k1 (va_A ws sz) t) ∨ (x = 1 ∧ (a1 = 0 ∨ a1 = 1) ∧ nu_Q D k Sg th tw nm (nu_g 0 a1 k0 k1) k0 k1 (va_A ws sz) t))) (va_A ws sz)) 0 0 (va_A ws sz) := by
  have hEx := zEx_ok B0 ad al sw
  refine zp_open (Qp := fun A => fun v t => ∃ x : Int32, v = some (.int x) ∧ ((x = 0 ∧ nu_Q D k Sg th tw nm nsv k0 k1 A t) ∨ (x = 1 ∧ (a1 = 0 ∨ a1 = 1) ∧ nu_Q D k Sg th tw nm (nu_g 0 a1 k0 k1) k0 k1 A t))) (by decide) rfl hEx (Nat.le_of_ble_eq_true rfl) ?_
  intro p e s m below meth c A ls S hr hlocks hK hE hAB hA hP hD hS hl
  have hx := S.1
  have hb := S.2.1
  have g0 : Sg (th 0) = some 0 := hsing 0 (by decide) (by decide)
  have g10 : Sg (th 10) = some 10 := hsing 10 (by decide) (by decide)
  have g14 : Sg (th 14) = some 14 := hsing 14 (by decide) (by decide)
  obtain ⟨T, N0, N2, N3, f8, s8, d1, d2, R⟩ := id C
  have t0 := T.1 0 (by decide)
  refine zp_run (M := zm_restore1) (cuts := [zu_restore1]) (σ := ([((-2147483648), 2147483647)], [], 65, [(0, .inr (some (0, 0))), (1, .inl ([(0, 1)], 0))], [], [(0, 0, ([], 3), .inr (some (64, 64)))])) (ρ := fun _ => a1.toInt) (θ := zf_upr th 64 (tw 0)) hEx (by decide +kernel) (zR_X12_restore l D k B0 ad al sw) S hK hE hAB hA (fun a g h1 h2 => by rw [nu_up h2]; exact hone a g h1 h2) (fun g h1 h2 => by rw [nu_up h2]; exact hsing g h1 h2) rfl (by decide +kernel) kr_restore1 hP hD hS ht ⟨nu_Fo, fun g hg => (by cases hg), ⟨_, hl, ⟨⟨rfl, ⟨rfl, g0⟩⟩, ⟨rfl, ⟨a1, rfl, (zf_v_sym (fun _ => a1.toInt) 0).symm⟩⟩, trivial⟩⟩, trivial, nu_tf hsing (nu_up (by decide)) nu_u64 T zf_an⟩ (zf_ac (fun ρ' θ' w1 H1 locs1 ls1 st1 hρ hθ hP1 hD1 hS1 ht1 hfr hsat => ?_) zf_an) (fun H locs w3 ls pc i v hP3 hD3 hS3 hpost hdg hrv => ?_)
  · obtain ⟨hE1, hF1, ⟨lv, hlv, hlv2⟩, hst, hh⟩ := hsat
    obtain ⟨v1, st2, rfl, ⟨rfl, b1⟩, hst_1⟩ := zf_f2_c hst
    obtain ⟨v2, st3, rfl, ⟨rfl, b2⟩, hst_2⟩ := zf_f2_c hst_1
    cases zf_nil hst_2
    have ra : ρ' 0 = a1.toInt := hρ 0 (by decide)
    have hb0 : (0 : Int) ≤ ρ' 0 ∧ ρ' 0 ≤ 1 := hE1 0
    rw [ra] at hb0
    obtain ⟨j, hj2, hja, hj⟩ := nu_01 hb0.1 hb0.2
    have e14 : θ' 14 = th 14 := (hθ 14 (by decide)).trans (nu_up (by decide))
    have e64 : θ' 64 = tw 0 := (hθ 64 (by decide)).trans nu_u64
    have C1 := nu_Cf (by decide) hfr hsing C
    obtain ⟨-, -, v3, z1, rfl, z2⟩ := (zf_hokT (h := (14, 14, ([(0, 1)], 0), .inr (some (64, 65)))) (show (14 : Nat) < 1000 by decide)).mp (hh _ List.mem_cons_self)
    have z1 : zf_rd w1 (θ' 14) (zf_v ρ' ([(0, 1)], 0)).toNat (.ref (θ' 65)) := z1
    rw [e14, show zf_v ρ' ([(0, 1)], 0) = ρ' 0 from zf_v_sym ρ' 0, ra, hja, show ((j : Int)).toNat = j from Int.toNat_natCast j] at z1
    have z3 := C1.1.2.2.2.2.2.1 j hj2
    have e65 : θ' 65 = tw (2 + j) := by
      have h9 := zf_rd_fun hD1 z1 z3
      injection h9
    have t1 := C1.1.1 (2 + j) (by omega)
    have t2 := C1.1.1 0 (by decide)
    have e64v : Value.ref (θ' 64) = .ref (tw 0) := by rw [e64]
    have e65v : Value.ref (θ' 65) = .ref (tw (2 + j)) := by rw [e65]
    have hM := kn_X10_copy l D k B0 ad al sw H1.size hone hsing ht1 t2.1 t1.1 t2.2.1 t1.2.1 t2.2.2 t1.2.2
    show W p l e _ s m _ below meth c H1 locs1 0 0 _ (F0 m 30 ls1 [.ref (θ' 65), .ref (θ' 64)])
    rw [e64v, e65v]
    refine zp_call (cells := 0) (slots := 0) (As := [.ref (tw (2 + j))]) (b := (tw 0)) (g := 64) (ci := 8) (rest := []) S hEx hE hAB hA hK hM (cwV 1 S.2.2.2.2 (zg_V zw_608 zw_609 zw_610 zw_99 zw_611) rfl rfl rfl (by decide +kernel) ⟨(Nat.le_of_ble_eq_true rfl), (Nat.le_of_ble_eq_true rfl)⟩) ⟨Nat.le_of_ble_eq_true rfl, Nat.le_of_ble_eq_true rfl⟩ rfl rfl (by decide +kernel) t2.1 rfl hP1 hD1 hS1 ht1 hlv.1 (Nat.zero_le _) dNX12_restore_30 (fun v t H2 locs2 ht2 hB hDD hS2 => ?_)
    obtain ⟨rfl, w2, u1, u2, u3, u4, u5⟩ := hB
    rw [ht2] at u1
    obtain ⟨T2, N20, N22, N23, -, d3⟩ := nu_rst hsing C1 hj u4 u5
    refine zp_run (M := zm_restore2) (σ := ([(0, 1)], [], 64, [(0, .inr (some (0, 0))), (1, .inl ([(0, 1)], 0))], [], [])) (ρ := ρ') (θ := θ') hEx (by decide +kernel) (zR_X12_restore l D k B0 ad al sw) S hK hE hAB hA (fun a g h1 h2 => by rw [hθ g (Nat.lt_trans h2 (by decide)), nu_up h2]; exact hone a g h1 h2) (fun g h1 h2 => by rw [hθ g (Nat.lt_trans h2 (by decide)), nu_up h2]; exact hsing g h1 h2) rfl (by decide +kernel) kr_restore2 u1 (hDD _ u1 u2) hS2 u3 ⟨hE1, fun g hg => (by cases hg), ⟨lv, hlv, hlv2⟩, trivial, fun h hh => (by cases hh)⟩ zf_an (fun H locs w3 ls pc i v hP3 hD3 hS3 hpost hdg hrv => ?_)
    obtain ⟨rfl, x, rfl, hx01⟩ := zp_rz (by decide +kernel) hpost hrv
    have hj1 : a1 = 0 ∨ a1 = 1 := by
      rcases hj with h | h
      · exact .inl h.2
      · exact .inr h.2
    obtain ⟨⟨o, ho, ρ1, θ1, y1, y2, y3, -, y5, y6⟩, ht3, hfr3⟩ := hpost
    cases List.mem_singleton.mp ho
    obtain ⟨x', ex, y6⟩ := y6
    have y6 : x'.toInt = 1 := y6
    have e9 : x' = x := by
      injection ex with e9
      exact e9.symm
    rw [e9] at y6
    have hx1 : x = 1 := Int32.toInt_inj.mp y6
    obtain ⟨-, -, v3, z4, y, rfl, z5⟩ := (zf_hokT (h := (10, 10, ([], 2), .inl ([], 0))) (show (10 : Nat) < 1000 by decide)).mp (y5 _ List.mem_cons_self)
    have z4 : zf_rd w3 (θ1 10) 2 (.int y) := z4
    rw [(y2 10 (by decide)).trans ((hθ 10 (by decide)).trans (nu_up (by decide)))] at z4
    have z5 : y.toInt = (0 : Int) := z5
    have ey : y = 0 := Int32.toInt_inj.mp z5
    subst ey
    have eN : nu_eN zm_restore2.2.1 = true := by decide
    have o1 : nu_ok zm_restore2.2.1 10 1 1 = true := by decide
    exact W.zret hx hb hr (by rcases hx01 with rfl | rfl <;> rfl) (fun t ht' hW => ⟨⟨_, rfl, x, rfl, .inr ⟨hx1, hj1, w3, by rw [ht']; exact hP3, hD3, ht3, f9, 0, nu_Tf (by decide) hfr3 hsing T2, nu_Nf eN hfr3 T2 (by decide) N20, nu_Nf eN hfr3 T2 (by decide) N22, nu_Nf eN hfr3 T2 (by decide) N23, f8, by decide, nu_fr o1 hfr3 g10 (by decide) (by decide) d3, z4, fun t h9 => absurd h9 (Nat.not_lt_zero t)⟩⟩, hS3.F ht'⟩) hS3.2.2 hdg hlocks
  · obtain ⟨rfl, x, rfl, hx01⟩ := zp_rz (by decide +kernel) hpost hrv
    obtain ⟨⟨o, ho, ρ1, θ1, y1, y2, y3, -, y5, y6⟩, ht3, hfr3⟩ := hpost
    cases List.mem_singleton.mp ho
    obtain ⟨x', ex, y6⟩ := y6
    have y6 : x'.toInt = 0 := y6
    have e9 : x' = x := by
      injection ex with e9
      exact e9.symm
    rw [e9] at y6
    have hx1 : x = 0 := Int32.toInt_inj.mp y6
    exact W.zret hx hb hr (by rcases hx01 with rfl | rfl <;> rfl) (fun t ht' hW => ⟨⟨_, rfl, x, rfl, .inl ⟨hx1, w3, by rw [ht']; exact hP3, hD3, ht3, f9, s9, nu_Cf (by decide) hfr3 hsing C⟩⟩, hS3.F ht'⟩) hS3.2.2 hdg hlocks
