/-! ===== town: the names that were read ===== -/
theorem lp_tx_ok {B : Nat → Int32} {n : Nat} : ∀ (k p c : Nat) (st : lp_st) (q : Nat × lp_st), p ≤ n → lp_ok st → lp_tx B n k p c st = .inr q → lp_ok q.2 := by
  intro k
  induction k with
  | zero =>
    intro p c st q _ _ h
    have h : (Sum.inl (0, 0) : lp_rs) = .inr q := h
    cases h
  | succ k ih =>
    intro p c st q hp O h
    unfold lp_tx at h
    cases h0 : Nat.beq (tK B n 900 p) 0 with
    | true =>
      rw [h0] at h
      have h : (Sum.inr (c, st) : lp_rs) = .inr q := h
      cases h
      exact O
    | false =>
      rw [h0] at h
      cases hx : lp_line B n p st with
      | inl q1 =>
        rw [hx] at h
        have h : (Sum.inl q1 : lp_rs) = .inr q := h
        cases h
      | inr q1 =>
        rw [hx] at h
        have h : (bif lp_sg B n q1.1 then lp_tx B n k (tN B n 900 q1.1) (c + 1) q1.2 else .inl (1, tA B n 900 q1.1)) = (.inr q : lp_rs) := h
        obtain ⟨O1, -, a2⟩ := lp_line_ok hp O hx
        cases hs : lp_sg B n q1.1 with
        | true =>
          rw [hs] at h
          exact ih _ _ _ _ (tN_le (B := B) (lim := 900) a2).2.1 O1 h
        | false =>
          rw [hs] at h
          have h : (Sum.inl (1, tA B n 900 q1.1) : lp_rs) = .inr q := h
          cases h
section NUT
variable {D : va_G} {k : Nat → ClassId} {Sg : Nat → Option Nat} {th tw nm : Nat → Nat} {eff : zf_F} {ρ : Nat → Int} {A1 A2 : Nat → Prop} {H : Heap} {w1 w2 ws ws' : va_W} {nsv k0 k1 : List (List Int32)} {f9 s9 : Nat}
theorem px_carry (hP1 : va_P D vwCl w1 H) (hP2 : va_P D vwCl w2 H) (hD1 : va_D A1 w1) (hD2 : va_D A2 w2) (t1 : zf_typ Sg k zGT w1) (t2 : zf_typ Sg k xGT w2) {a g i : Nat} {P : zf_P} {v : Value} (ha : Sg a = some g) (hg : g < 128) (hi : zf_sp (zf_gi zGT g).2.2 i = some P) (r2 : zf_rd w2 a i v) : zf_rd w1 a i v := by
  obtain ⟨q1, e1, p1, p2⟩ := t1 _ g ha hg
  obtain ⟨x, h3, -⟩ := p2.2 i _ hi
  have r1 : zf_rd w1 a i x := ⟨q1, e1, p1, h3⟩
  rw [← px_same hP1 hP2 hD1 hD2 t1 t2 ha hg r1 r2]
  exact r1
theorem px_rdL {θ : Nat → Nat} {hp : xe_H} (hc : xe_c Sg θ xGT xSC xRF ws hp) {g i : Nat} (hs : xe_el g xSC = true) (hi : zf_sp (zf_gi xGT g).2.2 i = some (.inr none)) : zf_rd ws (θ g) i (.long (hp.2 g i)) := (hc.1 g hs).2.2 i _ hi
theorem nu_ne {θx : Nat → Nat} {hp : xe_H} (hc : xe_c Sg θx xGT xSC xRF ws' hp) (T : nu_T Sg th tw nm ws) (e64 : θx 64 = tw 1) (e65 : θx 65 = nm 1) {i : Nat} (hi : i < 13) (hne : i ≠ 1) : (∀ g, xe_el g xSC = true → tw i ≠ θx g) ∧ ∀ g, xe_el g xSC = true → nm i ≠ θx g := by
  refine ⟨fun g hg q => ?_, fun g hg q => ?_⟩
  · have h1 := (hc.1 g hg).2.1
    rw [← q, (T.1 i hi).1] at h1
    have h1 : 64 = g := Option.some.inj h1
    rw [← h1, e64] at q
    exact hne (T.2.1 i 1 hi (by decide) q)
  · have h1 := (hc.1 g hg).2.1
    rw [← q, (T.1 i hi).2.1] at h1
    have h1 : 65 = g := Option.some.inj h1
    rw [← h1, e65] at q
    exact hne (T.2.2.1 i 1 hi (by decide) q)
theorem nu_read (hsing : ∀ g, g < 37 → g < 64 → Sg (th g) = some g) (he : (nu_eT eff && nu_ok eff 10 1 2) = true) (hfr : zf_fr Sg eff ρ ws ws') (hI : ∀ i, i < 13 → i ≠ 1 → (∀ v, zf_rd ws (tw i) 0 v → zf_rd ws' (tw i) 0 v) ∧ ∀ (j : Nat) (v : Value), j < 6 → zf_rd ws (nm i) j v → zf_rd ws' (nm i) j v) (C : nu_C Sg th tw nm ws nsv k0 k1 f9 s9) : nu_C Sg th tw nm ws' nsv k0 k1 f9 s9 := by
  rw [Bool.and_eq_true] at he
  obtain ⟨T, N0, N2, N3, f8, s8, h1, h2, R⟩ := C
  have g10 := hsing 10 (by decide) (by decide)
  have hN : ∀ (i : Nat) (n9 : List (List Int32)), i < 13 → i ≠ 1 → nu_N tw nm ws i n9 → nu_N tw nm ws' i n9 := fun i n9 hi hne N => ⟨N.1, (hI i hi hne).1 _ N.2.1, fun j hj => (hI i hi hne).2 j _ (by have := N.1; omega) (N.2.2 j hj)⟩
  exact ⟨nu_Tf he.1 hfr hsing T, hN _ _ (by decide) (by decide) N0, hN _ _ (by decide) (by decide) N2, hN _ _ (by decide) (by decide) N3, f8, s8, nu_fr he.2 hfr g10 (by decide) (by decide) h1, nu_fr he.2 hfr g10 (by decide) (by decide) h2, fun t ht => hN _ _ (nu_m9 f9 t) (by omega) (R t ht)⟩
def nu_tq (r : lp_rs) (nsv : List (List Int32)) : List (List Int32) := match r with
  | .inl _ => nsv
  | .inr q => q.2.1
end NUT
set_option maxRecDepth 100000 in
set_option maxHeartbeats 4000000 in
theorem zRN_X12_town (l : Launch) (D : va_G) (k : Nat → ClassId) (B0 : Nat) (ad : Nat → Nat) (al sw : Nat) : zf_Rl l yX12_town (zw yX12_town cX12_town 2 (some .int)) ({ frames := 6, cells := 0, slots := 0, locals := 134 }) cX12_town 2 D k zGT 37 B0 [zm_X11_read, zm_X10_copy, zm_X8_forget, zm_X5_forgetN] [(10, 10, 0, .inl (0, 0)), (21, 10, 1, .inl (0, 0)), (30, 10, 2, .inl (0, 0)), (37, 10, 3, .inl (0, 0)), (41, 10, 4, .inl (0, 0)), (47, 10, 5, .inl (0, 0)), (64, 10, 8, .inl (0, 0)), (122, 5, 9, .inl (0, 0)), (128, 5, 10, .inl (0, 0)), (139, 9, 3, .inl (0, 0))] [(115, 7, 1, .inl ((-2147483648), 2147483647)), (125, 10, 14, .inl ((-2147483648), 2147483647))] zn_X12_town (zEx B0 ad al sw) := by
  have hEx := zEx_ok B0 ad al sw
  intro p e s m args below meth c Q Sg w0 A θ0 S hK hE hAB hA hone hsing
  refine ⟨?_, ?_, ?_⟩
  · exact zf_ac ((fun H locs ws a q0 fs v rest pc ls hP he hv hdg kk => va_get (D := D) (ci := 10) (C := RX12) (T := TX12) (N := 18) (own := RX12) S.1 S.2.1 S.2.2.2.2 (zg_in inW_X12) S.2.2.2.1 hK hP q0 he rfl 0 (by decide) (S.2.2.2.2 (.fieldLink RX12 10 "RungMoney" "tape" "LRungMoney$Tape;") (List.mem_cons_of_mem _ zw_399)) (fun _ h9 => h9) hv hdg kk)) (zf_ac ((fun H locs ws a q0 fs v rest pc ls hP he hv hdg kk => va_get (D := D) (ci := 10) (C := RX12) (T := TX12) (N := 18) (own := RX12) S.1 S.2.1 S.2.2.2.2 (zg_in inW_X12) S.2.2.2.1 hK hP q0 he rfl 1 (by decide) (S.2.2.2.2 (.fieldLink RX12 21 "RungMoney" "reader" "LRungMoney$Reader;") (List.mem_cons_of_mem _ zw_400)) (fun _ h9 => h9) hv hdg kk)) (zf_ac ((fun H locs ws a q0 fs v rest pc ls hP he hv hdg kk => va_get (D := D) (ci := 10) (C := RX12) (T := TX12) (N := 18) (own := RX12) S.1 S.2.1 S.2.2.2.2 (zg_in inW_X12) S.2.2.2.1 hK hP q0 he rfl 2 (by decide) (S.2.2.2.2 (.fieldLink RX12 30 "RungMoney" "townReader" "LRungMoney$TownReader;") (List.mem_cons_of_mem _ zw_401)) (fun _ h9 => h9) hv hdg kk)) (zf_ac ((fun H locs ws a q0 fs v rest pc ls hP he hv hdg kk => va_get (D := D) (ci := 10) (C := RX12) (T := TX12) (N := 18) (own := RX12) S.1 S.2.1 S.2.2.2.2 (zg_in inW_X12) S.2.2.2.1 hK hP q0 he rfl 3 (by decide) (S.2.2.2.2 (.fieldLink RX12 37 "RungMoney" "town" "LRungMoney$Town;") (List.mem_cons_of_mem _ zw_402)) (fun _ h9 => h9) hv hdg kk)) (zf_ac ((fun H locs ws a q0 fs v rest pc ls hP he hv hdg kk => va_get (D := D) (ci := 10) (C := RX12) (T := TX12) (N := 18) (own := RX12) S.1 S.2.1 S.2.2.2.2 (zg_in inW_X12) S.2.2.2.1 hK hP q0 he rfl 4 (by decide) (S.2.2.2.2 (.fieldLink RX12 41 "RungMoney" "spare" "LRungMoney$Town;") (List.mem_cons_of_mem _ zw_403)) (fun _ h9 => h9) hv hdg kk)) (zf_ac ((fun H locs ws a q0 fs v rest pc ls hP he hv hdg kk => va_get (D := D) (ci := 10) (C := RX12) (T := TX12) (N := 18) (own := RX12) S.1 S.2.1 S.2.2.2.2 (zg_in inW_X12) S.2.2.2.1 hK hP q0 he rfl 5 (by decide) (S.2.2.2.2 (.fieldLink RX12 47 "RungMoney" "sentence" "LRungMoney$Sentence;") (List.mem_cons_of_mem _ zw_404)) (fun _ h9 => h9) hv hdg kk)) (zf_ac ((fun H locs ws a q0 fs v rest pc ls hP he hv hdg kk => va_get (D := D) (ci := 10) (C := RX12) (T := TX12) (N := 18) (own := RX12) S.1 S.2.1 S.2.2.2.2 (zg_in inW_X12) S.2.2.2.1 hK hP q0 he rfl 8 (by decide) (S.2.2.2.2 (.fieldLink RX12 64 "RungMoney" "past" "LRungMoney$Past;") (List.mem_cons_of_mem _ zw_407)) (fun _ h9 => h9) hv hdg kk)) (zf_ac ((fun H locs ws a q0 fs v rest pc ls hP he hv hdg kk => va_get (D := D) (ci := 5) (C := RX7) (T := TX7) (N := 11) (own := RX12) S.1 S.2.1 S.2.2.2.2 (zg_in inW_X7) S.2.2.2.1 hK hP q0 he rfl 9 (by decide) (S.2.2.2.2 (.fieldLink RX12 122 "RungMoney$Reader" "fault" "I") (List.mem_cons_of_mem _ zw_167)) (fun _ h9 => h9) hv hdg kk)) (zf_ac ((fun H locs ws a q0 fs v rest pc ls hP he hv hdg kk => va_get (D := D) (ci := 5) (C := RX7) (T := TX7) (N := 11) (own := RX12) S.1 S.2.1 S.2.2.2.2 (zg_in inW_X7) S.2.2.2.1 hK hP q0 he rfl 10 (by decide) (S.2.2.2.2 (.fieldLink RX12 128 "RungMoney$Reader" "place" "I") (List.mem_cons_of_mem _ zw_169)) (fun _ h9 => h9) hv hdg kk)) (zf_ac ((fun H locs ws a q0 fs v rest pc ls hP he hv hdg kk => va_get (D := D) (ci := 9) (C := RX11) (T := TX11) (N := 4) (own := RX12) S.1 S.2.1 S.2.2.2.2 (zg_in inW_X11) S.2.2.2.1 hK hP q0 he rfl 3 (by decide) (S.2.2.2.2 (.fieldLink RX12 139 "RungMoney$TownReader" "lines" "I") (List.mem_cons_of_mem _ zw_203)) (fun _ h9 => h9) hv hdg kk)) zf_an)))))))))
  · exact zf_ac ((fun H locs ws a q0 fs v rest pc ls hP hD hS he hl hv hdg kk => by obtain ⟨x, rfl, h1, h2⟩ := hv; exact va_put (D := D) (ci := 7) (v := .int x) (ty := .int) (C := RX9) (T := TX9) (N := 2) (own := RX12) S.1 S.2.1 S.2.2.2.2 (zg_in inW_X9) tyX9 tyX9_ok nmX9 S.2.2.2.1 hK hP hD hS q0 he rfl 1 (by decide) (S.2.2.2.2 (.fieldLink RX12 115 "RungMoney$Tape" "size" "I") (List.mem_cons_of_mem _ zw_136)) (fun _ h9 => h9) rfl (by decide +kernel) rfl rfl hl hdg kk)) (zf_ac ((fun H locs ws a q0 fs v rest pc ls hP hD hS he hl hv hdg kk => by obtain ⟨x, rfl, h1, h2⟩ := hv; exact va_put (D := D) (ci := 10) (v := .int x) (ty := .int) (C := RX12) (T := TX12) (N := 18) (own := RX12) S.1 S.2.1 S.2.2.2.2 (zg_in inW_X12) tyX12 tyX12_ok nmX12 S.2.2.2.1 hK hP hD hS q0 he rfl 14 (by decide) (S.2.2.2.2 (.fieldLink RX12 125 "RungMoney" "faultKind" "I") (List.mem_cons_of_mem _ zw_413)) (fun _ h9 => h9) rfl (by decide +kernel) rfl rfl hl hdg kk)) zf_an)
  · exact zf_crl (xs := [(.invokevirtual 118, 3, 0), (.invokevirtual 131, 3, 1), (.invokevirtual 135, 3, 2), (.invokevirtual 138, 3, 3)]) (by decide +kernel) (zf_ac (zf_crV S hEx hE hAB hA hK hone hsing (kc_X11_read l D k B0 ad al sw) (cwV 1 S.2.2.2.2 (zg_V zw_475 zw_476 zw_477 zw_98 zw_478) rfl rfl rfl (by decide +kernel) ⟨(Nat.le_of_ble_eq_true rfl), (Nat.le_of_ble_eq_true rfl)⟩) ⟨(Nat.le_of_ble_eq_true rfl), (Nat.le_of_ble_eq_true rfl)⟩ 9 rfl rfl (ar := [.inr (some (64, 64))]) rfl rfl (by decide +kernel)) (zf_ac (zf_crV S hEx hE hAB hA hK hone hsing (kc_X10_copy l D k B0 ad al sw) (cwV 1 S.2.2.2.2 (zg_V zw_608 zw_609 zw_610 zw_99 zw_611) rfl rfl rfl (by decide +kernel) ⟨(Nat.le_of_ble_eq_true rfl), (Nat.le_of_ble_eq_true rfl)⟩) ⟨(Nat.le_of_ble_eq_true rfl), (Nat.le_of_ble_eq_true rfl)⟩ 8 rfl rfl (ar := [.inr (some (64, 65))]) rfl rfl (by decide +kernel)) (zf_ac (zf_crV S hEx hE hAB hA hK hone hsing (kc_X8_forget l D k B0 ad al sw) (cwV 0 S.2.2.2.2 (zg_V zw_625 zw_626 zw_627 zw_102 zw_628) rfl rfl rfl (by decide +kernel) ⟨(Nat.le_of_ble_eq_true rfl), (Nat.le_of_ble_eq_true rfl)⟩) ⟨(Nat.le_of_ble_eq_true rfl), (Nat.le_of_ble_eq_true rfl)⟩ 6 rfl rfl (ar := []) rfl rfl (by decide +kernel)) (zf_ac (zf_crV S hEx hE hAB hA hK hone hsing (kc_X5_forgetN l D k B0 ad al sw) (cwV 0 S.2.2.2.2 (zg_V zw_629 zw_630 zw_631 zw_106 zw_632) rfl rfl rfl (by decide +kernel) ⟨(Nat.le_of_ble_eq_true rfl), (Nat.le_of_ble_eq_true rfl)⟩) ⟨(Nat.le_of_ble_eq_true rfl), (Nat.le_of_ble_eq_true rfl)⟩ 3 rfl rfl (ar := []) rfl rfl (by decide +kernel)) zf_an))))
def zm_twn0 : zf_M := (([], [], 66, [], [], []), [], [])
def zu_twn0 : zf_U := (8, ([], [], 66, [(0, .inr (some (0, 0)))], [.inr (some (64, 65)), .inr (some (4, 4))], []), ([], 0), 0)
set_option maxRecDepth 100000 in
set_option maxHeartbeats 4000000 in
theorem kr_twn0 : zf_run 0 66 37 2 zGT zm_twn0 [zm_X11_read, zm_X10_copy, zm_X8_forget, zm_X5_forgetN] [(10, 10, 0, .inl (0, 0)), (21, 10, 1, .inl (0, 0)), (30, 10, 2, .inl (0, 0)), (37, 10, 3, .inl (0, 0)), (41, 10, 4, .inl (0, 0)), (47, 10, 5, .inl (0, 0)), (64, 10, 8, .inl (0, 0)), (122, 5, 9, .inl (0, 0)), (128, 5, 10, .inl (0, 0)), (139, 9, 3, .inl (0, 0))] [(115, 7, 1, .inl ((-2147483648), 2147483647)), (125, 10, 14, .inl ((-2147483648), 2147483647))] zn_X12_town [zu_twn0] none 3000 0 ([], [], 66, [(0, .inr (some (0, 0)))], [], [(0, 0, ([], 3), .inr (some (64, 64))), (0, 0, ([], 4), .inr (some (64, 65)))]) = true := by decide +kernel
def zm_twnf : zf_M := (([], [], 66, [], [], []), [(1, ([], 1), ([], 1)), (0, ([], 14), ([], 14))], [(some (.inl ([(0, 1)], 0)), ([((-2147483648), 2147483647)], [], 66, [], [], []))])
set_option maxRecDepth 100000 in
set_option maxHeartbeats 4000000 in
theorem kr_twnf : zf_run 0 66 37 2 zGT zm_twnf [zm_X11_read, zm_X10_copy, zm_X8_forget, zm_X5_forgetN] [(10, 10, 0, .inl (0, 0)), (21, 10, 1, .inl (0, 0)), (30, 10, 2, .inl (0, 0)), (37, 10, 3, .inl (0, 0)), (41, 10, 4, .inl (0, 0)), (47, 10, 5, .inl (0, 0)), (64, 10, 8, .inl (0, 0)), (122, 5, 9, .inl (0, 0)), (128, 5, 10, .inl (0, 0)), (139, 9, 3, .inl (0, 0))] [(115, 7, 1, .inl ((-2147483648), 2147483647)), (125, 10, 14, .inl ((-2147483648), 2147483647))] zn_X12_town [] none 3000 11 ([], [], 66, [(0, .inr (some (0, 0)))], [.inl ([], 0)], [(0, 0, ([], 3), .inr (some (64, 64))), (0, 0, ([], 4), .inr (some (64, 65)))]) = true := by decide +kernel
def zm_twns : zf_M := (([], [], 66, [], [], []), [(1, ([], 1), ([], 1)), (0, ([], 14), ([], 14))], [])
def zu_twns : zf_U := (53, ([], [], 66, [(0, .inr (some (0, 0)))], [.inr (some (64, 65)), .inr (some (64, 64))], []), ([], 0), 0)
set_option maxRecDepth 100000 in
set_option maxHeartbeats 4000000 in
theorem kr_twns : zf_run 0 66 37 2 zGT zm_twns [zm_X11_read, zm_X10_copy, zm_X8_forget, zm_X5_forgetN] [(10, 10, 0, .inl (0, 0)), (21, 10, 1, .inl (0, 0)), (30, 10, 2, .inl (0, 0)), (37, 10, 3, .inl (0, 0)), (41, 10, 4, .inl (0, 0)), (47, 10, 5, .inl (0, 0)), (64, 10, 8, .inl (0, 0)), (122, 5, 9, .inl (0, 0)), (128, 5, 10, .inl (0, 0)), (139, 9, 3, .inl (0, 0))] [(115, 7, 1, .inl ((-2147483648), 2147483647)), (125, 10, 14, .inl ((-2147483648), 2147483647))] zn_X12_town [zu_twns] none 3000 11 ([], [], 66, [(0, .inr (some (0, 0)))], [.inl ([], 1)], [(0, 0, ([], 3), .inr (some (64, 64))), (0, 0, ([], 4), .inr (some (64, 65)))]) = true := by decide +kernel
def zm_twn2 : zf_M := (([], [], 66, [], [], []), [(76, ([], 4), ([], 5)), (10, ([], 2), ([], 2))], [(some (.inl ([(0, 1)], 0)), ([((-2147483648), 2147483647)], [], 66, [], [], [(10, 10, ([], 2), .inl ([], 0))]))])
set_option maxRecDepth 100000 in
set_option maxHeartbeats 4000000 in
theorem kr_twn2 : zf_run 0 66 37 2 zGT zm_twn2 [zm_X11_read, zm_X10_copy, zm_X8_forget, zm_X5_forgetN] [(10, 10, 0, .inl (0, 0)), (21, 10, 1, .inl (0, 0)), (30, 10, 2, .inl (0, 0)), (37, 10, 3, .inl (0, 0)), (41, 10, 4, .inl (0, 0)), (47, 10, 5, .inl (0, 0)), (64, 10, 8, .inl (0, 0)), (122, 5, 9, .inl (0, 0)), (128, 5, 10, .inl (0, 0)), (139, 9, 3, .inl (0, 0))] [(115, 7, 1, .inl ((-2147483648), 2147483647)), (125, 10, 14, .inl ((-2147483648), 2147483647))] zn_X12_town [] none 3000 56 ([], [], 66, [(0, .inr (some (0, 0)))], [], [(0, 0, ([], 3), .inr (some (64, 64))), (0, 0, ([], 4), .inr (some (64, 65)))]) = true := by decide +kernel
theorem dNX12_town_8 : decode cX12_town 8 = .ok (.invokevirtual 118, 3) := by decide +kernel
theorem dNX12_town_53 : decode cX12_town 53 = .ok (.invokevirtual 131, 3) := by decide +kernel
theorem nu_s6 {j : Nat} (h : j < 6) : zf_sp (zf_gi zGT 65).2.2 j = some (.inr none) := by
  match j, h with
  | 0, _ => rfl
  | 1, _ => rfl
  | 2, _ => rfl
  | 3, _ => rfl
  | 4, _ => rfl
  | 5, _ => rfl
theorem nu_x6 {j : Nat} (h : j < 6) : zf_sp (zf_gi xGT 65).2.2 j = some (.inr none) := by
  match j, h with
  | 0, _ => rfl
  | 1, _ => rfl
  | 2, _ => rfl
  | 3, _ => rfl
  | 4, _ => rfl
  | 5, _ => rfl
theorem nu_tn {Sg : Nat → Option Nat} {th tw nm : Nat → Nat} {ws ws' : va_W} {nsv k0 k1 : List (List Int32)} {f9 s9 : Nat} (hsing : ∀ g, g < 37 → g < 64 → Sg (th g) = some g) (C : nu_C Sg th tw nm ws nsv k0 k1 f9 s9) {b : Nat} (hfr : zf_fr Sg zm_X10_copy.2.1 (fun _ => 0) ws ws') (hcp : nu_cp Sg ws ws' (tw 0) (tw b) (nm 0) (nm b)) : nu_T Sg th tw nm ws' ∧ nu_N tw nm ws' 2 k0 ∧ nu_N tw nm ws' 3 k1 ∧ f9 ≤ 8 ∧ zf_rd ws' (th 10) 1 (.int (Int32.ofNat f9)) := by
  obtain ⟨T, N0, N2, N3, f8, s8, h1, h2, R⟩ := C
  have g10 := hsing 10 (by decide) (by decide)
  have o1 : nu_ok zm_X10_copy.2.1 10 1 2 = true := by decide
  exact ⟨nu_Tf (by decide) hfr hsing T, nu_c2 hcp T (by decide) (by decide) (by decide) N2, nu_c2 hcp T (by decide) (by decide) (by decide) N3, f8, nu_fr o1 hfr g10 (by decide) (by decide) h1⟩
set_option maxRecDepth 100000 in
set_option maxHeartbeats 4000000 in
theorem kn_X12_town (l : Launch) (D : va_G) (k : Nat → ClassId) (B0 : Nat) (ad : Nat → Nat) (al sw : Nat) {Sg : Nat → Option Nat} {ws : va_W} {th tw nm : Nat → Nat} (sz : Nat) (hone : ∀ a g, Sg a = some g → g < 64 → a = th g) (hsing : ∀ g, g < 37 → g < 64 → Sg (th g) = some g) (ht : zf_typ Sg k zGT ws) {nsv k0 k1 : List (List Int32)} {f9 s9 : Nat} (C : nu_C Sg th tw nm ws nsv k0 k1 f9 s9) {B : Nat → Int32} {n9 : Nat} (hn9 : n9 ≤ 940) (hsz9 : zf_rd ws (th 1) 1 (.int (Int32.ofNat n9))) (hby : ∀ i, i < 940 → zf_rd ws (th 2) i (.int (B i))) :
    Met l yX12_town (zw yX12_town cX12_town 2 (some .int)) ({ frames := 6, cells := 0, slots := 0, locals := 134 }) (va_Pc [.ref (th 0)] (g_pr D k (zEx B0 ad al sw Sg ws) sz ws)) (zf_Q (fun _ t => nu_Q D k Sg th tw nm (nu_tq (lp_tx B n9 (n9 + 1) 0 0 lp_s0) nsv) k0 k1 (va_A ws sz) t) (va_A ws sz)) 0 0 (va_A ws sz) := by
  have hEx := zEx_ok B0 ad al sw
  refine zp_open (Qp := fun A _ t => nu_Q D k Sg th tw nm (nu_tq (lp_tx B n9 (n9 + 1) 0 0 lp_s0) nsv) k0 k1 A t) (by decide) rfl hEx (Nat.le_of_ble_eq_true rfl) ?_
  intro p e s m below meth c A ls S hr hlocks hK hE hAB hA hP hD hS hl
  have hx := S.1
  have hb := S.2.1
  have g0 : Sg (th 0) = some 0 := hsing 0 (by decide) (by decide)
  have g4 : Sg (th 4) = some 4 := hsing 4 (by decide) (by decide)
  have g10 : Sg (th 10) = some 10 := hsing 10 (by decide) (by decide)
  refine zp_run (M := zm_twn0) (cuts := [zu_twn0]) (σ := ([], [], 66, [(0, .inr (some (0, 0)))], [], [(0, 0, ([], 3), .inr (some (64, 64))), (0, 0, ([], 4), .inr (some (64, 65)))])) (ρ := fun _ => 0) (θ := nu_θ2 th tw) hEx (by decide +kernel) (zRN_X12_town l D k B0 ad al sw) S hK hE hAB hA (fun a g h1 h2 => by rw [nu_t2 h2]; exact hone a g h1 h2) (fun g h1 h2 => by rw [nu_t2 h2]; exact hsing g h1 h2) rfl (by decide +kernel) kr_twn0 hP hD hS ht ⟨lp_zr rfl, fun g hg => (by cases hg), ⟨_, hl, ⟨⟨rfl, ⟨rfl, g0⟩⟩, trivial⟩⟩, trivial, nu_tf2 hsing (fun _ _ => rfl) C.1 zf_an⟩ (zf_ac (fun ρ1 θ1 w1 H1 locs1 ls1 st1 hρ1 hθ1 hP1 hD1 hS1 ht1 hfr1 hsat1 => ?_) zf_an) (fun H locs w9 ls pc i v _ _ _ hpost _ _ => by obtain ⟨⟨o, ho, -⟩, -, -⟩ := hpost; cases ho)
  obtain ⟨hE1, -, ⟨lv, hlv, hlv2⟩, hst, -⟩ := hsat1
  obtain ⟨v1, st4, rfl, ⟨rfl, b1⟩, hst_1⟩ := zf_f2_c hst
  obtain ⟨v2, st5, rfl, ⟨rfl, b2⟩, hst_2⟩ := zf_f2_c hst_1
  cases zf_nil hst_2
  have e65v : Value.ref (θ1 65) = .ref (tw 1) := by rw [hθ1 65 (by decide), nu_t65]
  have e4v : Value.ref (θ1 4) = .ref (th 4) := by rw [hθ1 4 (by decide), nu_t2 (by decide)]
  have C1 := nu_Cf (by decide) hfr1 hsing C
  have t1 := C1.1.1 1 (by decide)
  obtain ⟨q0, en, pe, pt⟩ := ht1 _ 0 g0 (by decide)
  obtain ⟨_, -, snt, -, s6⟩ := pt.2 6 (.inr (some 76)) rfl
  obtain ⟨θx, hp, x1, x2, -, x3, x4⟩ := px_world (ad := ad) ht1 hone hsing hE.2.2.2.1.2 hE.2.2.1.2.1 t1.1 s6
  have i1 : hp.1 1 1 = Int32.ofNat n9 := px_int hD1 x4 (g := 1) (i := 1) rfl rfl (by rw [x1 1 (by decide)]; exact nu_fr0 hfr1 (hsing 1 (by decide) (by decide)) hsz9)
  have i2 : ∀ i, i < 940 → hp.1 2 i = B i := fun i hi => px_int hD1 x4 (g := 2) (i := i) rfl (px_spx hi) (by rw [x1 2 (by decide)]; exact nu_fr0 hfr1 (hsing 2 (by decide) (by decide)) (hby i hi))
  have hrun := cs_read (B := B) (I := hp.1) (L := hp.2) hn9 i1 i2
  have e65x : θx 65 = nm 1 := by
    have h9 := (x4.2 (64, 1, 65) (List.mem_of_getElem? (i := 3) rfl)).2.2.2.1
    have h9 : zf_rd w1 (θx 64) 1 (.ref (θx 65)) := h9
    rw [x2] at h9
    have h8 := zf_rd_fun hD1 h9 t1.2.2
    injection h8
  have hMc := kc_X11_read l D k B0 ad al sw Sg w1 (fun _ => 0) (zf_upr th 64 (tw 1)) [.ref (tw 1), .ref (th 4)] H1.size (fun a g h1 h2 => by rw [show zf_upr th 64 (tw 1) g = th g from if_neg (Nat.ne_of_lt h2)]; exact hone a g h1 h2) (fun g h1 h2 => by rw [show zf_upr th 64 (tw 1) g = th g from if_neg (Nat.ne_of_lt h2)]; exact hsing g h1 h2) ht1 ⟨lp_zr rfl, fun f hf => (by cases hf), ⟨⟨rfl, t1.1⟩, ⟨rfl, g4⟩, trivial⟩, fun h hh => (by cases hh)⟩
  have hus : zf_f2 (xe_v Sg θx) [.ref 64, .ref 4] [.ref (tw 1), .ref (th 4)] := by
    refine ⟨⟨?_, ?_⟩, ⟨?_, ?_⟩, trivial⟩
    · show Value.ref (tw 1) = Value.ref (θx 64)
      rw [x2]
    · show Sg (θx 64) = some (xe_k 64)
      rw [x2]; exact t1.1
    · show Value.ref (th 4) = Value.ref (θx 4)
      rw [x1 4 (by decide)]
    · show Sg (θx 4) = some (xe_k 4)
      rw [x1 4 (by decide)]; exact g4
  show W p l e _ s m _ below meth c H1 locs1 0 0 _ (F0 m 8 ls1 [.ref (θ1 65), .ref (θ1 4)])
  rw [e65v, e4v]
  cases hx9 : lp_tx B n9 (n9 + 1) 0 0 lp_s0 with
  | inl q =>
    rw [hx9] at hrun
    obtain ⟨I', L', fx, z9, z10⟩ := hrun
    have hMx := kx_X11_read l D k B0 ad al sw Sg w1 θx [.ref 64, .ref 4] [.ref (tw 1), .ref (th 4)] H1.size hp _ (I', L') x3 (px_typ ht1) x4 hus fx
    refine zp_call (cells := 0) (slots := 0) (As := [.ref (tw 1)]) (b := th 4) (g := 4) (ci := 9) (rest := []) S hEx hE hAB hA hK (Met_two hMc hMx) (cwV 1 S.2.2.2.2 (zg_V zw_475 zw_476 zw_477 zw_98 zw_478) rfl rfl rfl (by decide +kernel) ⟨(Nat.le_of_ble_eq_true rfl), (Nat.le_of_ble_eq_true rfl)⟩) ⟨Nat.le_of_ble_eq_true rfl, Nat.le_of_ble_eq_true rfl⟩ rfl rfl (by decide +kernel) g4 rfl hP1 hD1 hS1 ht1 hlv.1 (Nat.zero_le _) dNX12_town_8 (fun v' t H2 locs2 ht2 hB hDD hS2 => ?_)
    obtain ⟨⟨wa, a1, a2, a3, a4⟩, rfl, c0, wb, c1, c2, c3, c4, c5, c6⟩ := hB
    rw [ht2] at a1 c1
    have D2 := hDD _ a1 a3
    have C2 := nu_read hsing (by decide) a4.2.2 (fun i hi hne => ⟨fun v h => px_carry a1 c1 a3 c3 a4.2.1 c4 (C1.1.1 i hi).1 (by decide) (P := .inl (0, 6)) rfl (c6 _ _ _ (nu_ne c5 C1.1 x2 e65x hi hne).1 h), fun j v hj h => px_carry a1 c1 a3 c3 a4.2.1 c4 (C1.1.1 i hi).2.1 (by decide) (P := .inr none) (nu_s6 hj) (c6 _ _ _ (nu_ne c5 C1.1 x2 e65x hi hne).2 h)⟩) C1
    refine zp_run (M := zm_twnf) (σ := ([], [], 66, [(0, .inr (some (0, 0)))], [.inl ([], 0)], [(0, 0, ([], 3), .inr (some (64, 64))), (0, 0, ([], 4), .inr (some (64, 65)))])) (ρ := ρ1) (θ := θ1) hEx (by decide +kernel) (zRN_X12_town l D k B0 ad al sw) S hK hE hAB hA (fun a g h1 h2 => by rw [hθ1 g (Nat.lt_trans h2 (by decide)), nu_t2 h2]; exact hone a g h1 h2) (fun g h1 h2 => by rw [hθ1 g (Nat.lt_trans h2 (by decide)), nu_t2 h2]; exact hsing g h1 h2) rfl (by decide +kernel) kr_twnf a1 D2 hS2 a4.2.1 ⟨hE1, fun g hg => (by cases hg), ⟨lv, hlv, hlv2⟩, ⟨⟨0, rfl, rfl⟩, trivial⟩, nu_tf2 hsing hθ1 C2.1 zf_an⟩ zf_an (fun H locs w9 ls pc i v hP3 hD3 hS3 hpost hdg hrv => ?_)
    obtain ⟨rfl, v, rfl⟩ := zt_ri (by decide +kernel) hpost hrv
    exact W.iret hx hb hr (fun t ht' hW => ⟨⟨_, rfl, w9, by rw [ht']; exact hP3, hD3, hpost.2.1, _, _, nu_Cf (by decide) hpost.2.2 hsing C2⟩, hS3.F ht'⟩) hS3.2.2 hdg hlocks
  | inr q =>
    rw [hx9] at hrun
    obtain ⟨I', L', fx, z43, z9, TC⟩ := hrun
    have O := lp_tx_ok _ _ _ _ _ (Nat.zero_le _) lp_s0_ok hx9
    have hMx := kx_X11_read l D k B0 ad al sw Sg w1 θx [.ref 64, .ref 4] [.ref (tw 1), .ref (th 4)] H1.size hp _ (I', L') x3 (px_typ ht1) x4 hus fx
    refine zp_call (cells := 0) (slots := 0) (As := [.ref (tw 1)]) (b := th 4) (g := 4) (ci := 9) (rest := []) S hEx hE hAB hA hK (Met_two hMc hMx) (cwV 1 S.2.2.2.2 (zg_V zw_475 zw_476 zw_477 zw_98 zw_478) rfl rfl rfl (by decide +kernel) ⟨(Nat.le_of_ble_eq_true rfl), (Nat.le_of_ble_eq_true rfl)⟩) ⟨Nat.le_of_ble_eq_true rfl, Nat.le_of_ble_eq_true rfl⟩ rfl rfl (by decide +kernel) g4 rfl hP1 hD1 hS1 ht1 hlv.1 (Nat.zero_le _) dNX12_town_8 (fun v' t H2 locs2 ht2 hB hDD hS2 => ?_)
    obtain ⟨⟨wa, a1, a2, a3, a4⟩, rfl, c0, wb, c1, c2, c3, c4, c5, c6⟩ := hB
    rw [ht2] at a1 c1
    have D2 := hDD _ a1 a3
    have C2 := nu_read hsing (by decide) a4.2.2 (fun i hi hne => ⟨fun v h => px_carry a1 c1 a3 c3 a4.2.1 c4 (C1.1.1 i hi).1 (by decide) (P := .inl (0, 6)) rfl (c6 _ _ _ (nu_ne c5 C1.1 x2 e65x hi hne).1 h), fun j v hj h => px_carry a1 c1 a3 c3 a4.2.1 c4 (C1.1.1 i hi).2.1 (by decide) (P := .inr none) (nu_s6 hj) (c6 _ _ _ (nu_ne c5 C1.1 x2 e65x hi hne).2 h)⟩) C1
    -- the names in the spare town
    have N1 : nu_N tw nm wa 1 q.2.1 := by
      refine ⟨O.1, ?_, fun j hj => ?_⟩
      · have h9 := px_get a1 c1 a3 c3 a4.2.1 c4 c5 (g := 64) (i := 0) rfl rfl rfl
        have h9 : zf_rd wa (θx 64) 0 (.int (I' 64 0)) := h9
        rw [x2, TC.1] at h9
        exact h9
      · have hj6 : j < 6 := Nat.lt_of_lt_of_le hj O.1
        have h8 := px_rdL c5 (g := 65) (i := j) rfl (nu_x6 hj6)
        have h8 : zf_rd wb (θx 65) j (.long (L' 65 j)) := h8
        rw [e65x, TC.2.1 j hj] at h8
        exact px_carry a1 c1 a3 c3 a4.2.1 c4 t1.2.1 (by decide) (P := .inr none) (nu_s6 hj6) h8
    refine zp_run (M := zm_twns) (cuts := [zu_twns]) (σ := ([], [], 66, [(0, .inr (some (0, 0)))], [.inl ([], 1)], [(0, 0, ([], 3), .inr (some (64, 64))), (0, 0, ([], 4), .inr (some (64, 65)))])) (ρ := ρ1) (θ := θ1) hEx (by decide +kernel) (zRN_X12_town l D k B0 ad al sw) S hK hE hAB hA (fun a g h1 h2 => by rw [hθ1 g (Nat.lt_trans h2 (by decide)), nu_t2 h2]; exact hone a g h1 h2) (fun g h1 h2 => by rw [hθ1 g (Nat.lt_trans h2 (by decide)), nu_t2 h2]; exact hsing g h1 h2) rfl (by decide +kernel) kr_twns a1 D2 hS2 a4.2.1 ⟨hE1, fun g hg => (by cases hg), ⟨lv, hlv, hlv2⟩, ⟨⟨1, rfl, rfl⟩, trivial⟩, nu_tf2 hsing hθ1 C2.1 zf_an⟩ (zf_ac (fun ρ3 θ3 w3 H3 locs3 ls3 st3 hρ3 hθ3 hP3 hD3 hS3 ht3 hfr3 hsat3 => ?_) zf_an) (fun H locs w9 ls pc i v _ _ _ hpost _ _ => by obtain ⟨⟨o, ho, -⟩, -, -⟩ := hpost; cases ho)
    clear hlv hlv2
    obtain ⟨hE3, -, ⟨lv3, hlv, hlv2⟩, hst, -⟩ := hsat3
    obtain ⟨v3, st6, rfl, ⟨rfl, b3⟩, hst_1⟩ := zf_f2_c hst
    obtain ⟨v4, st7, rfl, ⟨rfl, b4⟩, hst_2⟩ := zf_f2_c hst_1
    cases zf_nil hst_2
    have hθ4 : ∀ i, i < 66 → θ3 i = nu_θ2 th tw i := fun i hi => (hθ3 i hi).trans (hθ1 i hi)
    have e64w : Value.ref (θ3 64) = .ref (tw 0) := by rw [hθ4 64 (by decide), nu_t64]
    have e65w : Value.ref (θ3 65) = .ref (tw 1) := by rw [hθ4 65 (by decide), nu_t65]
    have C3 := nu_Cf (by decide) hfr3 hsing C2
    have N3 := nu_Nf (by decide) hfr3 C2.1 (by decide) N1
    have y0 := C3.1.1 0 (by decide)
    have y1 := C3.1.1 1 (by decide)
    have hM := kn_X10_copy l D k B0 ad al sw H3.size hone hsing ht3 y0.1 y1.1 y0.2.1 y1.2.1 y0.2.2 y1.2.2
    show W p l e _ s m _ below meth c H3 locs3 0 0 _ (F0 m 53 ls3 [.ref (θ3 65), .ref (θ3 64)])
    rw [e64w, e65w]
    refine zp_call (cells := 0) (slots := 0) (As := [.ref (tw 1)]) (b := tw 0) (g := 64) (ci := 8) (rest := []) S hEx hE hAB hA hK hM (cwV 1 S.2.2.2.2 (zg_V zw_608 zw_609 zw_610 zw_99 zw_611) rfl rfl rfl (by decide +kernel) ⟨(Nat.le_of_ble_eq_true rfl), (Nat.le_of_ble_eq_true rfl)⟩) ⟨Nat.le_of_ble_eq_true rfl, Nat.le_of_ble_eq_true rfl⟩ rfl rfl (by decide +kernel) y0.1 rfl hP3 hD3 hS3 ht3 hlv.1 (Nat.zero_le _) dNX12_town_53 (fun v t H4 locs4 ht4 hB hDD4 hS4 => ?_)
    obtain ⟨rfl, w4, z1, z2, z3, z4, z5⟩ := hB
    rw [ht4] at z1
    obtain ⟨T4, M2, M3, f8, d1⟩ := nu_tn hsing C3 z4 z5
    have M0 : nu_N tw nm w4 0 q.2.1 := nu_c1 z5 N3
    refine zp_run (M := zm_twn2) (σ := ([], [], 66, [(0, .inr (some (0, 0)))], [], [(0, 0, ([], 3), .inr (some (64, 64))), (0, 0, ([], 4), .inr (some (64, 65)))])) (ρ := ρ3) (θ := θ3) hEx (by decide +kernel) (zRN_X12_town l D k B0 ad al sw) S hK hE hAB hA (fun a g h1 h2 => by rw [hθ4 g (Nat.lt_trans h2 (by decide)), nu_t2 h2]; exact hone a g h1 h2) (fun g h1 h2 => by rw [hθ4 g (Nat.lt_trans h2 (by decide)), nu_t2 h2]; exact hsing g h1 h2) rfl (by decide +kernel) kr_twn2 z1 (hDD4 _ z1 z2) hS4 z3 ⟨hE3, fun g hg => (by cases hg), ⟨lv3, hlv, hlv2⟩, trivial, nu_tf2 hsing hθ4 T4 zf_an⟩ zf_an (fun H locs w9 ls pc i v hP9 hD9 hS9 hpost hdg hrv => ?_)
    obtain ⟨rfl, v, rfl⟩ := zt_ri (by decide +kernel) hpost hrv
    obtain ⟨⟨o, ho, ρ5, θ5, y1, y2, y3, -, y5, -⟩, ht9, hfr9⟩ := hpost
    cases List.mem_singleton.mp ho
    obtain ⟨-, -, v5, u4, y, rfl, u5⟩ := (zf_hokT (h := (10, 10, ([], 2), .inl ([], 0))) (show (10 : Nat) < 1000 by decide)).mp (y5 _ List.mem_cons_self)
    have u4 : zf_rd w9 (θ5 10) 2 (.int y) := u4
    rw [(y2 10 (by decide)).trans ((hθ4 10 (by decide)).trans (nu_t2 (by decide)))] at u4
    have u5 : y.toInt = (0 : Int) := u5
    have ey : y = 0 := Int32.toInt_inj.mp u5
    rw [ey] at u4
    have eN : nu_eN zm_twn2.2.1 = true := by decide
    have o1 : nu_ok zm_twn2.2.1 10 1 1 = true := by decide
    exact W.iret hx hb hr (fun t ht' hW => ⟨⟨_, rfl, w9, by rw [ht']; exact hP9, hD9, ht9, f9, 0, nu_Tf (by decide) hfr9 hsing T4, nu_Nf eN hfr9 T4 (by decide) M0, nu_Nf eN hfr9 T4 (by decide) M2, nu_Nf eN hfr9 T4 (by decide) M3, f8, by decide, nu_fr o1 hfr9 g10 (by decide) (by decide) d1, u4, fun t h9 => absurd h9 (Nat.not_lt_zero t)⟩, hS9.F ht'⟩) hS9.2.2 hdg hlocks
