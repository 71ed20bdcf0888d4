theorem zw_1506 : (Jvm.Cond.code yX13_peek cX13_peek 1 (some .int)) ∈ lw_g := lw_t6 rfl (List.mem_of_getElem? (i := 212) rfl)
theorem zw_1503 : (Jvm.Cond.methodLink RX13 130 yX13_peek) ∈ lw_g := lw_t6 rfl (List.mem_of_getElem? (i := 209) rfl)
theorem zw_1505 : (Jvm.Cond.instanceMethod yX13_peek) ∈ lw_g := lw_t6 rfl (List.mem_of_getElem? (i := 211) rfl)
theorem zw_28 : (Jvm.Cond.selects RX13 yX13_peek yX13_peek) ∈ lw_g := lw_s rfl (List.mem_of_getElem? (i := 28) rfl)
theorem zw_1509 : (Jvm.Cond.code yX13_isSmall cX13_isSmall 1 (some .boolean)) ∈ lw_g := lw_t6 rfl (List.mem_of_getElem? (i := 215) rfl)
theorem zw_1507 : (Jvm.Cond.methodLink RX13 143 yX13_isSmall) ∈ lw_g := lw_t6 rfl (List.mem_of_getElem? (i := 213) rfl)
theorem zw_1508 : (Jvm.Cond.static yX13_isSmall) ∈ lw_g := lw_t6 rfl (List.mem_of_getElem? (i := 214) rfl)
theorem zw_1512 : (Jvm.Cond.code yX13_isDigit cX13_isDigit 1 (some .boolean)) ∈ lw_g := lw_t6 rfl (List.mem_of_getElem? (i := 218) rfl)
theorem zw_1510 : (Jvm.Cond.methodLink RX13 147 yX13_isDigit) ∈ lw_g := lw_t6 rfl (List.mem_of_getElem? (i := 216) rfl)
theorem zw_1511 : (Jvm.Cond.static yX13_isDigit) ∈ lw_g := lw_t6 rfl (List.mem_of_getElem? (i := 217) rfl)
theorem zw_1513 : (Jvm.Cond.constantLong RX13 157 (-1)) ∈ lw_g := lw_t6 rfl (List.mem_of_getElem? (i := 219) rfl)
theorem zw_1361 : (Jvm.Cond.fieldLink RX13 137 "RungMoneyModel" "span" "I") ∈ lw_g := lw_t6 rfl (List.mem_of_getElem? (i := 67) rfl)
theorem zw_1362 : (Jvm.Cond.fieldLink RX13 150 "RungMoneyModel" "number" "I") ∈ lw_g := lw_t6 rfl (List.mem_of_getElem? (i := 68) rfl)
theorem zw_1365 : (Jvm.Cond.fieldLink RX13 153 "RungMoneyModel" "word" "J") ∈ lw_g := lw_t6 rfl (List.mem_of_getElem? (i := 71) rfl)
theorem zw_1360 : (Jvm.Cond.fieldLink RX13 134 "RungMoneyModel" "at" "I") ∈ lw_g := lw_t6 rfl (List.mem_of_getElem? (i := 66) rfl)
theorem zw_1359 : (Jvm.Cond.fieldLink RX13 140 "RungMoneyModel" "token" "I") ∈ lw_g := lw_t6 rfl (List.mem_of_getElem? (i := 65) rfl)
set_option maxRecDepth 100000 in
set_option maxHeartbeats 4000000 in
theorem kc_X13_next_v0 (l : Launch) (D : va_G) (k : Nat → ClassId) (B0 : Nat) (ad : Nat → Nat) (al sw : Nat) : zf_Con l yX13_next (zw yX13_next cX13_next 4 none) ({ frames := 1, cells := 0, slots := 0, locals := 20 }) D k (zEx B0 ad al sw) zGT 37 zm_X13_next_v0 := by
  have hEx := zEx_ok B0 ad al sw
  refine zf_mk (cc := cX13_next) (nL := 4) (ret := none) (Ms := [zm_X13_peek_vin, zm_X13_peek, zm_X13_isSmall, zm_X13_isDigit, zf_mL]) (fg := [(18, 11, 3, .inl (0, 0)), (21, 11, 4, .inl (0, 0)), (24, 11, 5, .inl (0, 0)), (137, 11, 13, .inl (0, 0)), (150, 11, 14, .inl (0, 0)), (153, 11, 17, .inl (0, 0))]) (fp := [(21, 11, 4, .inl ((-2147483648), 2147483647)), (134, 11, 12, .inl ((-2147483648), 2147483647)), (137, 11, 13, .inl ((-2147483648), 2147483647)), (140, 11, 11, .inl ((-2147483648), 2147483647)), (150, 11, 14, .inl ((-2147483648), 2147483647)), (153, 11, 17, .inr none)]) (ins := zn_X13_next_v0) (cuts := zu_X13_next_v0) (fuel := 3000) (by decide) rfl hEx (by decide +kernel) (by decide +kernel) (by decide +kernel) hk_X13_next_v0 ?_
  intro p e s m args below meth c Q Sg w0 A θ0 S hK hE hAB hA hone hsing
  refine ⟨?_, ?_, ?_⟩
  · exact zf_ac ((fun H locs ws a q0 fs v rest pc ls hP he hv hdg kk => va_get (D := D) (ci := 11) (C := RX13) (T := TX13) (N := 47) (own := RX13) S.1 S.2.1 S.2.2.2.2 (zg_in inW_X13) S.2.2.2.1 hK hP q0 he rfl 3 (by decide) (S.2.2.2.2 (.fieldLink RX13 18 "RungMoneyModel" "size" "I") (List.mem_cons_of_mem _ zw_1351)) (fun _ h9 => h9) hv hdg kk)) (zf_ac ((fun H locs ws a q0 fs v rest pc ls hP he hv hdg kk => va_get (D := D) (ci := 11) (C := RX13) (T := TX13) (N := 47) (own := RX13) S.1 S.2.1 S.2.2.2.2 (zg_in inW_X13) S.2.2.2.1 hK hP q0 he rfl 4 (by decide) (S.2.2.2.2 (.fieldLink RX13 21 "RungMoneyModel" "p" "I") (List.mem_cons_of_mem _ zw_1352)) (fun _ h9 => h9) hv hdg kk)) (zf_ac ((fun H locs ws a q0 fs v rest pc ls hP he hv hdg kk => va_get (D := D) (ci := 11) (C := RX13) (T := TX13) (N := 47) (own := RX13) S.1 S.2.1 S.2.2.2.2 (zg_in inW_X13) S.2.2.2.1 hK hP q0 he rfl 5 (by decide) (S.2.2.2.2 (.fieldLink RX13 24 "RungMoneyModel" "limit" "I") (List.mem_cons_of_mem _ zw_1353)) (fun _ h9 => h9) hv hdg kk)) (zf_ac ((fun H locs ws a q0 fs v rest pc ls hP he hv hdg kk => va_get (D := D) (ci := 11) (C := RX13) (T := TX13) (N := 47) (own := RX13) S.1 S.2.1 S.2.2.2.2 (zg_in inW_X13) S.2.2.2.1 hK hP q0 he rfl 13 (by decide) (S.2.2.2.2 (.fieldLink RX13 137 "RungMoneyModel" "span" "I") (List.mem_cons_of_mem _ zw_1361)) (fun _ h9 => h9) hv hdg kk)) (zf_ac ((fun H locs ws a q0 fs v rest pc ls hP he hv hdg kk => va_get (D := D) (ci := 11) (C := RX13) (T := TX13) (N := 47) (own := RX13) S.1 S.2.1 S.2.2.2.2 (zg_in inW_X13) S.2.2.2.1 hK hP q0 he rfl 14 (by decide) (S.2.2.2.2 (.fieldLink RX13 150 "RungMoneyModel" "number" "I") (List.mem_cons_of_mem _ zw_1362)) (fun _ h9 => h9) hv hdg kk)) (zf_ac ((fun H locs ws a q0 fs v rest pc ls hP he hv hdg kk => va_get (D := D) (ci := 11) (C := RX13) (T := TX13) (N := 47) (own := RX13) S.1 S.2.1 S.2.2.2.2 (zg_in inW_X13) S.2.2.2.1 hK hP q0 he rfl 17 (by decide) (S.2.2.2.2 (.fieldLink RX13 153 "RungMoneyModel" "word" "J") (List.mem_cons_of_mem _ zw_1365)) (fun _ h9 => h9) hv hdg kk)) zf_an)))))
  · exact zf_ac ((fun H locs ws a q0 fs v rest pc ls hP hD hS he hl hv hdg kk => by obtain ⟨x, rfl, h1, h2⟩ := hv; exact va_put (D := D) (ci := 11) (v := .int x) (ty := .int) (C := RX13) (T := TX13) (N := 47) (own := RX13) S.1 S.2.1 S.2.2.2.2 (zg_in inW_X13) tyX13 tyX13_ok nmX13 S.2.2.2.1 hK hP hD hS q0 he rfl 4 (by decide) (S.2.2.2.2 (.fieldLink RX13 21 "RungMoneyModel" "p" "I") (List.mem_cons_of_mem _ zw_1352)) (fun _ h9 => h9) rfl (by decide +kernel) rfl rfl hl hdg kk)) (zf_ac ((fun H locs ws a q0 fs v rest pc ls hP hD hS he hl hv hdg kk => by obtain ⟨x, rfl, h1, h2⟩ := hv; exact va_put (D := D) (ci := 11) (v := .int x) (ty := .int) (C := RX13) (T := TX13) (N := 47) (own := RX13) S.1 S.2.1 S.2.2.2.2 (zg_in inW_X13) tyX13 tyX13_ok nmX13 S.2.2.2.1 hK hP hD hS q0 he rfl 12 (by decide) (S.2.2.2.2 (.fieldLink RX13 134 "RungMoneyModel" "at" "I") (List.mem_cons_of_mem _ zw_1360)) (fun _ h9 => h9) rfl (by decide +kernel) rfl rfl hl hdg kk)) (zf_ac ((fun H locs ws a q0 fs v rest pc ls hP hD hS he hl hv hdg kk => by obtain ⟨x, rfl, h1, h2⟩ := hv; exact va_put (D := D) (ci := 11) (v := .int x) (ty := .int) (C := RX13) (T := TX13) (N := 47) (own := RX13) S.1 S.2.1 S.2.2.2.2 (zg_in inW_X13) tyX13 tyX13_ok nmX13 S.2.2.2.1 hK hP hD hS q0 he rfl 13 (by decide) (S.2.2.2.2 (.fieldLink RX13 137 "RungMoneyModel" "span" "I") (List.mem_cons_of_mem _ zw_1361)) (fun _ h9 => h9) rfl (by decide +kernel) rfl rfl hl hdg kk)) (zf_ac ((fun H locs ws a q0 fs v rest pc ls hP hD hS he hl hv hdg kk => by obtain ⟨x, rfl, h1, h2⟩ := hv; exact va_put (D := D) (ci := 11) (v := .int x) (ty := .int) (C := RX13) (T := TX13) (N := 47) (own := RX13) S.1 S.2.1 S.2.2.2.2 (zg_in inW_X13) tyX13 tyX13_ok nmX13 S.2.2.2.1 hK hP hD hS q0 he rfl 11 (by decide) (S.2.2.2.2 (.fieldLink RX13 140 "RungMoneyModel" "token" "I") (List.mem_cons_of_mem _ zw_1359)) (fun _ h9 => h9) rfl (by decide +kernel) rfl rfl hl hdg kk)) (zf_ac ((fun H locs ws a q0 fs v rest pc ls hP hD hS he hl hv hdg kk => by obtain ⟨x, rfl, h1, h2⟩ := hv; exact va_put (D := D) (ci := 11) (v := .int x) (ty := .int) (C := RX13) (T := TX13) (N := 47) (own := RX13) S.1 S.2.1 S.2.2.2.2 (zg_in inW_X13) tyX13 tyX13_ok nmX13 S.2.2.2.1 hK hP hD hS q0 he rfl 14 (by decide) (S.2.2.2.2 (.fieldLink RX13 150 "RungMoneyModel" "number" "I") (List.mem_cons_of_mem _ zw_1362)) (fun _ h9 => h9) rfl (by decide +kernel) rfl rfl hl hdg kk)) (zf_ac ((fun H locs ws a q0 fs v rest pc ls hP hD hS he hl hv hdg kk => by obtain ⟨x, rfl⟩ := hv; exact va_put (D := D) (ci := 11) (v := .long x) (ty := .long) (C := RX13) (T := TX13) (N := 47) (own := RX13) S.1 S.2.1 S.2.2.2.2 (zg_in inW_X13) tyX13 tyX13_ok nmX13 S.2.2.2.1 hK hP hD hS q0 he rfl 17 (by decide) (S.2.2.2.2 (.fieldLink RX13 153 "RungMoneyModel" "word" "J") (List.mem_cons_of_mem _ zw_1365)) (fun _ h9 => h9) rfl (by decide +kernel) rfl rfl hl hdg kk)) zf_an)))))
  · exact zf_crl (xs := [(.invokevirtual 130, 3, 0), (.invokevirtual 130, 3, 1), (.invokestatic 143, 3, 2), (.invokestatic 147, 3, 3), (.ldc2_w 157, 3, 4)]) (by decide +kernel) (zf_ac (zf_crV S hEx hE hAB hA hK hone hsing (kc_X13_peek_vin l D k B0 ad al sw) (cwV 0 S.2.2.2.2 (zg_V zw_1503 zw_1505 zw_28 zw_109 zw_1506) rfl rfl rfl (by decide +kernel) ⟨(Nat.le_of_ble_eq_true rfl), (Nat.le_of_ble_eq_true rfl)⟩) ⟨(Nat.le_of_ble_eq_true rfl), (Nat.le_of_ble_eq_true rfl)⟩ 11 rfl rfl (ar := []) rfl rfl (by decide +kernel)) (zf_ac (zf_crV S hEx hE hAB hA hK hone hsing (kc_X13_peek l D k B0 ad al sw) (cwV 0 S.2.2.2.2 (zg_V zw_1503 zw_1505 zw_28 zw_109 zw_1506) rfl rfl rfl (by decide +kernel) ⟨(Nat.le_of_ble_eq_true rfl), (Nat.le_of_ble_eq_true rfl)⟩) ⟨(Nat.le_of_ble_eq_true rfl), (Nat.le_of_ble_eq_true rfl)⟩ 11 rfl rfl (ar := []) rfl rfl (by decide +kernel)) (zf_ac (zf_crS S hEx hE hAB hA hK hone hsing (kc_X13_isSmall l D k B0 ad al sw) (va_cwS 1 S.2.2.2.2 (zg_S zw_1507 zw_1508 zw_109 zw_1509) rfl rfl rfl (by decide +kernel) ⟨(Nat.le_of_ble_eq_true rfl), (Nat.le_of_ble_eq_true rfl)⟩) ⟨(Nat.le_of_ble_eq_true rfl), (Nat.le_of_ble_eq_true rfl)⟩ rfl) (zf_ac (zf_crS S hEx hE hAB hA hK hone hsing (kc_X13_isDigit l D k B0 ad al sw) (va_cwS 1 S.2.2.2.2 (zg_S zw_1510 zw_1511 zw_109 zw_1512) rfl rfl rfl (by decide +kernel) ⟨(Nat.le_of_ble_eq_true rfl), (Nat.le_of_ble_eq_true rfl)⟩) ⟨(Nat.le_of_ble_eq_true rfl), (Nat.le_of_ble_eq_true rfl)⟩ rfl) (zf_ac (zf_crldc2 (own := RX13) S.1 S.2.1 S.2.2.2.1 (v := (-1)) (S.2.2.2.2 (.constantLong RX13 157 (-1)) (List.mem_cons_of_mem _ zw_1513))) zf_an)))))
def zm_X13_next : zf_M := (([], [], 64, [], [.inr (some (18, 18))], []), [(18, ([], 4), ([], 4)), (18, ([], 17), ([], 17)), (18, ([], 11), ([], 14))], [(none, ([], [], 64, [], [], [(1019, 0, ([], 1019), .inl ([], 0))]))])
set_option maxRecDepth 100000 in
set_option maxHeartbeats 4000000 in
theorem kc_X13_next (l : Launch) (D : va_G) (k : Nat → ClassId) (B0 : Nat) (ad : Nat → Nat) (al sw : Nat) : zf_Con l yX13_next (zw yX13_next cX13_next 4 none) ({ frames := 1, cells := 0, slots := 0, locals := 20 }) D k (zEx B0 ad al sw) zGT 37 zm_X13_next := by
  refine zf_cons (kc_X13_next_v0 l D k B0 ad al sw) ?_
  intro Sg ws ρ θ vs hone hsing ht hpre
  refine ⟨hpre, ?_⟩
  rintro v ws' A hD ⟨⟨o, ho, ρ1, θ1, p1, p2, p3, p4, p5, p6⟩, ht', hfr⟩
  obtain ⟨F, hc, htp⟩ := zq_ex hsing ht'
  have hθ : ∀ i, i < 64 → θ1 i = θ i := fun i hi => p2 i hi
  have key : zf_gP 19 1019 0 F ∧ zf_rok Sg ρ1 θ1 none v ∧ ∀ x, (-2147483648 : Int) ≤ ρ1 x ∧ ρ1 x ≤ 2147483647 := by
    have ho : o ∈ [(none, ([(1, 12), (0, 940)], [([(0, (-1)), (1, (-1))], 940)], 64, [], [], [(18, 18, ([], 13), .inl ([(0, 1)], 0)), (18, 18, ([], 12), .inl ([(1, 1)], 0)), (18, 18, ([], 11), .inl ([], 1))])), (none, ([((-2147483648), 0)], [], 64, [], [], [(18, 18, ([], 11), .inl ([(0, 1)], 0))])), (none, ([(2, 2147483647)], [], 64, [], [], [(18, 18, ([], 11), .inl ([(0, 1)], 0))]))] := ho
    simp only [List.mem_cons, List.not_mem_nil, or_false] at ho
    rcases ho with rfl | rfl | rfl
    · have q0 : (F 18 13).toInt = ρ1 0 := zq_ce (zq_to (E := [(1, 12), (0, 940)]) (Fs := [([(0, (-1)), (1, (-1))], 940)]) hD hsing hθ hc p3 p4 (by decide +kernel) (p5 (18, 18, ([], 13), .inl ([(0, 1)], 0)) (by exact List.mem_cons_self))) (by decide) rfl (by show (1 * ρ1 0 + 0 : Int) = _; omega)
      have q1 : (F 18 12).toInt = ρ1 1 := zq_ce (zq_to (E := [(1, 12), (0, 940)]) (Fs := [([(0, (-1)), (1, (-1))], 940)]) hD hsing hθ hc p3 p4 (by decide +kernel) (p5 (18, 18, ([], 12), .inl ([(1, 1)], 0)) (by exact List.mem_cons_of_mem _ List.mem_cons_self))) (by decide) rfl (by show (1 * ρ1 1 + 0 : Int) = _; omega)
      have b0 : (1 : Int) ≤ ρ1 0 ∧ ρ1 0 ≤ 12 := p3 0
      have b1 : (0 : Int) ≤ ρ1 1 ∧ ρ1 1 ≤ 940 := p3 1
      have f0 : (0 : Int) ≤ (-1) * ρ1 0 + ((-1) * ρ1 1 + 940) := p4 _ List.mem_cons_self
      refine ⟨fun _ => ⟨by omega, by omega, by omega⟩, p6, fun x => ?_⟩
      match x with
      | 0 => omega
      | 1 => omega
      | n + 2 => exact p3 (n + 2)
    · have q0 : (F 18 11).toInt = ρ1 0 := zq_ce (zq_to (E := [((-2147483648), 0)]) (Fs := []) hD hsing hθ hc p3 p4 (by decide +kernel) (p5 (18, 18, ([], 11), .inl ([(0, 1)], 0)) (by exact List.mem_cons_self))) (by decide) rfl (by show (1 * ρ1 0 + 0 : Int) = _; omega)
      have b0 : (-2147483648 : Int) ≤ ρ1 0 ∧ ρ1 0 ≤ 0 := p3 0
      refine ⟨fun h => by omega, p6, fun x => ?_⟩
      match x with
      | 0 => omega
      | n + 1 => exact p3 (n + 1)
    · have q0 : (F 18 11).toInt = ρ1 0 := zq_ce (zq_to (E := [(2, 2147483647)]) (Fs := []) hD hsing hθ hc p3 p4 (by decide +kernel) (p5 (18, 18, ([], 11), .inl ([(0, 1)], 0)) (by exact List.mem_cons_self))) (by decide) rfl (by show (1 * ρ1 0 + 0 : Int) = _; omega)
      have b0 : (2 : Int) ≤ ρ1 0 ∧ ρ1 0 ≤ 2147483647 := p3 0
      refine ⟨fun h => by omega, p6, fun x => ?_⟩
      match x with
      | 0 => omega
      | n + 1 => exact p3 (n + 1)
  obtain ⟨k1, k2, k3⟩ := key
  have hE0 : zf_okE [] ρ1 := fun x => by
    have e : zf_at [] x = (-2147483648, 2147483647) := by cases x <;> rfl
    rw [e]
    exact k3 x
  refine ⟨⟨_, List.mem_cons_self, ρ1, θ1, p1, p2, hE0, fun g hg => (by cases hg), ?_, k2⟩, ht', hfr⟩
  intro h hh
  have hh : h ∈ [(1019, 0, ([], 1019), .inl ([], 0))] := hh
  simp only [List.mem_cons, List.not_mem_nil, or_false] at hh
  subst hh
  exact zq_of (E := []) (Fs := []) hone hsing hθ hc hE0 (fun g hg => (by cases hg)) (by decide +kernel) (zq_lf (j := 19) (A := 1019) (B := 0) k1 (by decide) rfl rfl)
