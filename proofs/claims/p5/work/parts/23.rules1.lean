def zh_zh0 : zf_M := (([], [], 64, [], [], []), [], [(some (.inl ([], 0)), ([], [], 64, [], [], [(1024, 0, ([], 1024), .inl ([], 0))]))])
theorem zh_zh0_c : zr_kc 0 zh_zh0 = true := by decide +kernel
theorem zh_zh0_r : zr_KR zh_zh0 := by
  intro ρ F hE hF hh htp
  refine ⟨_, List.mem_cons_self, ?_, ?_, ?_⟩
  · exact hE
  · exact hF
  · intro h hq
    simp only [List.mem_cons, List.not_mem_nil, or_false] at hq
    rcases hq with rfl
    refine zq_lf (j := 24) (A := 1024) (B := 0) ?_ (by decide) (by show (1024 : Int) = 1024; omega) (by show (0 : Int) = 0; omega)
    intro i hi
    omega
def zh_zhst : zf_M := (([(0, 86)], [], 64, [], [.inl ([], 0), .inl ([(0, 1)], 0), .inr (some (21, 21))], [(1024, 0, ([], 1024), .inl ([(0, 1)], 0))]), [(21, ([(0, 1)], 0), ([(0, 1)], 0))], [(none, ([(0, 86)], [], 64, [], [], [(1024, 0, ([], 1024), .inl ([(0, 1)], 1))]))])
theorem zh_zhst_c : zr_st 21 ([(0, 1)], 0) zh_zhst = true := by decide +kernel
set_option maxRecDepth 20000 in
theorem zh_zhst_r : zr_SR 21 ([(0, 1)], 0) ([], 0) zh_zhst := by
  intro ρ F y ey hE hF hh htp
  have b0 : (0 : Int) ≤ ρ 0 ∧ ρ 0 ≤ (86 : Int) := hE 0
  have c0 : zf_gP 24 (1024) (ρ 0) F := zq_fl (hh (1024, 0, ([], 1024), .inl ([(0, 1)], 0)) (by exact List.mem_cons_self)) (by decide) (by show (1024 : Int) = 1024; omega) (by show (1 * ρ 0 + (0) : Int) = ρ 0; omega)
  have ey : y.toInt = 0 := ey.trans (by show (0 : Int) = 0; omega)
  have hx : (zf_v ρ ([(0, 1)], 0)).toNat = (ρ 0).toNat := (by show (1 * ρ 0 + (0) : Int).toNat = (ρ 0).toNat; omega)
  rw [hx]
  refine ⟨?_, ?_⟩
  · intro q hq
    have h := zs_h _ (by omega) q hq
    omega
  · refine ⟨_, List.mem_cons_self, ?_, ?_, ?_⟩
    · exact hE
    · exact hF
    · intro h hq
      simp only [List.mem_cons, List.not_mem_nil, or_false] at hq
      rcases hq with rfl
      refine zq_lf (j := 24) (A := 1024) (B := ρ 0 + 1) ?_ (by decide) (by show (1024 : Int) = 1024; omega) (by show (1 * ρ 0 + (1) : Int) = ρ 0 + 1; omega)
      intro i hi
      rw [zq_upE]
      split
      · exact zi_0 ey
      · exact c0 i (by omega)
def zh_zh1 : zf_M := (([], [], 64, [], [], [(1024, 0, ([], 1024), .inl ([], 87))]), [], [(some (.inl ([], 1)), ([], [], 64, [], [], [(21, 21, ([], 0), .inl ([], 0)), (21, 21, ([], 1), .inl ([], 0)), (1005, 0, ([], 1005), .inl ([], 0))]))])
theorem zh_zh1_c : zr_kc 1 zh_zh1 = true := by decide +kernel
theorem zh_zh1_r : zr_KR zh_zh1 := by
  intro ρ F hE hF hh htp
  have c0 : zf_gP 24 (1024) (87) F := zq_fl (hh (1024, 0, ([], 1024), .inl ([], 87)) (by exact List.mem_cons_self)) (by decide) (by show (1024 : Int) = 1024; omega) (by show (87 : Int) = 87; omega)
  refine ⟨_, List.mem_cons_self, ?_, ?_, ?_⟩
  · exact hE
  · exact hF
  · intro h hq
    simp only [List.mem_cons, List.not_mem_nil, or_false] at hq
    rcases hq with rfl | rfl | rfl
    · refine zq_ec (g := 21) (I := 0) (V := 0) ?_ (by show (0 : Int) ≤ 0; omega) (by decide) (by show (0 : Int).toNat = 0; omega) (by show (0 : Int) = 0; omega)
      have e := c0 0 (by omega)
      rw [e]
      rfl
    · refine zq_ec (g := 21) (I := 1) (V := 0) ?_ (by show (0 : Int) ≤ 1; omega) (by decide) (by show (1 : Int).toNat = 1; omega) (by show (0 : Int) = 0; omega)
      have e := c0 1 (by omega)
      rw [e]
      rfl
    · refine zq_lf (j := 5) (A := 1005) (B := 0) ?_ (by decide) (by show (1005 : Int) = 1005; omega) (by show (0 : Int) = 0; omega)
      intro i hi
      omega
def zh_t1z : zf_M := (([], [], 64, [], [], []), [], [(some (.inl ([], 0)), ([], [], 64, [], [], [(1020, 0, ([], 1020), .inl ([], 0))]))])
theorem zh_t1z_c : zr_kc 0 zh_t1z = true := by decide +kernel
theorem zh_t1z_r : zr_KR zh_t1z := by
  intro ρ F hE hF hh htp
  refine ⟨_, List.mem_cons_self, ?_, ?_, ?_⟩
  · exact hE
  · exact hF
  · intro h hq
    simp only [List.mem_cons, List.not_mem_nil, or_false] at hq
    rcases hq with rfl
    refine zq_lf (j := 20) (A := 1020) (B := 0) ?_ (by decide) (by show (1020 : Int) = 1020; omega) (by show (0 : Int) = 0; omega)
    intro i hi
    omega
def zh_t1a : zf_M := (([(0, 86), ((-2147483648), 2147483647)], [], 64, [], [.inl ([(1, 1)], 0), .inl ([(0, 1)], 0), .inr (some (20, 20))], [(21, 21, ([(0, 1)], 0), .inl ([(1, 1)], 0)), (1020, 0, ([], 1020), .inl ([(0, 1)], 0))]), [(20, ([(0, 1)], 0), ([(0, 1)], 0))], [(none, ([(0, 86), ((-2147483648), 2147483647)], [], 64, [], [], [(1020, 0, ([], 1020), .inl ([(0, 1)], 1))]))])
theorem zh_t1a_c : zr_st 20 ([(0, 1)], 0) zh_t1a = true := by decide +kernel
set_option maxRecDepth 20000 in
theorem zh_t1a_r : zr_SR 20 ([(0, 1)], 0) ([(1, 1)], 0) zh_t1a := by
  intro ρ F y ey hE hF hh htp
  have b0 : (0 : Int) ≤ ρ 0 ∧ ρ 0 ≤ (86 : Int) := hE 0
  have b1 : ((-2147483648) : Int) ≤ ρ 1 ∧ ρ 1 ≤ (2147483647 : Int) := hE 1
  have c0 : (F 21 ((ρ 0).toNat)).toInt = ρ 1 := zq_ce (hh (21, 21, ([(0, 1)], 0), .inl ([(1, 1)], 0)) (by exact List.mem_cons_self)) (by decide) (by show (1 * ρ 0 + (0) : Int).toNat = (ρ 0).toNat; omega) (by show (1 * ρ 1 + (0) : Int) = ρ 1; omega)
  have c1 : zf_gP 20 (1020) (ρ 0) F := zq_fl (hh (1020, 0, ([], 1020), .inl ([(0, 1)], 0)) (by exact List.mem_cons_of_mem _ List.mem_cons_self)) (by decide) (by show (1020 : Int) = 1020; omega) (by show (1 * ρ 0 + (0) : Int) = ρ 0; omega)
  have ey : y.toInt = ρ 1 := ey.trans (by show (1 * ρ 1 + (0) : Int) = ρ 1; omega)
  have hx : (zf_v ρ ([(0, 1)], 0)).toNat = (ρ 0).toNat := (by show (1 * ρ 0 + (0) : Int).toNat = (ρ 0).toNat; omega)
  rw [hx]
  refine ⟨?_, ?_⟩
  · intro q hq
    exact zs_cp htp (by decide) (zs_sh _ (by omega)) hq (c0.trans ey.symm)
  · refine ⟨_, List.mem_cons_self, ?_, ?_, ?_⟩
    · exact hE
    · exact hF
    · intro h hq
      simp only [List.mem_cons, List.not_mem_nil, or_false] at hq
      rcases hq with rfl
      refine zq_lf (j := 20) (A := 1020) (B := ρ 0 + 1) ?_ (by decide) (by show (1020 : Int) = 1020; omega) (by show (1 * ρ 0 + (1) : Int) = ρ 0 + 1; omega)
      intro i hi
      rw [zq_up20_21, zq_upE]
      split
      · rename_i e
        subst e
        rw [if_pos (by omega)]
        exact zi_e (by omega)
      · exact c1 i (by omega)
def zh_t1b : zf_M := (([(87, 873)], [], 64, [], [.inl ([], 0), .inl ([(0, 1)], 0), .inr (some (20, 20))], [(1020, 0, ([], 1020), .inl ([(0, 1)], 0))]), [(20, ([(0, 1)], 0), ([(0, 1)], 0))], [(none, ([(87, 873)], [], 64, [], [], [(1020, 0, ([], 1020), .inl ([(0, 1)], 1))]))])
theorem zh_t1b_c : zr_st 20 ([(0, 1)], 0) zh_t1b = true := by decide +kernel
set_option maxRecDepth 20000 in
theorem zh_t1b_r : zr_SR 20 ([(0, 1)], 0) ([], 0) zh_t1b := by
  intro ρ F y ey hE hF hh htp
  have b0 : (87 : Int) ≤ ρ 0 ∧ ρ 0 ≤ (873 : Int) := hE 0
  have c0 : zf_gP 20 (1020) (ρ 0) F := zq_fl (hh (1020, 0, ([], 1020), .inl ([(0, 1)], 0)) (by exact List.mem_cons_self)) (by decide) (by show (1020 : Int) = 1020; omega) (by show (1 * ρ 0 + (0) : Int) = ρ 0; omega)
  have ey : y.toInt = 0 := ey.trans (by show (0 : Int) = 0; omega)
  have hx : (zf_v ρ ([(0, 1)], 0)).toNat = (ρ 0).toNat := (by show (1 * ρ 0 + (0) : Int).toNat = (ρ 0).toNat; omega)
  rw [hx]
  refine ⟨?_, ?_⟩
  · intro q hq
    have h := zs_s _ (by omega) q hq
    omega
  · refine ⟨_, List.mem_cons_self, ?_, ?_, ?_⟩
    · exact hE
    · exact hF
    · intro h hq
      simp only [List.mem_cons, List.not_mem_nil, or_false] at hq
      rcases hq with rfl
      refine zq_lf (j := 20) (A := 1020) (B := ρ 0 + 1) ?_ (by decide) (by show (1020 : Int) = 1020; omega) (by show (1 * ρ 0 + (1) : Int) = ρ 0 + 1; omega)
      intro i hi
      rw [zq_up20_21, zq_upE]
      split
      · rename_i e
        subst e
        rw [if_neg (by omega)]
        exact zi_0 ey
      · exact c0 i (by omega)
def zh_t1c : zf_M := (([(0, 16)], [], 64, [], [], [(21, 21, ([], 1), .inl ([(0, 1)], 0)), (1005, 0, ([], 1005), .inl ([(0, 1)], 0)), (1020, 0, ([], 1020), .inl ([], 874))]), [], [(some (.inl ([], 0)), ([(0, 16)], [], 64, [], [], [(20, 20, ([], 1), .inl ([(0, 1)], 0)), (1021, 0, ([], 1021), .inl ([(0, 1)], 0)), (1006, 0, ([], 1006), .inl ([], 0))]))])
theorem zh_t1c_c : zr_kc 0 zh_t1c = true := by decide +kernel
theorem zh_t1c_r : zr_KR zh_t1c := by
  intro ρ F hE hF hh htp
  have b0 : (0 : Int) ≤ ρ 0 ∧ ρ 0 ≤ (16 : Int) := hE 0
  have c0 : (F 21 (1)).toInt = ρ 0 := zq_ce (hh (21, 21, ([], 1), .inl ([(0, 1)], 0)) (by exact List.mem_cons_self)) (by decide) (by show (1 : Int).toNat = 1; omega) (by show (1 * ρ 0 + (0) : Int) = ρ 0; omega)
  have c1 : zf_gP 5 (1005) (ρ 0) F := zq_fl (hh (1005, 0, ([], 1005), .inl ([(0, 1)], 0)) (by exact List.mem_cons_of_mem _ List.mem_cons_self)) (by decide) (by show (1005 : Int) = 1005; omega) (by show (1 * ρ 0 + (0) : Int) = ρ 0; omega)
  have c2 : zf_gP 20 (1020) (874) F := zq_fl (hh (1020, 0, ([], 1020), .inl ([], 874)) (by exact List.mem_cons_of_mem _ (List.mem_cons_of_mem _ List.mem_cons_self))) (by decide) (by show (1020 : Int) = 1020; omega) (by show (874 : Int) = 874; omega)
  refine ⟨_, List.mem_cons_self, ?_, ?_, ?_⟩
  · exact hE
  · exact hF
  · intro h hq
    simp only [List.mem_cons, List.not_mem_nil, or_false] at hq
    rcases hq with rfl | rfl | rfl
    · refine zq_ec (g := 20) (I := 1) (V := ρ 0) ?_ (by show (0 : Int) ≤ 1; omega) (by decide) (by show (1 : Int).toNat = 1; omega) (by show (1 * ρ 0 + (0) : Int) = ρ 0; omega)
      have e := c2 1 (by omega)
      rw [if_pos (by omega)] at e
      rw [e]
      exact c0
    · refine zq_lf (j := 21) (A := 1021) (B := ρ 0) ?_ (by decide) (by show (1021 : Int) = 1021; omega) (by show (1 * ρ 0 + (0) : Int) = ρ 0; omega)
      intro l hl
      have e := c2 (19 + l) (by omega)
      rw [if_pos (by omega)] at e
      rw [e]
      exact c1 l hl
    · refine zq_lf (j := 6) (A := 1006) (B := 0) ?_ (by decide) (by show (1006 : Int) = 1006; omega) (by show (0 : Int) = 0; omega)
      have e := c2 693 (by omega)
      rw [if_neg (by omega)] at e
      show zg_cod (F 20) 693
      unfold zg_cod
      rw [e]
      exact ⟨by decide, by decide, 0, rfl⟩
def zh_bl0 : zf_M := (([], [], 64, [], [], []), [], [(some (.inl ([], 0)), ([], [], 64, [], [], [(1022, 0, ([], 1022), .inl ([], 0))]))])
theorem zh_bl0_c : zr_kc 0 zh_bl0 = true := by decide +kernel
theorem zh_bl0_r : zr_KR zh_bl0 := by
  intro ρ F hE hF hh htp
  refine ⟨_, List.mem_cons_self, ?_, ?_, ?_⟩
  · exact hE
  · exact hF
  · intro h hq
    simp only [List.mem_cons, List.not_mem_nil, or_false] at hq
    rcases hq with rfl
    refine zq_lf (j := 22) (A := 1022) (B := 0) ?_ (by decide) (by show (1022 : Int) = 1022; omega) (by show (0 : Int) = 0; omega)
    intro i hi
    omega
def zh_blst : zf_M := (([(0, 15), (1, 12)], [], 64, [], [.inl ([(1, 1)], 0), .inl ([(0, 1)], 107), .inr (some (20, 20))], [(1022, 0, ([], 1022), .inl ([(0, 1)], 0))]), [(20, ([(0, 1)], 107), ([(0, 1)], 107))], [(none, ([(0, 15), (1, 12)], [], 64, [], [], [(1022, 0, ([], 1022), .inl ([(0, 1)], 1))]))])
theorem zh_blst_c : zr_st 20 ([(0, 1)], 107) zh_blst = true := by decide +kernel
set_option maxRecDepth 20000 in
theorem zh_blst_r : zr_SR 20 ([(0, 1)], 107) ([(1, 1)], 0) zh_blst := by
  intro ρ F y ey hE hF hh htp
  have b0 : (0 : Int) ≤ ρ 0 ∧ ρ 0 ≤ (15 : Int) := hE 0
  have b1 : (1 : Int) ≤ ρ 1 ∧ ρ 1 ≤ (12 : Int) := hE 1
  have c0 : zf_gP 22 (1022) (ρ 0) F := zq_fl (hh (1022, 0, ([], 1022), .inl ([(0, 1)], 0)) (by exact List.mem_cons_self)) (by decide) (by show (1022 : Int) = 1022; omega) (by show (1 * ρ 0 + (0) : Int) = ρ 0; omega)
  have ey : y.toInt = ρ 1 := ey.trans (by show (1 * ρ 1 + (0) : Int) = ρ 1; omega)
  have hx : (zf_v ρ ([(0, 1)], 107)).toNat = 107 + (ρ 0).toNat := (by show (1 * ρ 0 + (107) : Int).toNat = 107 + (ρ 0).toNat; omega)
  rw [hx]
  refine ⟨?_, ?_⟩
  · intro q hq
    exact zs_in (zs_lng _ (by omega)) hq (by omega) (by omega)
  · refine ⟨_, List.mem_cons_self, ?_, ?_, ?_⟩
    · exact hE
    · exact hF
    · intro h hq
      simp only [List.mem_cons, List.not_mem_nil, or_false] at hq
      rcases hq with rfl
      refine zq_lf (j := 22) (A := 1022) (B := ρ 0 + 1) ?_ (by decide) (by show (1022 : Int) = 1022; omega) (by show (1 * ρ 0 + (1) : Int) = ρ 0 + 1; omega)
      intro j hj
      rw [zq_upE]
      split
      · omega
      · exact c0 j (by omega)
def zh_mkIs : zf_M := (([(0, 16)], [], 64, [], [], [(20, 20, ([], 87), .inl ([(0, 1)], 0)), (1022, 0, ([], 1022), .inl ([(0, 1)], 0))]), [], [(some (.inl ([], 0)), ([(0, 16)], [], 64, [], [], [(1000, 0, ([], 1000), .inl ([], 0))]))])
theorem zh_mkIs_c : zr_kc 0 zh_mkIs = true := by decide +kernel
theorem zh_mkIs_r : zr_KR zh_mkIs := by
  intro ρ F hE hF hh htp
  have b0 : (0 : Int) ≤ ρ 0 ∧ ρ 0 ≤ (16 : Int) := hE 0
  have c0 : (F 20 (87)).toInt = ρ 0 := zq_ce (hh (20, 20, ([], 87), .inl ([(0, 1)], 0)) (by exact List.mem_cons_self)) (by decide) (by show (87 : Int).toNat = 87; omega) (by show (1 * ρ 0 + (0) : Int) = ρ 0; omega)
  have c1 : zf_gP 22 (1022) (ρ 0) F := zq_fl (hh (1022, 0, ([], 1022), .inl ([(0, 1)], 0)) (by exact List.mem_cons_of_mem _ List.mem_cons_self)) (by decide) (by show (1022 : Int) = 1022; omega) (by show (1 * ρ 0 + (0) : Int) = ρ 0; omega)
  refine ⟨_, List.mem_cons_self, ?_, ?_, ?_⟩
  · exact hE
  · exact hF
  · intro h hq
    simp only [List.mem_cons, List.not_mem_nil, or_false] at hq
    rcases hq with rfl
    refine zq_lf (j := 0) (A := 1000) (B := 0) ?_ (by decide) (by show (1000 : Int) = 1000; omega) (by show (0 : Int) = 0; omega)
    intro j hj a1 a2
    have h := c1 j (by omega)
    rw [show 87 + 20 + j = 107 + j by omega]
    exact h
def zh_ihst : zf_M := (([(0, 15), (1, 12)], [], 64, [], [.inl ([(0, 1)], 1), .inl ([], 1), .inr (some (21, 21))], [(21, 21, ([(0, 1)], 19), .inl ([(1, 1)], 0)), (1005, 0, ([], 1005), .inl ([(0, 1)], 0))]), [(21, ([], 1), ([], 1))], [(none, ([(0, 15), (1, 12)], [], 64, [], [], [(21, 21, ([], 1), .inl ([(0, 1)], 1)), (1005, 0, ([], 1005), .inl ([(0, 1)], 1))]))])
theorem zh_ihst_c : zr_st 21 ([], 1) zh_ihst = true := by decide +kernel
set_option maxRecDepth 20000 in
theorem zh_ihst_r : zr_SR 21 ([], 1) ([(0, 1)], 1) zh_ihst := by
  intro ρ F y ey hE hF hh htp
  have b0 : (0 : Int) ≤ ρ 0 ∧ ρ 0 ≤ (15 : Int) := hE 0
  have b1 : (1 : Int) ≤ ρ 1 ∧ ρ 1 ≤ (12 : Int) := hE 1
  have c0 : (F 21 (19 + (ρ 0).toNat)).toInt = ρ 1 := zq_ce (hh (21, 21, ([(0, 1)], 19), .inl ([(1, 1)], 0)) (by exact List.mem_cons_self)) (by decide) (by show (1 * ρ 0 + (19) : Int).toNat = 19 + (ρ 0).toNat; omega) (by show (1 * ρ 1 + (0) : Int) = ρ 1; omega)
  have c1 : zf_gP 5 (1005) (ρ 0) F := zq_fl (hh (1005, 0, ([], 1005), .inl ([(0, 1)], 0)) (by exact List.mem_cons_of_mem _ List.mem_cons_self)) (by decide) (by show (1005 : Int) = 1005; omega) (by show (1 * ρ 0 + (0) : Int) = ρ 0; omega)
  have ey : y.toInt = ρ 0 + 1 := ey.trans (by show (1 * ρ 0 + (1) : Int) = ρ 0 + 1; omega)
  have hx : (zf_v ρ ([], 1)).toNat = 1 := (by show (1 : Int).toNat = 1; omega)
  rw [hx]
  refine ⟨?_, ?_⟩
  · intro q hq
    exact zs_in zs_h1 hq (by omega) (by omega)
  · refine ⟨_, List.mem_cons_self, ?_, ?_, ?_⟩
    · exact hE
    · exact hF
    · intro h hq
      simp only [List.mem_cons, List.not_mem_nil, or_false] at hq
      rcases hq with rfl | rfl
      · refine zq_ec (g := 21) (I := 1) (V := ρ 0 + 1) ?_ (by show (0 : Int) ≤ 1; omega) (by decide) (by show (1 : Int).toNat = 1; omega) (by show (1 * ρ 0 + (1) : Int) = ρ 0 + 1; omega)
        rw [zq_up_s]
        exact ey
      · refine zq_lf (j := 5) (A := 1005) (B := ρ 0 + 1) ?_ (by decide) (by show (1005 : Int) = 1005; omega) (by show (1 * ρ 0 + (1) : Int) = ρ 0 + 1; omega)
        intro l hl
        rw [zq_upE, if_neg (by omega)]
        by_cases hq : (l : Int) < ρ 0
        · exact c1 l hq
        · rw [show 19 + l = 19 + (ρ 0).toNat by omega]
          omega
def zh_ispay : zf_M := (([(0, 15), (0, 2147483647), (0, 2147483647), (0, 16)], [([(0, (-1)), (3, 1)], (-1))], 64, [], [.inl ([(1, 1)], 0), .inl ([(0, 1)], 91), .inr (some (20, 20))], [(20, 20, ([(0, 1)], 91), .inl ([(2, 1)], 0)), (20, 20, ([], 87), .inl ([(3, 1)], 0)), (1000, 0, ([], 1000), .inl ([], 0))]), [(20, ([(0, 1)], 91), ([(0, 1)], 91))], [(none, ([(0, 15), (0, 2147483647), (0, 2147483647), (0, 16)], [([(0, (-1)), (3, 1)], (-1))], 64, [], [], [(20, 20, ([(0, 1)], 91), .inl ([(1, 1)], 0)), (1000, 0, ([], 1000), .inl ([], 0))]))])
theorem zh_ispay_c : zr_st 20 ([(0, 1)], 91) zh_ispay = true := by decide +kernel
set_option maxRecDepth 20000 in
theorem zh_ispay_r : zr_SR 20 ([(0, 1)], 91) ([(1, 1)], 0) zh_ispay := by
  intro ρ F y ey hE hF hh htp
  have b0 : (0 : Int) ≤ ρ 0 ∧ ρ 0 ≤ (15 : Int) := hE 0
  have b1 : (0 : Int) ≤ ρ 1 ∧ ρ 1 ≤ (2147483647 : Int) := hE 1
  have b2 : (0 : Int) ≤ ρ 2 ∧ ρ 2 ≤ (2147483647 : Int) := hE 2
  have b3 : (0 : Int) ≤ ρ 3 ∧ ρ 3 ≤ (16 : Int) := hE 3
  have f0 : (0 : Int) ≤ (-1) * ρ 0 + (1 * ρ 3 + ((-1))) := hF ([(0, (-1)), (3, 1)], (-1)) (by exact List.mem_cons_self)
  have c0 : (F 20 (91 + (ρ 0).toNat)).toInt = ρ 2 := zq_ce (hh (20, 20, ([(0, 1)], 91), .inl ([(2, 1)], 0)) (by exact List.mem_cons_self)) (by decide) (by show (1 * ρ 0 + (91) : Int).toNat = 91 + (ρ 0).toNat; omega) (by show (1 * ρ 2 + (0) : Int) = ρ 2; omega)
  have c1 : (F 20 (87)).toInt = ρ 3 := zq_ce (hh (20, 20, ([], 87), .inl ([(3, 1)], 0)) (by exact List.mem_cons_of_mem _ List.mem_cons_self)) (by decide) (by show (87 : Int).toNat = 87; omega) (by show (1 * ρ 3 + (0) : Int) = ρ 3; omega)
  have c2 : zf_gP 0 (1000) (0) F := zq_fl (hh (1000, 0, ([], 1000), .inl ([], 0)) (by exact List.mem_cons_of_mem _ (List.mem_cons_of_mem _ List.mem_cons_self))) (by decide) (by show (1000 : Int) = 1000; omega) (by show (0 : Int) = 0; omega)
  have ey : y.toInt = ρ 1 := ey.trans (by show (1 * ρ 1 + (0) : Int) = ρ 1; omega)
  have hx : (zf_v ρ ([(0, 1)], 91)).toNat = 91 + (ρ 0).toNat := (by show (1 * ρ 0 + (91) : Int).toNat = 91 + (ρ 0).toNat; omega)
  rw [hx]
  refine ⟨?_, ?_⟩
  · intro q hq
    exact zs_full (zs_own _ (by omega)) hq
  · refine ⟨_, List.mem_cons_self, ?_, ?_, ?_⟩
    · exact hE
    · exact hF
    · intro h hq
      simp only [List.mem_cons, List.not_mem_nil, or_false] at hq
      rcases hq with rfl | rfl
      · refine zq_ec (g := 20) (I := 91 + (ρ 0).toNat) (V := ρ 1) ?_ (by show (0 : Int) ≤ 1 * ρ 0 + (91); omega) (by decide) (by show (1 * ρ 0 + (91) : Int).toNat = 91 + (ρ 0).toNat; omega) (by show (1 * ρ 1 + (0) : Int) = ρ 1; omega)
        rw [zq_up_s]
        exact ey
      · refine zq_lf (j := 0) (A := 1000) (B := 0) ?_ (by decide) (by show (1000 : Int) = 1000; omega) (by show (0 : Int) = 0; omega)
        intro j hj a1 a2
        rw [zq_upE, if_neg (by omega)] at a1
        rw [zq_upE, if_neg (by omega)]
        rw [zq_upE] at a2
        by_cases hq : j = (ρ 0).toNat
        · exact c2 j hj a1 (by rw [show 87 + 4 + j = 91 + (ρ 0).toNat by omega]; omega)
        · rw [if_neg (by omega)] at a2
          exact c2 j hj a1 a2
def zh_isgoX : zf_M := (([(0, 15)], [], 64, [], [.inl ([], (-1)), .inl ([(0, 1)], 91), .inr (some (20, 20))], [(1001, 0, ([], 1001), .inl ([(0, 1)], 0))]), [(20, ([(0, 1)], 91), ([(0, 1)], 91))], [(none, ([(0, 15)], [], 64, [], [], [(20, 20, ([(0, 1)], 91), .inl ([], (-1))), (1000, 0, ([], 1000), .inl ([], 0))]))])
theorem zh_isgoX_c : zr_st 20 ([(0, 1)], 91) zh_isgoX = true := by decide +kernel
set_option maxRecDepth 20000 in
theorem zh_isgoX_r : zr_SR 20 ([(0, 1)], 91) ([], (-1)) zh_isgoX := by
  intro ρ F y ey hE hF hh htp
  have b0 : (0 : Int) ≤ ρ 0 ∧ ρ 0 ≤ (15 : Int) := hE 0
  have c0 : zf_gP 1 (1001) (ρ 0) F := zq_fl (hh (1001, 0, ([], 1001), .inl ([(0, 1)], 0)) (by exact List.mem_cons_self)) (by decide) (by show (1001 : Int) = 1001; omega) (by show (1 * ρ 0 + (0) : Int) = ρ 0; omega)
  have ey : y.toInt = (-1) := ey.trans (by show ((-1) : Int) = (-1); omega)
  have hx : (zf_v ρ ([(0, 1)], 91)).toNat = 91 + (ρ 0).toNat := (by show (1 * ρ 0 + (91) : Int).toNat = 91 + (ρ 0).toNat; omega)
  rw [hx]
  refine ⟨?_, ?_⟩
  · intro q hq
    exact zs_full (zs_own _ (by omega)) hq
  · refine ⟨_, List.mem_cons_self, ?_, ?_, ?_⟩
    · exact hE
    · exact hF
    · intro h hq
      simp only [List.mem_cons, List.not_mem_nil, or_false] at hq
      rcases hq with rfl | rfl
      · refine zq_ec (g := 20) (I := 91 + (ρ 0).toNat) (V := (-1)) ?_ (by show (0 : Int) ≤ 1 * ρ 0 + (91); omega) (by decide) (by show (1 * ρ 0 + (91) : Int).toNat = 91 + (ρ 0).toNat; omega) (by show ((-1) : Int) = (-1); omega)
        rw [zq_up_s]
        exact ey
      · refine zq_lf (j := 0) (A := 1000) (B := 0) ?_ (by decide) (by show (1000 : Int) = 1000; omega) (by show (0 : Int) = 0; omega)
        intro j hj a1 a2
        rw [zq_upE, if_neg (by omega)] at a1
        rw [zq_upE, if_neg (by omega)]
        rw [zq_upE] at a2
        by_cases hq : j = (ρ 0).toNat
        · rw [if_pos (by omega)] at a2
          omega
        · rw [if_neg (by omega)] at a2
          exact c0 j hj (by omega) a1 a2
def zh_isgoI : zf_M := (([(0, 15)], [], 64, [], [.inl ([], (-1)), .inl ([(0, 1)], 91), .inr (some (20, 20))], [(1000, 0, ([], 1000), .inl ([], 0))]), [(20, ([(0, 1)], 91), ([(0, 1)], 91))], [(none, ([(0, 15)], [], 64, [], [], [(20, 20, ([(0, 1)], 91), .inl ([], (-1))), (1000, 0, ([], 1000), .inl ([], 0))]))])
theorem zh_isgoI_c : zr_st 20 ([(0, 1)], 91) zh_isgoI = true := by decide +kernel
set_option maxRecDepth 20000 in
theorem zh_isgoI_r : zr_SR 20 ([(0, 1)], 91) ([], (-1)) zh_isgoI := by
  intro ρ F y ey hE hF hh htp
  have b0 : (0 : Int) ≤ ρ 0 ∧ ρ 0 ≤ (15 : Int) := hE 0
  have c0 : zf_gP 0 (1000) (0) F := zq_fl (hh (1000, 0, ([], 1000), .inl ([], 0)) (by exact List.mem_cons_self)) (by decide) (by show (1000 : Int) = 1000; omega) (by show (0 : Int) = 0; omega)
  have ey : y.toInt = (-1) := ey.trans (by show ((-1) : Int) = (-1); omega)
  have hx : (zf_v ρ ([(0, 1)], 91)).toNat = 91 + (ρ 0).toNat := (by show (1 * ρ 0 + (91) : Int).toNat = 91 + (ρ 0).toNat; omega)
  rw [hx]
  refine ⟨?_, ?_⟩
  · intro q hq
    exact zs_full (zs_own _ (by omega)) hq
  · refine ⟨_, List.mem_cons_self, ?_, ?_, ?_⟩
    · exact hE
    · exact hF
    · intro h hq
      simp only [List.mem_cons, List.not_mem_nil, or_false] at hq
      rcases hq with rfl | rfl
      · refine zq_ec (g := 20) (I := 91 + (ρ 0).toNat) (V := (-1)) ?_ (by show (0 : Int) ≤ 1 * ρ 0 + (91); omega) (by decide) (by show (1 * ρ 0 + (91) : Int).toNat = 91 + (ρ 0).toNat; omega) (by show ((-1) : Int) = (-1); omega)
        rw [zq_up_s]
        exact ey
      · refine zq_lf (j := 0) (A := 1000) (B := 0) ?_ (by decide) (by show (1000 : Int) = 1000; omega) (by show (0 : Int) = 0; omega)
        intro j hj a1 a2
        rw [zq_upE, if_neg (by omega)] at a1
        rw [zq_upE, if_neg (by omega)]
        rw [zq_upE] at a2
        by_cases hq : j = (ρ 0).toNat
        · rw [if_pos (by omega)] at a2
          omega
        · rw [if_neg (by omega)] at a2
          exact c0 j hj a1 a2
def zh_isz : zf_M := (([(0, 15)], [], 64, [], [.inl ([], 0), .inl ([(0, 1)], 107), .inr (some (20, 20))], [(20, 20, ([(0, 1)], 91), .inl ([], (-1))), (1000, 0, ([], 1000), .inl ([], 0))]), [(20, ([(0, 1)], 107), ([(0, 1)], 107))], [(none, ([(0, 15)], [], 64, [], [], [(20, 20, ([(0, 1)], 107), .inl ([], 0)), (1000, 0, ([], 1000), .inl ([], 0))]))])
theorem zh_isz_c : zr_st 20 ([(0, 1)], 107) zh_isz = true := by decide +kernel
set_option maxRecDepth 20000 in
theorem zh_isz_r : zr_SR 20 ([(0, 1)], 107) ([], 0) zh_isz := by
  intro ρ F y ey hE hF hh htp
  have b0 : (0 : Int) ≤ ρ 0 ∧ ρ 0 ≤ (15 : Int) := hE 0
  have c0 : (F 20 (91 + (ρ 0).toNat)).toInt = (-1) := zq_ce (hh (20, 20, ([(0, 1)], 91), .inl ([], (-1))) (by exact List.mem_cons_self)) (by decide) (by show (1 * ρ 0 + (91) : Int).toNat = 91 + (ρ 0).toNat; omega) (by show ((-1) : Int) = (-1); omega)
  have c1 : zf_gP 0 (1000) (0) F := zq_fl (hh (1000, 0, ([], 1000), .inl ([], 0)) (by exact List.mem_cons_of_mem _ List.mem_cons_self)) (by decide) (by show (1000 : Int) = 1000; omega) (by show (0 : Int) = 0; omega)
  have ey : y.toInt = 0 := ey.trans (by show (0 : Int) = 0; omega)
  have hx : (zf_v ρ ([(0, 1)], 107)).toNat = 107 + (ρ 0).toNat := (by show (1 * ρ 0 + (107) : Int).toNat = 107 + (ρ 0).toNat; omega)
  rw [hx]
  refine ⟨?_, ?_⟩
  · intro q hq
    exact zs_in (zs_lng _ (by omega)) hq (by omega) (by omega)
  · refine ⟨_, List.mem_cons_self, ?_, ?_, ?_⟩
    · exact hE
    · exact hF
    · intro h hq
      simp only [List.mem_cons, List.not_mem_nil, or_false] at hq
      rcases hq with rfl | rfl
      · refine zq_ec (g := 20) (I := 107 + (ρ 0).toNat) (V := 0) ?_ (by show (0 : Int) ≤ 1 * ρ 0 + (107); omega) (by decide) (by show (1 * ρ 0 + (107) : Int).toNat = 107 + (ρ 0).toNat; omega) (by show (0 : Int) = 0; omega)
        rw [zq_up_s]
        exact ey
      · refine zq_lf (j := 0) (A := 1000) (B := 0) ?_ (by decide) (by show (1000 : Int) = 1000; omega) (by show (0 : Int) = 0; omega)
        intro j hj a1 a2
        rw [zq_upE, if_neg (by omega)] at a1 a2
        rw [zq_upE]
        by_cases hq : j = (ρ 0).toNat
        · rw [show 87 + 4 + j = 91 + (ρ 0).toNat by omega] at a2
          omega
        · rw [if_neg (by omega)]
          exact c1 j hj a1 a2
def zh_sawz : zf_M := (([(0, 15)], [], 64, [], [.inl ([(0, 1)], 1), .inl ([], 87), .inr (some (20, 20))], [(20, 20, ([], 87), .inl ([(0, 1)], 0)), (1000, 0, ([], 1000), .inl ([], 0))]), [(20, ([], 87), ([], 87))], [(none, ([(0, 15)], [], 64, [], [], [(20, 20, ([], 87), .inl ([(0, 1)], 1)), (1001, 0, ([], 1001), .inl ([(0, 1)], 0))]))])
theorem zh_sawz_c : zr_st 20 ([], 87) zh_sawz = true := by decide +kernel
set_option maxRecDepth 20000 in
theorem zh_sawz_r : zr_SR 20 ([], 87) ([(0, 1)], 1) zh_sawz := by
  intro ρ F y ey hE hF hh htp
  have b0 : (0 : Int) ≤ ρ 0 ∧ ρ 0 ≤ (15 : Int) := hE 0
  have c0 : (F 20 (87)).toInt = ρ 0 := zq_ce (hh (20, 20, ([], 87), .inl ([(0, 1)], 0)) (by exact List.mem_cons_self)) (by decide) (by show (87 : Int).toNat = 87; omega) (by show (1 * ρ 0 + (0) : Int) = ρ 0; omega)
  have c1 : zf_gP 0 (1000) (0) F := zq_fl (hh (1000, 0, ([], 1000), .inl ([], 0)) (by exact List.mem_cons_of_mem _ List.mem_cons_self)) (by decide) (by show (1000 : Int) = 1000; omega) (by show (0 : Int) = 0; omega)
  have ey : y.toInt = ρ 0 + 1 := ey.trans (by show (1 * ρ 0 + (1) : Int) = ρ 0 + 1; omega)
  have hx : (zf_v ρ ([], 87)).toNat = 87 := (by show (87 : Int).toNat = 87; omega)
  rw [hx]
  refine ⟨?_, ?_⟩
  · intro q hq
    exact zs_in zs_87 hq (by omega) (by omega)
  · refine ⟨_, List.mem_cons_self, ?_, ?_, ?_⟩
    · exact hE
    · exact hF
    · intro h hq
      simp only [List.mem_cons, List.not_mem_nil, or_false] at hq
      rcases hq with rfl | rfl
      · refine zq_ec (g := 20) (I := 87) (V := ρ 0 + 1) ?_ (by show (0 : Int) ≤ 87; omega) (by decide) (by show (87 : Int).toNat = 87; omega) (by show (1 * ρ 0 + (1) : Int) = ρ 0 + 1; omega)
        rw [zq_up_s]
        exact ey
      · refine zq_lf (j := 1) (A := 1001) (B := ρ 0) ?_ (by decide) (by show (1001 : Int) = 1001; omega) (by show (1 * ρ 0 + (0) : Int) = ρ 0; omega)
        intro j hj hne a1 a2
        rw [zq_up_s] at a1
        rw [zq_upE, if_neg (by omega)] at a2 ⊢
        exact c1 j hj (by omega) a2
def zh_xown : zf_M := (([(0, 15), ((-2147483648), 2147483647)], [], 64, [], [.inl ([(1, 1)], 0), .inl ([(0, 1)], 91), .inr (some (20, 20))], [(1001, 0, ([], 1001), .inl ([(0, 1)], 0))]), [(20, ([(0, 1)], 91), ([(0, 1)], 91))], [(none, ([(0, 15), ((-2147483648), 2147483647)], [], 64, [], [], [(20, 20, ([(0, 1)], 91), .inl ([(1, 1)], 0)), (1001, 0, ([], 1001), .inl ([(0, 1)], 0))]))])
theorem zh_xown_c : zr_st 20 ([(0, 1)], 91) zh_xown = true := by decide +kernel
set_option maxRecDepth 20000 in
theorem zh_xown_r : zr_SR 20 ([(0, 1)], 91) ([(1, 1)], 0) zh_xown := by
  intro ρ F y ey hE hF hh htp
  have b0 : (0 : Int) ≤ ρ 0 ∧ ρ 0 ≤ (15 : Int) := hE 0
  have b1 : ((-2147483648) : Int) ≤ ρ 1 ∧ ρ 1 ≤ (2147483647 : Int) := hE 1
  have c0 : zf_gP 1 (1001) (ρ 0) F := zq_fl (hh (1001, 0, ([], 1001), .inl ([(0, 1)], 0)) (by exact List.mem_cons_self)) (by decide) (by show (1001 : Int) = 1001; omega) (by show (1 * ρ 0 + (0) : Int) = ρ 0; omega)
  have ey : y.toInt = ρ 1 := ey.trans (by show (1 * ρ 1 + (0) : Int) = ρ 1; omega)
  have hx : (zf_v ρ ([(0, 1)], 91)).toNat = 91 + (ρ 0).toNat := (by show (1 * ρ 0 + (91) : Int).toNat = 91 + (ρ 0).toNat; omega)
  rw [hx]
  refine ⟨?_, ?_⟩
  · intro q hq
    exact zs_full (zs_own _ (by omega)) hq
  · refine ⟨_, List.mem_cons_self, ?_, ?_, ?_⟩
    · exact hE
    · exact hF
    · intro h hq
      simp only [List.mem_cons, List.not_mem_nil, or_false] at hq
      rcases hq with rfl | rfl
      · refine zq_ec (g := 20) (I := 91 + (ρ 0).toNat) (V := ρ 1) ?_ (by show (0 : Int) ≤ 1 * ρ 0 + (91); omega) (by decide) (by show (1 * ρ 0 + (91) : Int).toNat = 91 + (ρ 0).toNat; omega) (by show (1 * ρ 1 + (0) : Int) = ρ 1; omega)
        rw [zq_up_s]
        exact ey
      · refine zq_lf (j := 1) (A := 1001) (B := ρ 0) ?_ (by decide) (by show (1001 : Int) = 1001; omega) (by show (1 * ρ 0 + (0) : Int) = ρ 0; omega)
        intro j hj hne a1 a2
        rw [zq_upE, if_neg (by omega)] at a1 a2 ⊢
        exact c0 j hj hne a1 a2
def zh_xlong : zf_M := (([(0, 15), (1, 32)], [], 64, [], [.inl ([(1, 1)], 0), .inl ([(0, 1)], 107), .inr (some (20, 20))], [(1001, 0, ([], 1001), .inl ([(0, 1)], 0))]), [(20, ([(0, 1)], 107), ([(0, 1)], 107))], [(none, ([(0, 15), (1, 32)], [], 64, [], [], [(20, 20, ([(0, 1)], 107), .inl ([(1, 1)], 0)), (1000, 0, ([], 1000), .inl ([], 0))]))])
theorem zh_xlong_c : zr_st 20 ([(0, 1)], 107) zh_xlong = true := by decide +kernel
set_option maxRecDepth 20000 in
theorem zh_xlong_r : zr_SR 20 ([(0, 1)], 107) ([(1, 1)], 0) zh_xlong := by
  intro ρ F y ey hE hF hh htp
  have b0 : (0 : Int) ≤ ρ 0 ∧ ρ 0 ≤ (15 : Int) := hE 0
  have b1 : (1 : Int) ≤ ρ 1 ∧ ρ 1 ≤ (32 : Int) := hE 1
  have c0 : zf_gP 1 (1001) (ρ 0) F := zq_fl (hh (1001, 0, ([], 1001), .inl ([(0, 1)], 0)) (by exact List.mem_cons_self)) (by decide) (by show (1001 : Int) = 1001; omega) (by show (1 * ρ 0 + (0) : Int) = ρ 0; omega)
  have ey : y.toInt = ρ 1 := ey.trans (by show (1 * ρ 1 + (0) : Int) = ρ 1; omega)
  have hx : (zf_v ρ ([(0, 1)], 107)).toNat = 107 + (ρ 0).toNat := (by show (1 * ρ 0 + (107) : Int).toNat = 107 + (ρ 0).toNat; omega)
  rw [hx]
  refine ⟨?_, ?_⟩
  · intro q hq
    exact zs_in (zs_lng _ (by omega)) hq (by omega) (by omega)
  · refine ⟨_, List.mem_cons_self, ?_, ?_, ?_⟩
    · exact hE
    · exact hF
    · intro h hq
      simp only [List.mem_cons, List.not_mem_nil, or_false] at hq
      rcases hq with rfl | rfl
      · refine zq_ec (g := 20) (I := 107 + (ρ 0).toNat) (V := ρ 1) ?_ (by show (0 : Int) ≤ 1 * ρ 0 + (107); omega) (by decide) (by show (1 * ρ 0 + (107) : Int).toNat = 107 + (ρ 0).toNat; omega) (by show (1 * ρ 1 + (0) : Int) = ρ 1; omega)
        rw [zq_up_s]
        exact ey
      · refine zq_lf (j := 0) (A := 1000) (B := 0) ?_ (by decide) (by show (1000 : Int) = 1000; omega) (by show (0 : Int) = 0; omega)
        intro j hj a1 a2
        rw [zq_upE, if_neg (by omega)] at a1 a2
        rw [zq_upE]
        by_cases hq : j = (ρ 0).toNat
        · rw [if_pos (by omega)]
          omega
        · rw [if_neg (by omega)]
          exact c0 j hj (by omega) a1 a2
def zh_isk : zf_M := (([(0, 15), (1, 32)], [], 64, [], [.inl ([(1, 1)], 0), .inl ([(0, 1)], 107), .inr (some (20, 20))], [(1000, 0, ([], 1000), .inl ([], 0))]), [(20, ([(0, 1)], 107), ([(0, 1)], 107))], [(none, ([(0, 15), (1, 32)], [], 64, [], [], [(20, 20, ([(0, 1)], 107), .inl ([(1, 1)], 0)), (1000, 0, ([], 1000), .inl ([], 0))]))])
theorem zh_isk_c : zr_st 20 ([(0, 1)], 107) zh_isk = true := by decide +kernel
set_option maxRecDepth 20000 in
theorem zh_isk_r : zr_SR 20 ([(0, 1)], 107) ([(1, 1)], 0) zh_isk := by
  intro ρ F y ey hE hF hh htp
  have b0 : (0 : Int) ≤ ρ 0 ∧ ρ 0 ≤ (15 : Int) := hE 0
  have b1 : (1 : Int) ≤ ρ 1 ∧ ρ 1 ≤ (32 : Int) := hE 1
  have c0 : zf_gP 0 (1000) (0) F := zq_fl (hh (1000, 0, ([], 1000), .inl ([], 0)) (by exact List.mem_cons_self)) (by decide) (by show (1000 : Int) = 1000; omega) (by show (0 : Int) = 0; omega)
  have ey : y.toInt = ρ 1 := ey.trans (by show (1 * ρ 1 + (0) : Int) = ρ 1; omega)
  have hx : (zf_v ρ ([(0, 1)], 107)).toNat = 107 + (ρ 0).toNat := (by show (1 * ρ 0 + (107) : Int).toNat = 107 + (ρ 0).toNat; omega)
  rw [hx]
  refine ⟨?_, ?_⟩
  · intro q hq
    exact zs_in (zs_lng _ (by omega)) hq (by omega) (by omega)
  · refine ⟨_, List.mem_cons_self, ?_, ?_, ?_⟩
    · exact hE
    · exact hF
    · intro h hq
      simp only [List.mem_cons, List.not_mem_nil, or_false] at hq
      rcases hq with rfl | rfl
      · refine zq_ec (g := 20) (I := 107 + (ρ 0).toNat) (V := ρ 1) ?_ (by show (0 : Int) ≤ 1 * ρ 0 + (107); omega) (by decide) (by show (1 * ρ 0 + (107) : Int).toNat = 107 + (ρ 0).toNat; omega) (by show (1 * ρ 1 + (0) : Int) = ρ 1; omega)
        rw [zq_up_s]
        exact ey
      · refine zq_lf (j := 0) (A := 1000) (B := 0) ?_ (by decide) (by show (1000 : Int) = 1000; omega) (by show (0 : Int) = 0; omega)
        intro j hj a1 a2
        rw [zq_upE, if_neg (by omega)] at a1 a2
        rw [zq_upE]
        by_cases hq : j = (ρ 0).toNat
        · rw [if_pos (by omega)]
          omega
        · rw [if_neg (by omega)]
          exact c0 j hj a1 a2
def zh_isup : zf_M := (([(0, 15), (0, 32), (0, 32)], [([(1, 1), (2, (-1))], 0)], 64, [], [.inl ([(1, 1)], 0), .inl ([(0, 1)], 107), .inr (some (20, 20))], [(20, 20, ([(0, 1)], 107), .inl ([(2, 1)], 0)), (1000, 0, ([], 1000), .inl ([], 0))]), [(20, ([(0, 1)], 107), ([(0, 1)], 107))], [(none, ([(0, 15), (0, 32), (0, 32)], [([(1, 1), (2, (-1))], 0)], 64, [], [], [(20, 20, ([(0, 1)], 107), .inl ([(1, 1)], 0)), (1000, 0, ([], 1000), .inl ([], 0))]))])
theorem zh_isup_c : zr_st 20 ([(0, 1)], 107) zh_isup = true := by decide +kernel
set_option maxRecDepth 20000 in
theorem zh_isup_r : zr_SR 20 ([(0, 1)], 107) ([(1, 1)], 0) zh_isup := by
  intro ρ F y ey hE hF hh htp
  have b0 : (0 : Int) ≤ ρ 0 ∧ ρ 0 ≤ (15 : Int) := hE 0
  have b1 : (0 : Int) ≤ ρ 1 ∧ ρ 1 ≤ (32 : Int) := hE 1
  have b2 : (0 : Int) ≤ ρ 2 ∧ ρ 2 ≤ (32 : Int) := hE 2
  have f0 : (0 : Int) ≤ 1 * ρ 1 + ((-1) * ρ 2 + (0)) := hF ([(1, 1), (2, (-1))], 0) (by exact List.mem_cons_self)
  have c0 : (F 20 (107 + (ρ 0).toNat)).toInt = ρ 2 := zq_ce (hh (20, 20, ([(0, 1)], 107), .inl ([(2, 1)], 0)) (by exact List.mem_cons_self)) (by decide) (by show (1 * ρ 0 + (107) : Int).toNat = 107 + (ρ 0).toNat; omega) (by show (1 * ρ 2 + (0) : Int) = ρ 2; omega)
  have c1 : zf_gP 0 (1000) (0) F := zq_fl (hh (1000, 0, ([], 1000), .inl ([], 0)) (by exact List.mem_cons_of_mem _ List.mem_cons_self)) (by decide) (by show (1000 : Int) = 1000; omega) (by show (0 : Int) = 0; omega)
  have ey : y.toInt = ρ 1 := ey.trans (by show (1 * ρ 1 + (0) : Int) = ρ 1; omega)
  have hx : (zf_v ρ ([(0, 1)], 107)).toNat = 107 + (ρ 0).toNat := (by show (1 * ρ 0 + (107) : Int).toNat = 107 + (ρ 0).toNat; omega)
  rw [hx]
  refine ⟨?_, ?_⟩
  · intro q hq
    exact zs_in (zs_lng _ (by omega)) hq (by omega) (by omega)
  · refine ⟨_, List.mem_cons_self, ?_, ?_, ?_⟩
    · exact hE
    · exact hF
    · intro h hq
      simp only [List.mem_cons, List.not_mem_nil, or_false] at hq
      rcases hq with rfl | rfl
      · refine zq_ec (g := 20) (I := 107 + (ρ 0).toNat) (V := ρ 1) ?_ (by show (0 : Int) ≤ 1 * ρ 0 + (107); omega) (by decide) (by show (1 * ρ 0 + (107) : Int).toNat = 107 + (ρ 0).toNat; omega) (by show (1 * ρ 1 + (0) : Int) = ρ 1; omega)
        rw [zq_up_s]
        exact ey
      · refine zq_lf (j := 0) (A := 1000) (B := 0) ?_ (by decide) (by show (1000 : Int) = 1000; omega) (by show (0 : Int) = 0; omega)
        intro j hj a1 a2
        rw [zq_upE, if_neg (by omega)] at a1 a2
        rw [zq_upE]
        have h := c1 j hj a1 a2
        by_cases hq : j = (ρ 0).toNat
        · rw [if_pos (by omega)]
          rw [show 87 + 20 + j = 107 + (ρ 0).toNat by omega] at h
          omega
        · rw [if_neg (by omega)]
          exact h
def zh_taxst : zf_M := (([(0, 15), (0, 31)], [], 64, [], [.inl ([(1, 1)], 0), .inl ([(0, 1)], 107), .inr (some (20, 20))], [(1000, 0, ([], 1000), .inl ([], 0))]), [(20, ([(0, 1)], 107), ([(0, 1)], 107))], [(none, ([(0, 15), (1, 31)], [], 64, [], [], [(20, 20, ([(0, 1)], 107), .inl ([(1, 1)], 0)), (1000, 0, ([], 1000), .inl ([], 0))])), (none, ([(0, 15), (0, 0)], [], 64, [], [], [(20, 20, ([(0, 1)], 107), .inl ([(1, 1)], 0)), (1001, 0, ([], 1001), .inl ([(0, 1)], 0))]))])
theorem zh_taxst_c : zr_st 20 ([(0, 1)], 107) zh_taxst = true := by decide +kernel
set_option maxRecDepth 20000 in
theorem zh_taxst_r : zr_SR 20 ([(0, 1)], 107) ([(1, 1)], 0) zh_taxst := by
  intro ρ F y ey hE hF hh htp
  have b0 : (0 : Int) ≤ ρ 0 ∧ ρ 0 ≤ (15 : Int) := hE 0
  have b1 : (0 : Int) ≤ ρ 1 ∧ ρ 1 ≤ (31 : Int) := hE 1
  have c0 : zf_gP 0 (1000) (0) F := zq_fl (hh (1000, 0, ([], 1000), .inl ([], 0)) (by exact List.mem_cons_self)) (by decide) (by show (1000 : Int) = 1000; omega) (by show (0 : Int) = 0; omega)
  have ey : y.toInt = ρ 1 := ey.trans (by show (1 * ρ 1 + (0) : Int) = ρ 1; omega)
  have hx : (zf_v ρ ([(0, 1)], 107)).toNat = 107 + (ρ 0).toNat := (by show (1 * ρ 0 + (107) : Int).toNat = 107 + (ρ 0).toNat; omega)
  rw [hx]
  refine ⟨?_, ?_⟩
  · intro q hq
    exact zs_in (zs_lng _ (by omega)) hq (by omega) (by omega)
  · by_cases hs : 1 ≤ ρ 1
    · refine ⟨_, List.mem_cons_self, ?_, ?_, ?_⟩
      · intro x
        match x with
        | 0 => exact ⟨by show (0 : Int) ≤ ρ 0; omega, by show ρ 0 ≤ (15 : Int); omega⟩
        | 1 => exact ⟨by show (1 : Int) ≤ ρ 1; omega, by show ρ 1 ≤ (31 : Int); omega⟩
        | n + 2 => exact hE (n + 2)
      · exact hF
      · intro h hq
        simp only [List.mem_cons, List.not_mem_nil, or_false] at hq
        rcases hq with rfl | rfl
        · refine zq_ec (g := 20) (I := 107 + (ρ 0).toNat) (V := ρ 1) ?_ (by show (0 : Int) ≤ 1 * ρ 0 + (107); omega) (by decide) (by show (1 * ρ 0 + (107) : Int).toNat = 107 + (ρ 0).toNat; omega) (by show (1 * ρ 1 + (0) : Int) = ρ 1; omega)
          rw [zq_up_s]
          exact ey
        · refine zq_lf (j := 0) (A := 1000) (B := 0) ?_ (by decide) (by show (1000 : Int) = 1000; omega) (by show (0 : Int) = 0; omega)
          intro j hj a1 a2
          rw [zq_upE, if_neg (by omega)] at a1 a2
          rw [zq_upE]
          by_cases hq : j = (ρ 0).toNat
          · rw [if_pos (by omega)]
            omega
          · rw [if_neg (by omega)]
            exact c0 j hj a1 a2
    · refine ⟨_, List.mem_cons_of_mem _ List.mem_cons_self, ?_, ?_, ?_⟩
      · intro x
        match x with
        | 0 => exact ⟨by show (0 : Int) ≤ ρ 0; omega, by show ρ 0 ≤ (15 : Int); omega⟩
        | 1 => exact ⟨by show (0 : Int) ≤ ρ 1; omega, by show ρ 1 ≤ (0 : Int); omega⟩
        | n + 2 => exact hE (n + 2)
      · exact hF
      · intro h hq
        simp only [List.mem_cons, List.not_mem_nil, or_false] at hq
        rcases hq with rfl | rfl
        · refine zq_ec (g := 20) (I := 107 + (ρ 0).toNat) (V := ρ 1) ?_ (by show (0 : Int) ≤ 1 * ρ 0 + (107); omega) (by decide) (by show (1 * ρ 0 + (107) : Int).toNat = 107 + (ρ 0).toNat; omega) (by show (1 * ρ 1 + (0) : Int) = ρ 1; omega)
          rw [zq_up_s]
          exact ey
        · refine zq_lf (j := 1) (A := 1001) (B := ρ 0) ?_ (by decide) (by show (1001 : Int) = 1001; omega) (by show (1 * ρ 0 + (0) : Int) = ρ 0; omega)
          intro j hj hne a1 a2
          rw [zq_upE, if_neg (by omega)] at a1 a2 ⊢
          exact c0 j hj a1 a2
def zh_rungst : zf_M := (([(181, 692), ((-2147483648), 2147483647)], [], 64, [], [.inl ([(1, 1)], 0), .inl ([(0, 1)], 0), .inr (some (20, 20))], []), [(20, ([(0, 1)], 0), ([(0, 1)], 0))], [(none, ([(181, 692), ((-2147483648), 2147483647)], [], 64, [], [], []))])
theorem zh_rungst_c : zr_st 20 ([(0, 1)], 0) zh_rungst = true := by decide +kernel
set_option maxRecDepth 20000 in
theorem zh_rungst_r : zr_SR 20 ([(0, 1)], 0) ([(1, 1)], 0) zh_rungst := by
  intro ρ F y ey hE hF hh htp
  have b0 : (181 : Int) ≤ ρ 0 ∧ ρ 0 ≤ (692 : Int) := hE 0
  have b1 : ((-2147483648) : Int) ≤ ρ 1 ∧ ρ 1 ≤ (2147483647 : Int) := hE 1
  have ey : y.toInt = ρ 1 := ey.trans (by show (1 * ρ 1 + (0) : Int) = ρ 1; omega)
  have hx : (zf_v ρ ([(0, 1)], 0)).toNat = (ρ 0).toNat := (by show (1 * ρ 0 + (0) : Int).toNat = (ρ 0).toNat; omega)
  rw [hx]
  refine ⟨?_, ?_⟩
  · intro q hq
    rw [show (ρ 0).toNat = 181 + ((ρ 0).toNat - 181) by omega] at hq
    exact zs_full (zs_rng _ (by omega)) hq
  · refine ⟨_, List.mem_cons_self, ?_, ?_, ?_⟩
    · exact hE
    · exact hF
    · intro h hq
      cases hq
def zh_tr0 : zf_M := (([], [], 64, [], [], []), [], [(some (.inl ([], 0)), ([], [], 64, [], [], [(1010, 0, ([], 1010), .inl ([], 0))]))])
theorem zh_tr0_c : zr_kc 0 zh_tr0 = true := by decide +kernel
theorem zh_tr0_r : zr_KR zh_tr0 := by
  intro ρ F hE hF hh htp
  refine ⟨_, List.mem_cons_self, ?_, ?_, ?_⟩
  · exact hE
  · exact hF
  · intro h hq
    simp only [List.mem_cons, List.not_mem_nil, or_false] at hq
    rcases hq with rfl
    refine zq_lf (j := 10) (A := 1010) (B := 0) ?_ (by decide) (by show (1010 : Int) = 1010; omega) (by show (0 : Int) = 0; omega)
    intro i hi
    omega
def zh_bk0 : zf_M := (([], [], 64, [], [], []), [], [(some (.inl ([], 0)), ([], [], 64, [], [], [(1011, 0, ([], 1011), .inl ([], 0))]))])
theorem zh_bk0_c : zr_kc 0 zh_bk0 = true := by decide +kernel
theorem zh_bk0_r : zr_KR zh_bk0 := by
  intro ρ F hE hF hh htp
  refine ⟨_, List.mem_cons_self, ?_, ?_, ?_⟩
  · exact hE
  · exact hF
  · intro h hq
    simp only [List.mem_cons, List.not_mem_nil, or_false] at hq
    rcases hq with rfl
    refine zq_lf (j := 11) (A := 1011) (B := 0) ?_ (by decide) (by show (1011 : Int) = 1011; omega) (by show (0 : Int) = 0; omega)
    intro i hi
    omega
def zh_trst : zf_M := (([(0, 605), ((-2147483648), 2147483647)], [], 64, [], [.inl ([(1, 1)], 0), .inl ([(0, 1)], 0), .inr (some (27, 27))], [(20, 20, ([(0, 1)], 87), .inl ([(1, 1)], 0)), (1010, 0, ([], 1010), .inl ([(0, 1)], 0)), (1000, 0, ([], 1000), .inl ([], 0))]), [(27, ([(0, 1)], 0), ([(0, 1)], 0))], [(none, ([(0, 604), ((-2147483648), 2147483647)], [], 64, [], [], [(1010, 0, ([], 1010), .inl ([(0, 1)], 1))])), (none, ([(605, 605), ((-2147483648), 2147483647)], [], 64, [], [], [(1002, 0, ([], 1002), .inl ([], 0))]))])
theorem zh_trst_c : zr_st 27 ([(0, 1)], 0) zh_trst = true := by decide +kernel
set_option maxRecDepth 20000 in
theorem zh_trst_r : zr_SR 27 ([(0, 1)], 0) ([(1, 1)], 0) zh_trst := by
  intro ρ F y ey hE hF hh htp
  have b0 : (0 : Int) ≤ ρ 0 ∧ ρ 0 ≤ (605 : Int) := hE 0
  have b1 : ((-2147483648) : Int) ≤ ρ 1 ∧ ρ 1 ≤ (2147483647 : Int) := hE 1
  have c0 : (F 20 (87 + (ρ 0).toNat)).toInt = ρ 1 := zq_ce (hh (20, 20, ([(0, 1)], 87), .inl ([(1, 1)], 0)) (by exact List.mem_cons_self)) (by decide) (by show (1 * ρ 0 + (87) : Int).toNat = 87 + (ρ 0).toNat; omega) (by show (1 * ρ 1 + (0) : Int) = ρ 1; omega)
  have c1 : zf_gP 10 (1010) (ρ 0) F := zq_fl (hh (1010, 0, ([], 1010), .inl ([(0, 1)], 0)) (by exact List.mem_cons_of_mem _ List.mem_cons_self)) (by decide) (by show (1010 : Int) = 1010; omega) (by show (1 * ρ 0 + (0) : Int) = ρ 0; omega)
  have c2 : zf_gP 0 (1000) (0) F := zq_fl (hh (1000, 0, ([], 1000), .inl ([], 0)) (by exact List.mem_cons_of_mem _ (List.mem_cons_of_mem _ List.mem_cons_self))) (by decide) (by show (1000 : Int) = 1000; omega) (by show (0 : Int) = 0; omega)
  have ey : y.toInt = ρ 1 := ey.trans (by show (1 * ρ 1 + (0) : Int) = ρ 1; omega)
  have hx : (zf_v ρ ([(0, 1)], 0)).toNat = (ρ 0).toNat := (by show (1 * ρ 0 + (0) : Int).toNat = (ρ 0).toNat; omega)
  rw [hx]
  refine ⟨?_, ?_⟩
  · intro q hq
    exact zs_cp htp (by decide) (zs_b _ (by omega)) hq (c0.trans ey.symm)
  · by_cases hs : ρ 0 ≤ 604
    · refine ⟨_, List.mem_cons_self, ?_, ?_, ?_⟩
      · intro x
        match x with
        | 0 => exact ⟨by show (0 : Int) ≤ ρ 0; omega, by show ρ 0 ≤ (604 : Int); omega⟩
        | 1 => exact ⟨by show ((-2147483648) : Int) ≤ ρ 1; omega, by show ρ 1 ≤ (2147483647 : Int); omega⟩
        | n + 2 => exact hE (n + 2)
      · exact hF
      · intro h hq
        simp only [List.mem_cons, List.not_mem_nil, or_false] at hq
        rcases hq with rfl
        refine zq_lf (j := 10) (A := 1010) (B := ρ 0 + 1) ?_ (by decide) (by show (1010 : Int) = 1010; omega) (by show (1 * ρ 0 + (1) : Int) = ρ 0 + 1; omega)
        intro i hi
        rw [zq_upE, zq_up_g (by decide)]
        split
        · rename_i e
          subst e
          exact zi_e (by omega)
        · exact c1 i (by omega)
    · refine ⟨_, List.mem_cons_of_mem _ List.mem_cons_self, ?_, ?_, ?_⟩
      · intro x
        match x with
        | 0 => exact ⟨by show (605 : Int) ≤ ρ 0; omega, by show ρ 0 ≤ (605 : Int); omega⟩
        | 1 => exact ⟨by show ((-2147483648) : Int) ≤ ρ 1; omega, by show ρ 1 ≤ (2147483647 : Int); omega⟩
        | n + 2 => exact hE (n + 2)
      · exact hF
      · intro h hq
        simp only [List.mem_cons, List.not_mem_nil, or_false] at hq
        rcases hq with rfl
        refine zq_lf (j := 2) (A := 1002) (B := 0) ?_ (by decide) (by show (1002 : Int) = 1002; omega) (by show (0 : Int) = 0; omega)
        refine zg_blk_sh c2 (fun i hi => ?_)
        rw [zq_upE, if_neg (by omega), Nat.zero_add]
        exact c1 i (by omega)
def zh_bkst : zf_M := (([(0, 605), ((-2147483648), 2147483647)], [], 64, [], [.inl ([(1, 1)], 0), .inl ([(0, 1)], 87), .inr (some (20, 20))], [(27, 27, ([(0, 1)], 0), .inl ([(1, 1)], 0)), (1011, 0, ([], 1011), .inl ([(0, 1)], 0)), (1002, 0, ([], 1002), .inl ([], 0))]), [(20, ([(0, 1)], 87), ([(0, 1)], 87))], [(none, ([(0, 604), ((-2147483648), 2147483647)], [], 64, [], [], [(1011, 0, ([], 1011), .inl ([(0, 1)], 1))])), (none, ([(605, 605), ((-2147483648), 2147483647)], [], 64, [], [], [(1000, 0, ([], 1000), .inl ([], 0))]))])
theorem zh_bkst_c : zr_st 20 ([(0, 1)], 87) zh_bkst = true := by decide +kernel
set_option maxRecDepth 20000 in
theorem zh_bkst_r : zr_SR 20 ([(0, 1)], 87) ([(1, 1)], 0) zh_bkst := by
  intro ρ F y ey hE hF hh htp
  have b0 : (0 : Int) ≤ ρ 0 ∧ ρ 0 ≤ (605 : Int) := hE 0
  have b1 : ((-2147483648) : Int) ≤ ρ 1 ∧ ρ 1 ≤ (2147483647 : Int) := hE 1
  have c0 : (F 27 ((ρ 0).toNat)).toInt = ρ 1 := zq_ce (hh (27, 27, ([(0, 1)], 0), .inl ([(1, 1)], 0)) (by exact List.mem_cons_self)) (by decide) (by show (1 * ρ 0 + (0) : Int).toNat = (ρ 0).toNat; omega) (by show (1 * ρ 1 + (0) : Int) = ρ 1; omega)
  have c1 : zf_gP 11 (1011) (ρ 0) F := zq_fl (hh (1011, 0, ([], 1011), .inl ([(0, 1)], 0)) (by exact List.mem_cons_of_mem _ List.mem_cons_self)) (by decide) (by show (1011 : Int) = 1011; omega) (by show (1 * ρ 0 + (0) : Int) = ρ 0; omega)
  have c2 : zf_gP 2 (1002) (0) F := zq_fl (hh (1002, 0, ([], 1002), .inl ([], 0)) (by exact List.mem_cons_of_mem _ (List.mem_cons_of_mem _ List.mem_cons_self))) (by decide) (by show (1002 : Int) = 1002; omega) (by show (0 : Int) = 0; omega)
  have ey : y.toInt = ρ 1 := ey.trans (by show (1 * ρ 1 + (0) : Int) = ρ 1; omega)
  have hx : (zf_v ρ ([(0, 1)], 87)).toNat = 87 + (ρ 0).toNat := (by show (1 * ρ 0 + (87) : Int).toNat = 87 + (ρ 0).toNat; omega)
  rw [hx]
  refine ⟨?_, ?_⟩
  · intro q hq
    exact zs_cp htp (by decide) (zs_b _ (by omega)).symm hq (c0.trans ey.symm)
  · by_cases hs : ρ 0 ≤ 604
    · refine ⟨_, List.mem_cons_self, ?_, ?_, ?_⟩
      · intro x
        match x with
        | 0 => exact ⟨by show (0 : Int) ≤ ρ 0; omega, by show ρ 0 ≤ (604 : Int); omega⟩
        | 1 => exact ⟨by show ((-2147483648) : Int) ≤ ρ 1; omega, by show ρ 1 ≤ (2147483647 : Int); omega⟩
        | n + 2 => exact hE (n + 2)
      · exact hF
      · intro h hq
        simp only [List.mem_cons, List.not_mem_nil, or_false] at hq
        rcases hq with rfl
        refine zq_lf (j := 11) (A := 1011) (B := ρ 0 + 1) ?_ (by decide) (by show (1011 : Int) = 1011; omega) (by show (1 * ρ 0 + (1) : Int) = ρ 0 + 1; omega)
        intro i hi
        rw [zq_upE, zq_up_g (by decide)]
        split
        · rename_i e
          rw [show i = (ρ 0).toNat by omega]
          exact zi_e (by omega)
        · exact c1 i (by omega)
    · refine ⟨_, List.mem_cons_of_mem _ List.mem_cons_self, ?_, ?_, ?_⟩
      · intro x
        match x with
        | 0 => exact ⟨by show (605 : Int) ≤ ρ 0; omega, by show ρ 0 ≤ (605 : Int); omega⟩
        | 1 => exact ⟨by show ((-2147483648) : Int) ≤ ρ 1; omega, by show ρ 1 ≤ (2147483647 : Int); omega⟩
        | n + 2 => exact hE (n + 2)
      · exact hF
      · intro h hq
        simp only [List.mem_cons, List.not_mem_nil, or_false] at hq
        rcases hq with rfl
        refine zq_lf (j := 0) (A := 1000) (B := 0) ?_ (by decide) (by show (1000 : Int) = 1000; omega) (by show (0 : Int) = 0; omega)
        refine zg_blk_sh c2 (fun i hi => ?_)
        rw [zq_upE, if_neg (by omega), Nat.zero_add]
        exact c1 i (by omega)
def zh_un0 : zf_M := (([(0, 7)], [], 64, [], [], [(18, 18, ([], 25), .inl ([(0, 1)], 0))]), [], [(some (.inl ([], 0)), ([(0, 7)], [], 64, [], [], [(1014, 0, ([(0, 1)], 0), .inl ([], 0))]))])
theorem zh_un0_c : zr_kc 0 zh_un0 = true := by decide +kernel
theorem zh_un0_r : zr_KR zh_un0 := by
  intro ρ F hE hF hh htp
  have b0 : (0 : Int) ≤ ρ 0 ∧ ρ 0 ≤ (7 : Int) := hE 0
  have c0 : (F 18 (25)).toInt = ρ 0 := zq_ce (hh (18, 18, ([], 25), .inl ([(0, 1)], 0)) (by exact List.mem_cons_self)) (by decide) (by show (25 : Int).toNat = 25; omega) (by show (1 * ρ 0 + (0) : Int) = ρ 0; omega)
  refine ⟨_, List.mem_cons_self, ?_, ?_, ?_⟩
  · exact hE
  · exact hF
  · intro h hq
    simp only [List.mem_cons, List.not_mem_nil, or_false] at hq
    rcases hq with rfl
    refine zq_lf (j := 14) (A := ρ 0) (B := 0) ?_ (by decide) (by show (1 * ρ 0 + (0) : Int) = ρ 0; omega) (by show (0 : Int) = 0; omega)
    exact ⟨by omega, by omega, fun i _ hi => by omega⟩
def zh_unst : zf_M := (([(0, 605), ((-2147483648), 2147483647), (0, 7)], [], 64, [], [.inl ([(1, 1)], 0), .inl ([(0, 1)], 87), .inr (some (20, 20))], [(18, 18, ([], 25), .inl ([(2, 1)], 0)), (26, 26, ([(0, 1), (2, 606)], 0), .inl ([(1, 1)], 0)), (1014, 0, ([(2, 1)], 0), .inl ([(0, 1)], 0)), (1003, 0, ([], 1003), .inl ([], 0))]), [(20, ([(0, 1)], 87), ([(0, 1)], 87))], [(none, ([(0, 604), ((-2147483648), 2147483647), (0, 7)], [], 64, [], [], [(1014, 0, ([(2, 1)], 0), .inl ([(0, 1)], 1))])), (none, ([(605, 605), ((-2147483648), 2147483647), (0, 7)], [], 64, [], [], [(1000, 0, ([], 1000), .inl ([], 0))]))])
theorem zh_unst_c : zr_st 20 ([(0, 1)], 87) zh_unst = true := by decide +kernel
set_option maxRecDepth 20000 in
theorem zh_unst_r : zr_SR 20 ([(0, 1)], 87) ([(1, 1)], 0) zh_unst := by
  intro ρ F y ey hE hF hh htp
  have b0 : (0 : Int) ≤ ρ 0 ∧ ρ 0 ≤ (605 : Int) := hE 0
  have b1 : ((-2147483648) : Int) ≤ ρ 1 ∧ ρ 1 ≤ (2147483647 : Int) := hE 1
  have b2 : (0 : Int) ≤ ρ 2 ∧ ρ 2 ≤ (7 : Int) := hE 2
  have c0 : (F 18 (25)).toInt = ρ 2 := zq_ce (hh (18, 18, ([], 25), .inl ([(2, 1)], 0)) (by exact List.mem_cons_self)) (by decide) (by show (25 : Int).toNat = 25; omega) (by show (1 * ρ 2 + (0) : Int) = ρ 2; omega)
  have c1 : (F 26 ((ρ 0).toNat + 606 * (ρ 2).toNat)).toInt = ρ 1 := zq_ce (hh (26, 26, ([(0, 1), (2, 606)], 0), .inl ([(1, 1)], 0)) (by exact List.mem_cons_of_mem _ List.mem_cons_self)) (by decide) (by show (1 * ρ 0 + (606 * ρ 2 + (0)) : Int).toNat = (ρ 0).toNat + 606 * (ρ 2).toNat; omega) (by show (1 * ρ 1 + (0) : Int) = ρ 1; omega)
  have c2 : zf_gP 14 (ρ 2) (ρ 0) F := zq_fl (hh (1014, 0, ([(2, 1)], 0), .inl ([(0, 1)], 0)) (by exact List.mem_cons_of_mem _ (List.mem_cons_of_mem _ List.mem_cons_self))) (by decide) (by show (1 * ρ 2 + (0) : Int) = ρ 2; omega) (by show (1 * ρ 0 + (0) : Int) = ρ 0; omega)
  have c3 : zf_gP 3 (1003) (0) F := zq_fl (hh (1003, 0, ([], 1003), .inl ([], 0)) (by exact List.mem_cons_of_mem _ (List.mem_cons_of_mem _ (List.mem_cons_of_mem _ List.mem_cons_self)))) (by decide) (by show (1003 : Int) = 1003; omega) (by show (0 : Int) = 0; omega)
  have ey : y.toInt = ρ 1 := ey.trans (by show (1 * ρ 1 + (0) : Int) = ρ 1; omega)
  have hx : (zf_v ρ ([(0, 1)], 87)).toNat = 87 + (ρ 0).toNat := (by show (1 * ρ 0 + (87) : Int).toNat = 87 + (ρ 0).toNat; omega)
  rw [hx]
  refine ⟨?_, ?_⟩
  · intro q hq
    have hz := zs_u (ρ 2).toNat (by omega) (ρ 0).toNat (by omega)
    rw [show 606 * (ρ 2).toNat + (ρ 0).toNat = (ρ 0).toNat + 606 * (ρ 2).toNat by omega] at hz
    exact zs_cp htp (by decide) hz.symm hq (c1.trans ey.symm)
  · by_cases hs : ρ 0 ≤ 604
    · refine ⟨_, List.mem_cons_self, ?_, ?_, ?_⟩
      · intro x
        match x with
        | 0 => exact ⟨by show (0 : Int) ≤ ρ 0; omega, by show ρ 0 ≤ (604 : Int); omega⟩
        | 1 => exact ⟨by show ((-2147483648) : Int) ≤ ρ 1; omega, by show ρ 1 ≤ (2147483647 : Int); omega⟩
        | 2 => exact ⟨by show (0 : Int) ≤ ρ 2; omega, by show ρ 2 ≤ (7 : Int); omega⟩
        | n + 3 => exact hE (n + 3)
      · exact hF
      · intro h hq
        simp only [List.mem_cons, List.not_mem_nil, or_false] at hq
        rcases hq with rfl
        refine zq_lf (j := 14) (A := ρ 2) (B := ρ 0 + 1) ?_ (by decide) (by show (1 * ρ 2 + (0) : Int) = ρ 2; omega) (by show (1 * ρ 0 + (1) : Int) = ρ 0 + 1; omega)
        refine ⟨c2.1, c2.2.1, fun i hi hb => ?_⟩
        rw [zq_upE, zq_up_g (by decide)]
        split
        · rename_i e
          rw [show 606 * (ρ 2).toNat + i = (ρ 0).toNat + 606 * (ρ 2).toNat by omega]
          exact zi_e (by omega)
        · exact c2.2.2 i hi (by omega)
    · refine ⟨_, List.mem_cons_of_mem _ List.mem_cons_self, ?_, ?_, ?_⟩
      · intro x
        match x with
        | 0 => exact ⟨by show (605 : Int) ≤ ρ 0; omega, by show ρ 0 ≤ (605 : Int); omega⟩
        | 1 => exact ⟨by show ((-2147483648) : Int) ≤ ρ 1; omega, by show ρ 1 ≤ (2147483647 : Int); omega⟩
        | 2 => exact ⟨by show (0 : Int) ≤ ρ 2; omega, by show ρ 2 ≤ (7 : Int); omega⟩
        | n + 3 => exact hE (n + 3)
      · exact hF
      · intro h hq
        simp only [List.mem_cons, List.not_mem_nil, or_false] at hq
        rcases hq with rfl
        refine zq_lf (j := 0) (A := 1000) (B := 0) ?_ (by decide) (by show (1000 : Int) = 1000; omega) (by show (0 : Int) = 0; omega)
        refine zg_blk_sh (c3 (ρ 2).toNat (by omega)) (fun i hi => ?_)
        rw [zq_upE, if_neg (by omega)]
        exact c2.2.2 i (by omega) (by omega)
def zh_sh0 : zf_M := (([], [], 64, [], [], [(1003, 0, ([], 1003), .inl ([], 0))]), [], [(some (.inl ([], 0)), ([], [], 64, [], [], [(1013, 0, ([], 1013), .inl ([], 0))]))])
theorem zh_sh0_c : zr_kc 0 zh_sh0 = true := by decide +kernel
theorem zh_sh0_r : zr_KR zh_sh0 := by
  intro ρ F hE hF hh htp
  have c0 : zf_gP 3 (1003) (0) F := zq_fl (hh (1003, 0, ([], 1003), .inl ([], 0)) (by exact List.mem_cons_self)) (by decide) (by show (1003 : Int) = 1003; omega) (by show (0 : Int) = 0; omega)
  refine ⟨_, List.mem_cons_self, ?_, ?_, ?_⟩
  · exact hE
  · exact hF
  · intro h hq
    simp only [List.mem_cons, List.not_mem_nil, or_false] at hq
    rcases hq with rfl
    refine zq_lf (j := 13) (A := 1013) (B := 0) ?_ (by decide) (by show (1013 : Int) = 1013; omega) (by show (0 : Int) = 0; omega)
    exact ⟨F 26, c0, fun i hi => (if_neg (by omega)).symm⟩
def zh_sh1 : zf_M := (([], [], 64, [], [], [(1013, 0, ([], 1013), .inl ([], 4242))]), [], [(some (.inl ([], 7)), ([], [], 64, [], [], [(1003, 0, ([], 1003), .inl ([], 0))]))])
theorem zh_sh1_c : zr_kc 7 zh_sh1 = true := by decide +kernel
theorem zh_sh1_r : zr_KR zh_sh1 := by
  intro ρ F hE hF hh htp
  have c0 : zf_gP 13 (1013) (4242) F := zq_fl (hh (1013, 0, ([], 1013), .inl ([], 4242)) (by exact List.mem_cons_self)) (by decide) (by show (1013 : Int) = 1013; omega) (by show (4242 : Int) = 4242; omega)
  refine ⟨_, List.mem_cons_self, ?_, ?_, ?_⟩
  · exact hE
  · exact hF
  · intro h hq
    simp only [List.mem_cons, List.not_mem_nil, or_false] at hq
    rcases hq with rfl
    refine zq_lf (j := 3) (A := 1003) (B := 0) ?_ (by decide) (by show (1003 : Int) = 1003; omega) (by show (0 : Int) = 0; omega)
    obtain ⟨f, h1, h2⟩ := c0
    intro u hu
    by_cases h7 : u < 7
    · refine zg_blk_sh (h1 (u + 1) (by omega)) (fun i hi => ?_)
      rw [h2 (606 * u + i) (by omega), if_pos (by omega)]
      congr 1
      omega
    · refine zg_blk_sh (h1 u hu) (fun i hi => ?_)
      rw [h2 (606 * u + i) (by omega), if_neg (by omega)]
def zh_shst : zf_M := (([(0, 4241), ((-2147483648), 2147483647)], [], 64, [], [.inl ([(1, 1)], 0), .inl ([(0, 1)], 0), .inr (some (26, 26))], [(26, 26, ([(0, 1)], 606), .inl ([(1, 1)], 0)), (1013, 0, ([], 1013), .inl ([(0, 1)], 0))]), [(26, ([(0, 1)], 0), ([(0, 1)], 0))], [(none, ([(0, 4241), ((-2147483648), 2147483647)], [], 64, [], [], [(1013, 0, ([], 1013), .inl ([(0, 1)], 1))]))])
theorem zh_shst_c : zr_st 26 ([(0, 1)], 0) zh_shst = true := by decide +kernel
set_option maxRecDepth 20000 in
theorem zh_shst_r : zr_SR 26 ([(0, 1)], 0) ([(1, 1)], 0) zh_shst := by
  intro ρ F y ey hE hF hh htp
  have b0 : (0 : Int) ≤ ρ 0 ∧ ρ 0 ≤ (4241 : Int) := hE 0
  have b1 : ((-2147483648) : Int) ≤ ρ 1 ∧ ρ 1 ≤ (2147483647 : Int) := hE 1
  have c0 : (F 26 (606 + (ρ 0).toNat)).toInt = ρ 1 := zq_ce (hh (26, 26, ([(0, 1)], 606), .inl ([(1, 1)], 0)) (by exact List.mem_cons_self)) (by decide) (by show (1 * ρ 0 + (606) : Int).toNat = 606 + (ρ 0).toNat; omega) (by show (1 * ρ 1 + (0) : Int) = ρ 1; omega)
  have c1 : zf_gP 13 (1013) (ρ 0) F := zq_fl (hh (1013, 0, ([], 1013), .inl ([(0, 1)], 0)) (by exact List.mem_cons_of_mem _ List.mem_cons_self)) (by decide) (by show (1013 : Int) = 1013; omega) (by show (1 * ρ 0 + (0) : Int) = ρ 0; omega)
  have ey : y.toInt = ρ 1 := ey.trans (by show (1 * ρ 1 + (0) : Int) = ρ 1; omega)
  have hx : (zf_v ρ ([(0, 1)], 0)).toNat = (ρ 0).toNat := (by show (1 * ρ 0 + (0) : Int).toNat = (ρ 0).toNat; omega)
  rw [hx]
  refine ⟨?_, ?_⟩
  · intro q hq
    exact zs_cp htp (by decide) (zs_uu _ (by omega)) hq (c0.trans ey.symm)
  · refine ⟨_, List.mem_cons_self, ?_, ?_, ?_⟩
    · exact hE
    · exact hF
    · intro h hq
      simp only [List.mem_cons, List.not_mem_nil, or_false] at hq
      rcases hq with rfl
      refine zq_lf (j := 13) (A := 1013) (B := ρ 0 + 1) ?_ (by decide) (by show (1013 : Int) = 1013; omega) (by show (1 * ρ 0 + (1) : Int) = ρ 0 + 1; omega)
      obtain ⟨f, h1, h2⟩ := c1
      refine ⟨f, h1, fun i hi => ?_⟩
      rw [zq_upE]
      split
      · rename_i e
        subst e
        rw [if_pos (by omega)]
        have h3 := h2 (606 + (ρ 0).toNat) (by omega)
        rw [if_neg (by omega)] at h3
        rw [show (ρ 0).toNat + 606 = 606 + (ρ 0).toNat by omega, ← h3]
        exact zi_e (by omega)
      · rw [h2 i hi]
        by_cases hq : (i : Int) < ρ 0
        · rw [if_pos hq, if_pos (by omega)]
        · rw [if_neg hq, if_neg (by omega)]
def zh_ku0 : zf_M := (([(0, 7)], [], 64, [], [], [(18, 18, ([], 25), .inl ([(0, 1)], 0)), (1003, 0, ([], 1003), .inl ([], 0))]), [], [(some (.inl ([], 0)), ([(0, 7)], [], 64, [], [], [(1012, 0, ([(0, 1)], 0), .inl ([], 0))]))])
theorem zh_ku0_c : zr_kc 0 zh_ku0 = true := by decide +kernel
theorem zh_ku0_r : zr_KR zh_ku0 := by
  intro ρ F hE hF hh htp
  have b0 : (0 : Int) ≤ ρ 0 ∧ ρ 0 ≤ (7 : Int) := hE 0
  have c0 : (F 18 (25)).toInt = ρ 0 := zq_ce (hh (18, 18, ([], 25), .inl ([(0, 1)], 0)) (by exact List.mem_cons_self)) (by decide) (by show (25 : Int).toNat = 25; omega) (by show (1 * ρ 0 + (0) : Int) = ρ 0; omega)
  have c1 : zf_gP 3 (1003) (0) F := zq_fl (hh (1003, 0, ([], 1003), .inl ([], 0)) (by exact List.mem_cons_of_mem _ List.mem_cons_self)) (by decide) (by show (1003 : Int) = 1003; omega) (by show (0 : Int) = 0; omega)
  refine ⟨_, List.mem_cons_self, ?_, ?_, ?_⟩
  · exact hE
  · exact hF
  · intro h hq
    simp only [List.mem_cons, List.not_mem_nil, or_false] at hq
    rcases hq with rfl
    refine zq_lf (j := 12) (A := ρ 0) (B := 0) ?_ (by decide) (by show (1 * ρ 0 + (0) : Int) = ρ 0; omega) (by show (0 : Int) = 0; omega)
    exact ⟨by omega, by omega, fun v hv _ => c1 v hv, fun i _ hi => by omega⟩
def zh_kust : zf_M := (([(0, 4847), ((-2147483648), 2147483647), (0, 605), (0, 7)], [([(0, 1), (2, (-1)), (3, (-606))], 0), ([(0, (-1)), (2, 1), (3, 606)], 0)], 64, [], [.inl ([(1, 1)], 0), .inl ([(0, 1)], 0), .inr (some (26, 26))], [(18, 18, ([], 25), .inl ([(3, 1)], 0)), (1012, 0, ([(3, 1)], 0), .inl ([(2, 1)], 0)), (20, 20, ([(2, 1)], 87), .inl ([(1, 1)], 0))]), [(26, ([(0, 1)], 0), ([(0, 1)], 0))], [(none, ([(0, 4847), ((-2147483648), 2147483647), (0, 605), (0, 7)], [([(0, 1), (2, (-1)), (3, (-606))], 0), ([(0, (-1)), (2, 1), (3, 606)], 0)], 64, [], [], [(1012, 0, ([(3, 1)], 0), .inl ([(2, 1)], 1))]))])
theorem zh_kust_c : zr_st 26 ([(0, 1)], 0) zh_kust = true := by decide +kernel
set_option maxRecDepth 20000 in
theorem zh_kust_r : zr_SR 26 ([(0, 1)], 0) ([(1, 1)], 0) zh_kust := by
  intro ρ F y ey hE hF hh htp
  have b0 : (0 : Int) ≤ ρ 0 ∧ ρ 0 ≤ (4847 : Int) := hE 0
  have b1 : ((-2147483648) : Int) ≤ ρ 1 ∧ ρ 1 ≤ (2147483647 : Int) := hE 1
  have b2 : (0 : Int) ≤ ρ 2 ∧ ρ 2 ≤ (605 : Int) := hE 2
  have b3 : (0 : Int) ≤ ρ 3 ∧ ρ 3 ≤ (7 : Int) := hE 3
  have f0 : (0 : Int) ≤ 1 * ρ 0 + ((-1) * ρ 2 + ((-606) * ρ 3 + (0))) := hF ([(0, 1), (2, (-1)), (3, (-606))], 0) (by exact List.mem_cons_self)
  have f1 : (0 : Int) ≤ (-1) * ρ 0 + (1 * ρ 2 + (606 * ρ 3 + (0))) := hF ([(0, (-1)), (2, 1), (3, 606)], 0) (by exact List.mem_cons_of_mem _ List.mem_cons_self)
  have c0 : (F 18 (25)).toInt = ρ 3 := zq_ce (hh (18, 18, ([], 25), .inl ([(3, 1)], 0)) (by exact List.mem_cons_self)) (by decide) (by show (25 : Int).toNat = 25; omega) (by show (1 * ρ 3 + (0) : Int) = ρ 3; omega)
  have c1 : zf_gP 12 (ρ 3) (ρ 2) F := zq_fl (hh (1012, 0, ([(3, 1)], 0), .inl ([(2, 1)], 0)) (by exact List.mem_cons_of_mem _ List.mem_cons_self)) (by decide) (by show (1 * ρ 3 + (0) : Int) = ρ 3; omega) (by show (1 * ρ 2 + (0) : Int) = ρ 2; omega)
  have c2 : (F 20 (87 + (ρ 2).toNat)).toInt = ρ 1 := zq_ce (hh (20, 20, ([(2, 1)], 87), .inl ([(1, 1)], 0)) (by exact List.mem_cons_of_mem _ (List.mem_cons_of_mem _ List.mem_cons_self))) (by decide) (by show (1 * ρ 2 + (87) : Int).toNat = 87 + (ρ 2).toNat; omega) (by show (1 * ρ 1 + (0) : Int) = ρ 1; omega)
  have ey : y.toInt = ρ 1 := ey.trans (by show (1 * ρ 1 + (0) : Int) = ρ 1; omega)
  have hx : (zf_v ρ ([(0, 1)], 0)).toNat = (ρ 0).toNat := (by show (1 * ρ 0 + (0) : Int).toNat = (ρ 0).toNat; omega)
  rw [hx]
  refine ⟨?_, ?_⟩
  · intro q hq
    rw [show (ρ 0).toNat = 606 * (ρ 3).toNat + (ρ 2).toNat by omega] at hq
    exact zs_cp htp (by decide) (zs_u _ (by omega) _ (by omega)) hq (c2.trans ey.symm)
  · refine ⟨_, List.mem_cons_self, ?_, ?_, ?_⟩
    · exact hE
    · exact hF
    · intro h hq
      simp only [List.mem_cons, List.not_mem_nil, or_false] at hq
      rcases hq with rfl
      refine zq_lf (j := 12) (A := ρ 3) (B := ρ 2 + 1) ?_ (by decide) (by show (1 * ρ 3 + (0) : Int) = ρ 3; omega) (by show (1 * ρ 2 + (1) : Int) = ρ 2 + 1; omega)
      refine ⟨c1.1, c1.2.1, fun v hv hne => zg_blk_cg (c1.2.2.1 v hv hne) (by rw [zq_upE, if_neg (by omega)]) (fun i i1 i2 => by rw [zq_upE, if_neg (by omega)]), fun i hi hb => ?_⟩
      rw [zq_upE, zq_up_g (by decide)]
      split
      · rename_i e
        rw [show i = (ρ 2).toNat by omega]
        exact zi_e (by omega)
      · exact c1.2.2.2 i hi (by omega)
def zh_ku1 : zf_M := (([(0, 7)], [], 64, [], [], [(18, 18, ([], 25), .inl ([(0, 1)], 0)), (1012, 0, ([(0, 1)], 0), .inl ([], 606)), (1000, 0, ([], 1000), .inl ([], 0))]), [], [(some (.inl ([], 1)), ([(0, 7)], [], 64, [], [], [(1003, 0, ([], 1003), .inl ([], 0))]))])
theorem zh_ku1_c : zr_kc 1 zh_ku1 = true := by decide +kernel
theorem zh_ku1_r : zr_KR zh_ku1 := by
  intro ρ F hE hF hh htp
  have b0 : (0 : Int) ≤ ρ 0 ∧ ρ 0 ≤ (7 : Int) := hE 0
  have c0 : (F 18 (25)).toInt = ρ 0 := zq_ce (hh (18, 18, ([], 25), .inl ([(0, 1)], 0)) (by exact List.mem_cons_self)) (by decide) (by show (25 : Int).toNat = 25; omega) (by show (1 * ρ 0 + (0) : Int) = ρ 0; omega)
  have c1 : zf_gP 12 (ρ 0) (606) F := zq_fl (hh (1012, 0, ([(0, 1)], 0), .inl ([], 606)) (by exact List.mem_cons_of_mem _ List.mem_cons_self)) (by decide) (by show (1 * ρ 0 + (0) : Int) = ρ 0; omega) (by show (606 : Int) = 606; omega)
  have c2 : zf_gP 0 (1000) (0) F := zq_fl (hh (1000, 0, ([], 1000), .inl ([], 0)) (by exact List.mem_cons_of_mem _ (List.mem_cons_of_mem _ List.mem_cons_self))) (by decide) (by show (1000 : Int) = 1000; omega) (by show (0 : Int) = 0; omega)
  refine ⟨_, List.mem_cons_self, ?_, ?_, ?_⟩
  · exact hE
  · exact hF
  · intro h hq
    simp only [List.mem_cons, List.not_mem_nil, or_false] at hq
    rcases hq with rfl
    refine zq_lf (j := 3) (A := 1003) (B := 0) ?_ (by decide) (by show (1003 : Int) = 1003; omega) (by show (0 : Int) = 0; omega)
    intro u hu
    by_cases hq : (u : Int) = ρ 0
    · refine zg_blk_sh c2 (fun i hi => ?_)
      rw [show u = (ρ 0).toNat by omega]
      exact c1.2.2.2 i (by omega) (by omega)
    · exact c1.2.2.1 u hu hq
def zh_lk0 : zf_M := (([(1, 8)], [], 64, [], [], [(18, 18, ([], 25), .inl ([(0, 1)], 0)), (1003, 0, ([], 1003), .inl ([], 0))]), [], [(some (.inl ([], 0)), ([(1, 8)], [], 64, [], [], [(1015, 0, ([(0, 1)], (-1)), .inl ([], 0))]))])
theorem zh_lk0_c : zr_kc 0 zh_lk0 = true := by decide +kernel
theorem zh_lk0_r : zr_KR zh_lk0 := by
  intro ρ F hE hF hh htp
  have b0 : (1 : Int) ≤ ρ 0 ∧ ρ 0 ≤ (8 : Int) := hE 0
  have c0 : (F 18 (25)).toInt = ρ 0 := zq_ce (hh (18, 18, ([], 25), .inl ([(0, 1)], 0)) (by exact List.mem_cons_self)) (by decide) (by show (25 : Int).toNat = 25; omega) (by show (1 * ρ 0 + (0) : Int) = ρ 0; omega)
  have c1 : zf_gP 3 (1003) (0) F := zq_fl (hh (1003, 0, ([], 1003), .inl ([], 0)) (by exact List.mem_cons_of_mem _ List.mem_cons_self)) (by decide) (by show (1003 : Int) = 1003; omega) (by show (0 : Int) = 0; omega)
  refine ⟨_, List.mem_cons_self, ?_, ?_, ?_⟩
  · exact hE
  · exact hF
  · intro h hq
    simp only [List.mem_cons, List.not_mem_nil, or_false] at hq
    rcases hq with rfl
    refine zq_lf (j := 15) (A := ρ 0 + (-1)) (B := 0) ?_ (by decide) (by show (1 * ρ 0 + ((-1)) : Int) = ρ 0 + (-1); omega) (by show (0 : Int) = 0; omega)
    exact ⟨by omega, by omega, fun v hv _ => c1 v hv, fun i _ hi => by omega⟩
def zh_lkst : zf_M := (([(0, 4847), ((-2147483648), 2147483647), (0, 605), (1, 8)], [([(0, 1), (2, (-1)), (3, (-606))], 606), ([(0, (-1)), (2, 1), (3, 606)], (-606))], 64, [], [.inl ([(1, 1)], 0), .inl ([(0, 1)], 0), .inr (some (26, 26))], [(18, 18, ([], 25), .inl ([(3, 1)], 0)), (1015, 0, ([(3, 1)], (-1)), .inl ([(2, 1)], 0)), (27, 27, ([(2, 1)], 0), .inl ([(1, 1)], 0)), (1002, 0, ([], 1002), .inl ([], 0))]), [(26, ([(0, 1)], 0), ([(0, 1)], 0))], [(none, ([(0, 4847), ((-2147483648), 2147483647), (0, 604), (1, 8)], [([(0, 1), (2, (-1)), (3, (-606))], 606), ([(0, (-1)), (2, 1), (3, 606)], (-606))], 64, [], [], [(1015, 0, ([(3, 1)], (-1)), .inl ([(2, 1)], 1))])), (none, ([(0, 4847), ((-2147483648), 2147483647), (605, 605), (1, 8)], [([(0, 1), (2, (-1)), (3, (-606))], 606), ([(0, (-1)), (2, 1), (3, 606)], (-606))], 64, [], [], [(1003, 0, ([], 1003), .inl ([], 0))]))])
theorem zh_lkst_c : zr_st 26 ([(0, 1)], 0) zh_lkst = true := by decide +kernel
set_option maxRecDepth 20000 in
theorem zh_lkst_r : zr_SR 26 ([(0, 1)], 0) ([(1, 1)], 0) zh_lkst := by
  intro ρ F y ey hE hF hh htp
  have b0 : (0 : Int) ≤ ρ 0 ∧ ρ 0 ≤ (4847 : Int) := hE 0
  have b1 : ((-2147483648) : Int) ≤ ρ 1 ∧ ρ 1 ≤ (2147483647 : Int) := hE 1
  have b2 : (0 : Int) ≤ ρ 2 ∧ ρ 2 ≤ (605 : Int) := hE 2
  have b3 : (1 : Int) ≤ ρ 3 ∧ ρ 3 ≤ (8 : Int) := hE 3
  have f0 : (0 : Int) ≤ 1 * ρ 0 + ((-1) * ρ 2 + ((-606) * ρ 3 + (606))) := hF ([(0, 1), (2, (-1)), (3, (-606))], 606) (by exact List.mem_cons_self)
  have f1 : (0 : Int) ≤ (-1) * ρ 0 + (1 * ρ 2 + (606 * ρ 3 + ((-606)))) := hF ([(0, (-1)), (2, 1), (3, 606)], (-606)) (by exact List.mem_cons_of_mem _ List.mem_cons_self)
  have c0 : (F 18 (25)).toInt = ρ 3 := zq_ce (hh (18, 18, ([], 25), .inl ([(3, 1)], 0)) (by exact List.mem_cons_self)) (by decide) (by show (25 : Int).toNat = 25; omega) (by show (1 * ρ 3 + (0) : Int) = ρ 3; omega)
  have c1 : zf_gP 15 (ρ 3 + (-1)) (ρ 2) F := zq_fl (hh (1015, 0, ([(3, 1)], (-1)), .inl ([(2, 1)], 0)) (by exact List.mem_cons_of_mem _ List.mem_cons_self)) (by decide) (by show (1 * ρ 3 + ((-1)) : Int) = ρ 3 + (-1); omega) (by show (1 * ρ 2 + (0) : Int) = ρ 2; omega)
  have c2 : (F 27 ((ρ 2).toNat)).toInt = ρ 1 := zq_ce (hh (27, 27, ([(2, 1)], 0), .inl ([(1, 1)], 0)) (by exact List.mem_cons_of_mem _ (List.mem_cons_of_mem _ List.mem_cons_self))) (by decide) (by show (1 * ρ 2 + (0) : Int).toNat = (ρ 2).toNat; omega) (by show (1 * ρ 1 + (0) : Int) = ρ 1; omega)
  have c3 : zf_gP 2 (1002) (0) F := zq_fl (hh (1002, 0, ([], 1002), .inl ([], 0)) (by exact List.mem_cons_of_mem _ (List.mem_cons_of_mem _ (List.mem_cons_of_mem _ List.mem_cons_self)))) (by decide) (by show (1002 : Int) = 1002; omega) (by show (0 : Int) = 0; omega)
  have ey : y.toInt = ρ 1 := ey.trans (by show (1 * ρ 1 + (0) : Int) = ρ 1; omega)
  have hx : (zf_v ρ ([(0, 1)], 0)).toNat = (ρ 0).toNat := (by show (1 * ρ 0 + (0) : Int).toNat = (ρ 0).toNat; omega)
  rw [hx]
  refine ⟨?_, ?_⟩
  · intro q hq
    rw [show (ρ 0).toNat = 606 * (ρ 3 + (-1)).toNat + (ρ 2).toNat by omega] at hq
    exact zs_cp htp (by decide) ((zs_u _ (by omega) _ (by omega)).trans (zs_b _ (by omega)).symm) hq (c2.trans ey.symm)
  · by_cases hs : ρ 2 ≤ 604
    · refine ⟨_, List.mem_cons_self, ?_, ?_, ?_⟩
      · intro x
        match x with
        | 0 => exact ⟨by show (0 : Int) ≤ ρ 0; omega, by show ρ 0 ≤ (4847 : Int); omega⟩
        | 1 => exact ⟨by show ((-2147483648) : Int) ≤ ρ 1; omega, by show ρ 1 ≤ (2147483647 : Int); omega⟩
        | 2 => exact ⟨by show (0 : Int) ≤ ρ 2; omega, by show ρ 2 ≤ (604 : Int); omega⟩
        | 3 => exact ⟨by show (1 : Int) ≤ ρ 3; omega, by show ρ 3 ≤ (8 : Int); omega⟩
        | n + 4 => exact hE (n + 4)
      · exact hF
      · intro h hq
        simp only [List.mem_cons, List.not_mem_nil, or_false] at hq
        rcases hq with rfl
        refine zq_lf (j := 15) (A := ρ 3 + (-1)) (B := ρ 2 + 1) ?_ (by decide) (by show (1 * ρ 3 + ((-1)) : Int) = ρ 3 + (-1); omega) (by show (1 * ρ 2 + (1) : Int) = ρ 2 + 1; omega)
        refine ⟨c1.1, c1.2.1, fun v hv hne => zg_blk_cg (c1.2.2.1 v hv hne) (by rw [zq_upE, if_neg (by omega)]) (fun i i1 i2 => by rw [zq_upE, if_neg (by omega)]), fun i hi hb => ?_⟩
        rw [zq_upE, zq_up_g (by decide)]
        split
        · rename_i e
          rw [show i = (ρ 2).toNat by omega]
          exact zi_e (by omega)
        · exact c1.2.2.2 i hi (by omega)
    · refine ⟨_, List.mem_cons_of_mem _ List.mem_cons_self, ?_, ?_, ?_⟩
      · intro x
        match x with
        | 0 => exact ⟨by show (0 : Int) ≤ ρ 0; omega, by show ρ 0 ≤ (4847 : Int); omega⟩
        | 1 => exact ⟨by show ((-2147483648) : Int) ≤ ρ 1; omega, by show ρ 1 ≤ (2147483647 : Int); omega⟩
        | 2 => exact ⟨by show (605 : Int) ≤ ρ 2; omega, by show ρ 2 ≤ (605 : Int); omega⟩
        | 3 => exact ⟨by show (1 : Int) ≤ ρ 3; omega, by show ρ 3 ≤ (8 : Int); omega⟩
        | n + 4 => exact hE (n + 4)
      · exact hF
      · intro h hq
        simp only [List.mem_cons, List.not_mem_nil, or_false] at hq
        rcases hq with rfl
        refine zq_lf (j := 3) (A := 1003) (B := 0) ?_ (by decide) (by show (1003 : Int) = 1003; omega) (by show (0 : Int) = 0; omega)
        intro u hu
        by_cases hq : (u : Int) = ρ 3 + (-1)
        · refine zg_blk_sh c3 (fun i hi => ?_)
          rw [zq_upE, if_neg (by omega), Nat.zero_add, show u = (ρ 3 + (-1)).toNat by omega]
          exact c1.2.2.2 i (by omega) (by omega)
        · exact zg_blk_cg (c1.2.2.1 u hu hq) (by rw [zq_upE, if_neg (by omega)]) (fun i i1 i2 => by rw [zq_upE, if_neg (by omega)])
def zh_kist0 : zf_M := (([(0, 1747), ((-2147483648), 2147483647), (0, 1)], [([(0, 1), (2, (-874))], 0), ([(0, (-1)), (2, 874)], 0)], 64, [], [.inl ([(1, 1)], 0), .inl ([(0, 1)], 0), .inr (some (33, 33))], [(1025, 0, ([], 1025), .inl ([(2, 1)], 0)), (20, 20, ([], 0), .inl ([(1, 1)], 0)), (1004, 0, ([], 1004), .inl ([], 0))]), [(33, ([(0, 1)], 0), ([(0, 1)], 0))], [(none, ([(0, 1747), ((-2147483648), 2147483647), (0, 1)], [([(0, 1), (2, (-874))], 0), ([(0, (-1)), (2, 874)], 0)], 64, [], [], [(1016, 0, ([(2, 1)], 0), .inl ([], 1))]))])
theorem zh_kist0_c : zr_st 33 ([(0, 1)], 0) zh_kist0 = true := by decide +kernel
set_option maxRecDepth 20000 in
theorem zh_kist0_r : zr_SR 33 ([(0, 1)], 0) ([(1, 1)], 0) zh_kist0 := by
  intro ρ F y ey hE hF hh htp
  have b0 : (0 : Int) ≤ ρ 0 ∧ ρ 0 ≤ (1747 : Int) := hE 0
  have b1 : ((-2147483648) : Int) ≤ ρ 1 ∧ ρ 1 ≤ (2147483647 : Int) := hE 1
  have b2 : (0 : Int) ≤ ρ 2 ∧ ρ 2 ≤ (1 : Int) := hE 2
  have f0 : (0 : Int) ≤ 1 * ρ 0 + ((-874) * ρ 2 + (0)) := hF ([(0, 1), (2, (-874))], 0) (by exact List.mem_cons_self)
  have f1 : (0 : Int) ≤ (-1) * ρ 0 + (874 * ρ 2 + (0)) := hF ([(0, (-1)), (2, 874)], 0) (by exact List.mem_cons_of_mem _ List.mem_cons_self)
  have c0 : zf_gP 25 (1025) (ρ 2) F := zq_fl (hh (1025, 0, ([], 1025), .inl ([(2, 1)], 0)) (by exact List.mem_cons_self)) (by decide) (by show (1025 : Int) = 1025; omega) (by show (1 * ρ 2 + (0) : Int) = ρ 2; omega)
  have c1 : (F 20 (0)).toInt = ρ 1 := zq_ce (hh (20, 20, ([], 0), .inl ([(1, 1)], 0)) (by exact List.mem_cons_of_mem _ List.mem_cons_self)) (by decide) (by show (0 : Int).toNat = 0; omega) (by show (1 * ρ 1 + (0) : Int) = ρ 1; omega)
  have c2 : zf_gP 4 (1004) (0) F := zq_fl (hh (1004, 0, ([], 1004), .inl ([], 0)) (by exact List.mem_cons_of_mem _ (List.mem_cons_of_mem _ List.mem_cons_self))) (by decide) (by show (1004 : Int) = 1004; omega) (by show (0 : Int) = 0; omega)
  have ey : y.toInt = ρ 1 := ey.trans (by show (1 * ρ 1 + (0) : Int) = ρ 1; omega)
  have hx : (zf_v ρ ([(0, 1)], 0)).toNat = (ρ 0).toNat := (by show (1 * ρ 0 + (0) : Int).toNat = (ρ 0).toNat; omega)
  rw [hx]
  refine ⟨?_, ?_⟩
  · intro q hq
    rw [show (ρ 0).toNat = 874 * (ρ 2).toNat + 0 by omega] at hq
    exact zs_cp htp (by decide) (zs_k _ (by omega) 0 (by omega)) hq (c1.trans ey.symm)
  · refine ⟨_, List.mem_cons_self, ?_, ?_, ?_⟩
    · exact hE
    · exact hF
    · intro h hq
      simp only [List.mem_cons, List.not_mem_nil, or_false] at hq
      rcases hq with rfl
      refine zq_lf (j := 16) (A := ρ 2) (B := 1) ?_ (by decide) (by show (1 * ρ 2 + (0) : Int) = ρ 2; omega) (by show (1 : Int) = 1; omega)
      refine ⟨by omega, by omega, fun v hv hne => ⟨zg_blk_cg (c2 v hv).1 (by rw [zq_upE, if_neg (by omega)]) (fun i i1 i2 => by rw [zq_upE, if_neg (by omega)]), zg_cod_cg (c2 v hv).2 (fun i i1 i2 => by rw [zq_upE, if_neg (by omega)])⟩, fun i hi hb => ?_⟩
      rw [zq_upE, zq_up_g (by decide), if_pos (by omega), show i = 0 by omega]
      exact zi_e (by omega)
def zh_kist : zf_M := (([(0, 1747), ((-2147483648), 2147483647), (1, 873), (0, 1)], [([(0, 1), (2, (-1)), (3, (-874))], 0), ([(0, (-1)), (2, 1), (3, 874)], 0)], 64, [], [.inl ([(1, 1)], 0), .inl ([(0, 1)], 0), .inr (some (33, 33))], [(1025, 0, ([], 1025), .inl ([(3, 1)], 0)), (1016, 0, ([(3, 1)], 0), .inl ([(2, 1)], 0)), (20, 20, ([(2, 1)], 0), .inl ([(1, 1)], 0)), (1000, 0, ([], 1000), .inl ([], 0)), (1006, 0, ([], 1006), .inl ([], 0))]), [(33, ([(0, 1)], 0), ([(0, 1)], 0))], [(none, ([(0, 1747), ((-2147483648), 2147483647), (1, 872), (0, 1)], [([(0, 1), (2, (-1)), (3, (-874))], 0), ([(0, (-1)), (2, 1), (3, 874)], 0)], 64, [], [], [(1016, 0, ([(3, 1)], 0), .inl ([(2, 1)], 1))])), (none, ([(0, 1747), ((-2147483648), 2147483647), (873, 873), (0, 1)], [([(0, 1), (2, (-1)), (3, (-874))], 0), ([(0, (-1)), (2, 1), (3, 874)], 0)], 64, [], [], [(1004, 0, ([], 1004), .inl ([], 0))]))])
theorem zh_kist_c : zr_st 33 ([(0, 1)], 0) zh_kist = true := by decide +kernel
set_option maxRecDepth 20000 in
theorem zh_kist_r : zr_SR 33 ([(0, 1)], 0) ([(1, 1)], 0) zh_kist := by
  intro ρ F y ey hE hF hh htp
  have b0 : (0 : Int) ≤ ρ 0 ∧ ρ 0 ≤ (1747 : Int) := hE 0
  have b1 : ((-2147483648) : Int) ≤ ρ 1 ∧ ρ 1 ≤ (2147483647 : Int) := hE 1
  have b2 : (1 : Int) ≤ ρ 2 ∧ ρ 2 ≤ (873 : Int) := hE 2
  have b3 : (0 : Int) ≤ ρ 3 ∧ ρ 3 ≤ (1 : Int) := hE 3
  have f0 : (0 : Int) ≤ 1 * ρ 0 + ((-1) * ρ 2 + ((-874) * ρ 3 + (0))) := hF ([(0, 1), (2, (-1)), (3, (-874))], 0) (by exact List.mem_cons_self)
  have f1 : (0 : Int) ≤ (-1) * ρ 0 + (1 * ρ 2 + (874 * ρ 3 + (0))) := hF ([(0, (-1)), (2, 1), (3, 874)], 0) (by exact List.mem_cons_of_mem _ List.mem_cons_self)
  have c0 : zf_gP 25 (1025) (ρ 3) F := zq_fl (hh (1025, 0, ([], 1025), .inl ([(3, 1)], 0)) (by exact List.mem_cons_self)) (by decide) (by show (1025 : Int) = 1025; omega) (by show (1 * ρ 3 + (0) : Int) = ρ 3; omega)
  have c1 : zf_gP 16 (ρ 3) (ρ 2) F := zq_fl (hh (1016, 0, ([(3, 1)], 0), .inl ([(2, 1)], 0)) (by exact List.mem_cons_of_mem _ List.mem_cons_self)) (by decide) (by show (1 * ρ 3 + (0) : Int) = ρ 3; omega) (by show (1 * ρ 2 + (0) : Int) = ρ 2; omega)
  have c2 : (F 20 ((ρ 2).toNat)).toInt = ρ 1 := zq_ce (hh (20, 20, ([(2, 1)], 0), .inl ([(1, 1)], 0)) (by exact List.mem_cons_of_mem _ (List.mem_cons_of_mem _ List.mem_cons_self))) (by decide) (by show (1 * ρ 2 + (0) : Int).toNat = (ρ 2).toNat; omega) (by show (1 * ρ 1 + (0) : Int) = ρ 1; omega)
  have c3 : zf_gP 0 (1000) (0) F := zq_fl (hh (1000, 0, ([], 1000), .inl ([], 0)) (by exact List.mem_cons_of_mem _ (List.mem_cons_of_mem _ (List.mem_cons_of_mem _ List.mem_cons_self)))) (by decide) (by show (1000 : Int) = 1000; omega) (by show (0 : Int) = 0; omega)
  have c4 : zf_gP 6 (1006) (0) F := zq_fl (hh (1006, 0, ([], 1006), .inl ([], 0)) (by exact List.mem_cons_of_mem _ (List.mem_cons_of_mem _ (List.mem_cons_of_mem _ (List.mem_cons_of_mem _ List.mem_cons_self))))) (by decide) (by show (1006 : Int) = 1006; omega) (by show (0 : Int) = 0; omega)
  have ey : y.toInt = ρ 1 := ey.trans (by show (1 * ρ 1 + (0) : Int) = ρ 1; omega)
  have hx : (zf_v ρ ([(0, 1)], 0)).toNat = (ρ 0).toNat := (by show (1 * ρ 0 + (0) : Int).toNat = (ρ 0).toNat; omega)
  rw [hx]
  refine ⟨?_, ?_⟩
  · intro q hq
    rw [show (ρ 0).toNat = 874 * (ρ 3).toNat + (ρ 2).toNat by omega] at hq
    exact zs_cp htp (by decide) (zs_k _ (by omega) _ (by omega)) hq (c2.trans ey.symm)
  · by_cases hs : ρ 2 ≤ 872
    · refine ⟨_, List.mem_cons_self, ?_, ?_, ?_⟩
      · intro x
        match x with
        | 0 => exact ⟨by show (0 : Int) ≤ ρ 0; omega, by show ρ 0 ≤ (1747 : Int); omega⟩
        | 1 => exact ⟨by show ((-2147483648) : Int) ≤ ρ 1; omega, by show ρ 1 ≤ (2147483647 : Int); omega⟩
        | 2 => exact ⟨by show (1 : Int) ≤ ρ 2; omega, by show ρ 2 ≤ (872 : Int); omega⟩
        | 3 => exact ⟨by show (0 : Int) ≤ ρ 3; omega, by show ρ 3 ≤ (1 : Int); omega⟩
        | n + 4 => exact hE (n + 4)
      · exact hF
      · intro h hq
        simp only [List.mem_cons, List.not_mem_nil, or_false] at hq
        rcases hq with rfl
        refine zq_lf (j := 16) (A := ρ 3) (B := ρ 2 + 1) ?_ (by decide) (by show (1 * ρ 3 + (0) : Int) = ρ 3; omega) (by show (1 * ρ 2 + (1) : Int) = ρ 2 + 1; omega)
        refine ⟨c1.1, c1.2.1, fun v hv hne => ⟨zg_blk_cg (c1.2.2.1 v hv hne).1 (by rw [zq_upE, if_neg (by omega)]) (fun i i1 i2 => by rw [zq_upE, if_neg (by omega)]), zg_cod_cg (c1.2.2.1 v hv hne).2 (fun i i1 i2 => by rw [zq_upE, if_neg (by omega)])⟩, fun i hi hb => ?_⟩
        rw [zq_upE, zq_up_g (by decide)]
        split
        · rename_i e
          rw [show i = (ρ 2).toNat by omega]
          exact zi_e (by omega)
        · exact c1.2.2.2 i hi (by omega)
    · refine ⟨_, List.mem_cons_of_mem _ List.mem_cons_self, ?_, ?_, ?_⟩
      · intro x
        match x with
        | 0 => exact ⟨by show (0 : Int) ≤ ρ 0; omega, by show ρ 0 ≤ (1747 : Int); omega⟩
        | 1 => exact ⟨by show ((-2147483648) : Int) ≤ ρ 1; omega, by show ρ 1 ≤ (2147483647 : Int); omega⟩
        | 2 => exact ⟨by show (873 : Int) ≤ ρ 2; omega, by show ρ 2 ≤ (873 : Int); omega⟩
        | 3 => exact ⟨by show (0 : Int) ≤ ρ 3; omega, by show ρ 3 ≤ (1 : Int); omega⟩
        | n + 4 => exact hE (n + 4)
      · exact hF
      · intro h hq
        simp only [List.mem_cons, List.not_mem_nil, or_false] at hq
        rcases hq with rfl
        refine zq_lf (j := 4) (A := 1004) (B := 0) ?_ (by decide) (by show (1004 : Int) = 1004; omega) (by show (0 : Int) = 0; omega)
        intro u hu
        by_cases hq : (u : Int) = ρ 3
        · have key : ∀ i : Nat, i < 874 → zq_up F 33 (ρ 0).toNat y 33 (874 * u + i) = F 20 i := by
            intro i hi
            rw [zq_upE, show u = (ρ 3).toNat by omega]
            split
            · rw [show i = (ρ 2).toNat by omega]
              exact zi_e (by omega)
            · exact c1.2.2.2 i hi (by omega)
          refine ⟨zg_blk_sh c3 (fun i hi => ?_), zg_cod_sh c4 (fun i hi => ?_)⟩
          · rw [show 874 * u + 87 + i = 874 * u + (87 + i) by omega]
            exact key _ (by omega)
          · rw [show 874 * u + 693 + i = 874 * u + (693 + i) by omega]
            exact key _ (by omega)
        · exact ⟨zg_blk_cg (c1.2.2.1 u hu hq).1 (by rw [zq_upE, if_neg (by omega)]) (fun i i1 i2 => by rw [zq_upE, if_neg (by omega)]), zg_cod_cg (c1.2.2.1 u hu hq).2 (fun i i1 i2 => by rw [zq_upE, if_neg (by omega)])⟩
def zh_rsst0 : zf_M := (([((-2147483648), 2147483647), (0, 1)], [], 64, [], [.inl ([(0, 1)], 0), .inl ([], 0), .inr (some (20, 20))], [(1025, 0, ([], 1025), .inl ([(1, 1)], 0)), (33, 33, ([(1, 874)], 0), .inl ([(0, 1)], 0)), (1004, 0, ([], 1004), .inl ([], 0))]), [(20, ([], 0), ([], 0))], [(none, ([((-2147483648), 2147483647), (0, 1)], [], 64, [], [], [(1017, 0, ([(1, 1)], 0), .inl ([], 1))]))])
theorem zh_rsst0_c : zr_st 20 ([], 0) zh_rsst0 = true := by decide +kernel
set_option maxRecDepth 20000 in
theorem zh_rsst0_r : zr_SR 20 ([], 0) ([(0, 1)], 0) zh_rsst0 := by
  intro ρ F y ey hE hF hh htp
  have b0 : ((-2147483648) : Int) ≤ ρ 0 ∧ ρ 0 ≤ (2147483647 : Int) := hE 0
  have b1 : (0 : Int) ≤ ρ 1 ∧ ρ 1 ≤ (1 : Int) := hE 1
  have c0 : zf_gP 25 (1025) (ρ 1) F := zq_fl (hh (1025, 0, ([], 1025), .inl ([(1, 1)], 0)) (by exact List.mem_cons_self)) (by decide) (by show (1025 : Int) = 1025; omega) (by show (1 * ρ 1 + (0) : Int) = ρ 1; omega)
  have c1 : (F 33 (874 * (ρ 1).toNat)).toInt = ρ 0 := zq_ce (hh (33, 33, ([(1, 874)], 0), .inl ([(0, 1)], 0)) (by exact List.mem_cons_of_mem _ List.mem_cons_self)) (by decide) (by show (874 * ρ 1 + (0) : Int).toNat = 874 * (ρ 1).toNat; omega) (by show (1 * ρ 0 + (0) : Int) = ρ 0; omega)
  have c2 : zf_gP 4 (1004) (0) F := zq_fl (hh (1004, 0, ([], 1004), .inl ([], 0)) (by exact List.mem_cons_of_mem _ (List.mem_cons_of_mem _ List.mem_cons_self))) (by decide) (by show (1004 : Int) = 1004; omega) (by show (0 : Int) = 0; omega)
  have ey : y.toInt = ρ 0 := ey.trans (by show (1 * ρ 0 + (0) : Int) = ρ 0; omega)
  have hx : (zf_v ρ ([], 0)).toNat = 0 := (by show (0 : Int).toNat = 0; omega)
  rw [hx]
  refine ⟨?_, ?_⟩
  · intro q hq
    have hz := zs_k (ρ 1).toNat (by omega) 0 (by omega)
    rw [Nat.add_zero] at hz
    exact zs_cp htp (by decide) hz.symm hq (c1.trans ey.symm)
  · refine ⟨_, List.mem_cons_self, ?_, ?_, ?_⟩
    · exact hE
    · exact hF
    · intro h hq
      simp only [List.mem_cons, List.not_mem_nil, or_false] at hq
      rcases hq with rfl
      refine zq_lf (j := 17) (A := ρ 1) (B := 1) ?_ (by decide) (by show (1 * ρ 1 + (0) : Int) = ρ 1; omega) (by show (1 : Int) = 1; omega)
      refine ⟨by omega, by omega, fun i hi hb => ?_⟩
      rw [zq_upE, zq_up_g (by decide), if_pos (by omega), show 874 * (ρ 1).toNat + i = 874 * (ρ 1).toNat by omega]
      exact zi_e (by omega)
def zh_rsst : zf_M := (([(1, 873), ((-2147483648), 2147483647), (0, 1)], [], 64, [], [.inl ([(1, 1)], 0), .inl ([(0, 1)], 0), .inr (some (20, 20))], [(1025, 0, ([], 1025), .inl ([(2, 1)], 0)), (1017, 0, ([(2, 1)], 0), .inl ([(0, 1)], 0)), (33, 33, ([(0, 1), (2, 874)], 0), .inl ([(1, 1)], 0)), (1004, 0, ([], 1004), .inl ([], 0))]), [(20, ([(0, 1)], 0), ([(0, 1)], 0))], [(none, ([(1, 872), ((-2147483648), 2147483647), (0, 1)], [], 64, [], [], [(1017, 0, ([(2, 1)], 0), .inl ([(0, 1)], 1))])), (none, ([(873, 873), ((-2147483648), 2147483647), (0, 1)], [], 64, [], [], [(1000, 0, ([], 1000), .inl ([], 0)), (1006, 0, ([], 1006), .inl ([], 0))]))])
theorem zh_rsst_c : zr_st 20 ([(0, 1)], 0) zh_rsst = true := by decide +kernel
set_option maxRecDepth 20000 in
theorem zh_rsst_r : zr_SR 20 ([(0, 1)], 0) ([(1, 1)], 0) zh_rsst := by
  intro ρ F y ey hE hF hh htp
  have b0 : (1 : Int) ≤ ρ 0 ∧ ρ 0 ≤ (873 : Int) := hE 0
  have b1 : ((-2147483648) : Int) ≤ ρ 1 ∧ ρ 1 ≤ (2147483647 : Int) := hE 1
  have b2 : (0 : Int) ≤ ρ 2 ∧ ρ 2 ≤ (1 : Int) := hE 2
  have c0 : zf_gP 25 (1025) (ρ 2) F := zq_fl (hh (1025, 0, ([], 1025), .inl ([(2, 1)], 0)) (by exact List.mem_cons_self)) (by decide) (by show (1025 : Int) = 1025; omega) (by show (1 * ρ 2 + (0) : Int) = ρ 2; omega)
  have c1 : zf_gP 17 (ρ 2) (ρ 0) F := zq_fl (hh (1017, 0, ([(2, 1)], 0), .inl ([(0, 1)], 0)) (by exact List.mem_cons_of_mem _ List.mem_cons_self)) (by decide) (by show (1 * ρ 2 + (0) : Int) = ρ 2; omega) (by show (1 * ρ 0 + (0) : Int) = ρ 0; omega)
  have c2 : (F 33 ((ρ 0).toNat + 874 * (ρ 2).toNat)).toInt = ρ 1 := zq_ce (hh (33, 33, ([(0, 1), (2, 874)], 0), .inl ([(1, 1)], 0)) (by exact List.mem_cons_of_mem _ (List.mem_cons_of_mem _ List.mem_cons_self))) (by decide) (by show (1 * ρ 0 + (874 * ρ 2 + (0)) : Int).toNat = (ρ 0).toNat + 874 * (ρ 2).toNat; omega) (by show (1 * ρ 1 + (0) : Int) = ρ 1; omega)
  have c3 : zf_gP 4 (1004) (0) F := zq_fl (hh (1004, 0, ([], 1004), .inl ([], 0)) (by exact List.mem_cons_of_mem _ (List.mem_cons_of_mem _ (List.mem_cons_of_mem _ List.mem_cons_self)))) (by decide) (by show (1004 : Int) = 1004; omega) (by show (0 : Int) = 0; omega)
  have ey : y.toInt = ρ 1 := ey.trans (by show (1 * ρ 1 + (0) : Int) = ρ 1; omega)
  have hx : (zf_v ρ ([(0, 1)], 0)).toNat = (ρ 0).toNat := (by show (1 * ρ 0 + (0) : Int).toNat = (ρ 0).toNat; omega)
  rw [hx]
  refine ⟨?_, ?_⟩
  · intro q hq
    have hz := zs_k (ρ 2).toNat (by omega) (ρ 0).toNat (by omega)
    rw [show 874 * (ρ 2).toNat + (ρ 0).toNat = (ρ 0).toNat + 874 * (ρ 2).toNat by omega] at hz
    exact zs_cp htp (by decide) hz.symm hq (c2.trans ey.symm)
  · by_cases hs : ρ 0 ≤ 872
    · refine ⟨_, List.mem_cons_self, ?_, ?_, ?_⟩
      · intro x
        match x with
        | 0 => exact ⟨by show (1 : Int) ≤ ρ 0; omega, by show ρ 0 ≤ (872 : Int); omega⟩
        | 1 => exact ⟨by show ((-2147483648) : Int) ≤ ρ 1; omega, by show ρ 1 ≤ (2147483647 : Int); omega⟩
        | 2 => exact ⟨by show (0 : Int) ≤ ρ 2; omega, by show ρ 2 ≤ (1 : Int); omega⟩
        | n + 3 => exact hE (n + 3)
      · exact hF
      · intro h hq
        simp only [List.mem_cons, List.not_mem_nil, or_false] at hq
        rcases hq with rfl
        refine zq_lf (j := 17) (A := ρ 2) (B := ρ 0 + 1) ?_ (by decide) (by show (1 * ρ 2 + (0) : Int) = ρ 2; omega) (by show (1 * ρ 0 + (1) : Int) = ρ 0 + 1; omega)
        refine ⟨c1.1, c1.2.1, fun i hi hb => ?_⟩
        rw [zq_upE, zq_up_g (by decide)]
        split
        · rename_i e
          rw [show 874 * (ρ 2).toNat + i = (ρ 0).toNat + 874 * (ρ 2).toNat by omega]
          exact zi_e (by omega)
        · exact c1.2.2 i hi (by omega)
    · refine ⟨_, List.mem_cons_of_mem _ List.mem_cons_self, ?_, ?_, ?_⟩
      · intro x
        match x with
        | 0 => exact ⟨by show (873 : Int) ≤ ρ 0; omega, by show ρ 0 ≤ (873 : Int); omega⟩
        | 1 => exact ⟨by show ((-2147483648) : Int) ≤ ρ 1; omega, by show ρ 1 ≤ (2147483647 : Int); omega⟩
        | 2 => exact ⟨by show (0 : Int) ≤ ρ 2; omega, by show ρ 2 ≤ (1 : Int); omega⟩
        | n + 3 => exact hE (n + 3)
      · exact hF
      · intro h hq
        simp only [List.mem_cons, List.not_mem_nil, or_false] at hq
        rcases hq with rfl | rfl
        · refine zq_lf (j := 0) (A := 1000) (B := 0) ?_ (by decide) (by show (1000 : Int) = 1000; omega) (by show (0 : Int) = 0; omega)
          have key : ∀ i : Nat, i < 874 → zq_up F 20 (ρ 0).toNat y 20 i = F 33 (874 * (ρ 2).toNat + i) := by
            intro i hi
            rw [zq_upE]
            split
            · rw [show 874 * (ρ 2).toNat + i = (ρ 0).toNat + 874 * (ρ 2).toNat by omega]
              exact zi_e (by omega)
            · exact c1.2.2 i hi (by omega)
          refine zg_blk_sh (c3 (ρ 2).toNat (by omega)).1 (fun i hi => ?_)
          rw [key _ (by omega)]
          congr 1
          omega
        · refine zq_lf (j := 6) (A := 1006) (B := 0) ?_ (by decide) (by show (1006 : Int) = 1006; omega) (by show (0 : Int) = 0; omega)
          have key : ∀ i : Nat, i < 874 → zq_up F 20 (ρ 0).toNat y 20 i = F 33 (874 * (ρ 2).toNat + i) := by
            intro i hi
            rw [zq_upE]
            split
            · rw [show 874 * (ρ 2).toNat + i = (ρ 0).toNat + 874 * (ρ 2).toNat by omega]
              exact zi_e (by omega)
            · exact c1.2.2 i hi (by omega)
          refine zg_cod_sh (c3 (ρ 2).toNat (by omega)).2 (fun i hi => ?_)
          rw [key _ (by omega)]
          congr 1
          omega
def zh_ll0 : zf_M := (([], [], 64, [], [], []), [], [(some (.inl ([], 0)), ([], [], 64, [], [], [(1018, 0, ([], 1018), .inl ([], 0))]))])
theorem zh_ll0_c : zr_kc 0 zh_ll0 = true := by decide +kernel
theorem zh_ll0_r : zr_KR zh_ll0 := by
  intro ρ F hE hF hh htp
  refine ⟨_, List.mem_cons_self, ?_, ?_, ?_⟩
  · exact hE
  · exact hF
  · intro h hq
    simp only [List.mem_cons, List.not_mem_nil, or_false] at hq
    rcases hq with rfl
    refine zq_lf (j := 18) (A := 1018) (B := 0) ?_ (by decide) (by show (1018 : Int) = 1018; omega) (by show (0 : Int) = 0; omega)
    intro i hi
    omega
def zh_llA : zf_M := (([(0, 39), (2, 4)], [], 64, [], [], [(18, 18, ([], 34), .inl ([(0, 1)], 0)), (22, 22, ([(0, 4)], 0), .inl ([(1, 1)], 0)), (1018, 0, ([], 1018), .inl ([(0, 1)], 0))]), [], [(some (.inl ([], 1)), ([(0, 39), (2, 4)], [], 64, [], [], [(1018, 0, ([], 1018), .inl ([(0, 1)], 1))]))])
theorem zh_llA_c : zr_kc 1 zh_llA = true := by decide +kernel
theorem zh_llA_r : zr_KR zh_llA := by
  intro ρ F hE hF hh htp
  have b0 : (0 : Int) ≤ ρ 0 ∧ ρ 0 ≤ (39 : Int) := hE 0
  have b1 : (2 : Int) ≤ ρ 1 ∧ ρ 1 ≤ (4 : Int) := hE 1
  have c0 : (F 18 (34)).toInt = ρ 0 := zq_ce (hh (18, 18, ([], 34), .inl ([(0, 1)], 0)) (by exact List.mem_cons_self)) (by decide) (by show (34 : Int).toNat = 34; omega) (by show (1 * ρ 0 + (0) : Int) = ρ 0; omega)
  have c1 : (F 22 (4 * (ρ 0).toNat)).toInt = ρ 1 := zq_ce (hh (22, 22, ([(0, 4)], 0), .inl ([(1, 1)], 0)) (by exact List.mem_cons_of_mem _ List.mem_cons_self)) (by decide) (by show (4 * ρ 0 + (0) : Int).toNat = 4 * (ρ 0).toNat; omega) (by show (1 * ρ 1 + (0) : Int) = ρ 1; omega)
  have c2 : zf_gP 18 (1018) (ρ 0) F := zq_fl (hh (1018, 0, ([], 1018), .inl ([(0, 1)], 0)) (by exact List.mem_cons_of_mem _ (List.mem_cons_of_mem _ List.mem_cons_self))) (by decide) (by show (1018 : Int) = 1018; omega) (by show (1 * ρ 0 + (0) : Int) = ρ 0; omega)
  refine ⟨_, List.mem_cons_self, ?_, ?_, ?_⟩
  · exact hE
  · exact hF
  · intro h hq
    simp only [List.mem_cons, List.not_mem_nil, or_false] at hq
    rcases hq with rfl
    refine zq_lf (j := 18) (A := 1018) (B := ρ 0 + 1) ?_ (by decide) (by show (1018 : Int) = 1018; omega) (by show (1 * ρ 0 + (1) : Int) = ρ 0 + 1; omega)
    intro i hi
    by_cases hq : (i : Int) < ρ 0
    · exact c2 i hq
    · rw [show 4 * i = 4 * (ρ 0).toNat by omega]
      exact ⟨by omega, by omega, fun h => by omega, fun h => by omega⟩
def zh_llB : zf_M := (([(0, 39), (6, 7)], [], 64, [], [], [(18, 18, ([], 34), .inl ([(0, 1)], 0)), (22, 22, ([(0, 4)], 0), .inl ([(1, 1)], 0)), (1018, 0, ([], 1018), .inl ([(0, 1)], 0))]), [], [(some (.inl ([], 1)), ([(0, 39), (6, 7)], [], 64, [], [], [(1018, 0, ([], 1018), .inl ([(0, 1)], 1))]))])
theorem zh_llB_c : zr_kc 1 zh_llB = true := by decide +kernel
theorem zh_llB_r : zr_KR zh_llB := by
  intro ρ F hE hF hh htp
  have b0 : (0 : Int) ≤ ρ 0 ∧ ρ 0 ≤ (39 : Int) := hE 0
  have b1 : (6 : Int) ≤ ρ 1 ∧ ρ 1 ≤ (7 : Int) := hE 1
  have c0 : (F 18 (34)).toInt = ρ 0 := zq_ce (hh (18, 18, ([], 34), .inl ([(0, 1)], 0)) (by exact List.mem_cons_self)) (by decide) (by show (34 : Int).toNat = 34; omega) (by show (1 * ρ 0 + (0) : Int) = ρ 0; omega)
  have c1 : (F 22 (4 * (ρ 0).toNat)).toInt = ρ 1 := zq_ce (hh (22, 22, ([(0, 4)], 0), .inl ([(1, 1)], 0)) (by exact List.mem_cons_of_mem _ List.mem_cons_self)) (by decide) (by show (4 * ρ 0 + (0) : Int).toNat = 4 * (ρ 0).toNat; omega) (by show (1 * ρ 1 + (0) : Int) = ρ 1; omega)
  have c2 : zf_gP 18 (1018) (ρ 0) F := zq_fl (hh (1018, 0, ([], 1018), .inl ([(0, 1)], 0)) (by exact List.mem_cons_of_mem _ (List.mem_cons_of_mem _ List.mem_cons_self))) (by decide) (by show (1018 : Int) = 1018; omega) (by show (1 * ρ 0 + (0) : Int) = ρ 0; omega)
  refine ⟨_, List.mem_cons_self, ?_, ?_, ?_⟩
  · exact hE
  · exact hF
  · intro h hq
    simp only [List.mem_cons, List.not_mem_nil, or_false] at hq
    rcases hq with rfl
    refine zq_lf (j := 18) (A := 1018) (B := ρ 0 + 1) ?_ (by decide) (by show (1018 : Int) = 1018; omega) (by show (1 * ρ 0 + (1) : Int) = ρ 0 + 1; omega)
    intro i hi
    by_cases hq : (i : Int) < ρ 0
    · exact c2 i hq
    · rw [show 4 * i = 4 * (ρ 0).toNat by omega]
      exact ⟨by omega, by omega, fun h => by omega, fun h => by omega⟩
def zh_llC : zf_M := (([(0, 39), (0, 5), (0, 5)], [], 64, [], [], [(18, 18, ([], 34), .inl ([(0, 1)], 0)), (22, 22, ([(0, 4)], 0), .inl ([], 0)), (22, 22, ([(0, 4)], 2), .inl ([(1, 1)], 0)), (22, 22, ([(0, 4)], 3), .inl ([(2, 1)], 0)), (1018, 0, ([], 1018), .inl ([(0, 1)], 0))]), [], [(some (.inl ([], 1)), ([(0, 39), (0, 5), (0, 5)], [], 64, [], [], [(1018, 0, ([], 1018), .inl ([(0, 1)], 1))]))])
theorem zh_llC_c : zr_kc 1 zh_llC = true := by decide +kernel
theorem zh_llC_r : zr_KR zh_llC := by
  intro ρ F hE hF hh htp
  have b0 : (0 : Int) ≤ ρ 0 ∧ ρ 0 ≤ (39 : Int) := hE 0
  have b1 : (0 : Int) ≤ ρ 1 ∧ ρ 1 ≤ (5 : Int) := hE 1
  have b2 : (0 : Int) ≤ ρ 2 ∧ ρ 2 ≤ (5 : Int) := hE 2
  have c0 : (F 18 (34)).toInt = ρ 0 := zq_ce (hh (18, 18, ([], 34), .inl ([(0, 1)], 0)) (by exact List.mem_cons_self)) (by decide) (by show (34 : Int).toNat = 34; omega) (by show (1 * ρ 0 + (0) : Int) = ρ 0; omega)
  have c1 : (F 22 (4 * (ρ 0).toNat)).toInt = 0 := zq_ce (hh (22, 22, ([(0, 4)], 0), .inl ([], 0)) (by exact List.mem_cons_of_mem _ List.mem_cons_self)) (by decide) (by show (4 * ρ 0 + (0) : Int).toNat = 4 * (ρ 0).toNat; omega) (by show (0 : Int) = 0; omega)
  have c2 : (F 22 (4 * (ρ 0).toNat + 2)).toInt = ρ 1 := zq_ce (hh (22, 22, ([(0, 4)], 2), .inl ([(1, 1)], 0)) (by exact List.mem_cons_of_mem _ (List.mem_cons_of_mem _ List.mem_cons_self))) (by decide) (by show (4 * ρ 0 + (2) : Int).toNat = 4 * (ρ 0).toNat + 2; omega) (by show (1 * ρ 1 + (0) : Int) = ρ 1; omega)
  have c3 : (F 22 (4 * (ρ 0).toNat + 3)).toInt = ρ 2 := zq_ce (hh (22, 22, ([(0, 4)], 3), .inl ([(2, 1)], 0)) (by exact List.mem_cons_of_mem _ (List.mem_cons_of_mem _ (List.mem_cons_of_mem _ List.mem_cons_self)))) (by decide) (by show (4 * ρ 0 + (3) : Int).toNat = 4 * (ρ 0).toNat + 3; omega) (by show (1 * ρ 2 + (0) : Int) = ρ 2; omega)
  have c4 : zf_gP 18 (1018) (ρ 0) F := zq_fl (hh (1018, 0, ([], 1018), .inl ([(0, 1)], 0)) (by exact List.mem_cons_of_mem _ (List.mem_cons_of_mem _ (List.mem_cons_of_mem _ (List.mem_cons_of_mem _ List.mem_cons_self))))) (by decide) (by show (1018 : Int) = 1018; omega) (by show (1 * ρ 0 + (0) : Int) = ρ 0; omega)
  refine ⟨_, List.mem_cons_self, ?_, ?_, ?_⟩
  · exact hE
  · exact hF
  · intro h hq
    simp only [List.mem_cons, List.not_mem_nil, or_false] at hq
    rcases hq with rfl
    refine zq_lf (j := 18) (A := 1018) (B := ρ 0 + 1) ?_ (by decide) (by show (1018 : Int) = 1018; omega) (by show (1 * ρ 0 + (1) : Int) = ρ 0 + 1; omega)
    intro i hi
    by_cases hq : (i : Int) < ρ 0
    · exact c4 i hq
    · rw [show 4 * i = 4 * (ρ 0).toNat by omega]
      exact ⟨by omega, by omega, fun h => by omega, fun h => by omega⟩
def zh_llD1 : zf_M := (([(0, 39), (0, 31)], [], 64, [], [], [(18, 18, ([], 34), .inl ([(0, 1)], 0)), (22, 22, ([(0, 4)], 0), .inl ([], 1)), (22, 22, ([(0, 4)], 2), .inl ([(1, 1)], 0)), (1018, 0, ([], 1018), .inl ([(0, 1)], 0))]), [], [(some (.inl ([], 1)), ([(0, 39), (0, 31)], [], 64, [], [], [(1018, 0, ([], 1018), .inl ([(0, 1)], 1))]))])
theorem zh_llD1_c : zr_kc 1 zh_llD1 = true := by decide +kernel
theorem zh_llD1_r : zr_KR zh_llD1 := by
  intro ρ F hE hF hh htp
  have b0 : (0 : Int) ≤ ρ 0 ∧ ρ 0 ≤ (39 : Int) := hE 0
  have b1 : (0 : Int) ≤ ρ 1 ∧ ρ 1 ≤ (31 : Int) := hE 1
  have c0 : (F 18 (34)).toInt = ρ 0 := zq_ce (hh (18, 18, ([], 34), .inl ([(0, 1)], 0)) (by exact List.mem_cons_self)) (by decide) (by show (34 : Int).toNat = 34; omega) (by show (1 * ρ 0 + (0) : Int) = ρ 0; omega)
  have c1 : (F 22 (4 * (ρ 0).toNat)).toInt = 1 := zq_ce (hh (22, 22, ([(0, 4)], 0), .inl ([], 1)) (by exact List.mem_cons_of_mem _ List.mem_cons_self)) (by decide) (by show (4 * ρ 0 + (0) : Int).toNat = 4 * (ρ 0).toNat; omega) (by show (1 : Int) = 1; omega)
  have c2 : (F 22 (4 * (ρ 0).toNat + 2)).toInt = ρ 1 := zq_ce (hh (22, 22, ([(0, 4)], 2), .inl ([(1, 1)], 0)) (by exact List.mem_cons_of_mem _ (List.mem_cons_of_mem _ List.mem_cons_self))) (by decide) (by show (4 * ρ 0 + (2) : Int).toNat = 4 * (ρ 0).toNat + 2; omega) (by show (1 * ρ 1 + (0) : Int) = ρ 1; omega)
  have c3 : zf_gP 18 (1018) (ρ 0) F := zq_fl (hh (1018, 0, ([], 1018), .inl ([(0, 1)], 0)) (by exact List.mem_cons_of_mem _ (List.mem_cons_of_mem _ (List.mem_cons_of_mem _ List.mem_cons_self)))) (by decide) (by show (1018 : Int) = 1018; omega) (by show (1 * ρ 0 + (0) : Int) = ρ 0; omega)
  refine ⟨_, List.mem_cons_self, ?_, ?_, ?_⟩
  · exact hE
  · exact hF
  · intro h hq
    simp only [List.mem_cons, List.not_mem_nil, or_false] at hq
    rcases hq with rfl
    refine zq_lf (j := 18) (A := 1018) (B := ρ 0 + 1) ?_ (by decide) (by show (1018 : Int) = 1018; omega) (by show (1 * ρ 0 + (1) : Int) = ρ 0 + 1; omega)
    intro i hi
    by_cases hq : (i : Int) < ρ 0
    · exact c3 i hq
    · rw [show 4 * i = 4 * (ρ 0).toNat by omega]
      exact ⟨by omega, by omega, fun h => by omega, fun h => by omega⟩
def zh_llD5 : zf_M := (([(0, 39), (0, 31)], [], 64, [], [], [(18, 18, ([], 34), .inl ([(0, 1)], 0)), (22, 22, ([(0, 4)], 0), .inl ([], 5)), (22, 22, ([(0, 4)], 2), .inl ([(1, 1)], 0)), (1018, 0, ([], 1018), .inl ([(0, 1)], 0))]), [], [(some (.inl ([], 1)), ([(0, 39), (0, 31)], [], 64, [], [], [(1018, 0, ([], 1018), .inl ([(0, 1)], 1))]))])
theorem zh_llD5_c : zr_kc 1 zh_llD5 = true := by decide +kernel
theorem zh_llD5_r : zr_KR zh_llD5 := by
  intro ρ F hE hF hh htp
  have b0 : (0 : Int) ≤ ρ 0 ∧ ρ 0 ≤ (39 : Int) := hE 0
  have b1 : (0 : Int) ≤ ρ 1 ∧ ρ 1 ≤ (31 : Int) := hE 1
  have c0 : (F 18 (34)).toInt = ρ 0 := zq_ce (hh (18, 18, ([], 34), .inl ([(0, 1)], 0)) (by exact List.mem_cons_self)) (by decide) (by show (34 : Int).toNat = 34; omega) (by show (1 * ρ 0 + (0) : Int) = ρ 0; omega)
  have c1 : (F 22 (4 * (ρ 0).toNat)).toInt = 5 := zq_ce (hh (22, 22, ([(0, 4)], 0), .inl ([], 5)) (by exact List.mem_cons_of_mem _ List.mem_cons_self)) (by decide) (by show (4 * ρ 0 + (0) : Int).toNat = 4 * (ρ 0).toNat; omega) (by show (5 : Int) = 5; omega)
  have c2 : (F 22 (4 * (ρ 0).toNat + 2)).toInt = ρ 1 := zq_ce (hh (22, 22, ([(0, 4)], 2), .inl ([(1, 1)], 0)) (by exact List.mem_cons_of_mem _ (List.mem_cons_of_mem _ List.mem_cons_self))) (by decide) (by show (4 * ρ 0 + (2) : Int).toNat = 4 * (ρ 0).toNat + 2; omega) (by show (1 * ρ 1 + (0) : Int) = ρ 1; omega)
  have c3 : zf_gP 18 (1018) (ρ 0) F := zq_fl (hh (1018, 0, ([], 1018), .inl ([(0, 1)], 0)) (by exact List.mem_cons_of_mem _ (List.mem_cons_of_mem _ (List.mem_cons_of_mem _ List.mem_cons_self)))) (by decide) (by show (1018 : Int) = 1018; omega) (by show (1 * ρ 0 + (0) : Int) = ρ 0; omega)
  refine ⟨_, List.mem_cons_self, ?_, ?_, ?_⟩
  · exact hE
  · exact hF
  · intro h hq
    simp only [List.mem_cons, List.not_mem_nil, or_false] at hq
    rcases hq with rfl
    refine zq_lf (j := 18) (A := 1018) (B := ρ 0 + 1) ?_ (by decide) (by show (1018 : Int) = 1018; omega) (by show (1 * ρ 0 + (1) : Int) = ρ 0 + 1; omega)
    intro i hi
    by_cases hq : (i : Int) < ρ 0
    · exact c3 i hq
    · rw [show 4 * i = 4 * (ρ 0).toNat by omega]
      exact ⟨by omega, by omega, fun h => by omega, fun h => by omega⟩
def zh_cdleaf : zf_M := (([(0, 134), ((-2147483648), 2147483647), (0, 43), (0, 7), (0, 44)], [([(0, 1), (2, (-3))], (-2)), ([(0, (-1)), (2, 3)], 2)], 64, [], [.inl ([(1, 1)], 0), .inl ([(0, 1)], 0), .inr (some (22, 22))], [(18, 18, ([], 38), .inl ([(2, 1)], 0)), (22, 22, ([(2, 3)], 0), .inl ([(3, 1)], 0)), (1008, 0, ([(2, 1)], 0), .inl ([(4, 1)], 0))]), [(22, ([(0, 1)], 0), ([(0, 1)], 0))], [(none, ([(0, 134), ((-2147483648), 2147483647), (0, 43), (0, 7), (0, 44)], [([(0, 1), (2, (-3))], (-2)), ([(0, (-1)), (2, 3)], 2)], 64, [], [], [(1008, 0, ([(2, 1)], 1), .inl ([(4, 1)], 1))]))])
theorem zh_cdleaf_c : zr_st 22 ([(0, 1)], 0) zh_cdleaf = true := by decide +kernel
set_option maxRecDepth 20000 in
theorem zh_cdleaf_r : zr_SR 22 ([(0, 1)], 0) ([(1, 1)], 0) zh_cdleaf := by
  intro ρ F y ey hE hF hh htp
  have b0 : (0 : Int) ≤ ρ 0 ∧ ρ 0 ≤ (134 : Int) := hE 0
  have b1 : ((-2147483648) : Int) ≤ ρ 1 ∧ ρ 1 ≤ (2147483647 : Int) := hE 1
  have b2 : (0 : Int) ≤ ρ 2 ∧ ρ 2 ≤ (43 : Int) := hE 2
  have b3 : (0 : Int) ≤ ρ 3 ∧ ρ 3 ≤ (7 : Int) := hE 3
  have b4 : (0 : Int) ≤ ρ 4 ∧ ρ 4 ≤ (44 : Int) := hE 4
  have f0 : (0 : Int) ≤ 1 * ρ 0 + ((-3) * ρ 2 + ((-2))) := hF ([(0, 1), (2, (-3))], (-2)) (by exact List.mem_cons_self)
  have f1 : (0 : Int) ≤ (-1) * ρ 0 + (3 * ρ 2 + (2)) := hF ([(0, (-1)), (2, 3)], 2) (by exact List.mem_cons_of_mem _ List.mem_cons_self)
  have c0 : (F 18 (38)).toInt = ρ 2 := zq_ce (hh (18, 18, ([], 38), .inl ([(2, 1)], 0)) (by exact List.mem_cons_self)) (by decide) (by show (38 : Int).toNat = 38; omega) (by show (1 * ρ 2 + (0) : Int) = ρ 2; omega)
  have c1 : (F 22 (3 * (ρ 2).toNat)).toInt = ρ 3 := zq_ce (hh (22, 22, ([(2, 3)], 0), .inl ([(3, 1)], 0)) (by exact List.mem_cons_of_mem _ List.mem_cons_self)) (by decide) (by show (3 * ρ 2 + (0) : Int).toNat = 3 * (ρ 2).toNat; omega) (by show (1 * ρ 3 + (0) : Int) = ρ 3; omega)
  have c2 : zf_gP 8 (ρ 2) (ρ 4) F := zq_fl (hh (1008, 0, ([(2, 1)], 0), .inl ([(4, 1)], 0)) (by exact List.mem_cons_of_mem _ (List.mem_cons_of_mem _ List.mem_cons_self))) (by decide) (by show (1 * ρ 2 + (0) : Int) = ρ 2; omega) (by show (1 * ρ 4 + (0) : Int) = ρ 4; omega)
  have ey : y.toInt = ρ 1 := ey.trans (by show (1 * ρ 1 + (0) : Int) = ρ 1; omega)
  have hx : (zf_v ρ ([(0, 1)], 0)).toNat = (ρ 0).toNat := (by show (1 * ρ 0 + (0) : Int).toNat = (ρ 0).toNat; omega)
  rw [hx]
  obtain ⟨i, n, e1, e2, e3⟩ := c2
  have hle := zg_ht_le e3
  refine ⟨?_, ?_⟩
  · intro q hq
    exact zs_full (zs_r _ (by omega)) hq
  · refine ⟨_, List.mem_cons_self, ?_, ?_, ?_⟩
    · exact hE
    · exact hF
    · intro h hq
      simp only [List.mem_cons, List.not_mem_nil, or_false] at hq
      rcases hq with rfl
      refine zq_lf (j := 8) (A := ρ 2 + 1) (B := ρ 4 + 1) ?_ (by decide) (by show (1 * ρ 2 + (1) : Int) = ρ 2 + 1; omega) (by show (1 * ρ 4 + (1) : Int) = ρ 4 + 1; omega)
      refine ⟨i + 1, n + 1, by omega, by omega, ?_⟩
      unfold zg_ht
      rw [zg_ht_cg (f := zq_up F 22 (ρ 0).toNat y 22) (f' := F 22) (b := 0) (n := i) (fun j hj => by rw [zq_upE, if_neg (by omega)]), e3, zq_upE, if_neg (by omega), show 0 + 3 * i = 3 * (ρ 2).toNat by omega, c1]
      show zg_st n (ρ 3) = _
      unfold zg_st
      rw [if_neg (by omega), if_neg (by omega)]
def zh_cdnot : zf_M := (([(0, 134), ((-2147483648), 2147483647), (0, 43), (20, 20), (1, 45)], [([(0, 1), (2, (-3))], (-2)), ([(0, (-1)), (2, 3)], 2)], 64, [], [.inl ([(1, 1)], 0), .inl ([(0, 1)], 0), .inr (some (22, 22))], [(18, 18, ([], 38), .inl ([(2, 1)], 0)), (22, 22, ([(2, 3)], 0), .inl ([(3, 1)], 0)), (1008, 0, ([(2, 1)], 0), .inl ([(4, 1)], 0))]), [(22, ([(0, 1)], 0), ([(0, 1)], 0))], [(none, ([(0, 134), ((-2147483648), 2147483647), (0, 43), (20, 20), (1, 45)], [([(0, 1), (2, (-3))], (-2)), ([(0, (-1)), (2, 3)], 2)], 64, [], [], [(1008, 0, ([(2, 1)], 1), .inl ([(4, 1)], 0))]))])
theorem zh_cdnot_c : zr_st 22 ([(0, 1)], 0) zh_cdnot = true := by decide +kernel
set_option maxRecDepth 20000 in
theorem zh_cdnot_r : zr_SR 22 ([(0, 1)], 0) ([(1, 1)], 0) zh_cdnot := by
  intro ρ F y ey hE hF hh htp
  have b0 : (0 : Int) ≤ ρ 0 ∧ ρ 0 ≤ (134 : Int) := hE 0
  have b1 : ((-2147483648) : Int) ≤ ρ 1 ∧ ρ 1 ≤ (2147483647 : Int) := hE 1
  have b2 : (0 : Int) ≤ ρ 2 ∧ ρ 2 ≤ (43 : Int) := hE 2
  have b3 : (20 : Int) ≤ ρ 3 ∧ ρ 3 ≤ (20 : Int) := hE 3
  have b4 : (1 : Int) ≤ ρ 4 ∧ ρ 4 ≤ (45 : Int) := hE 4
  have f0 : (0 : Int) ≤ 1 * ρ 0 + ((-3) * ρ 2 + ((-2))) := hF ([(0, 1), (2, (-3))], (-2)) (by exact List.mem_cons_self)
  have f1 : (0 : Int) ≤ (-1) * ρ 0 + (3 * ρ 2 + (2)) := hF ([(0, (-1)), (2, 3)], 2) (by exact List.mem_cons_of_mem _ List.mem_cons_self)
  have c0 : (F 18 (38)).toInt = ρ 2 := zq_ce (hh (18, 18, ([], 38), .inl ([(2, 1)], 0)) (by exact List.mem_cons_self)) (by decide) (by show (38 : Int).toNat = 38; omega) (by show (1 * ρ 2 + (0) : Int) = ρ 2; omega)
  have c1 : (F 22 (3 * (ρ 2).toNat)).toInt = ρ 3 := zq_ce (hh (22, 22, ([(2, 3)], 0), .inl ([(3, 1)], 0)) (by exact List.mem_cons_of_mem _ List.mem_cons_self)) (by decide) (by show (3 * ρ 2 + (0) : Int).toNat = 3 * (ρ 2).toNat; omega) (by show (1 * ρ 3 + (0) : Int) = ρ 3; omega)
  have c2 : zf_gP 8 (ρ 2) (ρ 4) F := zq_fl (hh (1008, 0, ([(2, 1)], 0), .inl ([(4, 1)], 0)) (by exact List.mem_cons_of_mem _ (List.mem_cons_of_mem _ List.mem_cons_self))) (by decide) (by show (1 * ρ 2 + (0) : Int) = ρ 2; omega) (by show (1 * ρ 4 + (0) : Int) = ρ 4; omega)
  have ey : y.toInt = ρ 1 := ey.trans (by show (1 * ρ 1 + (0) : Int) = ρ 1; omega)
  have hx : (zf_v ρ ([(0, 1)], 0)).toNat = (ρ 0).toNat := (by show (1 * ρ 0 + (0) : Int).toNat = (ρ 0).toNat; omega)
  rw [hx]
  obtain ⟨i, n, e1, e2, e3⟩ := c2
  have hle := zg_ht_le e3
  refine ⟨?_, ?_⟩
  · intro q hq
    exact zs_full (zs_r _ (by omega)) hq
  · refine ⟨_, List.mem_cons_self, ?_, ?_, ?_⟩
    · exact hE
    · exact hF
    · intro h hq
      simp only [List.mem_cons, List.not_mem_nil, or_false] at hq
      rcases hq with rfl
      refine zq_lf (j := 8) (A := ρ 2 + 1) (B := ρ 4) ?_ (by decide) (by show (1 * ρ 2 + (1) : Int) = ρ 2 + 1; omega) (by show (1 * ρ 4 + (0) : Int) = ρ 4; omega)
      refine ⟨i + 1, n, by omega, by omega, ?_⟩
      unfold zg_ht
      rw [zg_ht_cg (f := zq_up F 22 (ρ 0).toNat y 22) (f' := F 22) (b := 0) (n := i) (fun j hj => by rw [zq_upE, if_neg (by omega)]), e3, zq_upE, if_neg (by omega), show 0 + 3 * i = 3 * (ρ 2).toNat by omega, c1]
      show zg_st n (ρ 3) = _
      unfold zg_st
      rw [if_pos (by omega), if_pos (by omega)]
def zh_cdop : zf_M := (([(0, 134), ((-2147483648), 2147483647), (0, 43), (21, 22), (2, 45)], [([(0, 1), (2, (-3))], (-2)), ([(0, (-1)), (2, 3)], 2)], 64, [], [.inl ([(1, 1)], 0), .inl ([(0, 1)], 0), .inr (some (22, 22))], [(18, 18, ([], 38), .inl ([(2, 1)], 0)), (22, 22, ([(2, 3)], 0), .inl ([(3, 1)], 0)), (1008, 0, ([(2, 1)], 0), .inl ([(4, 1)], 0))]), [(22, ([(0, 1)], 0), ([(0, 1)], 0))], [(none, ([(0, 134), ((-2147483648), 2147483647), (0, 43), (21, 22), (2, 45)], [([(0, 1), (2, (-3))], (-2)), ([(0, (-1)), (2, 3)], 2)], 64, [], [], [(1008, 0, ([(2, 1)], 1), .inl ([(4, 1)], (-1)))]))])
theorem zh_cdop_c : zr_st 22 ([(0, 1)], 0) zh_cdop = true := by decide +kernel
set_option maxRecDepth 20000 in
theorem zh_cdop_r : zr_SR 22 ([(0, 1)], 0) ([(1, 1)], 0) zh_cdop := by
  intro ρ F y ey hE hF hh htp
  have b0 : (0 : Int) ≤ ρ 0 ∧ ρ 0 ≤ (134 : Int) := hE 0
  have b1 : ((-2147483648) : Int) ≤ ρ 1 ∧ ρ 1 ≤ (2147483647 : Int) := hE 1
  have b2 : (0 : Int) ≤ ρ 2 ∧ ρ 2 ≤ (43 : Int) := hE 2
  have b3 : (21 : Int) ≤ ρ 3 ∧ ρ 3 ≤ (22 : Int) := hE 3
  have b4 : (2 : Int) ≤ ρ 4 ∧ ρ 4 ≤ (45 : Int) := hE 4
  have f0 : (0 : Int) ≤ 1 * ρ 0 + ((-3) * ρ 2 + ((-2))) := hF ([(0, 1), (2, (-3))], (-2)) (by exact List.mem_cons_self)
  have f1 : (0 : Int) ≤ (-1) * ρ 0 + (3 * ρ 2 + (2)) := hF ([(0, (-1)), (2, 3)], 2) (by exact List.mem_cons_of_mem _ List.mem_cons_self)
  have c0 : (F 18 (38)).toInt = ρ 2 := zq_ce (hh (18, 18, ([], 38), .inl ([(2, 1)], 0)) (by exact List.mem_cons_self)) (by decide) (by show (38 : Int).toNat = 38; omega) (by show (1 * ρ 2 + (0) : Int) = ρ 2; omega)
  have c1 : (F 22 (3 * (ρ 2).toNat)).toInt = ρ 3 := zq_ce (hh (22, 22, ([(2, 3)], 0), .inl ([(3, 1)], 0)) (by exact List.mem_cons_of_mem _ List.mem_cons_self)) (by decide) (by show (3 * ρ 2 + (0) : Int).toNat = 3 * (ρ 2).toNat; omega) (by show (1 * ρ 3 + (0) : Int) = ρ 3; omega)
  have c2 : zf_gP 8 (ρ 2) (ρ 4) F := zq_fl (hh (1008, 0, ([(2, 1)], 0), .inl ([(4, 1)], 0)) (by exact List.mem_cons_of_mem _ (List.mem_cons_of_mem _ List.mem_cons_self))) (by decide) (by show (1 * ρ 2 + (0) : Int) = ρ 2; omega) (by show (1 * ρ 4 + (0) : Int) = ρ 4; omega)
  have ey : y.toInt = ρ 1 := ey.trans (by show (1 * ρ 1 + (0) : Int) = ρ 1; omega)
  have hx : (zf_v ρ ([(0, 1)], 0)).toNat = (ρ 0).toNat := (by show (1 * ρ 0 + (0) : Int).toNat = (ρ 0).toNat; omega)
  rw [hx]
  obtain ⟨i, n, e1, e2, e3⟩ := c2
  have hle := zg_ht_le e3
  refine ⟨?_, ?_⟩
  · intro q hq
    exact zs_full (zs_r _ (by omega)) hq
  · refine ⟨_, List.mem_cons_self, ?_, ?_, ?_⟩
    · exact hE
    · exact hF
    · intro h hq
      simp only [List.mem_cons, List.not_mem_nil, or_false] at hq
      rcases hq with rfl
      refine zq_lf (j := 8) (A := ρ 2 + 1) (B := ρ 4 + (-1)) ?_ (by decide) (by show (1 * ρ 2 + (1) : Int) = ρ 2 + 1; omega) (by show (1 * ρ 4 + ((-1)) : Int) = ρ 4 + (-1); omega)
      refine ⟨i + 1, n - 1, by omega, by omega, ?_⟩
      unfold zg_ht
      rw [zg_ht_cg (f := zq_up F 22 (ρ 0).toNat y 22) (f' := F 22) (b := 0) (n := i) (fun j hj => by rw [zq_upE, if_neg (by omega)]), e3, zq_upE, if_neg (by omega), show 0 + 3 * i = 3 * (ρ 2).toNat by omega, c1]
      show zg_st n (ρ 3) = _
      unfold zg_st
      rw [if_neg (by omega), if_pos (by omega), if_pos (by omega)]
def zh_os20 : zf_M := (([(0, 44), (0, 44)], [], 64, [], [.inl ([], 20), .inl ([(0, 1)], 0), .inr (some (31, 31))], [(1009, 0, ([(0, 1)], 0), .inl ([(1, 1)], 0))]), [(31, ([(0, 1)], 0), ([(0, 1)], 0))], [(none, ([(0, 44), (0, 44)], [([(0, 1), (1, (-1))], 1)], 64, [], [], [(1009, 0, ([(0, 1)], 1), .inl ([(1, 1)], 0))]))])
theorem zh_os20_c : zr_st 31 ([(0, 1)], 0) zh_os20 = true := by decide +kernel
set_option maxRecDepth 20000 in
theorem zh_os20_r : zr_SR 31 ([(0, 1)], 0) ([], 20) zh_os20 := by
  intro ρ F y ey hE hF hh htp
  have b0 : (0 : Int) ≤ ρ 0 ∧ ρ 0 ≤ (44 : Int) := hE 0
  have b1 : (0 : Int) ≤ ρ 1 ∧ ρ 1 ≤ (44 : Int) := hE 1
  have c0 : zf_gP 9 (ρ 0) (ρ 1) F := zq_fl (hh (1009, 0, ([(0, 1)], 0), .inl ([(1, 1)], 0)) (by exact List.mem_cons_self)) (by decide) (by show (1 * ρ 0 + (0) : Int) = ρ 0; omega) (by show (1 * ρ 1 + (0) : Int) = ρ 1; omega)
  have ey : y.toInt = 20 := ey.trans (by show (20 : Int) = 20; omega)
  have hx : (zf_v ρ ([(0, 1)], 0)).toNat = (ρ 0).toNat := (by show (1 * ρ 0 + (0) : Int).toNat = (ρ 0).toNat; omega)
  rw [hx]
  obtain ⟨i, n, e1, e2, e3⟩ := c0
  have hle := zg_op_le e3
  refine ⟨?_, ?_⟩
  · intro q hq
    exact zs_full (zs_o _ (by omega)) hq
  · refine ⟨_, List.mem_cons_self, ?_, ?_, ?_⟩
    · exact hE
    · intro g hg
      simp only [List.mem_cons, List.not_mem_nil, or_false] at hg
      rcases hg with rfl
      show (0 : Int) ≤ 1 * ρ 0 + ((-1) * ρ 1 + (1)); omega
    · intro h hq
      simp only [List.mem_cons, List.not_mem_nil, or_false] at hq
      rcases hq with rfl
      refine zq_lf (j := 9) (A := ρ 0 + 1) (B := ρ 1) ?_ (by decide) (by show (1 * ρ 0 + (1) : Int) = ρ 0 + 1; omega) (by show (1 * ρ 1 + (0) : Int) = ρ 1; omega)
      refine ⟨i + 1, n, by omega, by omega, ?_⟩
      unfold zg_op
      rw [zg_op_cg (f := zq_up F 31 (ρ 0).toNat y 31) (f' := F 31) (n := i) (fun j hj => by rw [zq_upE, if_neg (by omega)]), e3, zq_upE, if_pos (by omega)]
      dsimp only
      rw [if_pos (by omega)]
def zh_os21 : zf_M := (([(0, 44), (0, 44)], [], 64, [], [.inl ([], 21), .inl ([(0, 1)], 0), .inr (some (31, 31))], [(1009, 0, ([(0, 1)], 0), .inl ([(1, 1)], 0))]), [(31, ([(0, 1)], 0), ([(0, 1)], 0))], [(none, ([(0, 44), (0, 44)], [([(0, 1), (1, (-1))], 0)], 64, [], [], [(1009, 0, ([(0, 1)], 1), .inl ([(1, 1)], 1))]))])
theorem zh_os21_c : zr_st 31 ([(0, 1)], 0) zh_os21 = true := by decide +kernel
set_option maxRecDepth 20000 in
theorem zh_os21_r : zr_SR 31 ([(0, 1)], 0) ([], 21) zh_os21 := by
  intro ρ F y ey hE hF hh htp
  have b0 : (0 : Int) ≤ ρ 0 ∧ ρ 0 ≤ (44 : Int) := hE 0
  have b1 : (0 : Int) ≤ ρ 1 ∧ ρ 1 ≤ (44 : Int) := hE 1
  have c0 : zf_gP 9 (ρ 0) (ρ 1) F := zq_fl (hh (1009, 0, ([(0, 1)], 0), .inl ([(1, 1)], 0)) (by exact List.mem_cons_self)) (by decide) (by show (1 * ρ 0 + (0) : Int) = ρ 0; omega) (by show (1 * ρ 1 + (0) : Int) = ρ 1; omega)
  have ey : y.toInt = 21 := ey.trans (by show (21 : Int) = 21; omega)
  have hx : (zf_v ρ ([(0, 1)], 0)).toNat = (ρ 0).toNat := (by show (1 * ρ 0 + (0) : Int).toNat = (ρ 0).toNat; omega)
  rw [hx]
  obtain ⟨i, n, e1, e2, e3⟩ := c0
  have hle := zg_op_le e3
  refine ⟨?_, ?_⟩
  · intro q hq
    exact zs_full (zs_o _ (by omega)) hq
  · refine ⟨_, List.mem_cons_self, ?_, ?_, ?_⟩
    · exact hE
    · intro g hg
      simp only [List.mem_cons, List.not_mem_nil, or_false] at hg
      rcases hg with rfl
      show (0 : Int) ≤ 1 * ρ 0 + ((-1) * ρ 1 + (0)); omega
    · intro h hq
      simp only [List.mem_cons, List.not_mem_nil, or_false] at hq
      rcases hq with rfl
      refine zq_lf (j := 9) (A := ρ 0 + 1) (B := ρ 1 + 1) ?_ (by decide) (by show (1 * ρ 0 + (1) : Int) = ρ 0 + 1; omega) (by show (1 * ρ 1 + (1) : Int) = ρ 1 + 1; omega)
      refine ⟨i + 1, n + 1, by omega, by omega, ?_⟩
      unfold zg_op
      rw [zg_op_cg (f := zq_up F 31 (ρ 0).toNat y 31) (f' := F 31) (n := i) (fun j hj => by rw [zq_upE, if_neg (by omega)]), e3, zq_upE, if_pos (by omega)]
      dsimp only
      rw [if_neg (by omega), if_pos (by omega)]
def zh_os22 : zf_M := (([(0, 44), (0, 44)], [], 64, [], [.inl ([], 22), .inl ([(0, 1)], 0), .inr (some (31, 31))], [(1009, 0, ([(0, 1)], 0), .inl ([(1, 1)], 0))]), [(31, ([(0, 1)], 0), ([(0, 1)], 0))], [(none, ([(0, 44), (0, 44)], [([(0, 1), (1, (-1))], 0)], 64, [], [], [(1009, 0, ([(0, 1)], 1), .inl ([(1, 1)], 1))]))])
theorem zh_os22_c : zr_st 31 ([(0, 1)], 0) zh_os22 = true := by decide +kernel
set_option maxRecDepth 20000 in
theorem zh_os22_r : zr_SR 31 ([(0, 1)], 0) ([], 22) zh_os22 := by
  intro ρ F y ey hE hF hh htp
  have b0 : (0 : Int) ≤ ρ 0 ∧ ρ 0 ≤ (44 : Int) := hE 0
  have b1 : (0 : Int) ≤ ρ 1 ∧ ρ 1 ≤ (44 : Int) := hE 1
  have c0 : zf_gP 9 (ρ 0) (ρ 1) F := zq_fl (hh (1009, 0, ([(0, 1)], 0), .inl ([(1, 1)], 0)) (by exact List.mem_cons_self)) (by decide) (by show (1 * ρ 0 + (0) : Int) = ρ 0; omega) (by show (1 * ρ 1 + (0) : Int) = ρ 1; omega)
  have ey : y.toInt = 22 := ey.trans (by show (22 : Int) = 22; omega)
  have hx : (zf_v ρ ([(0, 1)], 0)).toNat = (ρ 0).toNat := (by show (1 * ρ 0 + (0) : Int).toNat = (ρ 0).toNat; omega)
  rw [hx]
  obtain ⟨i, n, e1, e2, e3⟩ := c0
  have hle := zg_op_le e3
  refine ⟨?_, ?_⟩
  · intro q hq
    exact zs_full (zs_o _ (by omega)) hq
  · refine ⟨_, List.mem_cons_self, ?_, ?_, ?_⟩
    · exact hE
    · intro g hg
      simp only [List.mem_cons, List.not_mem_nil, or_false] at hg
      rcases hg with rfl
      show (0 : Int) ≤ 1 * ρ 0 + ((-1) * ρ 1 + (0)); omega
    · intro h hq
      simp only [List.mem_cons, List.not_mem_nil, or_false] at hq
      rcases hq with rfl
      refine zq_lf (j := 9) (A := ρ 0 + 1) (B := ρ 1 + 1) ?_ (by decide) (by show (1 * ρ 0 + (1) : Int) = ρ 0 + 1; omega) (by show (1 * ρ 1 + (1) : Int) = ρ 1 + 1; omega)
      refine ⟨i + 1, n + 1, by omega, by omega, ?_⟩
      unfold zg_op
      rw [zg_op_cg (f := zq_up F 31 (ρ 0).toNat y 31) (f' := F 31) (n := i) (fun j hj => by rw [zq_upE, if_neg (by omega)]), e3, zq_upE, if_pos (by omega)]
      dsimp only
      rw [if_neg (by omega), if_pos (by omega)]
def zh_os23 : zf_M := (([(0, 44), (0, 44)], [], 64, [], [.inl ([], 23), .inl ([(0, 1)], 0), .inr (some (31, 31))], [(1009, 0, ([(0, 1)], 0), .inl ([(1, 1)], 0))]), [(31, ([(0, 1)], 0), ([(0, 1)], 0))], [(none, ([(0, 44), (0, 44)], [([(0, 1), (1, (-1))], 1)], 64, [], [], [(1009, 0, ([(0, 1)], 1), .inl ([(1, 1)], 0))]))])
theorem zh_os23_c : zr_st 31 ([(0, 1)], 0) zh_os23 = true := by decide +kernel
set_option maxRecDepth 20000 in
theorem zh_os23_r : zr_SR 31 ([(0, 1)], 0) ([], 23) zh_os23 := by
  intro ρ F y ey hE hF hh htp
  have b0 : (0 : Int) ≤ ρ 0 ∧ ρ 0 ≤ (44 : Int) := hE 0
  have b1 : (0 : Int) ≤ ρ 1 ∧ ρ 1 ≤ (44 : Int) := hE 1
  have c0 : zf_gP 9 (ρ 0) (ρ 1) F := zq_fl (hh (1009, 0, ([(0, 1)], 0), .inl ([(1, 1)], 0)) (by exact List.mem_cons_self)) (by decide) (by show (1 * ρ 0 + (0) : Int) = ρ 0; omega) (by show (1 * ρ 1 + (0) : Int) = ρ 1; omega)
  have ey : y.toInt = 23 := ey.trans (by show (23 : Int) = 23; omega)
  have hx : (zf_v ρ ([(0, 1)], 0)).toNat = (ρ 0).toNat := (by show (1 * ρ 0 + (0) : Int).toNat = (ρ 0).toNat; omega)
  rw [hx]
  obtain ⟨i, n, e1, e2, e3⟩ := c0
  have hle := zg_op_le e3
  refine ⟨?_, ?_⟩
  · intro q hq
    exact zs_full (zs_o _ (by omega)) hq
  · refine ⟨_, List.mem_cons_self, ?_, ?_, ?_⟩
    · exact hE
    · intro g hg
      simp only [List.mem_cons, List.not_mem_nil, or_false] at hg
      rcases hg with rfl
      show (0 : Int) ≤ 1 * ρ 0 + ((-1) * ρ 1 + (1)); omega
    · intro h hq
      simp only [List.mem_cons, List.not_mem_nil, or_false] at hq
      rcases hq with rfl
      refine zq_lf (j := 9) (A := ρ 0 + 1) (B := ρ 1) ?_ (by decide) (by show (1 * ρ 0 + (1) : Int) = ρ 0 + 1; omega) (by show (1 * ρ 1 + (0) : Int) = ρ 1; omega)
      refine ⟨i + 1, n, by omega, by omega, ?_⟩
      unfold zg_op
      rw [zg_op_cg (f := zq_up F 31 (ρ 0).toNat y 31) (f' := F 31) (n := i) (fun j hj => by rw [zq_upE, if_neg (by omega)]), e3, zq_upE, if_pos (by omega)]
      dsimp only
      rw [if_pos (by omega)]
def zh_csst : zf_M := (([(0, 44)], [], 64, [], [.inl ([(0, 1)], 0), .inl ([], 693), .inr (some (20, 20))], []), [(20, ([], 693), ([], 693))], [(none, ([(0, 0)], [], 64, [], [], [(20, 20, ([], 693), .inl ([(0, 1)], 0)), (1006, 0, ([], 1006), .inl ([], 0))])), (none, ([(1, 44)], [], 64, [], [], [(20, 20, ([], 693), .inl ([(0, 1)], 0)), (1023, 0, ([], 1023), .inl ([], 0))]))])
theorem zh_csst_c : zr_st 20 ([], 693) zh_csst = true := by decide +kernel
set_option maxRecDepth 20000 in
theorem zh_csst_r : zr_SR 20 ([], 693) ([(0, 1)], 0) zh_csst := by
  intro ρ F y ey hE hF hh htp
  have b0 : (0 : Int) ≤ ρ 0 ∧ ρ 0 ≤ (44 : Int) := hE 0
  have ey : y.toInt = ρ 0 := ey.trans (by show (1 * ρ 0 + (0) : Int) = ρ 0; omega)
  have hx : (zf_v ρ ([], 693)).toNat = 693 := (by show (693 : Int).toNat = 693; omega)
  rw [hx]
  refine ⟨?_, ?_⟩
  · intro q hq
    exact zs_in zs_693 hq (by omega) (by omega)
  · by_cases hs : ρ 0 ≤ 0
    · refine ⟨_, List.mem_cons_self, ?_, ?_, ?_⟩
      · intro x
        match x with
        | 0 => exact ⟨by show (0 : Int) ≤ ρ 0; omega, by show ρ 0 ≤ (0 : Int); omega⟩
        | n + 1 => exact hE (n + 1)
      · exact hF
      · intro h hq
        simp only [List.mem_cons, List.not_mem_nil, or_false] at hq
        rcases hq with rfl | rfl
        · refine zq_ec (g := 20) (I := 693) (V := ρ 0) ?_ (by show (0 : Int) ≤ 693; omega) (by decide) (by show (693 : Int).toNat = 693; omega) (by show (1 * ρ 0 + (0) : Int) = ρ 0; omega)
          rw [zq_up_s]
          exact ey
        · refine zq_lf (j := 6) (A := 1006) (B := 0) ?_ (by decide) (by show (1006 : Int) = 1006; omega) (by show (0 : Int) = 0; omega)
          show zg_cod (zq_up F 20 693 y 20) 693
          unfold zg_cod
          rw [zq_up_s, zi_0 (y := y) (by omega)]
          exact ⟨by decide, by decide, 0, rfl⟩
    · refine ⟨_, List.mem_cons_of_mem _ List.mem_cons_self, ?_, ?_, ?_⟩
      · intro x
        match x with
        | 0 => exact ⟨by show (1 : Int) ≤ ρ 0; omega, by show ρ 0 ≤ (44 : Int); omega⟩
        | n + 1 => exact hE (n + 1)
      · exact hF
      · intro h hq
        simp only [List.mem_cons, List.not_mem_nil, or_false] at hq
        rcases hq with rfl | rfl
        · refine zq_ec (g := 20) (I := 693) (V := ρ 0) ?_ (by show (0 : Int) ≤ 693; omega) (by decide) (by show (693 : Int).toNat = 693; omega) (by show (1 * ρ 0 + (0) : Int) = ρ 0; omega)
          rw [zq_up_s]
          exact ey
        · refine zq_lf (j := 23) (A := 1023) (B := 0) ?_ (by decide) (by show (1023 : Int) = 1023; omega) (by show (0 : Int) = 0; omega)
          intro i hi
          omega
def zh_ccst : zf_M := (([(0, 131), ((-2147483648), 2147483647), (1, 44), (0, 44)], [([(0, (-1)), (2, 3)], (-1))], 64, [], [.inl ([(1, 1)], 0), .inl ([(0, 1)], 694), .inr (some (20, 20))], [(18, 18, ([], 38), .inl ([(2, 1)], 0)), (20, 20, ([], 693), .inl ([(2, 1)], 0)), (22, 22, ([(0, 1)], 0), .inl ([(1, 1)], 0)), (1023, 0, ([], 1023), .inl ([(0, 1)], 0)), (1008, 0, ([(2, 1)], 0), .inl ([(3, 1)], 0))]), [(20, ([(0, 1)], 694), ([(0, 1)], 694))], [(none, ([(0, 131), ((-2147483648), 2147483647), (1, 44), (0, 44)], [([(0, (-1)), (2, 3)], (-2))], 64, [], [], [(1023, 0, ([], 1023), .inl ([(0, 1)], 1))])), (none, ([(0, 131), ((-2147483648), 2147483647), (1, 44), (0, 44)], [([(0, (-1)), (2, 3)], (-1)), ([(0, 1), (2, (-3))], 1)], 64, [], [], [(1006, 0, ([], 1006), .inl ([], 0))]))])
theorem zh_ccst_c : zr_st 20 ([(0, 1)], 694) zh_ccst = true := by decide +kernel
set_option maxRecDepth 20000 in
theorem zh_ccst_r : zr_SR 20 ([(0, 1)], 694) ([(1, 1)], 0) zh_ccst := by
  intro ρ F y ey hE hF hh htp
  have b0 : (0 : Int) ≤ ρ 0 ∧ ρ 0 ≤ (131 : Int) := hE 0
  have b1 : ((-2147483648) : Int) ≤ ρ 1 ∧ ρ 1 ≤ (2147483647 : Int) := hE 1
  have b2 : (1 : Int) ≤ ρ 2 ∧ ρ 2 ≤ (44 : Int) := hE 2
  have b3 : (0 : Int) ≤ ρ 3 ∧ ρ 3 ≤ (44 : Int) := hE 3
  have f0 : (0 : Int) ≤ (-1) * ρ 0 + (3 * ρ 2 + ((-1))) := hF ([(0, (-1)), (2, 3)], (-1)) (by exact List.mem_cons_self)
  have c0 : (F 18 (38)).toInt = ρ 2 := zq_ce (hh (18, 18, ([], 38), .inl ([(2, 1)], 0)) (by exact List.mem_cons_self)) (by decide) (by show (38 : Int).toNat = 38; omega) (by show (1 * ρ 2 + (0) : Int) = ρ 2; omega)
  have c1 : (F 20 (693)).toInt = ρ 2 := zq_ce (hh (20, 20, ([], 693), .inl ([(2, 1)], 0)) (by exact List.mem_cons_of_mem _ List.mem_cons_self)) (by decide) (by show (693 : Int).toNat = 693; omega) (by show (1 * ρ 2 + (0) : Int) = ρ 2; omega)
  have c2 : (F 22 ((ρ 0).toNat)).toInt = ρ 1 := zq_ce (hh (22, 22, ([(0, 1)], 0), .inl ([(1, 1)], 0)) (by exact List.mem_cons_of_mem _ (List.mem_cons_of_mem _ List.mem_cons_self))) (by decide) (by show (1 * ρ 0 + (0) : Int).toNat = (ρ 0).toNat; omega) (by show (1 * ρ 1 + (0) : Int) = ρ 1; omega)
  have c3 : zf_gP 23 (1023) (ρ 0) F := zq_fl (hh (1023, 0, ([], 1023), .inl ([(0, 1)], 0)) (by exact List.mem_cons_of_mem _ (List.mem_cons_of_mem _ (List.mem_cons_of_mem _ List.mem_cons_self)))) (by decide) (by show (1023 : Int) = 1023; omega) (by show (1 * ρ 0 + (0) : Int) = ρ 0; omega)
  have c4 : zf_gP 8 (ρ 2) (ρ 3) F := zq_fl (hh (1008, 0, ([(2, 1)], 0), .inl ([(3, 1)], 0)) (by exact List.mem_cons_of_mem _ (List.mem_cons_of_mem _ (List.mem_cons_of_mem _ (List.mem_cons_of_mem _ List.mem_cons_self))))) (by decide) (by show (1 * ρ 2 + (0) : Int) = ρ 2; omega) (by show (1 * ρ 3 + (0) : Int) = ρ 3; omega)
  have ey : y.toInt = ρ 1 := ey.trans (by show (1 * ρ 1 + (0) : Int) = ρ 1; omega)
  have hx : (zf_v ρ ([(0, 1)], 694)).toNat = 694 + (ρ 0).toNat := (by show (1 * ρ 0 + (694) : Int).toNat = 694 + (ρ 0).toNat; omega)
  rw [hx]
  refine ⟨?_, ?_⟩
  · intro q hq
    exact zs_full (zs_cds _ (by omega)) hq
  · by_cases hs : ρ 0 + 2 ≤ 3 * ρ 2
    · refine ⟨_, List.mem_cons_self, ?_, ?_, ?_⟩
      · exact hE
      · intro g hg
        simp only [List.mem_cons, List.not_mem_nil, or_false] at hg
        rcases hg with rfl
        show (0 : Int) ≤ (-1) * ρ 0 + (3 * ρ 2 + ((-2))); omega
      · intro h hq
        simp only [List.mem_cons, List.not_mem_nil, or_false] at hq
        rcases hq with rfl
        refine zq_lf (j := 23) (A := 1023) (B := ρ 0 + 1) ?_ (by decide) (by show (1023 : Int) = 1023; omega) (by show (1 * ρ 0 + (1) : Int) = ρ 0 + 1; omega)
        intro i hi
        rw [zq_upE, zq_up_g (by decide)]
        split
        · rename_i e
          rw [show i = (ρ 0).toNat by omega]
          exact zi_e (by omega)
        · exact c3 i (by omega)
    · refine ⟨_, List.mem_cons_of_mem _ List.mem_cons_self, ?_, ?_, ?_⟩
      · exact hE
      · intro g hg
        simp only [List.mem_cons, List.not_mem_nil, or_false] at hg
        rcases hg with rfl | rfl
        · show (0 : Int) ≤ (-1) * ρ 0 + (3 * ρ 2 + ((-1))); omega
        · show (0 : Int) ≤ 1 * ρ 0 + ((-3) * ρ 2 + (1)); omega
      · intro h hq
        simp only [List.mem_cons, List.not_mem_nil, or_false] at hq
        rcases hq with rfl
        refine zq_lf (j := 6) (A := 1006) (B := 0) ?_ (by decide) (by show (1006 : Int) = 1006; omega) (by show (0 : Int) = 0; omega)
        obtain ⟨i, n, e1, e2, e3⟩ := c4
        show zg_cod (zq_up F 20 (694 + (ρ 0).toNat) y 20) 693
        unfold zg_cod
        rw [zq_upE, if_neg (by omega), c1]
        refine ⟨by omega, by omega, n, ?_⟩
        rw [← e3, show (ρ 2).toNat = i by omega]
        refine zg_ht_sh (fun j hj => ?_)
        rw [zq_upE, Nat.zero_add]
        split
        · rename_i e
          rw [show 3 * j = (ρ 0).toNat by omega]
          exact zi_e (by omega)
        · exact c3 (3 * j) (by omega)
def zh_rv0 : zf_M := (([], [], 64, [], [], []), [], [(some (.inl ([], 0)), ([], [], 64, [], [], [(1008, 0, ([], 0), .inl ([], 0))]))])
theorem zh_rv0_c : zr_kc 0 zh_rv0 = true := by decide +kernel
theorem zh_rv0_r : zr_KR zh_rv0 := by
  intro ρ F hE hF hh htp
  refine ⟨_, List.mem_cons_self, ?_, ?_, ?_⟩
  · exact hE
  · exact hF
  · intro h hq
    simp only [List.mem_cons, List.not_mem_nil, or_false] at hq
    rcases hq with rfl
    refine zq_lf (j := 8) (A := 0) (B := 0) ?_ (by decide) (by show (0 : Int) = 0; omega) (by show (0 : Int) = 0; omega)
    exact ⟨0, 0, rfl, rfl, rfl⟩
def zh_os0 : zf_M := (([], [], 64, [], [], []), [], [(some (.inl ([], 0)), ([], [], 64, [], [], [(1009, 0, ([], 0), .inl ([], 0))]))])
theorem zh_os0_c : zr_kc 0 zh_os0 = true := by decide +kernel
theorem zh_os0_r : zr_KR zh_os0 := by
  intro ρ F hE hF hh htp
  refine ⟨_, List.mem_cons_self, ?_, ?_, ?_⟩
  · exact hE
  · exact hF
  · intro h hq
    simp only [List.mem_cons, List.not_mem_nil, or_false] at hq
    rcases hq with rfl
    refine zq_lf (j := 9) (A := 0) (B := 0) ?_ (by decide) (by show (0 : Int) = 0; omega) (by show (0 : Int) = 0; omega)
    exact ⟨0, 0, rfl, rfl, rfl⟩
def zh_hs0 : zf_M := (([], [], 64, [], [], [(1006, 0, ([], 1006), .inl ([], 0))]), [], [(some (.inl ([], 0)), ([], [], 64, [], [], [(1007, 0, ([], 0), .inl ([], 0))]))])
theorem zh_hs0_c : zr_kc 0 zh_hs0 = true := by decide +kernel
theorem zh_hs0_r : zr_KR zh_hs0 := by
  intro ρ F hE hF hh htp
  have c0 : zf_gP 6 (1006) (0) F := zq_fl (hh (1006, 0, ([], 1006), .inl ([], 0)) (by exact List.mem_cons_self)) (by decide) (by show (1006 : Int) = 1006; omega) (by show (0 : Int) = 0; omega)
  refine ⟨_, List.mem_cons_self, ?_, ?_, ?_⟩
  · exact hE
  · exact hF
  · intro h hq
    simp only [List.mem_cons, List.not_mem_nil, or_false] at hq
    rcases hq with rfl
    refine zq_lf (j := 7) (A := 0) (B := 0) ?_ (by decide) (by show (0 : Int) = 0; omega) (by show (0 : Int) = 0; omega)
    exact ⟨0, 0, rfl, rfl, by omega, rfl, c0⟩
