theorem zi_and255 : ∀ n : Fin 256, (((Int32.ofInt ((n : Int) - 128)) &&& 255).toInt = if 128 ≤ (n : Nat) then (n : Int) - 128 else (n : Int) + 128) := by decide +kernel
theorem zi_n255 {x : Int32} (h1 : 0 ≤ x.toInt) (h2 : x.toInt ≤ 127) : (x &&& 255).toInt = x.toInt := by
  have h := zi_and255 ⟨(x.toInt + 128).toNat, by omega⟩
  dsimp only at h
  rw [if_pos (by omega), show (((x.toInt + 128).toNat : Nat) : Int) - 128 = x.toInt by omega, Int32.ofInt_toInt] at h
  exact h
theorem zi_m255 {x : Int32} (h1 : -128 ≤ x.toInt) (h2 : x.toInt < 0) : (x &&& 255).toInt = x.toInt + 256 := by
  have h := zi_and255 ⟨(x.toInt + 128).toNat, by omega⟩
  dsimp only at h
  rw [if_neg (by omega), show (((x.toInt + 128).toNat : Nat) : Int) - 128 = x.toInt by omega, Int32.ofInt_toInt] at h
  omega
def zh_s1ld : zf_M := (([(0, 15), (0, 16)], [([(0, (-1)), (1, 1)], (-1))], 64, [], [.inl ([(0, 1)], 19), .inr (some (20, 20))], [(1021, 0, ([], 1021), .inl ([(1, 1)], 0))]), [], [(some (.inl ([(2, 1)], 0)), ([(0, 15), (0, 16), (1, 12)], [([(0, (-1)), (1, 1)], (-1))], 64, [], [], [(20, 20, ([(0, 1)], 19), .inl ([(2, 1)], 0))]))])
theorem zh_s1ld_c : zr_ld 20 ([(0, 1)], 19) zh_s1ld = true := by decide +kernel
set_option maxRecDepth 20000 in
theorem zh_s1ld_r : zr_LR 20 ([(0, 1)], 19) zh_s1ld := by
  intro ρ F hE hF hh htp
  have b0 : (0 : Int) ≤ ρ 0 ∧ ρ 0 ≤ (15 : Int) := hE 0
  have b1 : (0 : Int) ≤ ρ 1 ∧ ρ 1 ≤ (16 : Int) := hE 1
  have f0 : (0 : Int) ≤ (-1) * ρ 0 + (1 * ρ 1 + ((-1))) := hF ([(0, (-1)), (1, 1)], (-1)) (by exact List.mem_cons_self)
  have c0 : zf_gP 21 (1021) (ρ 1) F := zq_fl (hh (1021, 0, ([], 1021), .inl ([(1, 1)], 0)) (by exact List.mem_cons_self)) (by decide) (by show (1021 : Int) = 1021; omega) (by show (1 * ρ 1 + (0) : Int) = ρ 1; omega)
  have h1 : 1 ≤ (F 20 (19 + (ρ 0).toNat)).toInt := c0 (ρ 0).toNat (by omega)
  have h2 := htp 20 (19 + (ρ 0).toNat) _ (by decide) (zs_len _ (by omega))
  dsimp only at h2
  refine ⟨_, List.mem_cons_self, (zf_up ρ 2 (F 20 (19 + (ρ 0).toNat)).toInt), fun j hj => if_neg (Nat.ne_of_lt hj), ?_, ?_, ?_, ([(2, 1)], 0), rfl, ?_⟩
  · exact by
      intro x
      match x with
      | 0 => exact ⟨by show (0 : Int) ≤ ρ 0; omega, by show ρ 0 ≤ (15 : Int); omega⟩
      | 1 => exact ⟨by show (0 : Int) ≤ ρ 1; omega, by show ρ 1 ≤ (16 : Int); omega⟩
      | 2 => exact ⟨by show (1 : Int) ≤ (F 20 (19 + (ρ 0).toNat)).toInt; omega, by show (F 20 (19 + (ρ 0).toNat)).toInt ≤ (12 : Int); omega⟩
      | n + 3 => exact hE (n + 3)
  · exact by
      intro g hg
      simp only [List.mem_cons, List.not_mem_nil, or_false] at hg
      rcases hg with rfl
      show (0 : Int) ≤ (-1) * ρ 0 + (1 * ρ 1 + ((-1))); omega
  · intro h hq
    simp only [List.mem_cons, List.not_mem_nil, or_false] at hq
    rcases hq with rfl
    exact zq_ec (g := 20) (I := 19 + (ρ 0).toNat) (V := (F 20 (19 + (ρ 0).toNat)).toInt) rfl (by show (0 : Int) ≤ 1 * ρ 0 + 19; omega) (by decide) (by show (1 * ρ 0 + 19 : Int).toNat = _; omega) (by show (1 * (F 20 (19 + (ρ 0).toNat)).toInt + 0 : Int) = _; omega)
  · show (F 20 (zf_v ρ ([(0, 1)], 19)).toNat).toInt = 1 * (F 20 (19 + (ρ 0).toNat)).toInt + 0
    rw [show (zf_v ρ ([(0, 1)], 19)).toNat = 19 + (ρ 0).toNat from (by show (1 * ρ 0 + 19 : Int).toNat = _; omega)]
    omega
def zh_isld : zf_M := (([(0, 15), (0, 16)], [([(0, (-1)), (1, 1)], (-1))], 64, [], [.inl ([(0, 1)], 91), .inr (some (20, 20))], [(20, 20, ([], 87), .inl ([(1, 1)], 0)), (1000, 0, ([], 1000), .inl ([], 0))]), [], [(some (.inl ([(2, 1)], 0)), ([(0, 15), (0, 16), ((-2147483648), (-1))], [([(0, (-1)), (1, 1)], (-1))], 64, [], [], [(20, 20, ([(0, 1)], 91), .inl ([(2, 1)], 0))])), (some (.inl ([(2, 1)], 0)), ([(0, 15), (0, 16), (0, 2147483647), (1, 32)], [([(0, (-1)), (1, 1)], (-1))], 64, [], [], [(20, 20, ([(0, 1)], 91), .inl ([(2, 1)], 0)), (20, 20, ([(0, 1)], 107), .inl ([(3, 1)], 0))]))])
theorem zh_isld_c : zr_ld 20 ([(0, 1)], 91) zh_isld = true := by decide +kernel
set_option maxRecDepth 20000 in
theorem zh_isld_r : zr_LR 20 ([(0, 1)], 91) zh_isld := by
  intro ρ F hE hF hh htp
  have b0 : (0 : Int) ≤ ρ 0 ∧ ρ 0 ≤ (15 : Int) := hE 0
  have b1 : (0 : Int) ≤ ρ 1 ∧ ρ 1 ≤ (16 : Int) := hE 1
  have f0 : (0 : Int) ≤ (-1) * ρ 0 + (1 * ρ 1 + ((-1))) := hF ([(0, (-1)), (1, 1)], (-1)) (by exact List.mem_cons_self)
  have c0 : (F 20 (87)).toInt = ρ 1 := zq_ce (hh (20, 20, ([], 87), .inl ([(1, 1)], 0)) (by exact List.mem_cons_self)) (by decide) (by show (87 : Int).toNat = 87; omega) (by show (1 * ρ 1 + (0) : Int) = ρ 1; omega)
  have c1 : zf_gP 0 (1000) (0) F := zq_fl (hh (1000, 0, ([], 1000), .inl ([], 0)) (by exact List.mem_cons_of_mem _ List.mem_cons_self)) (by decide) (by show (1000 : Int) = 1000; omega) (by show (0 : Int) = 0; omega)
  have hv1 := zi_lo (F 20 (91 + (ρ 0).toNat))
  have hv2 := zi_hi (F 20 (91 + (ρ 0).toNat))
  by_cases hs : (F 20 (91 + (ρ 0).toNat)).toInt < 0
  · refine ⟨_, List.mem_cons_self, (zf_up ρ 2 (F 20 (91 + (ρ 0).toNat)).toInt), fun j hj => if_neg (Nat.ne_of_lt hj), ?_, ?_, ?_, ([(2, 1)], 0), rfl, ?_⟩
    · exact by
        intro x
        match x with
        | 0 => exact ⟨by show (0 : Int) ≤ ρ 0; omega, by show ρ 0 ≤ (15 : Int); omega⟩
        | 1 => exact ⟨by show (0 : Int) ≤ ρ 1; omega, by show ρ 1 ≤ (16 : Int); omega⟩
        | 2 => exact ⟨by show ((-2147483648) : Int) ≤ (F 20 (91 + (ρ 0).toNat)).toInt; omega, by show (F 20 (91 + (ρ 0).toNat)).toInt ≤ ((-1) : Int); omega⟩
        | n + 3 => exact hE (n + 3)
    · exact by
        intro g hg
        simp only [List.mem_cons, List.not_mem_nil, or_false] at hg
        rcases hg with rfl
        show (0 : Int) ≤ (-1) * ρ 0 + (1 * ρ 1 + ((-1))); omega
    · intro h hq
      simp only [List.mem_cons, List.not_mem_nil, or_false] at hq
      rcases hq with rfl
      exact zq_ec (g := 20) (I := 91 + (ρ 0).toNat) (V := (F 20 (91 + (ρ 0).toNat)).toInt) rfl (by show (0 : Int) ≤ 1 * ρ 0 + 91; omega) (by decide) (by show (1 * ρ 0 + 91 : Int).toNat = _; omega) (by show (1 * (F 20 (91 + (ρ 0).toNat)).toInt + 0 : Int) = _; omega)
    · show (F 20 (zf_v ρ ([(0, 1)], 91)).toNat).toInt = 1 * (F 20 (91 + (ρ 0).toNat)).toInt + 0
      rw [show (zf_v ρ ([(0, 1)], 91)).toNat = 91 + (ρ 0).toNat from (by show (1 * ρ 0 + 91 : Int).toNat = _; omega)]
      omega
  · have h1 : 1 ≤ (F 20 (107 + (ρ 0).toNat)).toInt := by
      have h := c1 (ρ 0).toNat (by omega) (by omega) (by rw [show 87 + 4 + (ρ 0).toNat = 91 + (ρ 0).toNat by omega]; omega)
      rw [show 87 + 20 + (ρ 0).toNat = 107 + (ρ 0).toNat by omega] at h
      exact h
    have h2 := htp 20 (107 + (ρ 0).toNat) _ (by decide) (zs_lng _ (by omega))
    dsimp only at h2
    refine ⟨_, (List.mem_cons_of_mem _ List.mem_cons_self), (zf_up (zf_up ρ 2 (F 20 (91 + (ρ 0).toNat)).toInt) 3 (F 20 (107 + (ρ 0).toNat)).toInt), fun j hj => (if_neg (Nat.ne_of_lt (Nat.lt_succ_of_lt hj))).trans (if_neg (Nat.ne_of_lt hj)), ?_, ?_, ?_, ([(2, 1)], 0), rfl, ?_⟩
    · exact by
        intro x
        match x with
        | 0 => exact ⟨by show (0 : Int) ≤ ρ 0; omega, by show ρ 0 ≤ (15 : Int); omega⟩
        | 1 => exact ⟨by show (0 : Int) ≤ ρ 1; omega, by show ρ 1 ≤ (16 : Int); omega⟩
        | 2 => exact ⟨by show (0 : Int) ≤ (F 20 (91 + (ρ 0).toNat)).toInt; omega, by show (F 20 (91 + (ρ 0).toNat)).toInt ≤ (2147483647 : Int); omega⟩
        | 3 => exact ⟨by show (1 : Int) ≤ (F 20 (107 + (ρ 0).toNat)).toInt; omega, by show (F 20 (107 + (ρ 0).toNat)).toInt ≤ (32 : Int); omega⟩
        | n + 4 => exact hE (n + 4)
    · exact by
        intro g hg
        simp only [List.mem_cons, List.not_mem_nil, or_false] at hg
        rcases hg with rfl
        show (0 : Int) ≤ (-1) * ρ 0 + (1 * ρ 1 + ((-1))); omega
    · intro h hq
      simp only [List.mem_cons, List.not_mem_nil, or_false] at hq
      rcases hq with rfl | rfl
      · exact zq_ec (g := 20) (I := 91 + (ρ 0).toNat) (V := (F 20 (91 + (ρ 0).toNat)).toInt) rfl (by show (0 : Int) ≤ 1 * ρ 0 + 91; omega) (by decide) (by show (1 * ρ 0 + 91 : Int).toNat = _; omega) (by show (1 * (F 20 (91 + (ρ 0).toNat)).toInt + 0 : Int) = _; omega)
      · exact zq_ec (g := 20) (I := 107 + (ρ 0).toNat) (V := (F 20 (107 + (ρ 0).toNat)).toInt) rfl (by show (0 : Int) ≤ 1 * ρ 0 + 107; omega) (by decide) (by show (1 * ρ 0 + 107 : Int).toNat = _; omega) (by show (1 * (F 20 (107 + (ρ 0).toNat)).toInt + 0 : Int) = _; omega)
    · show (F 20 (zf_v ρ ([(0, 1)], 91)).toNat).toInt = 1 * (F 20 (91 + (ρ 0).toNat)).toInt + 0
      rw [show (zf_v ρ ([(0, 1)], 91)).toNat = 91 + (ρ 0).toNat from (by show (1 * ρ 0 + 91 : Int).toNat = _; omega)]
      omega
def zh_osld : zf_M := (([(0, 43), (1, 44), (0, 44)], [([(0, 1), (1, (-1))], 1), ([(0, (-1)), (1, 1)], (-1))], 64, [], [.inl ([(0, 1)], 0), .inr (some (31, 31))], [(18, 18, ([], 40), .inl ([(1, 1)], 0)), (1009, 0, ([(1, 1)], 0), .inl ([(2, 1)], 0))]), [], [(some (.inl ([], 20)), ([(0, 43), (1, 44), (0, 44)], [([(1, 1), (2, (-1))], (-1)), ([(0, 1), (1, (-1))], 1), ([(0, (-1)), (1, 1)], (-1))], 64, [], [], [(31, 31, ([(0, 1)], 0), .inl ([], 20)), (1009, 0, ([(1, 1)], (-1)), .inl ([(2, 1)], 0))])), (some (.inl ([], 21)), ([(0, 43), (1, 44), (1, 44)], [([(1, 1), (2, (-1))], 0), ([(0, 1), (1, (-1))], 1), ([(0, (-1)), (1, 1)], (-1))], 64, [], [], [(31, 31, ([(0, 1)], 0), .inl ([], 21)), (1009, 0, ([(1, 1)], (-1)), .inl ([(2, 1)], (-1)))])), (some (.inl ([], 22)), ([(0, 43), (1, 44), (1, 44)], [([(1, 1), (2, (-1))], 0), ([(0, 1), (1, (-1))], 1), ([(0, (-1)), (1, 1)], (-1))], 64, [], [], [(31, 31, ([(0, 1)], 0), .inl ([], 22)), (1009, 0, ([(1, 1)], (-1)), .inl ([(2, 1)], (-1)))])), (some (.inl ([], 23)), ([(0, 43), (1, 44), (0, 44)], [([(1, 1), (2, (-1))], (-1)), ([(0, 1), (1, (-1))], 1), ([(0, (-1)), (1, 1)], (-1))], 64, [], [], [(31, 31, ([(0, 1)], 0), .inl ([], 23)), (1009, 0, ([(1, 1)], (-1)), .inl ([(2, 1)], 0))]))])
theorem zh_osld_c : zr_ld 31 ([(0, 1)], 0) zh_osld = true := by decide +kernel
set_option maxRecDepth 20000 in
theorem zh_osld_r : zr_LR 31 ([(0, 1)], 0) zh_osld := by
  intro ρ F hE hF hh htp
  have b0 : (0 : Int) ≤ ρ 0 ∧ ρ 0 ≤ (43 : Int) := hE 0
  have b1 : (1 : Int) ≤ ρ 1 ∧ ρ 1 ≤ (44 : Int) := hE 1
  have b2 : (0 : Int) ≤ ρ 2 ∧ ρ 2 ≤ (44 : Int) := hE 2
  have f0 : (0 : Int) ≤ 1 * ρ 0 + ((-1) * ρ 1 + (1)) := hF ([(0, 1), (1, (-1))], 1) (by exact List.mem_cons_self)
  have f1 : (0 : Int) ≤ (-1) * ρ 0 + (1 * ρ 1 + ((-1))) := hF ([(0, (-1)), (1, 1)], (-1)) (by exact List.mem_cons_of_mem _ List.mem_cons_self)
  have c0 : (F 18 (40)).toInt = ρ 1 := zq_ce (hh (18, 18, ([], 40), .inl ([(1, 1)], 0)) (by exact List.mem_cons_self)) (by decide) (by show (40 : Int).toNat = 40; omega) (by show (1 * ρ 1 + (0) : Int) = ρ 1; omega)
  have c1 : zf_gP 9 (ρ 1) (ρ 2) F := zq_fl (hh (1009, 0, ([(1, 1)], 0), .inl ([(2, 1)], 0)) (by exact List.mem_cons_of_mem _ List.mem_cons_self)) (by decide) (by show (1 * ρ 1 + (0) : Int) = ρ 1; omega) (by show (1 * ρ 2 + (0) : Int) = ρ 2; omega)
  obtain ⟨i, n, e1, e2, e3⟩ := c1
  obtain ⟨j, rfl⟩ : ∃ j, i = j + 1 := ⟨i - 1, by omega⟩
  have hj : (ρ 0).toNat = j := by omega
  unfold zg_op at e3
  split at e3
  · cases e3
  · rename_i k hk
    have hle := zg_op_le hk
    split at e3
    · rename_i hw
      have e4 := Option.some.inj e3
      rcases hw with hw | hw
      · refine ⟨_, List.mem_cons_self, ρ, fun _ _ => rfl, ?_, ?_, ?_, ([], 20), rfl, ?_⟩
        · exact by
            intro x
            match x with
            | 0 => exact ⟨by show (0 : Int) ≤ ρ 0; omega, by show ρ 0 ≤ (43 : Int); omega⟩
            | 1 => exact ⟨by show (1 : Int) ≤ ρ 1; omega, by show ρ 1 ≤ (44 : Int); omega⟩
            | 2 => exact ⟨by show (0 : Int) ≤ ρ 2; omega, by show ρ 2 ≤ (44 : Int); omega⟩
            | n + 3 => exact hE (n + 3)
        · exact by
            intro g hg
            simp only [List.mem_cons, List.not_mem_nil, or_false] at hg
            rcases hg with rfl | rfl | rfl
            · show (0 : Int) ≤ 1 * ρ 1 + ((-1) * ρ 2 + ((-1))); omega
            · show (0 : Int) ≤ 1 * ρ 0 + ((-1) * ρ 1 + (1)); omega
            · show (0 : Int) ≤ (-1) * ρ 0 + (1 * ρ 1 + ((-1))); omega
        · intro h hq
          simp only [List.mem_cons, List.not_mem_nil, or_false] at hq
          rcases hq with rfl | rfl
          · exact zq_ec (g := 31) (I := (ρ 0).toNat) (V := 20) (by rw [hj]; exact hw) (by show (0 : Int) ≤ 1 * ρ 0 + 0; omega) (by decide) (by show (1 * ρ 0 + 0 : Int).toNat = _; omega) rfl
          · exact zq_lf (j := 9) (A := ρ 1 + (-1)) (B := ρ 2) ⟨j, k, by omega, by omega, hk⟩ (by decide) (by show (1 * ρ 1 + (-1) : Int) = _; omega) (by show (1 * ρ 2 + (0) : Int) = _; omega)
        · show (F 31 (zf_v ρ ([(0, 1)], 0)).toNat).toInt = 20
          rw [show (zf_v ρ ([(0, 1)], 0)).toNat = j from (by show (1 * ρ 0 + 0 : Int).toNat = _; omega)]
          exact hw
      · refine ⟨_, (List.mem_cons_of_mem _ (List.mem_cons_of_mem _ (List.mem_cons_of_mem _ List.mem_cons_self))), ρ, fun _ _ => rfl, ?_, ?_, ?_, ([], 23), rfl, ?_⟩
        · exact by
            intro x
            match x with
            | 0 => exact ⟨by show (0 : Int) ≤ ρ 0; omega, by show ρ 0 ≤ (43 : Int); omega⟩
            | 1 => exact ⟨by show (1 : Int) ≤ ρ 1; omega, by show ρ 1 ≤ (44 : Int); omega⟩
            | 2 => exact ⟨by show (0 : Int) ≤ ρ 2; omega, by show ρ 2 ≤ (44 : Int); omega⟩
            | n + 3 => exact hE (n + 3)
        · exact by
            intro g hg
            simp only [List.mem_cons, List.not_mem_nil, or_false] at hg
            rcases hg with rfl | rfl | rfl
            · show (0 : Int) ≤ 1 * ρ 1 + ((-1) * ρ 2 + ((-1))); omega
            · show (0 : Int) ≤ 1 * ρ 0 + ((-1) * ρ 1 + (1)); omega
            · show (0 : Int) ≤ (-1) * ρ 0 + (1 * ρ 1 + ((-1))); omega
        · intro h hq
          simp only [List.mem_cons, List.not_mem_nil, or_false] at hq
          rcases hq with rfl | rfl
          · exact zq_ec (g := 31) (I := (ρ 0).toNat) (V := 23) (by rw [hj]; exact hw) (by show (0 : Int) ≤ 1 * ρ 0 + 0; omega) (by decide) (by show (1 * ρ 0 + 0 : Int).toNat = _; omega) rfl
          · exact zq_lf (j := 9) (A := ρ 1 + (-1)) (B := ρ 2) ⟨j, k, by omega, by omega, hk⟩ (by decide) (by show (1 * ρ 1 + (-1) : Int) = _; omega) (by show (1 * ρ 2 + (0) : Int) = _; omega)
        · show (F 31 (zf_v ρ ([(0, 1)], 0)).toNat).toInt = 23
          rw [show (zf_v ρ ([(0, 1)], 0)).toNat = j from (by show (1 * ρ 0 + 0 : Int).toNat = _; omega)]
          exact hw
    · split at e3
      · rename_i hw
        have e4 := Option.some.inj e3
        rcases hw with hw | hw
        · refine ⟨_, (List.mem_cons_of_mem _ List.mem_cons_self), ρ, fun _ _ => rfl, ?_, ?_, ?_, ([], 21), rfl, ?_⟩
          · exact by
              intro x
              match x with
              | 0 => exact ⟨by show (0 : Int) ≤ ρ 0; omega, by show ρ 0 ≤ (43 : Int); omega⟩
              | 1 => exact ⟨by show (1 : Int) ≤ ρ 1; omega, by show ρ 1 ≤ (44 : Int); omega⟩
              | 2 => exact ⟨by show (1 : Int) ≤ ρ 2; omega, by show ρ 2 ≤ (44 : Int); omega⟩
              | n + 3 => exact hE (n + 3)
          · exact by
              intro g hg
              simp only [List.mem_cons, List.not_mem_nil, or_false] at hg
              rcases hg with rfl | rfl | rfl
              · show (0 : Int) ≤ 1 * ρ 1 + ((-1) * ρ 2 + (0)); omega
              · show (0 : Int) ≤ 1 * ρ 0 + ((-1) * ρ 1 + (1)); omega
              · show (0 : Int) ≤ (-1) * ρ 0 + (1 * ρ 1 + ((-1))); omega
          · intro h hq
            simp only [List.mem_cons, List.not_mem_nil, or_false] at hq
            rcases hq with rfl | rfl
            · exact zq_ec (g := 31) (I := (ρ 0).toNat) (V := 21) (by rw [hj]; exact hw) (by show (0 : Int) ≤ 1 * ρ 0 + 0; omega) (by decide) (by show (1 * ρ 0 + 0 : Int).toNat = _; omega) rfl
            · exact zq_lf (j := 9) (A := ρ 1 + (-1)) (B := ρ 2 + (-1)) ⟨j, k, by omega, by omega, hk⟩ (by decide) (by show (1 * ρ 1 + (-1) : Int) = _; omega) (by show (1 * ρ 2 + (-1) : Int) = _; omega)
          · show (F 31 (zf_v ρ ([(0, 1)], 0)).toNat).toInt = 21
            rw [show (zf_v ρ ([(0, 1)], 0)).toNat = j from (by show (1 * ρ 0 + 0 : Int).toNat = _; omega)]
            exact hw
        · refine ⟨_, (List.mem_cons_of_mem _ (List.mem_cons_of_mem _ List.mem_cons_self)), ρ, fun _ _ => rfl, ?_, ?_, ?_, ([], 22), rfl, ?_⟩
          · exact by
              intro x
              match x with
              | 0 => exact ⟨by show (0 : Int) ≤ ρ 0; omega, by show ρ 0 ≤ (43 : Int); omega⟩
              | 1 => exact ⟨by show (1 : Int) ≤ ρ 1; omega, by show ρ 1 ≤ (44 : Int); omega⟩
              | 2 => exact ⟨by show (1 : Int) ≤ ρ 2; omega, by show ρ 2 ≤ (44 : Int); omega⟩
              | n + 3 => exact hE (n + 3)
          · exact by
              intro g hg
              simp only [List.mem_cons, List.not_mem_nil, or_false] at hg
              rcases hg with rfl | rfl | rfl
              · show (0 : Int) ≤ 1 * ρ 1 + ((-1) * ρ 2 + (0)); omega
              · show (0 : Int) ≤ 1 * ρ 0 + ((-1) * ρ 1 + (1)); omega
              · show (0 : Int) ≤ (-1) * ρ 0 + (1 * ρ 1 + ((-1))); omega
          · intro h hq
            simp only [List.mem_cons, List.not_mem_nil, or_false] at hq
            rcases hq with rfl | rfl
            · exact zq_ec (g := 31) (I := (ρ 0).toNat) (V := 22) (by rw [hj]; exact hw) (by show (0 : Int) ≤ 1 * ρ 0 + 0; omega) (by decide) (by show (1 * ρ 0 + 0 : Int).toNat = _; omega) rfl
            · exact zq_lf (j := 9) (A := ρ 1 + (-1)) (B := ρ 2 + (-1)) ⟨j, k, by omega, by omega, hk⟩ (by decide) (by show (1 * ρ 1 + (-1) : Int) = _; omega) (by show (1 * ρ 2 + (-1) : Int) = _; omega)
          · show (F 31 (zf_v ρ ([(0, 1)], 0)).toNat).toInt = 22
            rw [show (zf_v ρ ([(0, 1)], 0)).toNat = j from (by show (1 * ρ 0 + 0 : Int).toNat = _; omega)]
            exact hw
      · cases e3
def zh_hsld : zf_M := (([(694, 823), (0, 43), (0, 43), (0, 44)], [([(0, 1), (1, (-3))], (-694)), ([(0, (-1)), (1, 3)], 694), ([(1, (-1)), (3, 1)], (-1))], 64, [], [.inl ([(0, 1)], 0), .inr (some (20, 20))], [(1025, 0, ([], 1025), .inl ([(1, 1)], 0)), (1007, 0, ([(1, 1)], 0), .inl ([(2, 1)], 0)), (20, 20, ([], 693), .inl ([(3, 1)], 0))]), [], [(some (.inl ([], 20)), ([(694, 823), (0, 43), (1, 43), (0, 44)], [([(0, 1), (1, (-3))], (-694)), ([(0, (-1)), (1, 3)], 694), ([(1, (-1)), (3, 1)], (-1))], 64, [], [], [(20, 20, ([(0, 1)], 0), .inl ([], 20)), (1007, 0, ([(1, 1)], 1), .inl ([(2, 1)], 0))])), (some (.inl ([], 21)), ([(694, 823), (0, 43), (2, 43), (0, 44)], [([(0, 1), (1, (-3))], (-694)), ([(0, (-1)), (1, 3)], 694), ([(1, (-1)), (3, 1)], (-1))], 64, [], [], [(20, 20, ([(0, 1)], 0), .inl ([], 21)), (1007, 0, ([(1, 1)], 1), .inl ([(2, 1)], (-1)))])), (some (.inl ([], 22)), ([(694, 823), (0, 43), (2, 43), (0, 44)], [([(0, 1), (1, (-3))], (-694)), ([(0, (-1)), (1, 3)], 694), ([(1, (-1)), (3, 1)], (-1))], 64, [], [], [(20, 20, ([(0, 1)], 0), .inl ([], 22)), (1007, 0, ([(1, 1)], 1), .inl ([(2, 1)], (-1)))])), (some (.inl ([(4, 1)], 0)), ([(694, 823), (0, 43), (0, 43), (0, 44), ((-2147483648), 19)], [([(0, 1), (1, (-3))], (-694)), ([(0, (-1)), (1, 3)], 694), ([(1, (-1)), (3, 1)], (-1))], 64, [], [], [(20, 20, ([(0, 1)], 0), .inl ([(4, 1)], 0)), (1007, 0, ([(1, 1)], 1), .inl ([(2, 1)], 1))])), (some (.inl ([(4, 1)], 0)), ([(694, 823), (0, 43), (0, 43), (0, 44), (23, 2147483647)], [([(0, 1), (1, (-3))], (-694)), ([(0, (-1)), (1, 3)], 694), ([(1, (-1)), (3, 1)], (-1))], 64, [], [], [(20, 20, ([(0, 1)], 0), .inl ([(4, 1)], 0)), (1007, 0, ([(1, 1)], 1), .inl ([(2, 1)], 1))]))])
theorem zh_hsld_c : zr_ld 20 ([(0, 1)], 0) zh_hsld = true := by decide +kernel
set_option maxRecDepth 20000 in
theorem zh_hsld_r : zr_LR 20 ([(0, 1)], 0) zh_hsld := by
  intro ρ F hE hF hh htp
  have b0 : (694 : Int) ≤ ρ 0 ∧ ρ 0 ≤ (823 : Int) := hE 0
  have b1 : (0 : Int) ≤ ρ 1 ∧ ρ 1 ≤ (43 : Int) := hE 1
  have b2 : (0 : Int) ≤ ρ 2 ∧ ρ 2 ≤ (43 : Int) := hE 2
  have b3 : (0 : Int) ≤ ρ 3 ∧ ρ 3 ≤ (44 : Int) := hE 3
  have f0 : (0 : Int) ≤ 1 * ρ 0 + ((-3) * ρ 1 + ((-694))) := hF ([(0, 1), (1, (-3))], (-694)) (by exact List.mem_cons_self)
  have f1 : (0 : Int) ≤ (-1) * ρ 0 + (3 * ρ 1 + (694)) := hF ([(0, (-1)), (1, 3)], 694) (by exact List.mem_cons_of_mem _ List.mem_cons_self)
  have f2 : (0 : Int) ≤ (-1) * ρ 1 + (1 * ρ 3 + ((-1))) := hF ([(1, (-1)), (3, 1)], (-1)) (by exact List.mem_cons_of_mem _ (List.mem_cons_of_mem _ List.mem_cons_self))
  have c0 : zf_gP 25 (1025) (ρ 1) F := zq_fl (hh (1025, 0, ([], 1025), .inl ([(1, 1)], 0)) (by exact List.mem_cons_self)) (by decide) (by show (1025 : Int) = 1025; omega) (by show (1 * ρ 1 + (0) : Int) = ρ 1; omega)
  have c1 : zf_gP 7 (ρ 1) (ρ 2) F := zq_fl (hh (1007, 0, ([(1, 1)], 0), .inl ([(2, 1)], 0)) (by exact List.mem_cons_of_mem _ List.mem_cons_self)) (by decide) (by show (1 * ρ 1 + (0) : Int) = ρ 1; omega) (by show (1 * ρ 2 + (0) : Int) = ρ 2; omega)
  have c2 : (F 20 (693)).toInt = ρ 3 := zq_ce (hh (20, 20, ([], 693), .inl ([(3, 1)], 0)) (by exact List.mem_cons_of_mem _ (List.mem_cons_of_mem _ List.mem_cons_self))) (by decide) (by show (693 : Int).toNat = 693; omega) (by show (1 * ρ 3 + (0) : Int) = ρ 3; omega)
  obtain ⟨i, n, e1, e2, e6, e3, e5⟩ := c1
  have hle := zg_ht_le e3
  have hv1 := zi_lo (F 20 (ρ 0).toNat)
  have hv2 := zi_hi (F 20 (ρ 0).toNat)
  obtain ⟨d1, d2, d, d3⟩ := id e5
  obtain ⟨k, hk⟩ := zg_ht_pre d3 (m := i + 1) (by omega)
  have hk0 := hk
  unfold zg_ht at hk0
  rw [e3] at hk0
  have hk0 : zg_st n (F 20 (694 + 3 * i)).toInt = some k := hk0
  rw [show 694 + 3 * i = (ρ 0).toNat by omega] at hk0
  unfold zg_st at hk0
  split at hk0
  · rename_i hw
    split at hk0
    · cases hk0
      refine ⟨_, List.mem_cons_self, ρ, fun _ _ => rfl, ?_, ?_, ?_, ([], 20), rfl, ?_⟩
      · exact by
          intro x
          match x with
          | 0 => exact ⟨by show (694 : Int) ≤ ρ 0; omega, by show ρ 0 ≤ (823 : Int); omega⟩
          | 1 => exact ⟨by show (0 : Int) ≤ ρ 1; omega, by show ρ 1 ≤ (43 : Int); omega⟩
          | 2 => exact ⟨by show (1 : Int) ≤ ρ 2; omega, by show ρ 2 ≤ (43 : Int); omega⟩
          | 3 => exact ⟨by show (0 : Int) ≤ ρ 3; omega, by show ρ 3 ≤ (44 : Int); omega⟩
          | n + 4 => exact hE (n + 4)
      · exact by
          intro g hg
          simp only [List.mem_cons, List.not_mem_nil, or_false] at hg
          rcases hg with rfl | rfl | rfl
          · show (0 : Int) ≤ 1 * ρ 0 + ((-3) * ρ 1 + ((-694))); omega
          · show (0 : Int) ≤ (-1) * ρ 0 + (3 * ρ 1 + (694)); omega
          · show (0 : Int) ≤ (-1) * ρ 1 + (1 * ρ 3 + ((-1))); omega
      · intro h hq
        simp only [List.mem_cons, List.not_mem_nil, or_false] at hq
        rcases hq with rfl | rfl
        · exact zq_ec (g := 20) (I := (ρ 0).toNat) (V := 20) (by omega) (by show (0 : Int) ≤ 1 * ρ 0 + 0; omega) (by decide) (by show (1 * ρ 0 + 0 : Int).toNat = _; omega) rfl
        · exact zq_lf (j := 7) (A := ρ 1 + 1) (B := ρ 2 + (0)) ⟨i + 1, n, by omega, by omega, by omega, hk, e5⟩ (by decide) (by show (1 * ρ 1 + 1 : Int) = _; omega) (by show (1 * ρ 2 + (0) : Int) = _; omega)
      · show (F 20 (zf_v ρ ([(0, 1)], 0)).toNat).toInt = 20
        rw [show (zf_v ρ ([(0, 1)], 0)).toNat = (ρ 0).toNat from (by show (1 * ρ 0 + 0 : Int).toNat = _; omega)]
        omega
    · cases hk0
  · split at hk0
    · rename_i hw
      split at hk0
      · cases hk0
        rcases hw with hw | hw
        · refine ⟨_, (List.mem_cons_of_mem _ List.mem_cons_self), ρ, fun _ _ => rfl, ?_, ?_, ?_, ([], 21), rfl, ?_⟩
          · exact by
              intro x
              match x with
              | 0 => exact ⟨by show (694 : Int) ≤ ρ 0; omega, by show ρ 0 ≤ (823 : Int); omega⟩
              | 1 => exact ⟨by show (0 : Int) ≤ ρ 1; omega, by show ρ 1 ≤ (43 : Int); omega⟩
              | 2 => exact ⟨by show (2 : Int) ≤ ρ 2; omega, by show ρ 2 ≤ (43 : Int); omega⟩
              | 3 => exact ⟨by show (0 : Int) ≤ ρ 3; omega, by show ρ 3 ≤ (44 : Int); omega⟩
              | n + 4 => exact hE (n + 4)
          · exact by
              intro g hg
              simp only [List.mem_cons, List.not_mem_nil, or_false] at hg
              rcases hg with rfl | rfl | rfl
              · show (0 : Int) ≤ 1 * ρ 0 + ((-3) * ρ 1 + ((-694))); omega
              · show (0 : Int) ≤ (-1) * ρ 0 + (3 * ρ 1 + (694)); omega
              · show (0 : Int) ≤ (-1) * ρ 1 + (1 * ρ 3 + ((-1))); omega
          · intro h hq
            simp only [List.mem_cons, List.not_mem_nil, or_false] at hq
            rcases hq with rfl | rfl
            · exact zq_ec (g := 20) (I := (ρ 0).toNat) (V := 21) (by omega) (by show (0 : Int) ≤ 1 * ρ 0 + 0; omega) (by decide) (by show (1 * ρ 0 + 0 : Int).toNat = _; omega) rfl
            · exact zq_lf (j := 7) (A := ρ 1 + 1) (B := ρ 2 + (-1)) ⟨i + 1, n - 1, by omega, by omega, by omega, hk, e5⟩ (by decide) (by show (1 * ρ 1 + 1 : Int) = _; omega) (by show (1 * ρ 2 + (-1) : Int) = _; omega)
          · show (F 20 (zf_v ρ ([(0, 1)], 0)).toNat).toInt = 21
            rw [show (zf_v ρ ([(0, 1)], 0)).toNat = (ρ 0).toNat from (by show (1 * ρ 0 + 0 : Int).toNat = _; omega)]
            omega
        · refine ⟨_, (List.mem_cons_of_mem _ (List.mem_cons_of_mem _ List.mem_cons_self)), ρ, fun _ _ => rfl, ?_, ?_, ?_, ([], 22), rfl, ?_⟩
          · exact by
              intro x
              match x with
              | 0 => exact ⟨by show (694 : Int) ≤ ρ 0; omega, by show ρ 0 ≤ (823 : Int); omega⟩
              | 1 => exact ⟨by show (0 : Int) ≤ ρ 1; omega, by show ρ 1 ≤ (43 : Int); omega⟩
              | 2 => exact ⟨by show (2 : Int) ≤ ρ 2; omega, by show ρ 2 ≤ (43 : Int); omega⟩
              | 3 => exact ⟨by show (0 : Int) ≤ ρ 3; omega, by show ρ 3 ≤ (44 : Int); omega⟩
              | n + 4 => exact hE (n + 4)
          · exact by
              intro g hg
              simp only [List.mem_cons, List.not_mem_nil, or_false] at hg
              rcases hg with rfl | rfl | rfl
              · show (0 : Int) ≤ 1 * ρ 0 + ((-3) * ρ 1 + ((-694))); omega
              · show (0 : Int) ≤ (-1) * ρ 0 + (3 * ρ 1 + (694)); omega
              · show (0 : Int) ≤ (-1) * ρ 1 + (1 * ρ 3 + ((-1))); omega
          · intro h hq
            simp only [List.mem_cons, List.not_mem_nil, or_false] at hq
            rcases hq with rfl | rfl
            · exact zq_ec (g := 20) (I := (ρ 0).toNat) (V := 22) (by omega) (by show (0 : Int) ≤ 1 * ρ 0 + 0; omega) (by decide) (by show (1 * ρ 0 + 0 : Int).toNat = _; omega) rfl
            · exact zq_lf (j := 7) (A := ρ 1 + 1) (B := ρ 2 + (-1)) ⟨i + 1, n - 1, by omega, by omega, by omega, hk, e5⟩ (by decide) (by show (1 * ρ 1 + 1 : Int) = _; omega) (by show (1 * ρ 2 + (-1) : Int) = _; omega)
          · show (F 20 (zf_v ρ ([(0, 1)], 0)).toNat).toInt = 22
            rw [show (zf_v ρ ([(0, 1)], 0)).toNat = (ρ 0).toNat from (by show (1 * ρ 0 + 0 : Int).toNat = _; omega)]
            omega
      · cases hk0
    · cases hk0
      by_cases hs : (F 20 (ρ 0).toNat).toInt ≤ 19
      · refine ⟨_, (List.mem_cons_of_mem _ (List.mem_cons_of_mem _ (List.mem_cons_of_mem _ List.mem_cons_self))), (zf_up ρ 4 (F 20 (ρ 0).toNat).toInt), fun j hj => if_neg (Nat.ne_of_lt hj), ?_, ?_, ?_, ([(4, 1)], 0), rfl, ?_⟩
        · exact by
            intro x
            match x with
            | 0 => exact ⟨by show (694 : Int) ≤ ρ 0; omega, by show ρ 0 ≤ (823 : Int); omega⟩
            | 1 => exact ⟨by show (0 : Int) ≤ ρ 1; omega, by show ρ 1 ≤ (43 : Int); omega⟩
            | 2 => exact ⟨by show (0 : Int) ≤ ρ 2; omega, by show ρ 2 ≤ (43 : Int); omega⟩
            | 3 => exact ⟨by show (0 : Int) ≤ ρ 3; omega, by show ρ 3 ≤ (44 : Int); omega⟩
            | 4 => exact ⟨by show ((-2147483648) : Int) ≤ (F 20 (ρ 0).toNat).toInt; omega, by show (F 20 (ρ 0).toNat).toInt ≤ (19 : Int); omega⟩
            | n + 5 => exact hE (n + 5)
        · exact by
            intro g hg
            simp only [List.mem_cons, List.not_mem_nil, or_false] at hg
            rcases hg with rfl | rfl | rfl
            · show (0 : Int) ≤ 1 * ρ 0 + ((-3) * ρ 1 + ((-694))); omega
            · show (0 : Int) ≤ (-1) * ρ 0 + (3 * ρ 1 + (694)); omega
            · show (0 : Int) ≤ (-1) * ρ 1 + (1 * ρ 3 + ((-1))); omega
        · intro h hq
          simp only [List.mem_cons, List.not_mem_nil, or_false] at hq
          rcases hq with rfl | rfl
          · exact zq_ec (g := 20) (I := (ρ 0).toNat) (V := (F 20 (ρ 0).toNat).toInt) rfl (by show (0 : Int) ≤ 1 * ρ 0 + 0; omega) (by decide) (by show (1 * ρ 0 + 0 : Int).toNat = _; omega) (by show (1 * (F 20 (ρ 0).toNat).toInt + 0 : Int) = _; omega)
          · exact zq_lf (j := 7) (A := ρ 1 + 1) (B := ρ 2 + (1)) ⟨i + 1, n + 1, by omega, by omega, by omega, hk, e5⟩ (by decide) (by show (1 * ρ 1 + 1 : Int) = _; omega) (by show (1 * ρ 2 + (1) : Int) = _; omega)
        · show (F 20 (zf_v ρ ([(0, 1)], 0)).toNat).toInt = 1 * (F 20 (ρ 0).toNat).toInt + 0
          rw [show (zf_v ρ ([(0, 1)], 0)).toNat = (ρ 0).toNat from (by show (1 * ρ 0 + 0 : Int).toNat = _; omega)]
          omega
      · refine ⟨_, (List.mem_cons_of_mem _ (List.mem_cons_of_mem _ (List.mem_cons_of_mem _ (List.mem_cons_of_mem _ List.mem_cons_self)))), (zf_up ρ 4 (F 20 (ρ 0).toNat).toInt), fun j hj => if_neg (Nat.ne_of_lt hj), ?_, ?_, ?_, ([(4, 1)], 0), rfl, ?_⟩
        · exact by
            intro x
            match x with
            | 0 => exact ⟨by show (694 : Int) ≤ ρ 0; omega, by show ρ 0 ≤ (823 : Int); omega⟩
            | 1 => exact ⟨by show (0 : Int) ≤ ρ 1; omega, by show ρ 1 ≤ (43 : Int); omega⟩
            | 2 => exact ⟨by show (0 : Int) ≤ ρ 2; omega, by show ρ 2 ≤ (43 : Int); omega⟩
            | 3 => exact ⟨by show (0 : Int) ≤ ρ 3; omega, by show ρ 3 ≤ (44 : Int); omega⟩
            | 4 => exact ⟨by show (23 : Int) ≤ (F 20 (ρ 0).toNat).toInt; omega, by show (F 20 (ρ 0).toNat).toInt ≤ (2147483647 : Int); omega⟩
            | n + 5 => exact hE (n + 5)
        · exact by
            intro g hg
            simp only [List.mem_cons, List.not_mem_nil, or_false] at hg
            rcases hg with rfl | rfl | rfl
            · show (0 : Int) ≤ 1 * ρ 0 + ((-3) * ρ 1 + ((-694))); omega
            · show (0 : Int) ≤ (-1) * ρ 0 + (3 * ρ 1 + (694)); omega
            · show (0 : Int) ≤ (-1) * ρ 1 + (1 * ρ 3 + ((-1))); omega
        · intro h hq
          simp only [List.mem_cons, List.not_mem_nil, or_false] at hq
          rcases hq with rfl | rfl
          · exact zq_ec (g := 20) (I := (ρ 0).toNat) (V := (F 20 (ρ 0).toNat).toInt) rfl (by show (0 : Int) ≤ 1 * ρ 0 + 0; omega) (by decide) (by show (1 * ρ 0 + 0 : Int).toNat = _; omega) (by show (1 * (F 20 (ρ 0).toNat).toInt + 0 : Int) = _; omega)
          · exact zq_lf (j := 7) (A := ρ 1 + 1) (B := ρ 2 + (1)) ⟨i + 1, n + 1, by omega, by omega, by omega, hk, e5⟩ (by decide) (by show (1 * ρ 1 + 1 : Int) = _; omega) (by show (1 * ρ 2 + (1) : Int) = _; omega)
        · show (F 20 (zf_v ρ ([(0, 1)], 0)).toNat).toInt = 1 * (F 20 (ρ 0).toNat).toInt + 0
          rw [show (zf_v ρ ([(0, 1)], 0)).toNat = (ρ 0).toNat from (by show (1 * ρ 0 + 0 : Int).toNat = _; omega)]
          omega
def zh_llld : zf_M := (([(0, 159), (0, 39), (0, 40), ((-2147483648), 2147483647), ((-2147483648), 2147483647)], [([(0, 1), (1, (-4))], (-3)), ([(0, (-1)), (1, 4)], 3), ([(1, (-1)), (2, 1)], (-1))], 64, [], [.inl ([(0, 1)], 0), .inr (some (22, 22))], [(1025, 0, ([], 1025), .inl ([(1, 1)], 0)), (1018, 0, ([], 1018), .inl ([(2, 1)], 0)), (22, 22, ([(0, 1)], (-3)), .inl ([(3, 1)], 0)), (22, 22, ([(0, 1)], (-1)), .inl ([(4, 1)], 0))]), [], [(some (.inl ([(5, 1)], 0)), ([(0, 159), (0, 39), (0, 40), (0, 0), (0, 5), (0, 5)], [([(0, 1), (1, (-4))], (-3)), ([(0, (-1)), (1, 4)], 3), ([(1, (-1)), (2, 1)], (-1))], 64, [], [], [(22, 22, ([(0, 1)], 0), .inl ([(5, 1)], 0))])), (some (.inl ([(5, 1)], 0)), ([(0, 159), (0, 39), (0, 40), (1, 1), (0, 31), ((-2147483648), 2147483647)], [([(0, 1), (1, (-4))], (-3)), ([(0, (-1)), (1, 4)], 3), ([(1, (-1)), (2, 1)], (-1))], 64, [], [], [(22, 22, ([(0, 1)], 0), .inl ([(5, 1)], 0))])), (some (.inl ([(5, 1)], 0)), ([(0, 159), (0, 39), (0, 40), (2, 2), ((-2147483648), 2147483647), ((-2147483648), 2147483647)], [([(0, 1), (1, (-4))], (-3)), ([(0, (-1)), (1, 4)], 3), ([(1, (-1)), (2, 1)], (-1))], 64, [], [], [(22, 22, ([(0, 1)], 0), .inl ([(5, 1)], 0))])), (some (.inl ([(5, 1)], 0)), ([(0, 159), (0, 39), (0, 40), (3, 3), ((-2147483648), 2147483647), ((-2147483648), 2147483647)], [([(0, 1), (1, (-4))], (-3)), ([(0, (-1)), (1, 4)], 3), ([(1, (-1)), (2, 1)], (-1))], 64, [], [], [(22, 22, ([(0, 1)], 0), .inl ([(5, 1)], 0))])), (some (.inl ([(5, 1)], 0)), ([(0, 159), (0, 39), (0, 40), (4, 4), ((-2147483648), 2147483647), ((-2147483648), 2147483647)], [([(0, 1), (1, (-4))], (-3)), ([(0, (-1)), (1, 4)], 3), ([(1, (-1)), (2, 1)], (-1))], 64, [], [], [(22, 22, ([(0, 1)], 0), .inl ([(5, 1)], 0))])), (some (.inl ([(5, 1)], 0)), ([(0, 159), (0, 39), (0, 40), (5, 5), (0, 31), ((-2147483648), 2147483647)], [([(0, 1), (1, (-4))], (-3)), ([(0, (-1)), (1, 4)], 3), ([(1, (-1)), (2, 1)], (-1))], 64, [], [], [(22, 22, ([(0, 1)], 0), .inl ([(5, 1)], 0))])), (some (.inl ([(5, 1)], 0)), ([(0, 159), (0, 39), (0, 40), (6, 6), ((-2147483648), 2147483647), ((-2147483648), 2147483647)], [([(0, 1), (1, (-4))], (-3)), ([(0, (-1)), (1, 4)], 3), ([(1, (-1)), (2, 1)], (-1))], 64, [], [], [(22, 22, ([(0, 1)], 0), .inl ([(5, 1)], 0))])), (some (.inl ([(5, 1)], 0)), ([(0, 159), (0, 39), (0, 40), (7, 7), ((-2147483648), 2147483647), ((-2147483648), 2147483647)], [([(0, 1), (1, (-4))], (-3)), ([(0, (-1)), (1, 4)], 3), ([(1, (-1)), (2, 1)], (-1))], 64, [], [], [(22, 22, ([(0, 1)], 0), .inl ([(5, 1)], 0))]))])
theorem zh_llld_c : zr_ld 22 ([(0, 1)], 0) zh_llld = true := by decide +kernel
set_option maxRecDepth 20000 in
theorem zh_llld_r : zr_LR 22 ([(0, 1)], 0) zh_llld := by
  intro ρ F hE hF hh htp
  have b0 : (0 : Int) ≤ ρ 0 ∧ ρ 0 ≤ (159 : Int) := hE 0
  have b1 : (0 : Int) ≤ ρ 1 ∧ ρ 1 ≤ (39 : Int) := hE 1
  have b2 : (0 : Int) ≤ ρ 2 ∧ ρ 2 ≤ (40 : Int) := hE 2
  have b3 : ((-2147483648) : Int) ≤ ρ 3 ∧ ρ 3 ≤ (2147483647 : Int) := hE 3
  have b4 : ((-2147483648) : Int) ≤ ρ 4 ∧ ρ 4 ≤ (2147483647 : Int) := hE 4
  have f0 : (0 : Int) ≤ 1 * ρ 0 + ((-4) * ρ 1 + ((-3))) := hF ([(0, 1), (1, (-4))], (-3)) (by exact List.mem_cons_self)
  have f1 : (0 : Int) ≤ (-1) * ρ 0 + (4 * ρ 1 + (3)) := hF ([(0, (-1)), (1, 4)], 3) (by exact List.mem_cons_of_mem _ List.mem_cons_self)
  have f2 : (0 : Int) ≤ (-1) * ρ 1 + (1 * ρ 2 + ((-1))) := hF ([(1, (-1)), (2, 1)], (-1)) (by exact List.mem_cons_of_mem _ (List.mem_cons_of_mem _ List.mem_cons_self))
  have c0 : zf_gP 25 (1025) (ρ 1) F := zq_fl (hh (1025, 0, ([], 1025), .inl ([(1, 1)], 0)) (by exact List.mem_cons_self)) (by decide) (by show (1025 : Int) = 1025; omega) (by show (1 * ρ 1 + (0) : Int) = ρ 1; omega)
  have c1 : zf_gP 18 (1018) (ρ 2) F := zq_fl (hh (1018, 0, ([], 1018), .inl ([(2, 1)], 0)) (by exact List.mem_cons_of_mem _ List.mem_cons_self)) (by decide) (by show (1018 : Int) = 1018; omega) (by show (1 * ρ 2 + (0) : Int) = ρ 2; omega)
  have c2 : (F 22 ((ρ 0).toNat - 3)).toInt = ρ 3 := zq_ce (hh (22, 22, ([(0, 1)], (-3)), .inl ([(3, 1)], 0)) (by exact List.mem_cons_of_mem _ (List.mem_cons_of_mem _ List.mem_cons_self))) (by decide) (by show (1 * ρ 0 + ((-3)) : Int).toNat = (ρ 0).toNat - 3; omega) (by show (1 * ρ 3 + (0) : Int) = ρ 3; omega)
  have c3 : (F 22 ((ρ 0).toNat - 1)).toInt = ρ 4 := zq_ce (hh (22, 22, ([(0, 1)], (-1)), .inl ([(4, 1)], 0)) (by exact List.mem_cons_of_mem _ (List.mem_cons_of_mem _ (List.mem_cons_of_mem _ List.mem_cons_self)))) (by decide) (by show (1 * ρ 0 + ((-1)) : Int).toNat = (ρ 0).toNat - 1; omega) (by show (1 * ρ 4 + (0) : Int) = ρ 4; omega)
  have hl := c1 (ρ 1).toNat (by omega)
  unfold zg_ln at hl
  rw [show 4 * (ρ 1).toNat + 2 = (ρ 0).toNat - 1 by omega, show 4 * (ρ 1).toNat + 3 = (ρ 0).toNat by omega, show 4 * (ρ 1).toNat = (ρ 0).toNat - 3 by omega, c2, c3] at hl
  have hv1 := zi_lo (F 22 (ρ 0).toNat)
  have hv2 := zi_hi (F 22 (ρ 0).toNat)
  obtain ⟨l1, l2, l3, l4⟩ := hl
  rcases (by omega : ρ 3 = 0 ∨ ρ 3 = 1 ∨ ρ 3 = 2 ∨ ρ 3 = 3 ∨ ρ 3 = 4 ∨ ρ 3 = 5 ∨ ρ 3 = 6 ∨ ρ 3 = 7) with hw | hw | hw | hw | hw | hw | hw | hw
  · have l5 := l3 hw
    refine ⟨_, List.mem_cons_self, (zf_up ρ 5 (F 22 (ρ 0).toNat).toInt), fun j hj => if_neg (Nat.ne_of_lt hj), ?_, ?_, ?_, ([(5, 1)], 0), rfl, ?_⟩
    · exact by
        intro x
        match x with
        | 0 => exact ⟨by show (0 : Int) ≤ ρ 0; omega, by show ρ 0 ≤ (159 : Int); omega⟩
        | 1 => exact ⟨by show (0 : Int) ≤ ρ 1; omega, by show ρ 1 ≤ (39 : Int); omega⟩
        | 2 => exact ⟨by show (0 : Int) ≤ ρ 2; omega, by show ρ 2 ≤ (40 : Int); omega⟩
        | 3 => exact ⟨by show (0 : Int) ≤ ρ 3; omega, by show ρ 3 ≤ (0 : Int); omega⟩
        | 4 => exact ⟨by show (0 : Int) ≤ ρ 4; omega, by show ρ 4 ≤ (5 : Int); omega⟩
        | 5 => exact ⟨by show (0 : Int) ≤ (F 22 (ρ 0).toNat).toInt; omega, by show (F 22 (ρ 0).toNat).toInt ≤ (5 : Int); omega⟩
        | n + 6 => exact hE (n + 6)
    · exact by
        intro g hg
        simp only [List.mem_cons, List.not_mem_nil, or_false] at hg
        rcases hg with rfl | rfl | rfl
        · show (0 : Int) ≤ 1 * ρ 0 + ((-4) * ρ 1 + ((-3))); omega
        · show (0 : Int) ≤ (-1) * ρ 0 + (4 * ρ 1 + (3)); omega
        · show (0 : Int) ≤ (-1) * ρ 1 + (1 * ρ 2 + ((-1))); omega
    · intro h hq
      simp only [List.mem_cons, List.not_mem_nil, or_false] at hq
      rcases hq with rfl
      exact zq_ec (g := 22) (I := (ρ 0).toNat) (V := (F 22 (ρ 0).toNat).toInt) rfl (by show (0 : Int) ≤ 1 * ρ 0 + 0; omega) (by decide) (by show (1 * ρ 0 + 0 : Int).toNat = _; omega) (by show (1 * (F 22 (ρ 0).toNat).toInt + 0 : Int) = _; omega)
    · show (F 22 (zf_v ρ ([(0, 1)], 0)).toNat).toInt = 1 * (F 22 (ρ 0).toNat).toInt + 0
      rw [show (zf_v ρ ([(0, 1)], 0)).toNat = (ρ 0).toNat from (by show (1 * ρ 0 + 0 : Int).toNat = _; omega)]
      omega
  · have l5 := l4 (Or.inl hw)
    refine ⟨_, (List.mem_cons_of_mem _ List.mem_cons_self), (zf_up ρ 5 (F 22 (ρ 0).toNat).toInt), fun j hj => if_neg (Nat.ne_of_lt hj), ?_, ?_, ?_, ([(5, 1)], 0), rfl, ?_⟩
    · exact by
        intro x
        match x with
        | 0 => exact ⟨by show (0 : Int) ≤ ρ 0; omega, by show ρ 0 ≤ (159 : Int); omega⟩
        | 1 => exact ⟨by show (0 : Int) ≤ ρ 1; omega, by show ρ 1 ≤ (39 : Int); omega⟩
        | 2 => exact ⟨by show (0 : Int) ≤ ρ 2; omega, by show ρ 2 ≤ (40 : Int); omega⟩
        | 3 => exact ⟨by show (1 : Int) ≤ ρ 3; omega, by show ρ 3 ≤ (1 : Int); omega⟩
        | 4 => exact ⟨by show (0 : Int) ≤ ρ 4; omega, by show ρ 4 ≤ (31 : Int); omega⟩
        | 5 => exact ⟨by show ((-2147483648) : Int) ≤ (F 22 (ρ 0).toNat).toInt; omega, by show (F 22 (ρ 0).toNat).toInt ≤ (2147483647 : Int); omega⟩
        | n + 6 => exact hE (n + 6)
    · exact by
        intro g hg
        simp only [List.mem_cons, List.not_mem_nil, or_false] at hg
        rcases hg with rfl | rfl | rfl
        · show (0 : Int) ≤ 1 * ρ 0 + ((-4) * ρ 1 + ((-3))); omega
        · show (0 : Int) ≤ (-1) * ρ 0 + (4 * ρ 1 + (3)); omega
        · show (0 : Int) ≤ (-1) * ρ 1 + (1 * ρ 2 + ((-1))); omega
    · intro h hq
      simp only [List.mem_cons, List.not_mem_nil, or_false] at hq
      rcases hq with rfl
      exact zq_ec (g := 22) (I := (ρ 0).toNat) (V := (F 22 (ρ 0).toNat).toInt) rfl (by show (0 : Int) ≤ 1 * ρ 0 + 0; omega) (by decide) (by show (1 * ρ 0 + 0 : Int).toNat = _; omega) (by show (1 * (F 22 (ρ 0).toNat).toInt + 0 : Int) = _; omega)
    · show (F 22 (zf_v ρ ([(0, 1)], 0)).toNat).toInt = 1 * (F 22 (ρ 0).toNat).toInt + 0
      rw [show (zf_v ρ ([(0, 1)], 0)).toNat = (ρ 0).toNat from (by show (1 * ρ 0 + 0 : Int).toNat = _; omega)]
      omega
  · refine ⟨_, (List.mem_cons_of_mem _ (List.mem_cons_of_mem _ List.mem_cons_self)), (zf_up ρ 5 (F 22 (ρ 0).toNat).toInt), fun j hj => if_neg (Nat.ne_of_lt hj), ?_, ?_, ?_, ([(5, 1)], 0), rfl, ?_⟩
    · exact by
        intro x
        match x with
        | 0 => exact ⟨by show (0 : Int) ≤ ρ 0; omega, by show ρ 0 ≤ (159 : Int); omega⟩
        | 1 => exact ⟨by show (0 : Int) ≤ ρ 1; omega, by show ρ 1 ≤ (39 : Int); omega⟩
        | 2 => exact ⟨by show (0 : Int) ≤ ρ 2; omega, by show ρ 2 ≤ (40 : Int); omega⟩
        | 3 => exact ⟨by show (2 : Int) ≤ ρ 3; omega, by show ρ 3 ≤ (2 : Int); omega⟩
        | 4 => exact ⟨by show ((-2147483648) : Int) ≤ ρ 4; omega, by show ρ 4 ≤ (2147483647 : Int); omega⟩
        | 5 => exact ⟨by show ((-2147483648) : Int) ≤ (F 22 (ρ 0).toNat).toInt; omega, by show (F 22 (ρ 0).toNat).toInt ≤ (2147483647 : Int); omega⟩
        | n + 6 => exact hE (n + 6)
    · exact by
        intro g hg
        simp only [List.mem_cons, List.not_mem_nil, or_false] at hg
        rcases hg with rfl | rfl | rfl
        · show (0 : Int) ≤ 1 * ρ 0 + ((-4) * ρ 1 + ((-3))); omega
        · show (0 : Int) ≤ (-1) * ρ 0 + (4 * ρ 1 + (3)); omega
        · show (0 : Int) ≤ (-1) * ρ 1 + (1 * ρ 2 + ((-1))); omega
    · intro h hq
      simp only [List.mem_cons, List.not_mem_nil, or_false] at hq
      rcases hq with rfl
      exact zq_ec (g := 22) (I := (ρ 0).toNat) (V := (F 22 (ρ 0).toNat).toInt) rfl (by show (0 : Int) ≤ 1 * ρ 0 + 0; omega) (by decide) (by show (1 * ρ 0 + 0 : Int).toNat = _; omega) (by show (1 * (F 22 (ρ 0).toNat).toInt + 0 : Int) = _; omega)
    · show (F 22 (zf_v ρ ([(0, 1)], 0)).toNat).toInt = 1 * (F 22 (ρ 0).toNat).toInt + 0
      rw [show (zf_v ρ ([(0, 1)], 0)).toNat = (ρ 0).toNat from (by show (1 * ρ 0 + 0 : Int).toNat = _; omega)]
      omega
  · refine ⟨_, (List.mem_cons_of_mem _ (List.mem_cons_of_mem _ (List.mem_cons_of_mem _ List.mem_cons_self))), (zf_up ρ 5 (F 22 (ρ 0).toNat).toInt), fun j hj => if_neg (Nat.ne_of_lt hj), ?_, ?_, ?_, ([(5, 1)], 0), rfl, ?_⟩
    · exact by
        intro x
        match x with
        | 0 => exact ⟨by show (0 : Int) ≤ ρ 0; omega, by show ρ 0 ≤ (159 : Int); omega⟩
        | 1 => exact ⟨by show (0 : Int) ≤ ρ 1; omega, by show ρ 1 ≤ (39 : Int); omega⟩
        | 2 => exact ⟨by show (0 : Int) ≤ ρ 2; omega, by show ρ 2 ≤ (40 : Int); omega⟩
        | 3 => exact ⟨by show (3 : Int) ≤ ρ 3; omega, by show ρ 3 ≤ (3 : Int); omega⟩
        | 4 => exact ⟨by show ((-2147483648) : Int) ≤ ρ 4; omega, by show ρ 4 ≤ (2147483647 : Int); omega⟩
        | 5 => exact ⟨by show ((-2147483648) : Int) ≤ (F 22 (ρ 0).toNat).toInt; omega, by show (F 22 (ρ 0).toNat).toInt ≤ (2147483647 : Int); omega⟩
        | n + 6 => exact hE (n + 6)
    · exact by
        intro g hg
        simp only [List.mem_cons, List.not_mem_nil, or_false] at hg
        rcases hg with rfl | rfl | rfl
        · show (0 : Int) ≤ 1 * ρ 0 + ((-4) * ρ 1 + ((-3))); omega
        · show (0 : Int) ≤ (-1) * ρ 0 + (4 * ρ 1 + (3)); omega
        · show (0 : Int) ≤ (-1) * ρ 1 + (1 * ρ 2 + ((-1))); omega
    · intro h hq
      simp only [List.mem_cons, List.not_mem_nil, or_false] at hq
      rcases hq with rfl
      exact zq_ec (g := 22) (I := (ρ 0).toNat) (V := (F 22 (ρ 0).toNat).toInt) rfl (by show (0 : Int) ≤ 1 * ρ 0 + 0; omega) (by decide) (by show (1 * ρ 0 + 0 : Int).toNat = _; omega) (by show (1 * (F 22 (ρ 0).toNat).toInt + 0 : Int) = _; omega)
    · show (F 22 (zf_v ρ ([(0, 1)], 0)).toNat).toInt = 1 * (F 22 (ρ 0).toNat).toInt + 0
      rw [show (zf_v ρ ([(0, 1)], 0)).toNat = (ρ 0).toNat from (by show (1 * ρ 0 + 0 : Int).toNat = _; omega)]
      omega
  · refine ⟨_, (List.mem_cons_of_mem _ (List.mem_cons_of_mem _ (List.mem_cons_of_mem _ (List.mem_cons_of_mem _ List.mem_cons_self)))), (zf_up ρ 5 (F 22 (ρ 0).toNat).toInt), fun j hj => if_neg (Nat.ne_of_lt hj), ?_, ?_, ?_, ([(5, 1)], 0), rfl, ?_⟩
    · exact by
        intro x
        match x with
        | 0 => exact ⟨by show (0 : Int) ≤ ρ 0; omega, by show ρ 0 ≤ (159 : Int); omega⟩
        | 1 => exact ⟨by show (0 : Int) ≤ ρ 1; omega, by show ρ 1 ≤ (39 : Int); omega⟩
        | 2 => exact ⟨by show (0 : Int) ≤ ρ 2; omega, by show ρ 2 ≤ (40 : Int); omega⟩
        | 3 => exact ⟨by show (4 : Int) ≤ ρ 3; omega, by show ρ 3 ≤ (4 : Int); omega⟩
        | 4 => exact ⟨by show ((-2147483648) : Int) ≤ ρ 4; omega, by show ρ 4 ≤ (2147483647 : Int); omega⟩
        | 5 => exact ⟨by show ((-2147483648) : Int) ≤ (F 22 (ρ 0).toNat).toInt; omega, by show (F 22 (ρ 0).toNat).toInt ≤ (2147483647 : Int); omega⟩
        | n + 6 => exact hE (n + 6)
    · exact by
        intro g hg
        simp only [List.mem_cons, List.not_mem_nil, or_false] at hg
        rcases hg with rfl | rfl | rfl
        · show (0 : Int) ≤ 1 * ρ 0 + ((-4) * ρ 1 + ((-3))); omega
        · show (0 : Int) ≤ (-1) * ρ 0 + (4 * ρ 1 + (3)); omega
        · show (0 : Int) ≤ (-1) * ρ 1 + (1 * ρ 2 + ((-1))); omega
    · intro h hq
      simp only [List.mem_cons, List.not_mem_nil, or_false] at hq
      rcases hq with rfl
      exact zq_ec (g := 22) (I := (ρ 0).toNat) (V := (F 22 (ρ 0).toNat).toInt) rfl (by show (0 : Int) ≤ 1 * ρ 0 + 0; omega) (by decide) (by show (1 * ρ 0 + 0 : Int).toNat = _; omega) (by show (1 * (F 22 (ρ 0).toNat).toInt + 0 : Int) = _; omega)
    · show (F 22 (zf_v ρ ([(0, 1)], 0)).toNat).toInt = 1 * (F 22 (ρ 0).toNat).toInt + 0
      rw [show (zf_v ρ ([(0, 1)], 0)).toNat = (ρ 0).toNat from (by show (1 * ρ 0 + 0 : Int).toNat = _; omega)]
      omega
  · have l5 := l4 (Or.inr hw)
    refine ⟨_, (List.mem_cons_of_mem _ (List.mem_cons_of_mem _ (List.mem_cons_of_mem _ (List.mem_cons_of_mem _ (List.mem_cons_of_mem _ List.mem_cons_self))))), (zf_up ρ 5 (F 22 (ρ 0).toNat).toInt), fun j hj => if_neg (Nat.ne_of_lt hj), ?_, ?_, ?_, ([(5, 1)], 0), rfl, ?_⟩
    · exact by
        intro x
        match x with
        | 0 => exact ⟨by show (0 : Int) ≤ ρ 0; omega, by show ρ 0 ≤ (159 : Int); omega⟩
        | 1 => exact ⟨by show (0 : Int) ≤ ρ 1; omega, by show ρ 1 ≤ (39 : Int); omega⟩
        | 2 => exact ⟨by show (0 : Int) ≤ ρ 2; omega, by show ρ 2 ≤ (40 : Int); omega⟩
        | 3 => exact ⟨by show (5 : Int) ≤ ρ 3; omega, by show ρ 3 ≤ (5 : Int); omega⟩
        | 4 => exact ⟨by show (0 : Int) ≤ ρ 4; omega, by show ρ 4 ≤ (31 : Int); omega⟩
        | 5 => exact ⟨by show ((-2147483648) : Int) ≤ (F 22 (ρ 0).toNat).toInt; omega, by show (F 22 (ρ 0).toNat).toInt ≤ (2147483647 : Int); omega⟩
        | n + 6 => exact hE (n + 6)
    · exact by
        intro g hg
        simp only [List.mem_cons, List.not_mem_nil, or_false] at hg
        rcases hg with rfl | rfl | rfl
        · show (0 : Int) ≤ 1 * ρ 0 + ((-4) * ρ 1 + ((-3))); omega
        · show (0 : Int) ≤ (-1) * ρ 0 + (4 * ρ 1 + (3)); omega
        · show (0 : Int) ≤ (-1) * ρ 1 + (1 * ρ 2 + ((-1))); omega
    · intro h hq
      simp only [List.mem_cons, List.not_mem_nil, or_false] at hq
      rcases hq with rfl
      exact zq_ec (g := 22) (I := (ρ 0).toNat) (V := (F 22 (ρ 0).toNat).toInt) rfl (by show (0 : Int) ≤ 1 * ρ 0 + 0; omega) (by decide) (by show (1 * ρ 0 + 0 : Int).toNat = _; omega) (by show (1 * (F 22 (ρ 0).toNat).toInt + 0 : Int) = _; omega)
    · show (F 22 (zf_v ρ ([(0, 1)], 0)).toNat).toInt = 1 * (F 22 (ρ 0).toNat).toInt + 0
      rw [show (zf_v ρ ([(0, 1)], 0)).toNat = (ρ 0).toNat from (by show (1 * ρ 0 + 0 : Int).toNat = _; omega)]
      omega
  · refine ⟨_, (List.mem_cons_of_mem _ (List.mem_cons_of_mem _ (List.mem_cons_of_mem _ (List.mem_cons_of_mem _ (List.mem_cons_of_mem _ (List.mem_cons_of_mem _ List.mem_cons_self)))))), (zf_up ρ 5 (F 22 (ρ 0).toNat).toInt), fun j hj => if_neg (Nat.ne_of_lt hj), ?_, ?_, ?_, ([(5, 1)], 0), rfl, ?_⟩
    · exact by
        intro x
        match x with
        | 0 => exact ⟨by show (0 : Int) ≤ ρ 0; omega, by show ρ 0 ≤ (159 : Int); omega⟩
        | 1 => exact ⟨by show (0 : Int) ≤ ρ 1; omega, by show ρ 1 ≤ (39 : Int); omega⟩
        | 2 => exact ⟨by show (0 : Int) ≤ ρ 2; omega, by show ρ 2 ≤ (40 : Int); omega⟩
        | 3 => exact ⟨by show (6 : Int) ≤ ρ 3; omega, by show ρ 3 ≤ (6 : Int); omega⟩
        | 4 => exact ⟨by show ((-2147483648) : Int) ≤ ρ 4; omega, by show ρ 4 ≤ (2147483647 : Int); omega⟩
        | 5 => exact ⟨by show ((-2147483648) : Int) ≤ (F 22 (ρ 0).toNat).toInt; omega, by show (F 22 (ρ 0).toNat).toInt ≤ (2147483647 : Int); omega⟩
        | n + 6 => exact hE (n + 6)
    · exact by
        intro g hg
        simp only [List.mem_cons, List.not_mem_nil, or_false] at hg
        rcases hg with rfl | rfl | rfl
        · show (0 : Int) ≤ 1 * ρ 0 + ((-4) * ρ 1 + ((-3))); omega
        · show (0 : Int) ≤ (-1) * ρ 0 + (4 * ρ 1 + (3)); omega
        · show (0 : Int) ≤ (-1) * ρ 1 + (1 * ρ 2 + ((-1))); omega
    · intro h hq
      simp only [List.mem_cons, List.not_mem_nil, or_false] at hq
      rcases hq with rfl
      exact zq_ec (g := 22) (I := (ρ 0).toNat) (V := (F 22 (ρ 0).toNat).toInt) rfl (by show (0 : Int) ≤ 1 * ρ 0 + 0; omega) (by decide) (by show (1 * ρ 0 + 0 : Int).toNat = _; omega) (by show (1 * (F 22 (ρ 0).toNat).toInt + 0 : Int) = _; omega)
    · show (F 22 (zf_v ρ ([(0, 1)], 0)).toNat).toInt = 1 * (F 22 (ρ 0).toNat).toInt + 0
      rw [show (zf_v ρ ([(0, 1)], 0)).toNat = (ρ 0).toNat from (by show (1 * ρ 0 + 0 : Int).toNat = _; omega)]
      omega
  · refine ⟨_, (List.mem_cons_of_mem _ (List.mem_cons_of_mem _ (List.mem_cons_of_mem _ (List.mem_cons_of_mem _ (List.mem_cons_of_mem _ (List.mem_cons_of_mem _ (List.mem_cons_of_mem _ List.mem_cons_self))))))), (zf_up ρ 5 (F 22 (ρ 0).toNat).toInt), fun j hj => if_neg (Nat.ne_of_lt hj), ?_, ?_, ?_, ([(5, 1)], 0), rfl, ?_⟩
    · exact by
        intro x
        match x with
        | 0 => exact ⟨by show (0 : Int) ≤ ρ 0; omega, by show ρ 0 ≤ (159 : Int); omega⟩
        | 1 => exact ⟨by show (0 : Int) ≤ ρ 1; omega, by show ρ 1 ≤ (39 : Int); omega⟩
        | 2 => exact ⟨by show (0 : Int) ≤ ρ 2; omega, by show ρ 2 ≤ (40 : Int); omega⟩
        | 3 => exact ⟨by show (7 : Int) ≤ ρ 3; omega, by show ρ 3 ≤ (7 : Int); omega⟩
        | 4 => exact ⟨by show ((-2147483648) : Int) ≤ ρ 4; omega, by show ρ 4 ≤ (2147483647 : Int); omega⟩
        | 5 => exact ⟨by show ((-2147483648) : Int) ≤ (F 22 (ρ 0).toNat).toInt; omega, by show (F 22 (ρ 0).toNat).toInt ≤ (2147483647 : Int); omega⟩
        | n + 6 => exact hE (n + 6)
    · exact by
        intro g hg
        simp only [List.mem_cons, List.not_mem_nil, or_false] at hg
        rcases hg with rfl | rfl | rfl
        · show (0 : Int) ≤ 1 * ρ 0 + ((-4) * ρ 1 + ((-3))); omega
        · show (0 : Int) ≤ (-1) * ρ 0 + (4 * ρ 1 + (3)); omega
        · show (0 : Int) ≤ (-1) * ρ 1 + (1 * ρ 2 + ((-1))); omega
    · intro h hq
      simp only [List.mem_cons, List.not_mem_nil, or_false] at hq
      rcases hq with rfl
      exact zq_ec (g := 22) (I := (ρ 0).toNat) (V := (F 22 (ρ 0).toNat).toInt) rfl (by show (0 : Int) ≤ 1 * ρ 0 + 0; omega) (by decide) (by show (1 * ρ 0 + 0 : Int).toNat = _; omega) (by show (1 * (F 22 (ρ 0).toNat).toInt + 0 : Int) = _; omega)
    · show (F 22 (zf_v ρ ([(0, 1)], 0)).toNat).toInt = 1 * (F 22 (ρ 0).toNat).toInt + 0
      rw [show (zf_v ρ ([(0, 1)], 0)).toNat = (ρ 0).toNat from (by show (1 * ρ 0 + 0 : Int).toNat = _; omega)]
      omega
def zh_gvmul : zf_M := (([(0, 1)], [], 64, [], [.inl ([(0, 1)], 0), .inl ([], 874)], []), [], [(some (.inl ([(0, 874)], 0)), ([(0, 1)], [], 64, [], [], [(1025, 0, ([], 1025), .inl ([(0, 1)], 0))]))])
theorem zh_gvmul_c : zh_gvmul.2.2.all zr_out = true := by decide +kernel
set_option maxRecDepth 20000 in
theorem zh_gvmul_r : zr_BR (fun x y => x * y) ([], 874) ([(0, 1)], 0) zh_gvmul := by
  intro ρ F x y ex ey hE hF
  have b0 : (0 : Int) ≤ ρ 0 ∧ ρ 0 ≤ (1 : Int) := hE 0
  have ex : x.toInt = 874 := ex.trans (by show (874 : Int) = 874; omega)
  have ey : y.toInt = ρ 0 := ey.trans (by show (1 * ρ 0 + (0) : Int) = ρ 0; omega)
  refine ⟨_, List.mem_cons_self, ρ, fun _ _ => rfl, hE, fun g hg => (by cases hg), ?_, ([(0, 874)], 0), rfl, ?_⟩
  · intro h hq
    simp only [List.mem_cons, List.not_mem_nil, or_false] at hq
    rcases hq with rfl
    exact zq_lf (j := 25) (A := 1025) (B := ρ 0) trivial (by decide) rfl (by show (1 * ρ 0 + 0 : Int) = _; omega)
  · show (x * y).toInt = 874 * ρ 0 + 0
    rw [Kit.i32_mul (by rw [ex, ey]; omega) (by rw [ex, ey]; omega), ex, ey]
    omega
def zh_gvmul4 : zf_M := (([(0, 40)], [], 64, [], [.inl ([(0, 1)], 0), .inl ([], 4)], []), [], [(some (.inl ([(0, 4)], 0)), ([(0, 40)], [], 64, [], [], [(1025, 0, ([], 1025), .inl ([(0, 1)], 0))]))])
theorem zh_gvmul4_c : zh_gvmul4.2.2.all zr_out = true := by decide +kernel
set_option maxRecDepth 20000 in
theorem zh_gvmul4_r : zr_BR (fun x y => x * y) ([], 4) ([(0, 1)], 0) zh_gvmul4 := by
  intro ρ F x y ex ey hE hF
  have b0 : (0 : Int) ≤ ρ 0 ∧ ρ 0 ≤ (40 : Int) := hE 0
  have ex : x.toInt = 4 := ex.trans (by show (4 : Int) = 4; omega)
  have ey : y.toInt = ρ 0 := ey.trans (by show (1 * ρ 0 + (0) : Int) = ρ 0; omega)
  refine ⟨_, List.mem_cons_self, ρ, fun _ _ => rfl, hE, fun g hg => (by cases hg), ?_, ([(0, 4)], 0), rfl, ?_⟩
  · intro h hq
    simp only [List.mem_cons, List.not_mem_nil, or_false] at hq
    rcases hq with rfl
    exact zq_lf (j := 25) (A := 1025) (B := ρ 0) trivial (by decide) rfl (by show (1 * ρ 0 + 0 : Int) = _; omega)
  · show (x * y).toInt = 4 * ρ 0 + 0
    rw [Kit.i32_mul (by rw [ex, ey]; omega) (by rw [ex, ey]; omega), ex, ey]
    omega
def zh_gvmul3 : zf_M := (([(0, 43)], [], 64, [], [.inl ([(0, 1)], 0), .inl ([], 3)], []), [], [(some (.inl ([(0, 3)], 0)), ([(0, 43)], [], 64, [], [], [(1025, 0, ([], 1025), .inl ([(0, 1)], 0))]))])
theorem zh_gvmul3_c : zh_gvmul3.2.2.all zr_out = true := by decide +kernel
set_option maxRecDepth 20000 in
theorem zh_gvmul3_r : zr_BR (fun x y => x * y) ([], 3) ([(0, 1)], 0) zh_gvmul3 := by
  intro ρ F x y ex ey hE hF
  have b0 : (0 : Int) ≤ ρ 0 ∧ ρ 0 ≤ (43 : Int) := hE 0
  have ex : x.toInt = 3 := ex.trans (by show (3 : Int) = 3; omega)
  have ey : y.toInt = ρ 0 := ey.trans (by show (1 * ρ 0 + (0) : Int) = ρ 0; omega)
  refine ⟨_, List.mem_cons_self, ρ, fun _ _ => rfl, hE, fun g hg => (by cases hg), ?_, ([(0, 3)], 0), rfl, ?_⟩
  · intro h hq
    simp only [List.mem_cons, List.not_mem_nil, or_false] at hq
    rcases hq with rfl
    exact zq_lf (j := 25) (A := 1025) (B := ρ 0) trivial (by decide) rfl (by show (1 * ρ 0 + 0 : Int) = _; omega)
  · show (x * y).toInt = 3 * ρ 0 + 0
    rw [Kit.i32_mul (by rw [ex, ey]; omega) (by rw [ex, ey]; omega), ex, ey]
    omega
def zh_mulp0 : zf_M := (([(1, 512)], [], 64, [], [.inl ([(0, 1)], 0), .inl ([], 1)], []), [], [(some (.inl ([(0, 1)], 0)), ([(1, 512)], [], 64, [], [], []))])
theorem zh_mulp0_c : zh_mulp0.2.2.all zr_out = true := by decide +kernel
set_option maxRecDepth 20000 in
theorem zh_mulp0_r : zr_BR (fun x y => x * y) ([], 1) ([(0, 1)], 0) zh_mulp0 := by
  intro ρ F x y ex ey hE hF
  have b0 : (1 : Int) ≤ ρ 0 ∧ ρ 0 ≤ (512 : Int) := hE 0
  have ex : x.toInt = 1 := ex.trans (by show (1 : Int) = 1; omega)
  have ey : y.toInt = ρ 0 := ey.trans (by show (1 * ρ 0 + (0) : Int) = ρ 0; omega)
  refine ⟨_, List.mem_cons_self, ρ, fun _ _ => rfl, hE, fun g hg => (by cases hg), fun h hq => (by cases hq), ([(0, 1)], 0), rfl, ?_⟩
  show (x * y).toInt = 1 * ρ 0 + 0
  rw [Kit.i32_mul (by rw [ex, ey]; omega) (by rw [ex, ey]; omega), ex, ey]
  omega
def zh_mulp1 : zf_M := (([(1, 512), (1, 512)], [], 64, [], [.inl ([(1, 1)], 0), .inl ([(0, 1)], 0)], []), [], [(some (.inl ([(2, 1)], 0)), ([(1, 512), (1, 512), (1, 262144)], [], 64, [], [], []))])
theorem zh_mulp1_c : zh_mulp1.2.2.all zr_out = true := by decide +kernel
set_option maxRecDepth 20000 in
theorem zh_mulp1_r : zr_BR (fun x y => x * y) ([(0, 1)], 0) ([(1, 1)], 0) zh_mulp1 := by
  intro ρ F x y ex ey hE hF
  have b0 : (1 : Int) ≤ ρ 0 ∧ ρ 0 ≤ (512 : Int) := hE 0
  have b1 : (1 : Int) ≤ ρ 1 ∧ ρ 1 ≤ (512 : Int) := hE 1
  have ex : x.toInt = ρ 0 := ex.trans (by show (1 * ρ 0 + (0) : Int) = ρ 0; omega)
  have ey : y.toInt = ρ 1 := ey.trans (by show (1 * ρ 1 + (0) : Int) = ρ 1; omega)
  have q1 : (1 : Int) * 1 ≤ ρ 0 * ρ 1 := Int.mul_le_mul (by omega) (by omega) (by omega) (by omega)
  have q2 : ρ 0 * ρ 1 ≤ 512 * 512 := Int.mul_le_mul (by omega) (by omega) (by omega) (by omega)
  have q3 : (x * y).toInt = ρ 0 * ρ 1 := by
    rw [Kit.i32_mul (by rw [ex, ey]; omega) (by rw [ex, ey]; omega), ex, ey]
  refine ⟨_, List.mem_cons_self, zf_up ρ 2 (ρ 0 * ρ 1), fun j hj => if_neg (Nat.ne_of_lt hj), zf_up_ok (v := (1, 262144)) hE ⟨by dsimp only; omega, by dsimp only; omega⟩, fun g hg => (by cases hg), fun h hq => (by cases hq), ([(2, 1)], 0), rfl, ?_⟩
  show (x * y).toInt = 1 * (ρ 0 * ρ 1) + 0
  omega
def zh_mulp2 : zf_M := (([(1, 262144), (1, 512)], [], 64, [], [.inl ([(1, 1)], 0), .inl ([(0, 1)], 0)], []), [], [(some (.inl ([(2, 1)], 0)), ([(1, 262144), (1, 512), (1, 134217728)], [], 64, [], [], []))])
theorem zh_mulp2_c : zh_mulp2.2.2.all zr_out = true := by decide +kernel
set_option maxRecDepth 20000 in
theorem zh_mulp2_r : zr_BR (fun x y => x * y) ([(0, 1)], 0) ([(1, 1)], 0) zh_mulp2 := by
  intro ρ F x y ex ey hE hF
  have b0 : (1 : Int) ≤ ρ 0 ∧ ρ 0 ≤ (262144 : Int) := hE 0
  have b1 : (1 : Int) ≤ ρ 1 ∧ ρ 1 ≤ (512 : Int) := hE 1
  have ex : x.toInt = ρ 0 := ex.trans (by show (1 * ρ 0 + (0) : Int) = ρ 0; omega)
  have ey : y.toInt = ρ 1 := ey.trans (by show (1 * ρ 1 + (0) : Int) = ρ 1; omega)
  have q1 : (1 : Int) * 1 ≤ ρ 0 * ρ 1 := Int.mul_le_mul (by omega) (by omega) (by omega) (by omega)
  have q2 : ρ 0 * ρ 1 ≤ 262144 * 512 := Int.mul_le_mul (by omega) (by omega) (by omega) (by omega)
  have q3 : (x * y).toInt = ρ 0 * ρ 1 := by
    rw [Kit.i32_mul (by rw [ex, ey]; omega) (by rw [ex, ey]; omega), ex, ey]
  refine ⟨_, List.mem_cons_self, zf_up ρ 2 (ρ 0 * ρ 1), fun j hj => if_neg (Nat.ne_of_lt hj), zf_up_ok (v := (1, 134217728)) hE ⟨by dsimp only; omega, by dsimp only; omega⟩, fun g hg => (by cases hg), fun h hq => (by cases hq), ([(2, 1)], 0), rfl, ?_⟩
  show (x * y).toInt = 1 * (ρ 0 * ρ 1) + 0
  omega
def zh_and255 : zf_M := (([((-128), 127)], [], 64, [], [.inl ([], 255), .inl ([(0, 1)], 0)], []), [], [(some (.inl ([(0, 1)], 0)), ([(0, 127)], [], 64, [], [], [])), (some (.inl ([(0, 1)], 256)), ([((-128), (-1))], [], 64, [], [], []))])
theorem zh_and255_c : zh_and255.2.2.all zr_out = true := by decide +kernel
set_option maxRecDepth 20000 in
theorem zh_and255_r : zr_BR (fun x y => x &&& y) ([(0, 1)], 0) ([], 255) zh_and255 := by
  intro ρ F x y ex ey hE hF
  have b0 : ((-128) : Int) ≤ ρ 0 ∧ ρ 0 ≤ (127 : Int) := hE 0
  have ex : x.toInt = ρ 0 := ex.trans (by show (1 * ρ 0 + (0) : Int) = ρ 0; omega)
  have ey : y.toInt = 255 := ey.trans (by show (255 : Int) = 255; omega)
  have hy : y = 255 := zi_e (by rw [ey]; rfl)
  by_cases hs : 0 ≤ ρ 0
  · refine ⟨_, List.mem_cons_self, ρ, fun _ _ => rfl, ?_, fun g hg => (by cases hg), fun h hq => (by cases hq), ([(0, 1)], 0), rfl, ?_⟩
    · exact by
        intro x
        match x with
        | 0 => exact ⟨by show (0 : Int) ≤ ρ 0; omega, by show ρ 0 ≤ (127 : Int); omega⟩
        | n + 1 => exact hE (n + 1)
    · show (x &&& y).toInt = 1 * ρ 0 + 0
      rw [hy, zi_n255 (by omega) (by omega)]
      omega
  · refine ⟨_, List.mem_cons_of_mem _ List.mem_cons_self, ρ, fun _ _ => rfl, ?_, fun g hg => (by cases hg), fun h hq => (by cases hq), ([(0, 1)], 256), rfl, ?_⟩
    · exact by
        intro x
        match x with
        | 0 => exact ⟨by show ((-128) : Int) ≤ ρ 0; omega, by show ρ 0 ≤ ((-1) : Int); omega⟩
        | n + 1 => exact hE (n + 1)
    · show (x &&& y).toInt = 1 * ρ 0 + 256
      rw [hy, zi_m255 (by omega) (by omega)]
      omega
def zh_tkspan : zf_M := (([(0, 940)], [], 64, [], [.inr (some (18, 18))], [(18, 18, ([], 11), .inl ([], 1)), (18, 18, ([], 12), .inl ([(0, 1)], 0)), (1019, 0, ([], 1019), .inl ([], 0))]), [], [(some (.inl ([(1, 1)], 0)), ([(0, 940), (1, 12)], [([(0, (-1)), (1, (-1))], 940)], 64, [], [], [(18, 18, ([], 13), .inl ([(1, 1)], 0))]))])
theorem zh_tkspan_c : zr_gf 18 11 13 zh_tkspan = true := by decide +kernel
set_option maxRecDepth 20000 in
theorem zh_tkspan_r : zr_FR 18 13 zh_tkspan := by
  intro ρ F hE hF hh htp
  have b0 : (0 : Int) ≤ ρ 0 ∧ ρ 0 ≤ (940 : Int) := hE 0
  have c0 : (F 18 (11)).toInt = 1 := zq_ce (hh (18, 18, ([], 11), .inl ([], 1)) (by exact List.mem_cons_self)) (by decide) (by show (11 : Int).toNat = 11; omega) (by show (1 : Int) = 1; omega)
  have c1 : (F 18 (12)).toInt = ρ 0 := zq_ce (hh (18, 18, ([], 12), .inl ([(0, 1)], 0)) (by exact List.mem_cons_of_mem _ List.mem_cons_self)) (by decide) (by show (12 : Int).toNat = 12; omega) (by show (1 * ρ 0 + (0) : Int) = ρ 0; omega)
  have c2 : zf_gP 19 (1019) (0) F := zq_fl (hh (1019, 0, ([], 1019), .inl ([], 0)) (by exact List.mem_cons_of_mem _ (List.mem_cons_of_mem _ List.mem_cons_self))) (by decide) (by show (1019 : Int) = 1019; omega) (by show (0 : Int) = 0; omega)
  have h1 := c2 c0
  have h2 := c1
  refine ⟨_, List.mem_cons_self, (zf_up ρ 1 (F 18 13).toInt), fun j hj => if_neg (Nat.ne_of_lt hj), ?_, ?_, ?_, ([(1, 1)], 0), rfl, ?_⟩
  · exact by
      intro x
      match x with
      | 0 => exact ⟨by show (0 : Int) ≤ ρ 0; omega, by show ρ 0 ≤ (940 : Int); omega⟩
      | 1 => exact ⟨by show (1 : Int) ≤ (F 18 13).toInt; omega, by show (F 18 13).toInt ≤ (12 : Int); omega⟩
      | n + 2 => exact hE (n + 2)
  · exact by
      intro g hg
      simp only [List.mem_cons, List.not_mem_nil, or_false] at hg
      rcases hg with rfl
      show (0 : Int) ≤ (-1) * ρ 0 + ((-1) * (F 18 13).toInt + (940)); omega
  · intro h hq
    simp only [List.mem_cons, List.not_mem_nil, or_false] at hq
    rcases hq with rfl
    exact zq_ec (g := 18) (I := 13) (V := (F 18 13).toInt) rfl (by show (0 : Int) ≤ 13; omega) (by decide) rfl (by show (1 * (F 18 13).toInt + 0 : Int) = _; omega)
  · show (F 18 13).toInt = 1 * (F 18 13).toInt + 0
    omega
