/-! ===== the reference's ledger, to its end: what fault it leaves ===== -/
def kg_Q (D : va_G) (k : Nat → ClassId) (Sg : Nat → Option Nat) (a i : Nat) (x : Int32) (A : Nat → Prop) (t : State) : Prop := ∃ w' : va_W, va_P D vwCl w' t.heap ∧ va_D A w' ∧ zf_typ Sg k xGT w' ∧ zf_rd w' a i (.int x)
section PXZ
variable {Sg : Nat → Option Nat} {k : Nat → ClassId} {wz ws : va_W} {A Az : Nat → Prop} {θ th : Nat → Nat} {hp hp' : xe_H}
def kg_in (I : Nat → Nat → Int32) : Prop := ∀ g, xe_el g xSC = true → ∀ (i : Nat) (lo hi : Int), zf_sp (zf_gi zGT g).2.2 i = some (.inl (lo, hi)) → lo ≤ (I g i).toInt ∧ (I g i).toInt ≤ hi
theorem kg_px {g i : Nat} {P : zf_P} (hP : zf_sp (zf_gi zGT g).2.2 i = some P) : zf_sp (zf_gi xGT g).2.2 i = some (px_u P) := by
  rw [(px_gi g).2.2.2 i, hP]
  rfl
theorem kg_r0 (hD : va_D Az wz) (t0 : zf_typ Sg k zGT wz) (hc : xe_c Sg θ xGT xSC xRF wz hp) : kg_in hp.1 := by
  intro g hg i lo hi hs
  obtain ⟨g8, gS, -⟩ := hc.1 g hg
  obtain ⟨q, e, h1, h2⟩ := t0 _ g gS g8
  obtain ⟨v, h3, x, rfl, h4, h5⟩ := h2.2 i _ hs
  rw [px_int hD hc hg (kg_px hs) ⟨q, e, h1, h3⟩]
  exact ⟨h4, h5⟩
theorem px_typZ (hD : va_D A ws) (t0 : zf_typ Sg k zGT wz) (t1 : zf_typ Sg k xGT ws) (hI : xe_I θ xSC wz ws) (hc : xe_c Sg θ xGT xSC xRF ws hp') (hR : kg_in hp'.1) : zf_typ Sg k zGT ws := by
  intro a g ha hg
  obtain ⟨q, e, h1, h2, h3⟩ := t1 a g ha hg
  obtain ⟨g1, g2, g3, g4⟩ := px_gi g
  refine ⟨q, e, h1, ?_, fun i P hP => ?_⟩
  · rw [g1, g2, g3] at h2
    exact h2
  · obtain ⟨v, h4, h5⟩ := h3 i _ (kg_px hP)
    refine ⟨v, h4, ?_⟩
    match P, hP, h5 with
    | .inr none, _, h5 => exact h5
    | .inr (some g9), _, h5 => exact h5
    | .inl (lo, hi), hP, h5 =>
      obtain ⟨x, e9, -, -⟩ := h5
      by_cases hs : ∃ g9, xe_el g9 xSC = true ∧ a = θ g9
      · obtain ⟨g9, hg9, e8⟩ := hs
        have hS := (hc.1 g9 hg9).2.1
        rw [← e8, ha] at hS
        cases hS
        have hx : zf_rd ws (θ g) i (.int x) := by rw [← e8, ← e9]; exact ⟨q, e, h1, h4⟩
        have e7 : hp'.1 g i = x := px_int hD hc hg9 (kg_px hP) hx
        refine ⟨x, e9, ?_⟩
        rw [← e7]
        exact hR g hg9 i lo hi hP
      · obtain ⟨q0, e0, p1, p2⟩ := t0 a g ha hg
        obtain ⟨v0, p3, p4⟩ := p2.2 i _ hP
        have r := hI a i v0 (fun g9 h9 e8 => hs ⟨g9, h9, e8⟩) ⟨q0, e0, p1, p3⟩
        rw [← zf_rd_fun hD r ⟨q, e, h1, h4⟩]
        exact p4
/-- the reading moves neither the town nor the men before it -/
theorem kg_mv (hDz : va_D Az wz) (t0 : zf_typ Sg k zGT wz) (hone : ∀ a g, Sg a = some g → g < 37 → a = θ g) (h0 : xe_c Sg θ xGT xSC xRF wz hp) (hc : xe_c Sg θ xGT xSC xRF ws hp') (hI : xe_I θ xSC wz ws) (hF : fp lz_9 hp.1 hp'.1) {g x i : Nat} {v : Value} (hg : g = 20 ∧ i < 874 ∨ g = 26 ∨ g = 27) (hx : Sg x = some g) (r : zf_rd wz x i v) : zf_rd ws x i v := by
  have ho : xe_el g xSC = false → zf_rd ws x i v := fun hn => hI x i v (fun g9 h9 e8 => by
    have hS := (h0.1 g9 h9).2.1
    rw [← e8, hx] at hS
    cases hS
    rw [hn] at h9
    cases h9) r
  rcases hg with ⟨rfl, hi⟩ | rfl | rfl
  · have ex := hone x 20 hx (by decide)
    subst ex
    obtain ⟨P, hP⟩ := xe_sp_some (l := (zf_gi zGT 20).2.2) (i := i) hi
    obtain ⟨q9, rfl⟩ := xe_aI_ok (l := (zf_gi zGT 20).2.2) rfl hP
    obtain ⟨q, e, h1, h2⟩ := t0 _ 20 hx (by decide)
    obtain ⟨v9, h3, y9, rfl, -, -⟩ := h2.2 i _ hP
    have e1 := zf_rd_fun hDz r ⟨q, e, h1, h3⟩
    have hr := px_rd hc (g := 20) (i := i) rfl (kg_px hP)
    rw [hF 20 i rfl, px_int hDz h0 (g := 20) rfl (kg_px hP) ⟨q, e, h1, h3⟩] at hr
    rw [e1]
    exact hr
  · exact ho rfl
  · exact ho rfl
theorem kg_pi (hDz : va_D Az wz) (t0 : zf_typ Sg k zGT wz) (hone : ∀ a g, Sg a = some g → g < 37 → a = θ g) (h0 : xe_c Sg θ xGT xSC xRF wz hp) (hc : xe_c Sg θ xGT xSC xRF ws hp') (hI : xe_I θ xSC wz ws) (hF : fp lz_9 hp.1 hp'.1) {j : Nat} (hj : j = 0 ∨ j = 2 ∨ j = 3) (h : zf_pi Sg j ((1000 + j : Nat) : Int) 0 wz) : zf_pi Sg j ((1000 + j : Nat) : Int) 0 ws := by
  refine zf_pi_tr h (fun q hq x hx i i1 i2 v r => kg_mv hDz t0 hone h0 hc hI hF (g := q.1) ?_ hx r)
  rcases hj with rfl | rfl | rfl
  · have hq : q = (20, ([], 87), ([], 87)) ∨ q = (20, ([], 91), ([], 122)) := by simpa [zf_sup, zf_supT] using hq
    rcases hq with rfl | rfl
    · have i2 : (i : Int) ≤ 87 := i2
      exact .inl ⟨rfl, by omega⟩
    · have i2 : (i : Int) ≤ 122 := i2
      exact .inl ⟨rfl, by omega⟩
  · have hq : q = (27, ([], 0), ([], 0)) ∨ q = (27, ([], 4), ([], 35)) := by simpa [zf_sup, zf_supT] using hq
    rcases hq with rfl | rfl <;> exact .inr (.inr rfl)
  · have hq : q = (26, ([], 0), ([], 4847)) := by simpa [zf_sup, zf_supT] using hq
    rw [hq]
    exact .inr (.inl rfl)
theorem kg_p18 {c : Nat} (hone : ∀ a g, Sg a = some g → g < 37 → a = θ g) (hc : xe_c Sg θ xGT xSC xRF ws hp') (h40 : c ≤ 40) (hz : ∀ u, u < c → zg_ln (hp'.1 22) (4 * u)) {b : Int} (hb : b = (c : Int)) {a : Int} : zf_pi Sg 18 a b ws := by
  subst hb
  refine ⟨hp'.1, fun q hq x hx i i1 i2 => ?_, fun u hu => hz u (by omega)⟩
  have hq : q = (22, ([], 0), ([(1, 4)], -1)) := by simpa [zf_sup, zf_supT] using hq
  subst hq
  have i2 : (i : Int) ≤ 4 * (c : Int) + (-1) := i2
  rw [hone x 22 hx (by decide)]
  obtain ⟨P, hP⟩ := xe_sp_some (l := (zf_gi xGT 22).2.2) (i := i) (show i < 160 by omega)
  obtain ⟨q9, rfl⟩ := xe_aI_ok (l := (zf_gi xGT 22).2.2) rfl hP
  exact px_rd hc (g := 22) (i := i) rfl hP
theorem kg_rng {B : Nat → Int32} {n p c : Nat} {nsv : List (List Int32)} {Kk J : Nat → Nat → Int32} {M : Nat → Nat → Int64} (hn : n ≤ 940) (hp : p ≤ n) (hc : c ≤ 40) (E : lm_E B n nsv p c c Kk J M) (h0 : kg_in Kk) : kg_in J := by
  intro g hg i lo hi hs
  have n1 := (tN_le (B := B) (lim := 400) hp).2.1
  have n2 := tA_le (B := B) (lim := 400) (by decide) hp hn
  obtain ⟨⟨⟨m1, -, m3, m4, m5, -⟩, m7, m8⟩, -, m9, -, m10, eK, -⟩ := E
  cases h9 : lz_9 g i with
  | false =>
    rw [eK g i h9]
    exact h0 g hg i lo hi hs
  | true =>
    unfold lz_9 at h9
    rw [Bool.or_eq_true] at h9
    rcases h9 with h9 | h9
    · have e := Nat.eq_of_beq_eq_true h9
      subst e
      have e : zf_sp (zf_gi zGT 22).2.2 i = (bif Nat.blt i 160 then some (.inl (-2147483648, 2147483647)) else none) := by
        show zf_sp [(160, .inl (-2147483648, 2147483647))] i = _
        unfold zf_sp
        cases Nat.blt i 160 <;> rfl
      rw [e] at hs
      cases hb : Nat.blt i 160 with
      | false => rw [hb] at hs; cases hs
      | true =>
        rw [hb] at hs
        cases hs
        exact ⟨zi_lo _, zi_hi _⟩
    · rw [Bool.and_eq_true] at h9
      have e := Nat.eq_of_beq_eq_true h9.1
      subst e
      have h9 := h9.2
      rw [Bool.or_eq_true, Bool.or_eq_true, Bool.and_eq_true] at h9
      have hi9 : i = 0 ∨ i = 1 ∨ i = 2 ∨ i = 3 ∨ i = 4 ∨ i = 5 ∨ i = 11 ∨ i = 12 ∨ i = 13 ∨ i = 14 ∨ i = 15 ∨ i = 16 ∨ i = 17 ∨ i = 18 ∨ i = 34 := by
        rcases h9 with (h9 | ⟨h9, h8⟩) | h9
        · have := Nat.le_of_ble_eq_true h9; omega
        · have := Nat.le_of_ble_eq_true h9
          have := Nat.le_of_ble_eq_true h8
          omega
        · have := Nat.eq_of_beq_eq_true h9; omega
      have fl : ∀ {j : Nat}, zf_sp (zf_gi zGT 18).2.2 j = some (.inl (-2147483648, 2147483647)) → zf_sp (zf_gi zGT 18).2.2 j = some (.inl (lo, hi)) → lo ≤ (J 18 j).toInt ∧ (J 18 j).toInt ≤ hi := fun {j} e1 e2 => by
        rw [e1] at e2
        cases e2
        exact ⟨zi_lo _, zi_hi _⟩
      have bd : ∀ {j : Nat} {hi8 : Int}, zf_sp (zf_gi zGT 18).2.2 j = some (.inl (0, hi8)) → zf_sp (zf_gi zGT 18).2.2 j = some (.inl (lo, hi)) → 0 ≤ (J 18 j).toInt ∧ (J 18 j).toInt ≤ hi8 → lo ≤ (J 18 j).toInt ∧ (J 18 j).toInt ≤ hi := fun {j hi8} e1 e2 h => by
        rw [e1] at e2
        cases e2
        exact h
      have rf : ∀ {j h9 : Nat}, zf_sp (zf_gi zGT 18).2.2 j = some (.inr (some h9)) → zf_sp (zf_gi zGT 18).2.2 j = some (.inl (lo, hi)) → False := fun e1 e2 => by
        rw [e1] at e2
        cases e2
      have rl : zf_sp (zf_gi zGT 18).2.2 17 = some (.inr none) := rfl
      rcases hi9 with rfl | rfl | rfl | rfl | rfl | rfl | rfl | rfl | rfl | rfl | rfl | rfl | rfl | rfl | rfl
      · exact fl rfl hs
      · exact (rf rfl hs).elim
      · exact bd rfl hs (by rw [m10]; decide)
      · exact bd (hi8 := 940) rfl hs (by rw [m1, ti (by omega)]; omega)
      · exact bd (hi8 := 940) rfl hs (by rw [m5, ti (by omega)]; omega)
      · exact bd (hi8 := 940) rfl hs (by rw [m3]; decide)
      · exact fl rfl hs
      · exact bd (hi8 := 940) rfl hs (by rw [m4, ti (by omega)]; omega)
      · exact bd (hi8 := 940) rfl hs ⟨m7, m8⟩
      · exact fl rfl hs
      · exact fl rfl hs
      · exact fl rfl hs
      · rw [rl] at hs
        cases hs
      · exact fl rfl hs
      · exact bd (hi8 := 40) rfl hs (by rw [m9, ti (by omega)]; omega)
end PXZ

set_option maxRecDepth 100000 in
set_option maxHeartbeats 4000000 in
theorem zR_X13_ledger (l : Launch) (D : va_G) (k : Nat → ClassId) (B0 : Nat) (ad : Nat → Nat) (al sw : Nat) : zf_Rl l yX13_ledger (zw yX13_ledger cX13_ledger 5 (some .int)) ({ frames := 5, cells := 0, slots := 0, locals := 116 }) cX13_ledger 5 D k zGT 37 B0 [zm_X13_isIn, zm_X13_taken, zh_ll0, zm_X13_next, zm_X13_ledgerLine, zm_X13_sign, zm_X13_tries, zh_gvmul4, zh_llld, zm_X13_tells_vw0, zm_X13_tells_vw1, zm_X13_tells_vw2_b, zm_X13_tells_vw3, zm_X13_tells_vw4, zm_X13_tells_vw5, zm_X13_tells_vw6, zm_X13_tells_vw7, zm_X13_allDebts, zm_X13_thereSet, zm_X13_keep, zh_lk0, zh_lkst, zm_X13_back] [(40, 11, 8, .inl (0, 0)), (50, 11, 23, .inl (0, 0)), (53, 11, 24, .inl (0, 0)), (65, 11, 35, .inl (0, 0)), (140, 11, 11, .inl (0, 0)), (162, 11, 16, .inl (0, 0)), (235, 11, 25, .inl (0, 0)), (400, 11, 34, .inl (0, 0))] [(1, 11, 0, .inl ((-2147483648), 2147483647)), (159, 11, 15, .inl ((-2147483648), 2147483647)), (400, 11, 34, .inl ((-2147483648), 2147483647)), (413, 11, 36, .inl (0, 1))] zn_X13_ledger (zEx B0 ad al sw) := by
  have hEx := zEx_ok B0 ad al sw
  intro p e s m args below meth c Q Sg w0 A θ0 S hK hE hAB hA hone hsing
  refine ⟨?_, ?_, ?_⟩
  · exact zf_ac ((fun H locs ws a q0 fs v rest pc ls hP he hv hdg kk => va_get (D := D) (ci := 11) (C := RX13) (T := TX13) (N := 47) (own := RX13) S.1 S.2.1 S.2.2.2.2 (zg_in inW_X13) S.2.2.2.1 hK hP q0 he rfl 8 (by decide) (S.2.2.2.2 (.fieldLink RX13 40 "RungMoneyModel" "read" "[I") (List.mem_cons_of_mem _ zw_1356)) (fun _ h9 => h9) hv hdg kk)) (zf_ac ((fun H locs ws a q0 fs v rest pc ls hP he hv hdg kk => va_get (D := D) (ci := 11) (C := RX13) (T := TX13) (N := 47) (own := RX13) S.1 S.2.1 S.2.2.2.2 (zg_in inW_X13) S.2.2.2.1 hK hP q0 he rfl 23 (by decide) (S.2.2.2.2 (.fieldLink RX13 50 "RungMoneyModel" "undone" "[I") (List.mem_cons_of_mem _ zw_1371)) (fun _ h9 => h9) hv hdg kk)) (zf_ac ((fun H locs ws a q0 fs v rest pc ls hP he hv hdg kk => va_get (D := D) (ci := 11) (C := RX13) (T := TX13) (N := 47) (own := RX13) S.1 S.2.1 S.2.2.2.2 (zg_in inW_X13) S.2.2.2.1 hK hP q0 he rfl 24 (by decide) (S.2.2.2.2 (.fieldLink RX13 53 "RungMoneyModel" "before" "[I") (List.mem_cons_of_mem _ zw_1372)) (fun _ h9 => h9) hv hdg kk)) (zf_ac ((fun H locs ws a q0 fs v rest pc ls hP he hv hdg kk => va_get (D := D) (ci := 11) (C := RX13) (T := TX13) (N := 47) (own := RX13) S.1 S.2.1 S.2.2.2.2 (zg_in inW_X13) S.2.2.2.1 hK hP q0 he rfl 35 (by decide) (S.2.2.2.2 (.fieldLink RX13 65 "RungMoneyModel" "toldAt" "[I") (List.mem_cons_of_mem _ zw_1383)) (fun _ h9 => h9) hv hdg kk)) (zf_ac ((fun H locs ws a q0 fs v rest pc ls hP he hv hdg kk => va_get (D := D) (ci := 11) (C := RX13) (T := TX13) (N := 47) (own := RX13) S.1 S.2.1 S.2.2.2.2 (zg_in inW_X13) S.2.2.2.1 hK hP q0 he rfl 11 (by decide) (S.2.2.2.2 (.fieldLink RX13 140 "RungMoneyModel" "token" "I") (List.mem_cons_of_mem _ zw_1359)) (fun _ h9 => h9) hv hdg kk)) (zf_ac ((fun H locs ws a q0 fs v rest pc ls hP he hv hdg kk => va_get (D := D) (ci := 11) (C := RX13) (T := TX13) (N := 47) (own := RX13) S.1 S.2.1 S.2.2.2.2 (zg_in inW_X13) S.2.2.2.1 hK hP q0 he rfl 16 (by decide) (S.2.2.2.2 (.fieldLink RX13 162 "RungMoneyModel" "faultAt" "I") (List.mem_cons_of_mem _ zw_1364)) (fun _ h9 => h9) hv hdg kk)) (zf_ac ((fun H locs ws a q0 fs v rest pc ls hP he hv hdg kk => va_get (D := D) (ci := 11) (C := RX13) (T := TX13) (N := 47) (own := RX13) S.1 S.2.1 S.2.2.2.2 (zg_in inW_X13) S.2.2.2.1 hK hP q0 he rfl 25 (by decide) (S.2.2.2.2 (.fieldLink RX13 235 "RungMoneyModel" "undoMany" "I") (List.mem_cons_of_mem _ zw_1373)) (fun _ h9 => h9) hv hdg kk)) (zf_ac ((fun H locs ws a q0 fs v rest pc ls hP he hv hdg kk => va_get (D := D) (ci := 11) (C := RX13) (T := TX13) (N := 47) (own := RX13) S.1 S.2.1 S.2.2.2.2 (zg_in inW_X13) S.2.2.2.1 hK hP q0 he rfl 34 (by decide) (S.2.2.2.2 (.fieldLink RX13 400 "RungMoneyModel" "toldMany" "I") (List.mem_cons_of_mem _ zw_1382)) (fun _ h9 => h9) hv hdg kk)) zf_an)))))))
  · exact zf_ac ((fun H locs ws a q0 fs v rest pc ls hP hD hS he hl hv hdg kk => by obtain ⟨x, rfl, h1, h2⟩ := hv; exact va_put (D := D) (ci := 11) (v := .int x) (ty := .int) (C := RX13) (T := TX13) (N := 47) (own := RX13) S.1 S.2.1 S.2.2.2.2 (zg_in inW_X13) tyX13 tyX13_ok nmX13 S.2.2.2.1 hK hP hD hS q0 he rfl 0 (by decide) (S.2.2.2.2 (.fieldLink RX13 1 "RungMoneyModel" "thrown" "I") (List.mem_cons_of_mem _ zw_1348)) (fun _ h9 => h9) rfl (by decide +kernel) rfl rfl hl hdg kk)) (zf_ac ((fun H locs ws a q0 fs v rest pc ls hP hD hS he hl hv hdg kk => by obtain ⟨x, rfl, h1, h2⟩ := hv; exact va_put (D := D) (ci := 11) (v := .int x) (ty := .int) (C := RX13) (T := TX13) (N := 47) (own := RX13) S.1 S.2.1 S.2.2.2.2 (zg_in inW_X13) tyX13 tyX13_ok nmX13 S.2.2.2.1 hK hP hD hS q0 he rfl 15 (by decide) (S.2.2.2.2 (.fieldLink RX13 159 "RungMoneyModel" "fault" "I") (List.mem_cons_of_mem _ zw_1363)) (fun _ h9 => h9) rfl (by decide +kernel) rfl rfl hl hdg kk)) (zf_ac ((fun H locs ws a q0 fs v rest pc ls hP hD hS he hl hv hdg kk => by obtain ⟨x, rfl, h1, h2⟩ := hv; exact va_put (D := D) (ci := 11) (v := .int x) (ty := .int) (C := RX13) (T := TX13) (N := 47) (own := RX13) S.1 S.2.1 S.2.2.2.2 (zg_in inW_X13) tyX13 tyX13_ok nmX13 S.2.2.2.1 hK hP hD hS q0 he rfl 34 (by decide) (S.2.2.2.2 (.fieldLink RX13 400 "RungMoneyModel" "toldMany" "I") (List.mem_cons_of_mem _ zw_1382)) (fun _ h9 => h9) rfl (by decide +kernel) rfl rfl hl hdg kk)) (zf_ac ((fun H locs ws a q0 fs v rest pc ls hP hD hS he hl hv hdg kk => by obtain ⟨x, rfl, h1, h2⟩ := hv; rcases zf_01 h1 h2 with rfl | rfl <;> exact va_put (D := D) (ci := 11) (v := .int _) (ty := .boolean) (C := RX13) (T := TX13) (N := 47) (own := RX13) S.1 S.2.1 S.2.2.2.2 (zg_in inW_X13) tyX13 tyX13_ok nmX13 S.2.2.2.1 hK hP hD hS q0 he rfl 36 (by decide) (S.2.2.2.2 (.fieldLink RX13 413 "RungMoneyModel" "hasTold" "Z") (List.mem_cons_of_mem _ zw_1384)) (fun _ h9 => h9) rfl (by decide +kernel) rfl rfl hl hdg kk)) zf_an)))
  · exact zf_crl (xs := [(.invokestatic 174, 3, 0), (.invokevirtual 223, 3, 1), (.iconst 0, 1, 2), (.invokevirtual 171, 3, 3), (.invokevirtual 406, 3, 4), (.invokevirtual 232, 3, 5), (.invokevirtual 394, 3, 6), (.imul, 1, 7), (.iaload, 1, 8), (.invokevirtual 409, 3, 9), (.invokevirtual 409, 3, 10), (.invokevirtual 409, 3, 11), (.invokevirtual 409, 3, 12), (.invokevirtual 409, 3, 13), (.invokevirtual 409, 3, 14), (.invokevirtual 409, 3, 15), (.invokevirtual 409, 3, 16), (.invokevirtual 290, 3, 17), (.invokevirtual 287, 3, 18), (.invokevirtual 307, 3, 19), (.iconst 0, 1, 20), (.iastore, 1, 21), (.invokevirtual 397, 3, 22)]) (by decide +kernel) (zf_ac (zf_crS S hEx hE hAB hA hK hone hsing (kc_X13_isIn l D k B0 ad al sw) (va_cwS 3 S.2.2.2.2 (zg_S zw_1561 zw_1562 zw_109 zw_1563) rfl rfl rfl (by decide +kernel) ⟨(Nat.le_of_ble_eq_true rfl), (Nat.le_of_ble_eq_true rfl)⟩) ⟨(Nat.le_of_ble_eq_true rfl), (Nat.le_of_ble_eq_true rfl)⟩ rfl) (zf_ac (zf_crV S hEx hE hAB hA hK hone hsing (kc_X13_taken l D k B0 ad al sw) (cwV 1 S.2.2.2.2 (zg_V zw_1495 zw_1497 zw_26 zw_109 zw_1498) rfl rfl rfl (by decide +kernel) ⟨(Nat.le_of_ble_eq_true rfl), (Nat.le_of_ble_eq_true rfl)⟩) ⟨(Nat.le_of_ble_eq_true rfl), (Nat.le_of_ble_eq_true rfl)⟩ 11 rfl rfl (ar := [.inl ([(0, 1)], 0)]) rfl rfl (by decide +kernel)) (zf_ac (zf_crIC S.1 S.2.1 hone hsing (n := 0) (by decide) (by decide) rfl zh_ll0_c zh_ll0_r) (zf_ac (zf_crV S hEx hE hAB hA hK hone hsing (kc_X13_next l D k B0 ad al sw) (cwV 0 S.2.2.2.2 (zg_V zw_1499 zw_1501 zw_27 zw_109 zw_1502) rfl rfl rfl (by decide +kernel) ⟨(Nat.le_of_ble_eq_true rfl), (Nat.le_of_ble_eq_true rfl)⟩) ⟨(Nat.le_of_ble_eq_true rfl), (Nat.le_of_ble_eq_true rfl)⟩ 11 rfl rfl (ar := []) rfl rfl (by decide +kernel)) (zf_ac (zf_crV S hEx hE hAB hA hK hone hsing (kc_X13_ledgerLine l D k B0 ad al sw) (cwV 0 S.2.2.2.2 (zg_V zw_1889 zw_1891 zw_83 zw_109 zw_1892) rfl rfl rfl (by decide +kernel) ⟨(Nat.le_of_ble_eq_true rfl), (Nat.le_of_ble_eq_true rfl)⟩) ⟨(Nat.le_of_ble_eq_true rfl), (Nat.le_of_ble_eq_true rfl)⟩ 11 rfl rfl (ar := []) rfl rfl (by decide +kernel)) (zf_ac (zf_crV S hEx hE hAB hA hK hone hsing (kc_X13_sign l D k B0 ad al sw) (cwV 1 S.2.2.2.2 (zg_V zw_1564 zw_1566 zw_40 zw_109 zw_1567) rfl rfl rfl (by decide +kernel) ⟨(Nat.le_of_ble_eq_true rfl), (Nat.le_of_ble_eq_true rfl)⟩) ⟨(Nat.le_of_ble_eq_true rfl), (Nat.le_of_ble_eq_true rfl)⟩ 11 rfl rfl (ar := [.inl ([(0, 1)], 0)]) rfl rfl (by decide +kernel)) (zf_ac (zf_crV S hEx hE hAB hA hK hone hsing (kc_X13_tries l D k B0 ad al sw) (cwV 0 S.2.2.2.2 (zg_V zw_1877 zw_1879 zw_81 zw_109 zw_1880) rfl rfl rfl (by decide +kernel) ⟨(Nat.le_of_ble_eq_true rfl), (Nat.le_of_ble_eq_true rfl)⟩) ⟨(Nat.le_of_ble_eq_true rfl), (Nat.le_of_ble_eq_true rfl)⟩ 11 rfl rfl (ar := []) rfl rfl (by decide +kernel)) (zf_ac (zf_crMU S.1 S.2.1 hone hsing (a := ([], 4)) (b := ([(0, 1)], 0)) rfl zh_gvmul4_c zh_gvmul4_r) (zf_ac (zf_crLD S.1 S.2.1 hK hone hsing (g := 22) (x := ([(0, 1)], 0)) rfl zh_llld_c zh_llld_r) (zf_ac (zf_crV S hEx hE hAB hA hK hone hsing (kc_X13_tells_vw0 l D k B0 ad al sw) (cwV 4 S.2.2.2.2 (zg_V zw_1897 zw_1899 zw_85 zw_109 zw_1900) rfl rfl rfl (by decide +kernel) ⟨(Nat.le_of_ble_eq_true rfl), (Nat.le_of_ble_eq_true rfl)⟩) ⟨(Nat.le_of_ble_eq_true rfl), (Nat.le_of_ble_eq_true rfl)⟩ 11 rfl rfl (ar := [.inl ([(2, 1)], 0), .inl ([(1, 1)], 0), .inl ([(0, 1)], 0), .inl ([], 0)]) rfl rfl (by decide +kernel)) (zf_ac (zf_crV S hEx hE hAB hA hK hone hsing (kc_X13_tells_vw1 l D k B0 ad al sw) (cwV 4 S.2.2.2.2 (zg_V zw_1897 zw_1899 zw_85 zw_109 zw_1900) rfl rfl rfl (by decide +kernel) ⟨(Nat.le_of_ble_eq_true rfl), (Nat.le_of_ble_eq_true rfl)⟩) ⟨(Nat.le_of_ble_eq_true rfl), (Nat.le_of_ble_eq_true rfl)⟩ 11 rfl rfl (ar := [.inl ([(2, 1)], 0), .inl ([(1, 1)], 0), .inl ([(0, 1)], 0), .inl ([], 1)]) rfl rfl (by decide +kernel)) (zf_ac (zf_crV S hEx hE hAB hA hK hone hsing (kc_X13_tells_vw2_b l D k B0 ad al sw) (cwV 4 S.2.2.2.2 (zg_V zw_1897 zw_1899 zw_85 zw_109 zw_1900) rfl rfl rfl (by decide +kernel) ⟨(Nat.le_of_ble_eq_true rfl), (Nat.le_of_ble_eq_true rfl)⟩) ⟨(Nat.le_of_ble_eq_true rfl), (Nat.le_of_ble_eq_true rfl)⟩ 11 rfl rfl (ar := [.inl ([(2, 1)], 0), .inl ([(1, 1)], 0), .inl ([(0, 1)], 0), .inl ([], 2)]) rfl rfl (by decide +kernel)) (zf_ac (zf_crV S hEx hE hAB hA hK hone hsing (kc_X13_tells_vw3 l D k B0 ad al sw) (cwV 4 S.2.2.2.2 (zg_V zw_1897 zw_1899 zw_85 zw_109 zw_1900) rfl rfl rfl (by decide +kernel) ⟨(Nat.le_of_ble_eq_true rfl), (Nat.le_of_ble_eq_true rfl)⟩) ⟨(Nat.le_of_ble_eq_true rfl), (Nat.le_of_ble_eq_true rfl)⟩ 11 rfl rfl (ar := [.inl ([(2, 1)], 0), .inl ([(1, 1)], 0), .inl ([(0, 1)], 0), .inl ([], 3)]) rfl rfl (by decide +kernel)) (zf_ac (zf_crV S hEx hE hAB hA hK hone hsing (kc_X13_tells_vw4 l D k B0 ad al sw) (cwV 4 S.2.2.2.2 (zg_V zw_1897 zw_1899 zw_85 zw_109 zw_1900) rfl rfl rfl (by decide +kernel) ⟨(Nat.le_of_ble_eq_true rfl), (Nat.le_of_ble_eq_true rfl)⟩) ⟨(Nat.le_of_ble_eq_true rfl), (Nat.le_of_ble_eq_true rfl)⟩ 11 rfl rfl (ar := [.inl ([(2, 1)], 0), .inl ([(1, 1)], 0), .inl ([(0, 1)], 0), .inl ([], 4)]) rfl rfl (by decide +kernel)) (zf_ac (zf_crV S hEx hE hAB hA hK hone hsing (kc_X13_tells_vw5 l D k B0 ad al sw) (cwV 4 S.2.2.2.2 (zg_V zw_1897 zw_1899 zw_85 zw_109 zw_1900) rfl rfl rfl (by decide +kernel) ⟨(Nat.le_of_ble_eq_true rfl), (Nat.le_of_ble_eq_true rfl)⟩) ⟨(Nat.le_of_ble_eq_true rfl), (Nat.le_of_ble_eq_true rfl)⟩ 11 rfl rfl (ar := [.inl ([(2, 1)], 0), .inl ([(1, 1)], 0), .inl ([(0, 1)], 0), .inl ([], 5)]) rfl rfl (by decide +kernel)) (zf_ac (zf_crV S hEx hE hAB hA hK hone hsing (kc_X13_tells_vw6 l D k B0 ad al sw) (cwV 4 S.2.2.2.2 (zg_V zw_1897 zw_1899 zw_85 zw_109 zw_1900) rfl rfl rfl (by decide +kernel) ⟨(Nat.le_of_ble_eq_true rfl), (Nat.le_of_ble_eq_true rfl)⟩) ⟨(Nat.le_of_ble_eq_true rfl), (Nat.le_of_ble_eq_true rfl)⟩ 11 rfl rfl (ar := [.inl ([(2, 1)], 0), .inl ([(1, 1)], 0), .inl ([(0, 1)], 0), .inl ([], 6)]) rfl rfl (by decide +kernel)) (zf_ac (zf_crV S hEx hE hAB hA hK hone hsing (kc_X13_tells_vw7 l D k B0 ad al sw) (cwV 4 S.2.2.2.2 (zg_V zw_1897 zw_1899 zw_85 zw_109 zw_1900) rfl rfl rfl (by decide +kernel) ⟨(Nat.le_of_ble_eq_true rfl), (Nat.le_of_ble_eq_true rfl)⟩) ⟨(Nat.le_of_ble_eq_true rfl), (Nat.le_of_ble_eq_true rfl)⟩ 11 rfl rfl (ar := [.inl ([(2, 1)], 0), .inl ([(1, 1)], 0), .inl ([(0, 1)], 0), .inl ([], 7)]) rfl rfl (by decide +kernel)) (zf_ac (zf_crV S hEx hE hAB hA hK hone hsing (kc_X13_allDebts l D k B0 ad al sw) (cwV 0 S.2.2.2.2 (zg_V zw_1662 zw_1664 zw_57 zw_109 zw_1665) rfl rfl rfl (by decide +kernel) ⟨(Nat.le_of_ble_eq_true rfl), (Nat.le_of_ble_eq_true rfl)⟩) ⟨(Nat.le_of_ble_eq_true rfl), (Nat.le_of_ble_eq_true rfl)⟩ 11 rfl rfl (ar := []) rfl rfl (by decide +kernel)) (zf_ac (zf_crV S hEx hE hAB hA hK hone hsing (kc_X13_thereSet l D k B0 ad al sw) (cwV 0 S.2.2.2.2 (zg_V zw_1654 zw_1656 zw_55 zw_109 zw_1657) rfl rfl rfl (by decide +kernel) ⟨(Nat.le_of_ble_eq_true rfl), (Nat.le_of_ble_eq_true rfl)⟩) ⟨(Nat.le_of_ble_eq_true rfl), (Nat.le_of_ble_eq_true rfl)⟩ 11 rfl rfl (ar := []) rfl rfl (by decide +kernel)) (zf_ac (zf_crV S hEx hE hAB hA hK hone hsing (kc_X13_keep l D k B0 ad al sw) (cwV 0 S.2.2.2.2 (zg_V zw_1674 zw_1676 zw_59 zw_109 zw_1677) rfl rfl rfl (by decide +kernel) ⟨(Nat.le_of_ble_eq_true rfl), (Nat.le_of_ble_eq_true rfl)⟩) ⟨(Nat.le_of_ble_eq_true rfl), (Nat.le_of_ble_eq_true rfl)⟩ 11 rfl rfl (ar := []) rfl rfl (by decide +kernel)) (zf_ac (zf_crIC S.1 S.2.1 hone hsing (n := 0) (by decide) (by decide) rfl zh_lk0_c zh_lk0_r) (zf_ac (zf_crST S.1 S.2.1 hK hone hsing (g := 26) (x := ([(0, 1)], 0)) (v := ([(1, 1)], 0)) rfl rfl zh_lkst_c zh_lkst_r) (zf_ac (zf_crV S hEx hE hAB hA hK hone hsing (kc_X13_back l D k B0 ad al sw) (cwV 0 S.2.2.2.2 (zg_V zw_1881 zw_1883 zw_82 zw_109 zw_1884) rfl rfl rfl (by decide +kernel) ⟨(Nat.le_of_ble_eq_true rfl), (Nat.le_of_ble_eq_true rfl)⟩) ⟨(Nat.le_of_ble_eq_true rfl), (Nat.le_of_ble_eq_true rfl)⟩ 11 rfl rfl (ar := []) rfl rfl (by decide +kernel)) zf_an)))))))))))))))))))))))

def zu_kgl : List zf_U := [(89, ([(0, 1), (0, 940), (0, 40), (0, 4)], [], 64, [(0, .inr (some (18, 18))), (1, .inl ([(0, 1)], 0)), (2, .inl ([(3, 1)], 0))], [], [(18, 18, ([], 2), .inl ([], 0)), (18, 18, ([], 34), .inl ([(2, 1)], 0)), (1000, 0, ([], 1000), .inl ([], 0)), (1002, 0, ([], 1002), .inl ([], 0)), (1003, 0, ([], 1003), .inl ([], 0)), (1018, 0, ([], 1018), .inl ([(2, 1)], 0))]), ([(3, (-1))], 2004), 0),
  (111, ([(0, 1), (0, 940), (0, 40), (0, 40), ((-2147483648), 2147483647)], [], 64, [(0, .inr (some (18, 18))), (1, .inl ([(0, 1)], 0)), (2, .inl ([(4, 1)], 0)), (3, .inl ([(3, 1)], 0))], [], [(18, 18, ([], 2), .inl ([], 0)), (18, 18, ([], 34), .inl ([(2, 1)], 0)), (1000, 0, ([], 1000), .inl ([], 0)), (1002, 0, ([], 1002), .inl ([], 0)), (1003, 0, ([], 1003), .inl ([], 0)), (1018, 0, ([], 1018), .inl ([(2, 1)], 0))]), ([(3, (-1))], 1040), 0),
  (247, ([(1, 1), (0, 940), ((-2147483648), 2147483647), (0, 605), (1, 8)], [], 64, [(0, .inr (some (18, 18))), (1, .inl ([(0, 1)], 0)), (2, .inl ([(2, 1)], 0)), (3, .inl ([(3, 1)], 0))], [], [(18, 18, ([], 2), .inl ([], 0)), (18, 18, ([], 25), .inl ([(4, 1)], 0)), (1000, 0, ([], 1000), .inl ([], 0)), (1002, 0, ([], 1002), .inl ([], 0)), (1015, 0, ([(4, 1)], (-1)), .inl ([(3, 1)], 0))]), ([(3, (-1))], 607), 0),
  (247, ([(1, 1), (0, 940), ((-2147483648), 2147483647)], [], 64, [(0, .inr (some (18, 18))), (1, .inl ([(0, 1)], 0)), (2, .inl ([(2, 1)], 0)), (3, .inl ([], 606))], [], [(18, 18, ([], 2), .inl ([], 0)), (1000, 0, ([], 1000), .inl ([], 0)), (1002, 0, ([], 1002), .inl ([], 0)), (1003, 0, ([], 1003), .inl ([], 0))]), ([], 0), 0)]
def zm_kgl : zf_M := (([(0, 1), (0, 940)], [], 64, [], [], []), [(27, ([], 0), ([], 605)), (30, ([], 0), ([], 3)), (18, ([], 0), ([], 0)), (18, ([], 22), ([], 22)), (18, ([], 36), ([], 36)), (18, ([], 25), ([], 25)), (26, ([], 0), ([], 4847)), (20, ([], 87), ([], 692))], [(some (.inl ([(2, 1)], 0)), ([(0, 1), (0, 940), ((-2147483648), 2147483647)], [], 64, [], [], []))])
set_option maxRecDepth 100000 in
set_option maxHeartbeats 4000000 in
theorem kr_kgl : zf_run 2 64 37 5 zGT zm_kgl [zm_X13_isIn, zm_X13_taken, zh_ll0, zm_X13_next, zm_X13_ledgerLine, zm_X13_sign, zm_X13_tries, zh_gvmul4, zh_llld, zm_X13_tells_vw0, zm_X13_tells_vw1, zm_X13_tells_vw2_b, zm_X13_tells_vw3, zm_X13_tells_vw4, zm_X13_tells_vw5, zm_X13_tells_vw6, zm_X13_tells_vw7, zm_X13_allDebts, zm_X13_thereSet, zm_X13_keep, zh_lk0, zh_lkst, zm_X13_back] [(40, 11, 8, .inl (0, 0)), (50, 11, 23, .inl (0, 0)), (53, 11, 24, .inl (0, 0)), (65, 11, 35, .inl (0, 0)), (140, 11, 11, .inl (0, 0)), (162, 11, 16, .inl (0, 0)), (235, 11, 25, .inl (0, 0)), (400, 11, 34, .inl (0, 0))] [(1, 11, 0, .inl ((-2147483648), 2147483647)), (159, 11, 15, .inl ((-2147483648), 2147483647)), (400, 11, 34, .inl ((-2147483648), 2147483647)), (413, 11, 36, .inl (0, 1))] zn_X13_ledger (zu_kgl ++ []) none 3000 83 ([(0, 1), (0, 940), (0, 40)], [], 64, [(0, .inr (some (18, 18))), (1, .inl ([(0, 1)], 0))], [], [(18, 18, ([], 2), .inl ([], 0)), (18, 18, ([], 34), .inl ([(2, 1)], 0)), (1000, 0, ([], 1000), .inl ([], 0)), (1002, 0, ([], 1002), .inl ([], 0)), (1003, 0, ([], 1003), .inl ([], 0)), (1018, 0, ([], 1018), .inl ([(2, 1)], 0))]) = true := by decide +kernel
set_option maxRecDepth 100000 in
set_option maxHeartbeats 4000000 in
theorem kr_kglc : zp_chk 5 zm_kgl [zm_X13_isIn, zm_X13_taken, zh_ll0, zm_X13_next, zm_X13_ledgerLine, zm_X13_sign, zm_X13_tries, zh_gvmul4, zh_llld, zm_X13_tells_vw0, zm_X13_tells_vw1, zm_X13_tells_vw2_b, zm_X13_tells_vw3, zm_X13_tells_vw4, zm_X13_tells_vw5, zm_X13_tells_vw6, zm_X13_tells_vw7, zm_X13_allDebts, zm_X13_thereSet, zm_X13_keep, zh_lk0, zh_lkst, zm_X13_back] [(40, 11, 8, .inl (0, 0)), (50, 11, 23, .inl (0, 0)), (53, 11, 24, .inl (0, 0)), (65, 11, 35, .inl (0, 0)), (140, 11, 11, .inl (0, 0)), (162, 11, 16, .inl (0, 0)), (235, 11, 25, .inl (0, 0)), (400, 11, 34, .inl (0, 0))] [(1, 11, 0, .inl ((-2147483648), 2147483647)), (159, 11, 15, .inl ((-2147483648), 2147483647)), (400, 11, 34, .inl ((-2147483648), 2147483647)), (413, 11, 36, .inl (0, 1))] zn_X13_ledger zu_kgl [] 3000 = true := by decide +kernel

def kg_Pre (Sg : Nat → Option Nat) (k : Nat → ClassId) (th : Nat → Nat) (B : Nat → Int32) (n9 : Nat) (nsv : List (List Int32)) (ws : va_W) : Prop := n9 ≤ 940 ∧ (∀ i, i < 940 → 0 ≤ (B i).toInt) ∧ lv_ok nsv ∧ zf_typ Sg k zGT ws ∧ zf_rd ws (th 18) 2 (.int (Int32.ofNat n9)) ∧ (∃ C9 : Nat → Int32, ∀ i, i < 940 → zf_rd ws (th 19) i (.int (C9 i)) ∧ C9 i &&& 255 = B i) ∧ zf_rd ws (th 20) 0 (.int (Int32.ofNat nsv.length)) ∧ (∀ j, j < nsv.length → zf_rd ws (th 23) j (.long (c256 (nsv.getD j [])))) ∧ (∀ j, j < 23 → zf_rd ws (th 24) j (.long (rsv j))) ∧ ∀ j, (j = 0 ∨ j = 2 ∨ j = 3) → zf_pi Sg j ((1000 + j : Nat) : Int) 0 ws
theorem kg_s23 {j : Nat} (h : j < 6) : zf_sp (zf_gi xGT 23).2.2 j = some (.inr none) := by
  match j, h with
  | 0, _ => rfl
  | 1, _ => rfl
  | 2, _ => rfl
  | 3, _ => rfl
  | 4, _ => rfl
  | 5, _ => rfl
theorem kg_s24 {j : Nat} (h : j < 23) : zf_sp (zf_gi xGT 24).2.2 j = some (.inr none) := by
  have e : zf_sp (zf_gi xGT 24).2.2 j = (bif Nat.blt j 23 then some (.inr none) else none) := by
    show zf_sp [(23, .inr none)] j = _
    unfold zf_sp
    cases Nat.blt j 23 <;> rfl
  rw [e, zf_blt' h]
  rfl
/-- the picture at the start -/
theorem kg_pic {A : Nat → Prop} {Sg : Nat → Option Nat} {k : Nat → ClassId} {ws : va_W} {th ad : Nat → Nat} (hD : va_D A ws) (hone : ∀ a g, Sg a = some g → g < 64 → a = th g) (hsing : ∀ g, g < 37 → g < 64 → Sg (th g) = some g) (hinj : ∀ i j, i < 24 → j < 24 → ad i = ad j → i = j) (hks : ∀ i, i < 24 → Sg (ad i) = some 128) {B : Nat → Int32} {n9 : Nat} {nsv : List (List Int32)} (hpre : kg_Pre Sg k th B n9 nsv ws) :
    ∃ (θ : Nat → Nat) (hp : xe_H), (∀ g, g < 37 → θ g = th g) ∧ xe_th ad Sg θ ∧ xe_c Sg θ xGT xSC xRF ws hp ∧ hp.1 18 2 = Int32.ofNat n9 ∧ (∀ i, i < 940 → hp.1 19 i &&& 255 = B i) ∧ lv_TM nsv hp.1 hp.2 := by
  obtain ⟨hn9, hB0, O, ht, h2, ⟨C9, h19⟩, h20, h23, h24, -⟩ := hpre
  have g0 : Sg (th 0) = some 0 := hsing 0 (by decide) (by decide)
  obtain ⟨b3, -, s64⟩ := px_ref ht g0 (by decide) (i := 3) (h := 64) rfl
  obtain ⟨b6, -, s6⟩ := px_ref ht g0 (by decide) (i := 6) (h := 76) rfl
  obtain ⟨θ, hp, x1, -, -, x3, x4⟩ := px_world (ad := ad) ht hone hsing hinj hks s64 s6
  refine ⟨θ, hp, x1, x3, x4, px_int hD x4 (g := 18) (i := 2) rfl rfl (by rw [x1 18 (by decide)]; exact h2), fun i hi => ?_, px_int hD x4 (g := 20) (i := 0) rfl rfl (by rw [x1 20 (by decide)]; exact h20), fun j hj => px_long hD x4 (g := 23) (i := j) rfl (kg_s23 (by have := O.1; omega)) (by rw [x1 23 (by decide)]; exact h23 j hj), fun j hj => px_long hD x4 (g := 24) (i := j) rfl (kg_s24 hj) (by rw [x1 24 (by decide)]; exact h24 j hj)⟩
  rw [px_int hD x4 (g := 19) (i := i) rfl (px_spx hi) (by rw [x1 19 (by decide)]; exact (h19 i hi).1)]
  exact (h19 i hi).2
def kg_ρ (a1 : Int32) (n c : Nat) : Nat → Int
  | 0 => a1.toInt
  | 1 => n
  | _ => c
theorem kg_E {a1 : Int32} {n c : Nat} (ha : a1 = 0 ∨ a1 = 1) (hn : n ≤ 940) (hc : c ≤ 40) : zf_okE [(0, 1), (0, 940), (0, 40)] (kg_ρ a1 n c)
  | 0 => by
    show (0 : Int) ≤ a1.toInt ∧ a1.toInt ≤ 1
    rcases ha with rfl | rfl <;> decide
  | 1 => by
    show (0 : Int) ≤ (n : Int) ∧ (n : Int) ≤ 940
    omega
  | 2 => by
    show (0 : Int) ≤ (c : Int) ∧ (c : Int) ≤ 40
    omega
  | _ + 3 => by
    show (-2147483648 : Int) ≤ (c : Int) ∧ (c : Int) ≤ 2147483647
    omega
set_option maxRecDepth 100000 in
set_option maxHeartbeats 4000000 in
theorem kg_X13_ledger (l : Launch) (D : va_G) (k : Nat → ClassId) (B0 : Nat) (ad : Nat → Nat) (al sw : Nat) {Sg : Nat → Option Nat} {ws : va_W} {th : Nat → Nat} (sz : Nat) (hone : ∀ a g, Sg a = some g → g < 64 → a = th g) (hsing : ∀ g, g < 37 → g < 64 → Sg (th g) = some g) {B : Nat → Int32} {n9 : Nat} {nsv : List (List Int32)} {a1 : Int32} (hpre : kg_Pre Sg k th B n9 nsv ws) (ha : a1 = 0 ∨ a1 = 1) :
    Met l yX13_ledger (zw yX13_ledger cX13_ledger 5 (some .int)) ({ frames := 5, cells := 0, slots := 0, locals := 116 }) (va_Pc [.ref (th 18), .int a1] (g_pr D k (zEx B0 ad al sw Sg ws) sz ws)) (zf_Q (fun _ t => kg_Q D k Sg (th 18) 15 (ld_flt (ld_tx B n9 nsv (n9 + 1) 0 0)) (va_A ws sz) t) (va_A ws sz)) 0 0 (va_A ws sz) := by
  have hEx := zEx_ok B0 ad al sw
  refine zp_open (Qp := fun A _ t => kg_Q D k Sg (th 18) 15 (ld_flt (ld_tx B n9 nsv (n9 + 1) 0 0)) A t) (by decide) rfl hEx (Nat.le_of_ble_eq_true rfl) ?_
  intro p e s m below meth c A ls S hr hlocks hK hE hAB hA hP hD hS hl
  have hx := S.1
  have hb := S.2.1
  have hl : lv_has ls 5 [(0, .ref (th 18)), (1, .int a1)] := hl
  have g18 : Sg (th 18) = some 18 := hsing 18 (by decide) (by decide)
  obtain ⟨θ, hp, x1, x3, x4, i2, i19, iT⟩ := kg_pic hD hone hsing hE.2.2.2.1.2 hE.2.2.1.2.1 hpre
  obtain ⟨hn9, hB0, O, ht, h2, -, h20, h23, h24, hF9⟩ := hpre
  have hox : ∀ a g, Sg a = some g → g < 37 → a = θ g := fun a g h h7 => by rw [x1 g h7]; exact hone a g h (by omega)
  obtain ⟨r1, r2, r3, r4, r5, r6⟩ := yR_X13_ledger l D k B0 ad al sw p e s m _ below meth c (MQ below (zf_Q (fun _ t => kg_Q D k Sg (th 18) 15 (ld_flt (ld_tx B n9 nsv (n9 + 1) 0 0)) A t) A) _ s 0 0 A) Sg ws A θ S hK hE hAB hA x3
  have G : xe_G p l e ({ frames := 5, cells := 0, slots := 0, locals := 116 }) s m _ below meth c 0 0 (MQ below (zf_Q (fun _ t => kg_Q D k Sg (th 18) 15 (ld_flt (ld_tx B n9 nsv (n9 + 1) 0 0)) A t) A) _ s 0 0 A) cX13_ledger D A s.heap Sg k θ xg_X13_ledger xp_X13_ledger [] [] := ⟨hx, hb, hK, x3.1, r1, r2, r3, r4, fun H9 locs9 hS9 => hEx.2.2.2 Sg ws s H9 locs9 A hE hAB hS9⟩
  have hins : xi_X13_ledger.all (fun x => decide (decode cX13_ledger x.1 = .ok (x.2.2, x.2.1))) = true := by decide +kernel
  have hus : zf_f2 (xe_v Sg θ) [.ref 18, .int a1] [.ref (th 18), .int a1] := ⟨⟨by show Value.ref (th 18) = Value.ref (θ 18); rw [x1 18 (by decide)], by show Sg (θ 18) = some (xe_k 18); rw [x1 18 (by decide)]; exact g18⟩, ⟨rfl, trivial⟩, trivial⟩
  have hh := lm_start (B := B) (J := hp.1) (M := hp.2) hn9 hB0 O ha i2 i19 iT
  cases hy : ld_tx B n9 nsv (n9 + 1) 0 0 with
  | inl f =>
    rw [hy] at hh G r5 r6
    obtain ⟨v9, J1, M1, ⟨n, hrun⟩, u1⟩ := hh
    refine xe_runE_ok G r5 r6 (fun x hx' => of_decide_eq_true (List.all_eq_true.mp hins x hx')) (E9 := .inl (some (.int v9), (J1, M1))) (wz := ws) (fun v hp1 he => ?_) (fun y he => by cases he) n (0, [(0, .ref 18), (1, .int a1)], [], hp) hrun ws s.heap [] ls [] ⟨hP, hD, hS, px_typ ht, xe_I_rf⟩ ⟨⟨_, hl, fun j a h => xe_lk_ok (xe_ag_ok hus) h⟩, trivial, x4⟩
    cases he
    intro ws1 H locs ls1 pc i hW1 hc1 hv1 hdg hrv
    obtain ⟨hP1, hD1, hS1, ht1, -⟩ := hW1
    have hi : i = .ireturn := by
      rcases hrv with h | ⟨-, a, h⟩ | ⟨-, h⟩
      · exact h.1
      · cases h
      · cases h
    subst hi
    have hq := px_rd hc1 (g := 18) (i := 15) rfl rfl
    have hq : zf_rd ws1 (θ 18) 15 (.int (J1 18 15)) := hq
    rw [x1 18 (by decide), u1] at hq
    exact W.iret hx hb hr (fun t ht' hW => ⟨⟨_, rfl, ws1, by rw [ht']; exact hP1, hD1, ht1, hq⟩, hS1.F ht'⟩) hS1.2.2 hdg hlocks
  | inr c9 =>
    rw [hy] at hh G r5 r6
    obtain ⟨hc9, q9, J1, M1, hq9, ⟨n, hrun⟩, hE1⟩ := hh
    refine xe_runE_ok G r5 r6 (fun x hx' => of_decide_eq_true (List.all_eq_true.mp hins x hx')) (E9 := .inr (83, [(0, .ref 18), (1, .int a1)], [], (J1, M1))) (wz := ws) (fun v hp1 he => by cases he) (fun y he => ?_) n (0, [(0, .ref 18), (1, .int a1)], [], hp) hrun ws s.heap [] ls [] ⟨hP, hD, hS, px_typ ht, xe_I_rf⟩ ⟨⟨_, hl, fun j a h => xe_lk_ok (xe_ag_ok hus) h⟩, trivial, x4⟩
    cases he
    intro ws1 H1 locs1 ls1 st1 hW1 hsat1
    obtain ⟨hP1, hD1, hS1, ht1, hI1⟩ := hW1
    obtain ⟨⟨lv1, hl1, hlo1⟩, hst1, hc1⟩ := hsat1
    cases xe_nil hst1
    have hz1 : zf_typ Sg k zGT ws1 := px_typZ hD1 ht ht1 hI1 hc1 (kg_rng hn9 hq9 hc9 hE1 (kg_r0 hD ht x4))
    have hl8 : lv_has ls1 5 [(0, .ref (th 18)), (1, .int a1)] := ⟨hl1.1, hl1.2.1, zf_ac (by
      have h := (hlo1 0 (.ref 18) rfl).1
      have e : xe_m θ (.ref 18) = .ref (th 18) := by show Value.ref (θ 18) = _; rw [x1 18 (by decide)]
      rw [e] at h
      exact hl1.2.2 _ h) (zf_ac (hl1.2.2 _ (hlo1 1 (.int a1) rfl).1) zf_an)⟩
    have hfl : ∀ j, (j = 0 ∨ j = 2 ∨ j = 3) → zf_pi Sg j ((1000 + j : Nat) : Int) 0 ws1 := fun j hj => kg_pi (θ := θ) hD ht hox x4 hc1 hI1 hE1.2.2.2.2.2.1 hj (hF9 j hj)
    have hq := px_rd hc1 (g := 18) (i := 15) rfl rfl
    have hq : zf_rd ws1 (θ 18) 15 (.int (J1 18 15)) := hq
    rw [x1 18 (by decide), hE1.2.2.2.1] at hq
    refine zp_loop (M := zm_kgl) (loops := zu_kgl) (ends := []) (ws := ws1) (ρ := kg_ρ a1 n9 c9) (θ := th) hEx (by decide +kernel) (zR_X13_ledger l D k B0 ad al sw) S hK hE hAB hA hone hsing kr_kglc kr_kgl hP1 hD1 hS1 hz1 ⟨kg_E ha hn9 hc9, fun g hg => (by cases hg), ⟨_, hl8, ⟨⟨rfl, ⟨rfl, g18⟩⟩, ⟨rfl, a1, rfl, ?_⟩, trivial⟩⟩, trivial, zf_ac ?_ (zf_ac ?_ (zf_ac ?_ (zf_ac ?_ (zf_ac ?_ (zf_ac ?_ zf_an)))))⟩ zf_an (fun H locs w2 ls2 pc i v hP2 hD2 hS2 hpost hdg hrv => ?_)
    · exact (zf_v_sym (kg_ρ a1 n9 c9) 0).symm
    · refine (zf_hokT (h := (18, 18, ([], 2), .inl ([], 0))) (show (18 : Nat) < 1000 by decide)).mpr ⟨g18, (show (0 : Int) ≤ 2 by decide), _, ?_, ⟨0, rfl, rfl⟩⟩
      have h := px_rd hc1 (g := 18) (i := 2) rfl rfl
      have h : zf_rd ws1 (θ 18) 2 (.int (J1 18 2)) := h
      rw [x1 18 (by decide), hE1.2.2.2.2.1] at h
      exact h
    · refine (zf_hokT (h := (18, 18, ([], 34), .inl ([(2, 1)], 0))) (show (18 : Nat) < 1000 by decide)).mpr ⟨g18, (show (0 : Int) ≤ 34 by decide), _, ?_, ⟨Int32.ofNat c9, rfl, ?_⟩⟩
      · have h := px_rd hc1 (g := 18) (i := 34) rfl rfl
        have h : zf_rd ws1 (θ 18) 34 (.int (J1 18 34)) := h
        rw [x1 18 (by decide), hE1.2.2.1] at h
        exact h
      · have e : zf_v (kg_ρ a1 n9 c9) ([(2, 1)], 0) = (c9 : Int) := zf_v_sym (kg_ρ a1 n9 c9) 2
        rw [ti (by omega)]
        exact e.symm
    · exact (zf_hokF (h := (1000, 0, ([], 1000), .inl ([], 0))) (show ¬ (1000 : Nat) < 1000 by decide)).mpr (hfl 0 (.inl rfl))
    · exact (zf_hokF (h := (1002, 0, ([], 1002), .inl ([], 0))) (show ¬ (1002 : Nat) < 1000 by decide)).mpr (hfl 2 (.inr (.inl rfl)))
    · exact (zf_hokF (h := (1003, 0, ([], 1003), .inl ([], 0))) (show ¬ (1003 : Nat) < 1000 by decide)).mpr (hfl 3 (.inr (.inr rfl)))
    · exact (zf_hokF (h := (1018, 0, ([], 1018), .inl ([(2, 1)], 0))) (show ¬ (1018 : Nat) < 1000 by decide)).mpr (kg_p18 (θ := θ) (hp' := (J1, M1)) hox hc1 hc9 hE1.2.2.2.2.2.2 (zf_v_sym (kg_ρ a1 n9 c9) 2))
    · obtain ⟨rfl, v, rfl⟩ := zt_ri (by decide +kernel) hpost hrv
      refine W.iret hx hb hr (fun t ht' hW => ⟨⟨_, rfl, w2, by rw [ht']; exact hP2, hD2, px_typ hpost.2.1, ?_⟩, hS2.F ht'⟩) hS2.2.2 hdg hlocks
      exact nu_fr (eff := zm_kgl.2.1) (a := 15) (b := 15) (by decide) hpost.2.2 g18 (by decide) (by decide) hq
