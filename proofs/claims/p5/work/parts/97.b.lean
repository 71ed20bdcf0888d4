/-! ===== feed, town, sentence ===== -/
theorem lk_Uk {Sg : Nat → Option Nat} {th : Nat → Nat} {M : zf_M} {ρ : Nat → Int} {ws ws' : va_W} (hsing : ∀ g, g < 37 → g < 64 → Sg (th g) = some g) (h : (lk_kz M && lk_kr M && lk_kn M) = true) (hf : zf_fr Sg M.2.1 ρ ws ws') (hU : lk_Z th ws ∧ ∃ nsv k0 k1 : List (List Int32), lv_ok nsv ∧ lv_ok k0 ∧ lv_ok k1 ∧ lk_N Sg th ws nsv k0 k1) : lk_Z th ws' ∧ ∃ nsv k0 k1 : List (List Int32), lv_ok nsv ∧ lv_ok k0 ∧ lv_ok k1 ∧ lk_N Sg th ws' nsv k0 k1 := by
  simp only [Bool.and_eq_true] at h
  obtain ⟨⟨h2, h3⟩, h4⟩ := h
  obtain ⟨z2, nsv, k0, k1, o1, o2, o3, ⟨tw, nm, f9, s9, hC⟩, hr⟩ := hU
  exact ⟨lk_Zk hsing h2 hf z2, nsv, k0, k1, o1, o2, o3, ⟨tw, nm, f9, s9, nu_Cf h4 hf hsing hC⟩, nr_Cf o1.1 o2.1 o3.1 hsing h3 hf hr⟩
section LLE
variable {B : Nat → Int32} {n p : Nat} {st : lp_st}
def lp_le (r : lp_rs) : Prop := match r with
  | .inl q => q.2 ≤ 940
  | .inr _ => True
theorem lp_leB {u : Bool} {a b : lp_rs} (h1 : lp_le a) (h2 : lp_le b) : lp_le (bif u then a else b) := by
  cases u
  · exact h2
  · exact h1
theorem lp_tA (hn : n ≤ 940) (hp : p ≤ n) : tA B n 900 p ≤ 940 := tA_le (by decide) hp hn
theorem le_man (hn : n ≤ 940) (hp : p ≤ n) : lp_le (lp_man B n p st) := by
  have n1 := (tN_le (B := B) (lim := 900) hp).2.1
  unfold lp_man
  refine lp_leB (lp_tA hn hp) (lp_leB (lp_leB (lp_tA hn n1) ?_) (lp_tA hn n1))
  split
  · exact lp_tA (B := B) hn n1
  · exact True.intro
theorem le_rung (hn : n ≤ 940) (hp : p ≤ n) : lp_le (lp_rung B n p st) := by
  unfold lp_rung
  exact lp_leB (lp_leB True.intro (lp_tA hn hp)) (lp_tA hn hp)
theorem le_lad (hn : n ≤ 940) (hp : p ≤ n) : lp_le (lp_lad B n p st) := by
  have n1 := (tN_le (B := B) (lim := 900) hp).2.1
  have n2 := (tN_le (B := B) (lim := 900) n1).2.1
  unfold lp_lad
  refine lp_leB (lp_tA hn hp) ?_
  split
  · exact lp_tA (B := B) hn n1
  · exact le_rung hn n2
theorem le_debt3 (hn : n ≤ 940) (hp : p ≤ n) (i : Nat) : lp_le (lp_debt3 B n p st i) := by
  unfold lp_debt3
  split
  · exact lp_tA (B := B) hn hp
  · exact True.intro
theorem le_debt2 (hn : n ≤ 940) (hp : p ≤ n) (m : Nat) : lp_le (lp_debt2 B n p st m) := by
  have n1 := (tN_le (B := B) (lim := 900) hp).2.1
  unfold lp_debt2
  split
  · exact lp_tA (B := B) hn hp
  · exact lp_leB (lp_tA hn hp) (lp_leB (le_debt3 hn n1 _) (lp_tA hn hp))
theorem le_debt (hn : n ≤ 940) (hp : p ≤ n) : lp_le (lp_debt B n p st) := by
  have n1 := (tN_le (B := B) (lim := 900) hp).2.1
  have n2 := (tN_le (B := B) (lim := 900) n1).2.1
  unfold lp_debt
  refine lp_leB (lp_tA hn hp) ?_
  split
  · exact lp_tA (B := B) hn n1
  · exact le_debt2 hn n2 _
theorem le_rot (hn : n ≤ 940) (hp : p ≤ n) : lp_le (lp_rot B n p st) := by
  have n1 := (tN_le (B := B) (lim := 900) hp).2.1
  unfold lp_rot
  refine lp_leB (lp_tA hn hp) ?_
  split
  · exact lp_tA (B := B) hn n1
  · exact True.intro
theorem le_line (hn : n ≤ 940) (hp : p ≤ n) : lp_le (lp_line B n p st) := by
  unfold lp_line
  exact lp_leB (le_man hn hp) (lp_leB (le_lad hn hp) (lp_leB (le_debt hn hp) (lp_leB (le_rot hn hp) (lp_tA hn hp))))
theorem le_tx (hn : n ≤ 940) : ∀ (k p c : Nat) (st : lp_st), p ≤ n → lp_ok st → lp_le (lp_tx B n k p c st) := by
  intro k
  induction k with
  | zero =>
    intro p c st _ _
    exact Nat.zero_le _
  | succ k ih =>
    intro p c st hp O
    unfold lp_tx
    refine lp_leB True.intro ?_
    cases hx : lp_line B n p st with
    | inl q =>
      have h := le_line (st := st) (B := B) hn hp
      rw [hx] at h
      exact h
    | inr q =>
      obtain ⟨O1, -, a2⟩ := lp_line_ok hp O hx
      exact lp_leB (ih _ _ _ (tN_le (B := B) (lim := 900) a2).2.1 O1) (lp_tA hn a2)
end LLE
theorem nu_s23 {j : Nat} (h : j < 6) : zf_sp (zf_gi zGT 23).2.2 j = some (.inr none) := by
  match j, h with
  | 0, _ => rfl
  | 1, _ => rfl
  | 2, _ => rfl
  | 3, _ => rfl
  | 4, _ => rfl
  | 5, _ => rfl
theorem nu_x23 {j : Nat} (h : j < 6) : zf_sp (zf_gi xGT 23).2.2 j = some (.inr none) := by
  match j, h with
  | 0, _ => rfl
  | 1, _ => rfl
  | 2, _ => rfl
  | 3, _ => rfl
  | 4, _ => rfl
  | 5, _ => rfl
section LKS
variable {p : Program} {l : Launch} {e : Env} {s : State} {m : MethodId} {below : List Frame} {meth : Method} {c : Code} {Q : State → Prop} {b L : Nat} {xs : Nat → Int32} {D : va_G} {k : Nat → ClassId} {az : Nat → Nat} {al sw : Nat} {Sg : Nat → Option Nat} {th : Nat → Nat} {cells slots : Nat} {i : Int32}
theorem lk_pic0 {ws : va_W} (hC : lh_C s D k az al sw Sg th) (ht : zf_typ Sg k zGT ws) : ∃ (θ : Nat → Nat) (hp : xe_H), (∀ g, g < 37 → θ g = th g) ∧ xe_th az Sg θ ∧ xe_c Sg θ xGT xSC xRF ws hp := by
  obtain ⟨b1, -, s4⟩ := px_ref ht (hC.2.2.2 0 (by decide) (by decide)) (by decide) (i := 4) (h := 64) rfl
  obtain ⟨b2, -, s6⟩ := px_ref ht (hC.2.2.2 0 (by decide) (by decide)) (by decide) (i := 6) (h := 76) rfl
  obtain ⟨θ, hp, x1, -, -, x3, x4⟩ := lk_pic hC ht s4 s6
  exact ⟨θ, hp, x1, x3, x4⟩
set_option maxRecDepth 100000 in
set_option maxHeartbeats 4000000 in
theorem ks_0 (hlt : l.stackTraces = false) (C0 : lw_At p s m meth c b L xs) (hC : lh_C s D k az al sw Sg th) (hL : L ≤ 3072) (h0 : 0 ≤ i.toInt) (h6 : i.toInt + 6 ≤ (L : Int)) (hcs : cells + 1 ≤ 601024 ∧ slots + 6 ≤ 7293034) (k0 : lk_K p l e s m below meth c Q b D k Sg th cells slots i lk_E) (k1 : lk_K p l e s m below meth c Q b D k Sg th (cells + 1) (slots + 6) i lk_E) : lk_K p l e s m below meth c Q b D k Sg th cells slots i 228 := by
  intro ws H locs ls t hP hD hS hW hZ hl
  obtain ⟨hx, hb, hr, hml, hown, hts, hX, hbl, hlocks, hgv, hfit⟩ := id C0
  have hsing := hC.2.2.2
  have hone := hC.2.2.1
  have hd : lk_dk (lk_caseI 228 5 26 30) = true := by decide +kernel
  simp only [lk_dk, lk_caseI, List.all_cons, List.all_append, List.all_nil, Bool.and_eq_true, decide_eq_true_eq] at hd
  obtain ⟨d0, a1, d1, d2, d3, a2, d4, d5, d6, -⟩ := hd
  obtain ⟨n9, hn9, et⟩ := lk_n hC hD hW
  obtain ⟨⟨⟨B9, C9, hB⟩, hR⟩, hU⟩ := id hZ
  refine lv_aload_n hx hb d0 rfl (lv_at hl 3 rfl) ?_
  refine lk_args C0 hL h0 h6 hS hl 5 (228 + 1) 1 _ a1 (by omega) ?_
  obtain ⟨x1, x2, x3, x4, x5, hav⟩ : ∃ x1 x2 x3 x4 x5 : Int32, lk_vs xs i 1 5 = [x1, x2, x3, x4, x5] := ⟨_, _, _, _, _, rfl⟩
  rw [hav]
  have hM1 := kc_X12_feed l D k s.heap.size az al sw Sg ws (lk_as [x1, x2, x3, x4, x5] t) th ((([x1, x2, x3, x4, x5] : List Int32).map Value.int).reverse ++ [Value.ref (th 0)]) H.size hone hsing hW.1 (lk_pre hD hW.1 hsing hW.2.2.2 (M := zm_X12_feed) (n := 5) (g := 0) (by decide +kernel) rfl hW.2.1 (as := [x1, x2, x3, x4, x5]) rfl)
  obtain ⟨θ, hp, e1, e2, e3⟩ := lk_pic0 hC hW.1
  have i1 : hp.1 1 1 = Int32.ofNat n9 := px_int hD e3 (g := 1) (i := 1) rfl rfl (by rw [e1 1 (by decide), ← et]; exact hW.2.1)
  have i2 : ∀ j, j < 940 → hp.1 2 j = B9 j := fun j hj => px_int hD e3 (g := 2) (i := j) rfl (px_spx hj) (by rw [e1 2 (by decide)]; exact (hB j hj).1)
  -- what the class lays
  obtain ⟨I9, v1, fx1, q1⟩ : ∃ (I9 : Nat → Nat → Int32) (v1 : Int32), fx_X12_feed [.int x5, .int x4, .int x3, .int x2, .int x1, .ref 0] hp (some (.int v1)) (I9, hp.2) ∧ ∀ J : Nat → Nat → Int32, fd_B n9 hp.1 J → ∃ (J9 : Nat → Nat → Int32) (v2 : Int32), (∀ M9 : Nat → Nat → Int64, fx_X13_feed [.int x5, .int x4, .int x3, .int x2, .int x1, .ref 18] (J, M9) (some (.int v2)) (J9, M9)) ∧ ∀ j, j < 940 → J9 19 j &&& 255 = I9 2 j := by
    by_cases h20 : n9 + 20 ≤ 940
    · exact ⟨_, _, fd_feedC (I := hp.1) (L := hp.2) i1 h20, fun J hJ => ⟨_, _, fun M9 => fd_feedR hJ.2.1 h20, (fd_BF hJ h20).2.2⟩⟩
    · exact ⟨_, _, fd_feedC0 (I := hp.1) (L := hp.2) i1 hn9 h20, fun J hJ => ⟨_, _, fun M9 => fd_feedR0 hJ.2.1 hn9 h20, hJ.2.2⟩⟩
  have hM2 := kx_X12_feed l D k s.heap.size az al sw Sg ws θ [.int x5, .int x4, .int x3, .int x2, .int x1, .ref 0] [.int x5, .int x4, .int x3, .int x2, .int x1, .ref (th 0)] H.size hp _ (I9, hp.2) e2 (px_typ hW.1) e3 ⟨⟨rfl, trivial⟩, ⟨rfl, trivial⟩, ⟨rfl, trivial⟩, ⟨rfl, trivial⟩, ⟨rfl, trivial⟩, ⟨by show Value.ref (th 0) = Value.ref (θ 0); rw [e1 0 (by decide)], by show Sg (θ 0) = some (xe_k 0); rw [e1 0 (by decide)]; exact hsing 0 (by decide) (by decide)⟩, trivial⟩ fx1
  refine lk_both (as := [x1, x2, x3, x4, x5]) (t := t) (M := zm_X12_feed) (g := 0) (ci := 10) (rest := []) C0 hC hM1 hM2 (cwV 5 hts (zg_T (List.mem_of_getElem? (i := 455) (by decide +kernel)) (List.mem_of_getElem? (i := 456) (by decide +kernel)) (List.mem_of_getElem? (i := 457) (by decide +kernel)) (List.mem_of_getElem? (i := 95) (by decide +kernel)) (List.mem_of_getElem? (i := 458) (by decide +kernel))) rfl rfl rfl (by decide +kernel) ⟨Nat.le_of_ble_eq_true rfl, Nat.le_of_ble_eq_true rfl⟩) ⟨Nat.le_of_succ_le hcs.1, Nat.le_trans (Nat.le_add_right _ _) hcs.2⟩ rfl rfl (by decide +kernel) (by decide) (by decide +kernel) rfl hP hD hS hW.1 hl d1 (Nat.zero_le _) (fun y1 w1 H locs st hst hDv p1 hb2 hP hD hS => ?_)
  obtain ⟨-, -, wb, c1, c2, c3, c4, c5, -⟩ := hb2
  rw [hst] at c1
  have r2 : ∀ j, j < 940 → zf_rd w1 (th 2) j (.int (I9 2 j)) := fun j hj => by
    have h := px_get hP c1 hDv c3 p1.2.1 c4 c5 (g := 2) (i := j) rfl (px_spx hj) (px_spx hj)
    rw [e1 2 (by decide)] at h
    exact h
  refine lv_pop hx hb d2 rfl ?_
  refine lv_aload_n hx hb d3 rfl (lv_at hl 2 rfl) ?_
  refine lk_args C0 hL h0 h6 hS hl 5 (228 + 6 + 6 * 5) 1 _ a2 (by omega) ?_
  rw [hav]
  obtain ⟨θ2, hq, g1, g2, g3⟩ := lk_pic0 hC p1.2.1
  have r18 : zf_rd w1 (th 18) 2 (.int t) := lk_kp_ok (show lk_kp zm_X12_feed 18 ([], 2) ([], 2) = true by decide +kernel) p1.2.2 (hsing 18 (by decide) (by decide)) (show (2 : Int) ≤ 2 by decide) (show (2 : Int) ≤ 2 by decide) hW.2.2.1
  have j2 : hq.1 18 2 = Int32.ofNat n9 := px_int hD g3 (g := 18) (i := 2) rfl rfl (by rw [g1 18 (by decide), ← et]; exact r18)
  have j19 : ∀ j, j < 940 → hq.1 19 j &&& 255 = hp.1 2 j := fun j hj => by
    rw [px_int hD g3 (g := 19) (i := j) rfl (px_spx hj) (by rw [g1 19 (by decide)]; exact lk_k9 (n9 := 939) hsing (by decide) (show lk_kp zm_X12_feed 19 ([], 0) ([], ((939 : Nat) : Int)) = true by decide +kernel) p1.2.2 (by omega) (hB j hj).2.1), i2 j hj]
    exact (hB j hj).2.2
  obtain ⟨J9, v2, fx2, q2⟩ := q1 hq.1 ⟨i1, j2, j19⟩
  have hF1 := lk_flag (M := zm_X12_feed) (by decide +kernel) hW.2.2.2 p1
  have hN1 := kc_X13_feed l D k s.heap.size az al sw Sg w1 (lk_as [x1, x2, x3, x4, x5] t) th ((([x1, x2, x3, x4, x5] : List Int32).map Value.int).reverse ++ [Value.ref (th 18)]) H.size hone hsing p1.2.1 (lk_pre hD p1.2.1 hsing hF1 (M := zm_X13_feed) (n := 5) (g := 18) (by decide +kernel) rfl r18 (as := [x1, x2, x3, x4, x5]) rfl)
  have hN2 := kx_X13_feed l D k s.heap.size az al sw Sg w1 θ2 [.int x5, .int x4, .int x3, .int x2, .int x1, .ref 18] [.int x5, .int x4, .int x3, .int x2, .int x1, .ref (th 18)] H.size hq _ (J9, hq.2) g2 (px_typ p1.2.1) g3 ⟨⟨rfl, trivial⟩, ⟨rfl, trivial⟩, ⟨rfl, trivial⟩, ⟨rfl, trivial⟩, ⟨rfl, trivial⟩, ⟨by show Value.ref (th 18) = Value.ref (θ2 18); rw [g1 18 (by decide)], by show Sg (θ2 18) = some (xe_k 18); rw [g1 18 (by decide)]; exact hsing 18 (by decide) (by decide)⟩, trivial⟩ (fx2 hq.2)
  refine lk_both (as := [x1, x2, x3, x4, x5]) (t := t) (M := zm_X13_feed) (g := 18) (ci := 11) (rest := []) C0 hC hN1 hN2 (cwV 5 hts (zg_T (List.mem_of_getElem? (i := 1307) (by decide +kernel)) (List.mem_of_getElem? (i := 1308) (by decide +kernel)) (List.mem_of_getElem? (i := 1309) (by decide +kernel)) (List.mem_of_getElem? (i := 109) (by decide +kernel)) (List.mem_of_getElem? (i := 1310) (by decide +kernel))) rfl rfl rfl (by decide +kernel) ⟨Nat.le_of_ble_eq_true rfl, Nat.le_of_ble_eq_true rfl⟩) ⟨Nat.le_of_succ_le hcs.1, Nat.le_trans (Nat.le_add_right _ _) hcs.2⟩ rfl rfl (by decide +kernel) (by decide) (by decide +kernel) rfl hP hD hS p1.2.1 hl d4 (Nat.zero_le _) (fun y2 w2 H locs st2 hst2 hDv2 p2 hb3 hP hD hS => ?_)
  obtain ⟨-, -, wc, s1, s2, s3, s4, s5, -⟩ := hb3
  rw [hst2] at s1
  have r19 : ∀ j, j < 940 → zf_rd w2 (th 19) j (.int (J9 19 j)) := fun j hj => by
    have h := px_get hP s1 hDv2 s3 p2.2.1 s4 s5 (g := 19) (i := j) rfl (px_spx hj) (px_spx hj)
    rw [g1 19 (by decide)] at h
    exact h
  refine lv_pop hx hb d5 rfl ?_
  refine lv_goto (tgt := lk_E) hx hb d6 (by omega) ?_
  obtain ⟨t', hW', -⟩ := lk_two (n := 5) (szd := true) (cmp := false) (M1 := zm_X12_feed) (M2 := zm_X13_feed) (as := [x1, x2, x3, x4, x5]) (by decide +kernel) hsing hW p1 p2
  refine k0 w2 H locs ls t' hP hD hS hW' ⟨⟨⟨fun j => I9 2 j, fun j => J9 19 j, fun j hj => ⟨?_, r19 j hj, q2 j hj⟩⟩, fun j hj => ?_⟩, lk_Uk hsing (by decide +kernel) p2.2.2 (lk_Uk hsing (by decide +kernel) p1.2.2 hU)⟩ hl
  · exact lk_k9 (n9 := 939) hsing (by decide) (show lk_kp zm_X13_feed 2 ([], 0) ([], ((939 : Nat) : Int)) = true by decide +kernel) p2.2.2 (by omega) (r2 j hj)
  · exact lk_k9 (n9 := 22) hsing (by decide) (show lk_kp zm_X13_feed 24 ([], 0) ([], ((22 : Nat) : Int)) = true by decide +kernel) p2.2.2 (by omega) (lk_k9 (n9 := 22) hsing (by decide) (show lk_kp zm_X12_feed 24 ([], 0) ([], ((22 : Nat) : Int)) = true by decide +kernel) p1.2.2 (by omega) (hR j hj))
set_option maxRecDepth 100000 in
set_option maxHeartbeats 4000000 in
theorem ks_2 (hlt : l.stackTraces = false) (C0 : lw_At p s m meth c b L xs) (hC : lh_C s D k az al sw Sg th) (hL : L ≤ 3072) (h0 : 0 ≤ i.toInt) (h6 : i.toInt + 6 ≤ (L : Int)) (hcs : cells + 1 ≤ 601024 ∧ slots + 6 ≤ 7293034) (k0 : lk_K p l e s m below meth c Q b D k Sg th cells slots i lk_E) (k1 : lk_K p l e s m below meth c Q b D k Sg th (cells + 1) (slots + 6) i lk_E) : lk_K p l e s m below meth c Q b D k Sg th cells slots i 326 := by
  intro ws H locs ls t hP hD hS hW hZ hl
  obtain ⟨hx, hb, hr, hml, hown, hts, hX, hbl, hlocks, hgv, hfit⟩ := id C0
  have hsing := hC.2.2.2
  have hone := hC.2.2.1
  have d0 : decode code 326 = .ok (.aload_n 1, 1) := by decide +kernel
  have d1 : decode code 327 = .ok (.invokevirtual 36, 3) := by decide +kernel
  have d2 : decode code 330 = .ok (.pop, 1) := by decide +kernel
  have d3 : decode code 331 = .ok (.aload_n 2, 1) := by decide +kernel
  have d4 : decode code 332 = .ok (.invokevirtual 40, 3) := by decide +kernel
  have d5 : decode code 335 = .ok (.pop, 1) := by decide +kernel
  have d6 : decode code 336 = .ok (.goto ((lk_E : Int) - ((336 : Nat) : Int)), 3) := by decide +kernel
  obtain ⟨n9, hn9, et⟩ := lk_n hC hD hW
  obtain ⟨⟨⟨B9, C9, hB⟩, hR⟩, hZz, nsv, ka, kb, o1, o2, o3, ⟨tw, nm, f9, s9, hNC⟩, hrC⟩ := id hZ
  have hB0 : ∀ i, i < 940 → 0 ≤ (B9 i).toInt := fun i hi => by
    rw [← (hB i hi).2.2]
    exact (zi_andr (by decide)).1
  refine lv_aload_n hx hb d0 rfl (lv_at hl 3 rfl) ?_
  have hM1 := kc_X12_town l D k s.heap.size az al sw Sg ws (lk_as [] t) th ((([] : List Int32).map Value.int).reverse ++ [Value.ref (th 0)]) H.size hone hsing hW.1 (lk_pre hD hW.1 hsing hW.2.2.2 (M := zm_X12_town) (n := 0) (g := 0) (by decide +kernel) rfl hW.2.1 (as := []) rfl)
  have hM2 := kt_X12_town l D k s.heap.size az al sw H.size hone hsing (B := B9) (n9 := n9) (ws := ws) ⟨hn9, hW.1, by rw [← et]; exact hW.2.1, fun i hi => (hB i hi).1⟩
  have hM3 := kn_X12_town l D k s.heap.size az al sw H.size hone hsing hW.1 hNC (B := B9) (n9 := n9) hn9 (by rw [← et]; exact hW.2.1) (fun i hi => (hB i hi).1)
  have hM4 := kf_X12_town l D k s.heap.size az al sw H.size hone hsing (B := B9) (n9 := n9) (ws := ws) ⟨hn9, hW.1, by rw [← et]; exact hW.2.1, fun i hi => (hB i hi).1⟩
  refine lk_both (as := []) (t := t) (M := zm_X12_town) (g := 0) (ci := 10) (rest := []) C0 hC hM1 (Met_two (Met_two hM2 hM3) hM4) (cwV 0 hts (zg_T (List.mem_of_getElem? (i := 471) (by decide +kernel)) (List.mem_of_getElem? (i := 472) (by decide +kernel)) (List.mem_of_getElem? (i := 473) (by decide +kernel)) (List.mem_of_getElem? (i := 95) (by decide +kernel)) (List.mem_of_getElem? (i := 474) (by decide +kernel))) rfl rfl rfl (by decide +kernel) ⟨Nat.le_of_ble_eq_true rfl, Nat.le_of_ble_eq_true rfl⟩) ⟨Nat.le_of_succ_le hcs.1, Nat.le_trans (Nat.le_add_right _ _) hcs.2⟩ rfl rfl (by decide +kernel) (by decide) (by decide +kernel) rfl hP hD hS hW.1 hl d1 (Nat.zero_le _) (fun x1 w1 H locs st hst hDv p1 hb2 hP hD hS => ?_)
  obtain ⟨⟨hans, wn, n1, n2, n3, f7, s7, n4⟩, wf, y1, y2, y3, y4⟩ := hb2
  rw [hst] at n1 y1
  have r14 := px_carry hP y1 hDv y2 p1.2.1 (px_typ y3) (hsing 0 (by decide) (by decide)) (by decide) (P := .inl (-2147483648, 2147483647)) rfl y4
  have hN1 := nu_mv hsing hP n1 hDv n2 p1.2.1 n3 n4
  have hx1 : x1 = lp_ans (lp_tx B9 n9 (n9 + 1) 0 0 lp_s0) := (Value.int.inj (Option.some.inj hans))
  refine lv_pop hx hb d2 rfl ?_
  refine lv_aload_n hx hb d3 rfl (lv_at hl 2 rfl) ?_
  obtain ⟨θ, hp, e1, e2, e3⟩ := lk_pic0 hC p1.2.1
  have r18 : zf_rd w1 (th 18) 2 (.int t) := lk_kp_ok (show lk_kp zm_X12_town 18 ([], 2) ([], 2) = true by decide +kernel) p1.2.2 (hsing 18 (by decide) (by decide)) (show (2 : Int) ≤ 2 by decide) (show (2 : Int) ≤ 2 by decide) hW.2.2.1
  have i2 : hp.1 18 2 = Int32.ofNat n9 := px_int hD e3 (g := 18) (i := 2) rfl rfl (by rw [e1 18 (by decide), ← et]; exact r18)
  have i19 : ∀ j, j < 940 → hp.1 19 j &&& 255 = B9 j := fun j hj => by
    rw [px_int hD e3 (g := 19) (i := j) rfl (px_spx hj) (by rw [e1 19 (by decide)]; exact lk_k9 (n9 := 939) hsing (by decide) (show lk_kp zm_X12_town 19 ([], 0) ([], ((939 : Nat) : Int)) = true by decide +kernel) p1.2.2 (by omega) (hB j hj).2.1)]
    exact (hB j hj).2.2
  have i24 : ∀ j, j < 23 → hp.2 24 j = rsv j := fun j hj => px_long hD e3 (g := 24) (i := j) rfl (px_spx hj) (by rw [e1 24 (by decide)]; exact lk_k9 (n9 := 22) hsing (by decide) (show lk_kp zm_X12_town 24 ([], 0) ([], ((22 : Nat) : Int)) = true by decide +kernel) p1.2.2 (by omega) (hR j hj))
  have hF1 := lk_flag (M := zm_X12_town) (by decide +kernel) hW.2.2.2 p1
  have hmt := mt_townN (B := B9) (J := hp.1) (M := hp.2) hn9 hB0 i2 i19 i24
  have hs1 := nr_s o1.1 hsing (M := zm_X12_town) (by decide +kernel) p1.2.2 hrC.1
  have hK1 := kc_X13_town l D k s.heap.size az al sw Sg w1 (lk_as [] t) th ((([] : List Int32).map Value.int).reverse ++ [Value.ref (th 18)]) H.size hone hsing p1.2.1 (lk_pre hD p1.2.1 hsing hF1 (M := zm_X13_town) (n := 0) (g := 18) (by decide +kernel) rfl r18 (as := []) rfl)
  have hK3 := kn_X13_town l D k s.heap.size az al sw (ws := w1) H.size hone hsing p1.2.1 (zf_ac ((zf_hokF (h := (1000, 0, ([], 1000), .inl ([], 0))) (show ¬ (1000 : Nat) < 1000 by decide)).mpr (hF1 0 (by decide))) (zf_ac ((zf_hokF (h := (1006, 0, ([], 1006), .inl ([], 0))) (show ¬ (1006 : Nat) < 1000 by decide)).mpr (hF1 6 (by decide))) zf_an))
  cases hq : lp_tx B9 n9 (n9 + 1) 0 0 lp_s0 with
  | inl q =>
    rw [hq] at hmt hN1 hx1 r14
    obtain ⟨hp9, fx, h15⟩ := hmt
    have hK2 := kx_X13_town l D k s.heap.size az al sw Sg w1 θ [.ref 18] [.ref (th 18)] H.size hp _ hp9 e2 (px_typ p1.2.1) e3 ⟨⟨by show Value.ref (th 18) = Value.ref (θ 18); rw [e1 18 (by decide)], by show Sg (θ 18) = some (xe_k 18); rw [e1 18 (by decide)]; exact hsing 18 (by decide) (by decide)⟩, trivial⟩ fx
    refine lk_both (as := []) (t := t) (M := zm_X13_town) (g := 18) (ci := 11) (rest := []) C0 hC hK1 (Met_two hK2 hK3) (cwV 0 hts (zg_T (List.mem_of_getElem? (i := 1491) (by decide +kernel)) (List.mem_of_getElem? (i := 1492) (by decide +kernel)) (List.mem_of_getElem? (i := 1493) (by decide +kernel)) (List.mem_of_getElem? (i := 109) (by decide +kernel)) (List.mem_of_getElem? (i := 1494) (by decide +kernel))) rfl rfl rfl (by decide +kernel) ⟨Nat.le_of_ble_eq_true rfl, Nat.le_of_ble_eq_true rfl⟩) ⟨Nat.le_of_succ_le hcs.1, Nat.le_trans (Nat.le_add_right _ _) hcs.2⟩ rfl rfl (by decide +kernel) (by decide) (by decide +kernel) rfl hP hD hS p1.2.1 hl d4 (Nat.zero_le _) (fun x2 w2 H locs st2 hst2 hDv2 p2 hb3 hP hD hS => ?_)
    obtain ⟨hb4, x, ex, hk⟩ := hb3
    have hx2 := (Value.int.inj (Option.some.inj hb4.1))
    obtain ⟨-, -, wc, u1, u2, u3, u4, u5, -⟩ := hb4
    rw [hst2] at u1
    have ex : x2 = x := (Value.int.inj (Option.some.inj ex))
    rw [← ex, hx2] at hk
    have hle := le_tx (B := B9) hn9 (n9 + 1) 0 0 lp_s0 (Nat.zero_le _) lp_s0_ok
    rw [hq] at hle
    have hle : q.2 ≤ 940 := hle
    have em : (Int32.ofInt (-1)).toInt = -1 := by decide
    have e9 : (Int32.ofNat q.2).toInt = (q.2 : Int) := ti (by omega)
    have hy : (Int32.ofInt (-1) - Int32.ofNat q.2).toInt < 0 := by
      rw [Kit.i32_sub (by rw [em]; omega) (by rw [em]; omega), em]
      omega
    refine lv_pop hx hb d5 rfl ?_
    refine lv_goto (tgt := lk_E) hx hb d6 (by decide) ?_
    obtain ⟨t', hW', -⟩ := lk_two (n := 0) (szd := true) (cmp := false) (M1 := zm_X12_town) (M2 := zm_X13_town) (as := []) (by decide +kernel) hsing hW p1 p2
    have hi1 := nr_i o2.1 o3.1 hsing (M := zm_X12_town) (by decide +kernel) p1.2.2 hrC.2
    have hi2 := nr_i o2.1 o3.1 hsing (M := zm_X13_town) (by decide +kernel) p2.2.2 hi1
    have hc2 := nu_Cf (by decide +kernel) p2.2.2 hsing hN1
    have hBz : lk_B th w2 ∧ lk_Z0 th w2 := ⟨lk_Bk (M := zm_X13_town) hsing (by decide +kernel) p2.2.2 (lk_Bk (M := zm_X12_town) hsing (by decide +kernel) p1.2.2 hZ.1), lk_Z0k (M := zm_X13_town) hsing (by decide +kernel) p2.2.2 (lk_Z0k (M := zm_X12_town) hsing (by decide +kernel) p1.2.2 hZz.1)⟩
    have h9 := px_get hP u1 hDv2 u3 p2.2.1 u4 u5 (g := 18) (i := 15) rfl rfl rfl
    have h9 : zf_rd w2 (θ 18) 15 (.int (hp9.1 18 15)) := h9
    rw [e1 18 (by decide), h15] at h9
    have hG : lk_G th w2 := ⟨_, lk_G1 (M := zm_X13_town) hsing (by decide +kernel) p2.2.2 r14, h9⟩
    rcases hk with ⟨wk, m1, m2, m3, m4⟩ | hk
    · rw [hst2] at m1
      have hs2 := nr_s o1.1 hsing (M := zm_tn1) (by decide +kernel) m4 hs1
      refine k0 w2 H locs ls t' hP hD hS hW' ⟨hBz.1, ⟨hBz.2, hG⟩, nsv, ka, kb, o1, o2, o3, ⟨tw, nm, f7, s7, hc2⟩, ⟨?_, fun j hj => ?_⟩, hi2⟩ hl
      · exact px_carry hP m1 hDv2 m2 p2.2.1 (px_typ m3) (hsing 20 (by decide) (by decide)) (by decide) (P := .inl (0, 6)) rfl hs2.1
      · exact px_carry hP m1 hDv2 m2 p2.2.1 (px_typ m3) (hsing 23 (by decide) (by decide)) (by decide) (P := .inr none) (nu_s23 (Nat.lt_of_lt_of_le hj o1.1)) (hs2.2 j hj)
    · exact absurd hk (Int.not_le.mpr hy)
  | inr q =>
    have O := lp_tx_ok _ _ _ _ _ (Nat.zero_le _) lp_s0_ok hq
    rw [hq] at hmt hN1 r14
    obtain ⟨hp9, fx, h15, h20, h23⟩ := hmt
    have hK2 := kx_X13_town l D k s.heap.size az al sw Sg w1 θ [.ref 18] [.ref (th 18)] H.size hp _ hp9 e2 (px_typ p1.2.1) e3 ⟨⟨by show Value.ref (th 18) = Value.ref (θ 18); rw [e1 18 (by decide)], by show Sg (θ 18) = some (xe_k 18); rw [e1 18 (by decide)]; exact hsing 18 (by decide) (by decide)⟩, trivial⟩ fx
    refine lk_both (as := []) (t := t) (M := zm_X13_town) (g := 18) (ci := 11) (rest := []) C0 hC hK1 (Met_two hK2 hK3) (cwV 0 hts (zg_T (List.mem_of_getElem? (i := 1491) (by decide +kernel)) (List.mem_of_getElem? (i := 1492) (by decide +kernel)) (List.mem_of_getElem? (i := 1493) (by decide +kernel)) (List.mem_of_getElem? (i := 109) (by decide +kernel)) (List.mem_of_getElem? (i := 1494) (by decide +kernel))) rfl rfl rfl (by decide +kernel) ⟨Nat.le_of_ble_eq_true rfl, Nat.le_of_ble_eq_true rfl⟩) ⟨Nat.le_of_succ_le hcs.1, Nat.le_trans (Nat.le_add_right _ _) hcs.2⟩ rfl rfl (by decide +kernel) (by decide) (by decide +kernel) rfl hP hD hS p1.2.1 hl d4 (Nat.zero_le _) (fun x2 w2 H locs st2 hst2 hDv2 p2 hb3 hP hD hS => ?_)
    obtain ⟨⟨-, -, wc, u1, u2, u3, u4, u5, -⟩, -⟩ := hb3
    rw [hst2] at u1
    refine lv_pop hx hb d5 rfl ?_
    refine lv_goto (tgt := lk_E) hx hb d6 (by decide) ?_
    obtain ⟨t', hW', -⟩ := lk_two (n := 0) (szd := true) (cmp := false) (M1 := zm_X12_town) (M2 := zm_X13_town) (as := []) (by decide +kernel) hsing hW p1 p2
    have hi1 := nr_i o2.1 o3.1 hsing (M := zm_X12_town) (by decide +kernel) p1.2.2 hrC.2
    have hi2 := nr_i o2.1 o3.1 hsing (M := zm_X13_town) (by decide +kernel) p2.2.2 hi1
    have hc2 := nu_Cf (by decide +kernel) p2.2.2 hsing hN1
    have hBz : lk_B th w2 ∧ lk_Z0 th w2 := ⟨lk_Bk (M := zm_X13_town) hsing (by decide +kernel) p2.2.2 (lk_Bk (M := zm_X12_town) hsing (by decide +kernel) p1.2.2 hZ.1), lk_Z0k (M := zm_X13_town) hsing (by decide +kernel) p2.2.2 (lk_Z0k (M := zm_X12_town) hsing (by decide +kernel) p1.2.2 hZz.1)⟩
    have h9 := px_get hP u1 hDv2 u3 p2.2.1 u4 u5 (g := 18) (i := 15) rfl rfl rfl
    have h9 : zf_rd w2 (θ 18) 15 (.int (hp9.1 18 15)) := h9
    rw [e1 18 (by decide), h15] at h9
    have hG : lk_G th w2 := ⟨_, lk_G1 (M := zm_X13_town) hsing (by decide +kernel) p2.2.2 r14, h9⟩
    refine k0 w2 H locs ls t' hP hD hS hW' ⟨hBz.1, ⟨hBz.2, hG⟩, q.2.1, ka, kb, ⟨O.1, O.2.1⟩, o2, o3, ⟨tw, nm, f7, s7, hc2⟩, ⟨?_, fun j hj => ?_⟩, hi2⟩ hl
    · have h9 := px_get hP u1 hDv2 u3 p2.2.1 u4 u5 (g := 20) (i := 0) rfl rfl rfl
      have h9 : zf_rd w2 (θ 20) 0 (.int (hp9.1 20 0)) := h9
      rw [e1 20 (by decide), h20] at h9
      exact h9
    · have hj6 : j < 6 := Nat.lt_of_lt_of_le hj O.1
      have h9 := px_rdL u5 (g := 23) (i := j) rfl (nu_x23 hj6)
      rw [e1 23 (by decide), h23 j hj] at h9
      exact px_carry hP u1 hDv2 u3 p2.2.1 u4 (hsing 23 (by decide) (by decide)) (by decide) (P := .inr none) (nu_s23 hj6) h9
set_option maxRecDepth 100000 in
set_option maxHeartbeats 4000000 in
theorem ks_38 (hlt : l.stackTraces = false) (C0 : lw_At p s m meth c b L xs) (hC : lh_C s D k az al sw Sg th) (hL : L ≤ 3072) (h0 : 0 ≤ i.toInt) (h6 : i.toInt + 6 ≤ (L : Int)) (hcs : cells + 1 ≤ 601024 ∧ slots + 6 ≤ 7293034) (k0 : lk_K p l e s m below meth c Q b D k Sg th cells slots i lk_E) (k1 : lk_K p l e s m below meth c Q b D k Sg th (cells + 1) (slots + 6) i lk_E) : lk_K p l e s m below meth c Q b D k Sg th cells slots i 1271 := by
  intro ws H locs ls t hP hD hS hW hZ hl
  obtain ⟨hx, hb, hr, hml, hown, hts, hX, hbl, hlocks, hgv, hfit⟩ := id C0
  have hsing := hC.2.2.2
  have hone := hC.2.2.1
  have d0 : decode code 1271 = .ok (.aload_n 1, 1) := by decide +kernel
  have d1 : decode code 1272 = .ok (.invokevirtual 184, 3) := by decide +kernel
  have d2 : decode code 1275 = .ok (.pop, 1) := by decide +kernel
  have d3 : decode code 1276 = .ok (.aload_n 2, 1) := by decide +kernel
  have d4 : decode code 1277 = .ok (.invokevirtual 187, 3) := by decide +kernel
  have d5 : decode code 1280 = .ok (.pop, 1) := by decide +kernel
  have d6 : decode code 1281 = .ok (.goto ((lk_E : Int) - ((1281 : Nat) : Int)), 3) := by decide +kernel
  obtain ⟨n9, hn9, et⟩ := lk_n hC hD hW
  obtain ⟨⟨⟨B9, C9, hB⟩, hR⟩, hZz, nsv, ka, kb, o1, o2, o3, ⟨tw, nm, f9, s9, hNC⟩, hrC⟩ := id hZ
  have hB0 : ∀ i, i < 940 → 0 ≤ (B9 i).toInt := fun i hi => by
    rw [← (hB i hi).2.2]
    exact (zi_andr (by decide)).1
  refine lv_aload_n hx hb d0 rfl (lv_at hl 3 rfl) ?_
  have t0 := hNC.1.1 0 (by decide)
  have hM1 := Met_room (r2 := ({ frames := 37, cells := 0, slots := 0, locals := 1070 } : Room)) (kc_X12_sentence l D k s.heap.size az al sw Sg ws (lk_as [] t) th ((([] : List Int32).map Value.int).reverse ++ [Value.ref (th 0)]) H.size hone hsing hW.1 (lk_pre hD hW.1 hsing hW.2.2.2 (M := zm_X12_sentence) (n := 0) (g := 0) (by decide +kernel) rfl hW.2.1 (as := []) rfl)) (by decide) (by decide) (by decide) (by decide)
  have hM2 := kf_X12_sentence l D k s.heap.size az al sw H.size hone hsing (B := B9) (n9 := n9) (sp := tw 0) (nm := nm 0) (nsv := nsv) (ws := ws) ⟨hn9, hW.1, by rw [← et]; exact hW.2.1, fun i hi => (hB i hi).1, hNC.1.2.2.2.1, t0.1, t0.2.2, hNC.2.1.2.1, hNC.2.1.2.2, o1⟩
  refine lk_both (as := []) (t := t) (M := zm_X12_sentence) (g := 0) (ci := 10) (rest := []) C0 hC hM1 hM2 (cwV 0 hts (zg_T (List.mem_of_getElem? (i := 1098) (by decide +kernel)) (List.mem_of_getElem? (i := 1099) (by decide +kernel)) (List.mem_of_getElem? (i := 1100) (by decide +kernel)) (List.mem_of_getElem? (i := 95) (by decide +kernel)) (List.mem_of_getElem? (i := 1101) (by decide +kernel))) rfl rfl rfl (by decide +kernel) ⟨Nat.le_of_ble_eq_true rfl, Nat.le_of_ble_eq_true rfl⟩) ⟨Nat.le_of_succ_le hcs.1, Nat.le_trans (Nat.le_add_right _ _) hcs.2⟩ rfl rfl (by decide +kernel) (by decide) (by decide +kernel) rfl hP hD hS hW.1 hl d1 (Nat.zero_le _) (fun x1 w1 H locs st hst hDv p1 hb2 hP hD hS => ?_)
  obtain ⟨r, hends, wf, y1, y2, y3, y4⟩ := hb2
  rw [hst] at y1
  have r14 := px_carry hP y1 hDv y2 p1.2.1 (px_typ y3) (hsing 0 (by decide) (by decide)) (by decide) (P := .inl (-2147483648, 2147483647)) rfl y4
  refine lv_pop hx hb d2 rfl ?_
  refine lv_aload_n hx hb d3 rfl (lv_at hl 2 rfl) ?_
  obtain ⟨θ, hp, e1, e2, e3⟩ := lk_pic0 hC p1.2.1
  have r18 : zf_rd w1 (th 18) 2 (.int t) := lk_kp_ok (show lk_kp zm_X12_sentence 18 ([], 2) ([], 2) = true by decide +kernel) p1.2.2 (hsing 18 (by decide) (by decide)) (show (2 : Int) ≤ 2 by decide) (show (2 : Int) ≤ 2 by decide) hW.2.2.1
  have i2 : hp.1 18 2 = Int32.ofNat n9 := px_int hD e3 (g := 18) (i := 2) rfl rfl (by rw [e1 18 (by decide), ← et]; exact r18)
  have i19 : ∀ j, j < 940 → hp.1 19 j &&& 255 = B9 j := fun j hj => by
    rw [px_int hD e3 (g := 19) (i := j) rfl (px_spx hj) (by rw [e1 19 (by decide)]; exact lk_k9 (n9 := 939) hsing (by decide) (show lk_kp zm_X12_sentence 19 ([], 0) ([], ((939 : Nat) : Int)) = true by decide +kernel) p1.2.2 (by omega) (hB j hj).2.1)]
    exact (hB j hj).2.2
  have i24 : ∀ j, j < 23 → hp.2 24 j = rsv j := fun j hj => px_long hD e3 (g := 24) (i := j) rfl (px_spx hj) (by rw [e1 24 (by decide)]; exact lk_k9 (n9 := 22) hsing (by decide) (show lk_kp zm_X12_sentence 24 ([], 0) ([], ((22 : Nat) : Int)) = true by decide +kernel) p1.2.2 (by omega) (hR j hj))
  have hF1 := lk_flag (M := zm_X12_sentence) (by decide +kernel) hW.2.2.2 p1
  have hs1 := nr_s o1.1 hsing (M := zm_X12_sentence) (by decide +kernel) p1.2.2 hrC.1
  have h20 : hp.1 20 0 = Int32.ofNat nsv.length := px_int hD e3 (g := 20) (i := 0) rfl rfl (by rw [e1 20 (by decide)]; exact hs1.1)
  have h23 : ∀ j, j < nsv.length → hp.2 23 j = c256 (nsv.getD j []) := fun j hj => px_long hD e3 (g := 23) (i := j) rfl (nu_x23 (Nat.lt_of_lt_of_le hj o1.1)) (by rw [e1 23 (by decide)]; exact hs1.2 j hj)
  obtain ⟨hp9, fx, h15⟩ := sm_text (B := B9) (n := n9) (nsv := nsv) (J := hp.1) (M := hp.2) hn9 hB0 o1 i2 i19 ⟨h20, h23, i24⟩ hends
  have hK1 := kc_X13_sentence l D k s.heap.size az al sw Sg w1 (lk_as [] t) th ((([] : List Int32).map Value.int).reverse ++ [Value.ref (th 18)]) H.size hone hsing p1.2.1 (lk_pre hD p1.2.1 hsing hF1 (M := zm_X13_sentence) (n := 0) (g := 18) (by decide +kernel) rfl r18 (as := []) rfl)
  have hK2 := kx_X13_sentence l D k s.heap.size az al sw Sg w1 θ [.ref 18] [.ref (th 18)] H.size hp _ hp9 e2 (px_typ p1.2.1) e3 ⟨⟨by show Value.ref (th 18) = Value.ref (θ 18); rw [e1 18 (by decide)], by show Sg (θ 18) = some (xe_k 18); rw [e1 18 (by decide)]; exact hsing 18 (by decide) (by decide)⟩, trivial⟩ fx
  refine lk_both (as := []) (t := t) (M := zm_X13_sentence) (g := 18) (ci := 11) (rest := []) C0 hC hK1 hK2 (cwV 0 hts (zg_T (List.mem_of_getElem? (i := 1905) (by decide +kernel)) (List.mem_of_getElem? (i := 1906) (by decide +kernel)) (List.mem_of_getElem? (i := 1907) (by decide +kernel)) (List.mem_of_getElem? (i := 109) (by decide +kernel)) (List.mem_of_getElem? (i := 1908) (by decide +kernel))) rfl rfl rfl (by decide +kernel) ⟨Nat.le_of_ble_eq_true rfl, Nat.le_of_ble_eq_true rfl⟩) ⟨Nat.le_of_succ_le hcs.1, Nat.le_trans (Nat.le_add_right _ _) hcs.2⟩ rfl rfl (by decide +kernel) (by decide) (by decide +kernel) rfl hP hD hS p1.2.1 hl d4 (Nat.zero_le _) (fun x2 w2 H locs st2 hst2 hDv2 p2 hb3 hP hD hS => ?_)
  obtain ⟨-, -, wc, u1, u2, u3, u4, u5, -⟩ := hb3
  rw [hst2] at u1
  refine lv_pop hx hb d5 rfl ?_
  refine lv_goto (tgt := lk_E) hx hb d6 (by decide) ?_
  obtain ⟨t', hW', -⟩ := lk_two (n := 0) (szd := true) (cmp := false) (M1 := zm_X12_sentence) (M2 := zm_X13_sentence) (as := []) (by decide +kernel) hsing hW p1 p2
  have h9 := px_get hP u1 hDv2 u3 p2.2.1 u4 u5 (g := 18) (i := 15) rfl rfl rfl
  have h9 : zf_rd w2 (θ 18) 15 (.int (hp9.1 18 15)) := h9
  rw [e1 18 (by decide), h15] at h9
  exact k0 w2 H locs ls t' hP hD hS hW' (lk_y_V (lk_Vyk (M := zm_X13_sentence) hsing (by decide +kernel) p2.2.2 (lk_Vyk (M := zm_X12_sentence) hsing (by decide +kernel) p1.2.2 (lk_V_y hZ))) ⟨_, lk_G1 (M := zm_X13_sentence) hsing (by decide +kernel) p2.2.2 r14, h9⟩) hl
set_option maxRecDepth 100000 in
set_option maxHeartbeats 4000000 in
theorem ks_36 (hlt : l.stackTraces = false) (C0 : lw_At p s m meth c b L xs) (hC : lh_C s D k az al sw Sg th) (hL : L ≤ 3072) (h0 : 0 ≤ i.toInt) (h6 : i.toInt + 6 ≤ (L : Int)) (hcs : cells + 1 ≤ 601024 ∧ slots + 6 ≤ 7293034) (k0 : lk_K p l e s m below meth c Q b D k Sg th cells slots i lk_E) (k1 : lk_K p l e s m below meth c Q b D k Sg th (cells + 1) (slots + 6) i lk_E) : lk_K p l e s m below meth c Q b D k Sg th cells slots i 1221 := by
  intro ws H locs ls t hP hD hS hW hZ hl
  obtain ⟨hx, hb, hr, hml, hown, hts, hX, hbl, hlocks, hgv, hfit⟩ := id C0
  have hsing := hC.2.2.2
  have hone := hC.2.2.1
  have hd : lk_dk (lk_caseI 1221 1 176 179) = true := by decide +kernel
  simp only [lk_dk, lk_caseI, List.all_cons, List.all_append, List.all_nil, Bool.and_eq_true, decide_eq_true_eq] at hd
  obtain ⟨d0, e1', d1, d2, d3, e2', d4, d5, d6, -⟩ := hd
  obtain ⟨n9, hn9, et⟩ := lk_n hC hD hW
  obtain ⟨⟨⟨B9, C9, hB⟩, hR⟩, ⟨hZ0, z9, g14, g15⟩, nsv, ka, kb, o1, o2, o3, ⟨tw, nm, f9, s9, hNC⟩, hrC⟩ := id hZ
  have hB0 : ∀ i, i < 940 → 0 ≤ (B9 i).toInt := fun i hi => by
    rw [← (hB i hi).2.2]
    exact (zi_andr (by decide)).1
  have t0 := hNC.1.1 0 (by decide)
  refine lv_aload_n hx hb d0 rfl (lv_at hl 3 rfl) ?_
  refine lk_args C0 hL h0 h6 hS hl 1 (1221 + 1) 1 _ e1' (by omega) ?_
  obtain ⟨a, hav⟩ : ∃ a : Int32, lk_vs xs i 1 1 = [a] := ⟨_, rfl⟩
  rw [hav]
  have hM1 := kc_X12_ledger l D k s.heap.size az al sw Sg ws (lk_as [a] t) th ((([a] : List Int32).map Value.int).reverse ++ [Value.ref (th 0)]) H.size hone hsing hW.1 (lk_pre hD hW.1 hsing hW.2.2.2 (M := zm_X12_ledger) (n := 1) (g := 0) (by decide +kernel) rfl hW.2.1 (as := [a]) rfl)
  have hM2 := kn_X12_ledger l D k s.heap.size az al sw H.size hone hsing hW.1 hNC a
  have hM3 := kl_X12 l D k s.heap.size az al sw H.size hone hsing (B := B9) (n9 := n9) (sp := tw 0) (nm := nm 0) (nsv := nsv) (ws := ws) (a1 := a) ⟨hn9, hW.1, by rw [← et]; exact hW.2.1, fun i hi => (hB i hi).1, hNC.1.2.2.2.1, t0.1, t0.2.2, hNC.2.1.2.1, hNC.2.1.2.2, o1⟩ g14
  refine lk_both (as := [a]) (t := t) (M := zm_X12_ledger) (g := 0) (ci := 10) (rest := []) C0 hC hM1 (Met_two hM2 hM3) (cwV 1 hts (zg_T (List.mem_of_getElem? (i := 1034) (by decide +kernel)) (List.mem_of_getElem? (i := 1035) (by decide +kernel)) (List.mem_of_getElem? (i := 1036) (by decide +kernel)) (List.mem_of_getElem? (i := 95) (by decide +kernel)) (List.mem_of_getElem? (i := 1037) (by decide +kernel))) rfl rfl rfl (by decide +kernel) ⟨Nat.le_of_ble_eq_true rfl, Nat.le_of_ble_eq_true rfl⟩) ⟨Nat.le_of_succ_le hcs.1, Nat.le_trans (Nat.le_add_right _ _) hcs.2⟩ rfl rfl (by decide +kernel) (by decide) (by decide +kernel) rfl hP hD hS hW.1 hl d1 (Nat.zero_le _) (fun x1 w1 H locs st hst hDv p1 hb2 hP hD hS => ?_)
  obtain ⟨⟨wn, n1, n2, n3, f7, s7, n4⟩, wf, y1, y2, y3, y4⟩ := hb2
  rw [hst] at n1 y1
  have hN1 := nu_mv hsing hP n1 hDv n2 p1.2.1 n3 n4
  have r14 := px_carry hP y1 hDv y2 p1.2.1 (px_typ y3) (hsing 0 (by decide) (by decide)) (by decide) (P := .inl (-2147483648, 2147483647)) rfl y4
  refine lv_pop hx hb d2 rfl ?_
  refine lv_aload_n hx hb d3 rfl (lv_at hl 2 rfl) ?_
  refine lk_args C0 hL h0 h6 hS hl 1 (1221 + 6 + 6 * 1) 1 _ e2' (by omega) ?_
  rw [hav]
  have hF1 := lk_flag (M := zm_X12_ledger) (by decide +kernel) hW.2.2.2 p1
  have r18 : zf_rd w1 (th 18) 2 (.int t) := lk_kp_ok (show lk_kp zm_X12_ledger 18 ([], 2) ([], 2) = true by decide +kernel) p1.2.2 (hsing 18 (by decide) (by decide)) (show (2 : Int) ≤ 2 by decide) (show (2 : Int) ≤ 2 by decide) hW.2.2.1
  have hs1 := nr_s o1.1 hsing (M := zm_X12_ledger) (by decide +kernel) p1.2.2 hrC.1
  have hpre : kg_Pre Sg k th B9 n9 nsv w1 := ⟨hn9, hB0, o1, p1.2.1, by rw [← et]; exact r18, ⟨C9, fun j hj => ⟨lk_k9 (n9 := 939) hsing (by decide) (show lk_kp zm_X12_ledger 19 ([], 0) ([], ((939 : Nat) : Int)) = true by decide +kernel) p1.2.2 (by omega) (hB j hj).2.1, (hB j hj).2.2⟩⟩, hs1.1, hs1.2, fun j hj => lk_k9 (n9 := 22) hsing (by decide) (show lk_kp zm_X12_ledger 24 ([], 0) ([], ((22 : Nat) : Int)) = true by decide +kernel) p1.2.2 (by omega) (hR j hj), fun j hj => hF1 j (by rcases hj with rfl | rfl | rfl <;> decide)⟩
  have hK1 := kc_X13_ledger_b l D k s.heap.size az al sw Sg w1 (lk_as [a] t) th ((([a] : List Int32).map Value.int).reverse ++ [Value.ref (th 18)]) H.size hone hsing p1.2.1 (lk_pre hD p1.2.1 hsing hF1 (M := zm_X13_ledger_b) (n := 1) (g := 18) (by decide +kernel) rfl r18 (as := [a]) rfl)
  have hK2 := kl_X13 l D k s.heap.size az al sw H.size hone hsing (ws := w1) (a1 := a) hpre (lk_G2 (M := zm_X12_ledger) hsing (by decide +kernel) p1.2.2 g15)
  refine lk_both (as := [a]) (t := t) (M := zm_X13_ledger_b) (g := 18) (ci := 11) (rest := []) C0 hC hK1 hK2 (cwV 1 hts (zg_T (List.mem_of_getElem? (i := 1885) (by decide +kernel)) (List.mem_of_getElem? (i := 1886) (by decide +kernel)) (List.mem_of_getElem? (i := 1887) (by decide +kernel)) (List.mem_of_getElem? (i := 109) (by decide +kernel)) (List.mem_of_getElem? (i := 1888) (by decide +kernel))) rfl rfl rfl (by decide +kernel) ⟨Nat.le_of_ble_eq_true rfl, Nat.le_of_ble_eq_true rfl⟩) ⟨Nat.le_of_succ_le hcs.1, Nat.le_trans (Nat.le_add_right _ _) hcs.2⟩ rfl rfl (by decide +kernel) (by decide) (by decide +kernel) rfl hP hD hS p1.2.1 hl d4 (Nat.zero_le _) (fun x2 w2 H locs st2 hst2 hDv2 p2 hb3 hP hD hS => ?_)
  obtain ⟨wg, m1, m2, m3, m4⟩ := hb3
  rw [hst2] at m1
  have r15 := px_carry hP m1 hDv2 m2 p2.2.1 m3 (hsing 18 (by decide) (by decide)) (by decide) (P := .inl (-2147483648, 2147483647)) rfl m4
  refine lv_pop hx hb d5 rfl ?_
  refine lv_goto (tgt := lk_E) hx hb d6 (by omega) ?_
  obtain ⟨t', hW', -⟩ := lk_two (n := 1) (szd := true) (cmp := false) (M1 := zm_X12_ledger) (M2 := zm_X13_ledger_b) (as := [a]) (by decide +kernel) hsing hW p1 p2
  have hV1 : lk_Vy Sg th w1 := ⟨lk_Bk (M := zm_X12_ledger) hsing (by decide +kernel) p1.2.2 hZ.1, lk_Z0k (M := zm_X12_ledger) hsing (by decide +kernel) p1.2.2 hZ0, nsv, ka, kb, o1, o2, o3, ⟨tw, nm, f7, s7, hN1⟩, nr_Cf o1.1 o2.1 o3.1 hsing (M := zm_X12_ledger) (by decide +kernel) p1.2.2 hrC⟩
  exact k0 w2 H locs ls t' hP hD hS hW' (lk_y_V (lk_Vyk (M := zm_X13_ledger_b) hsing (by decide +kernel) p2.2.2 hV1) ⟨kl_f B9 n9 nsv a z9, lk_G1 (M := zm_X13_ledger_b) hsing (by decide +kernel) p2.2.2 r14, r15⟩) hl
theorem kf_fx12 {Sg : Nat → Option Nat} {k : Nat → ClassId} {th : Nat → Nat} {ws ws' : va_W} {z x : Int32} (hp : zf_post Sg k zGT (kf_ρ z 0 0) th zm_X12_faultF ws (some (.int x)) ws') : x = z := by
  obtain ⟨⟨o, ho, ρ1, θ1, u1, u2, -, -, u5, u6⟩, -, -⟩ := hp
  cases List.mem_singleton.mp ho
  obtain ⟨x', ex, u6⟩ := u6
  have u6 : x'.toInt = zf_v ρ1 ([(0, 1)], 0) := u6
  have f2 : zf_v ρ1 ([(0, 1)], 0) = ρ1 0 := zf_v_sym ρ1 0
  rw [f2, u1 0 (by decide)] at u6
  have e9 : x' = x := by
    injection ex with e9
    exact e9.symm
  rw [← e9]
  exact Int32.toInt_inj.mp u6
theorem kf_fx13 {Sg : Nat → Option Nat} {k : Nat → ClassId} {th : Nat → Nat} {ws ws' : va_W} {z x : Int32} (hp : zf_post Sg k zGT (kf_ρ z 0 0) th zm_X13_faultF ws (some (.int x)) ws') : x = z := by
  obtain ⟨⟨o, ho, ρ1, θ1, u1, u2, -, -, u5, u6⟩, -, -⟩ := hp
  cases List.mem_singleton.mp ho
  obtain ⟨x', ex, u6⟩ := u6
  have u6 : x'.toInt = zf_v ρ1 ([(0, 1)], 0) := u6
  have f2 : zf_v ρ1 ([(0, 1)], 0) = ρ1 0 := zf_v_sym ρ1 0
  rw [f2, u1 0 (by decide)] at u6
  have e9 : x' = x := by
    injection ex with e9
    exact e9.symm
  rw [← e9]
  exact Int32.toInt_inj.mp u6
set_option maxRecDepth 100000 in
set_option maxHeartbeats 4000000 in
theorem ks_3 (hlt : l.stackTraces = false) (C0 : lw_At p s m meth c b L xs) (hC : lh_C s D k az al sw Sg th) (hL : L ≤ 3072) (h0 : 0 ≤ i.toInt) (h6 : i.toInt + 6 ≤ (L : Int)) (hcs : cells + 1 ≤ 601024 ∧ slots + 6 ≤ 7293034) (k0 : lk_K p l e s m below meth c Q b D k Sg th cells slots i lk_E) (k1 : lk_K p l e s m below meth c Q b D k Sg th (cells + 1) (slots + 6) i lk_E) : lk_K p l e s m below meth c Q b D k Sg th cells slots i 339 := by
  intro ws H locs ls t hP hD hS hW hZ hl
  obtain ⟨hx, hb, hr, hml, hown, hts, hX, hbl, hlocks, hgv, hfit⟩ := id C0
  have hsing := hC.2.2.2
  have hone := hC.2.2.1
  have g0 : Sg (th 0) = some 0 := hsing 0 (by decide) (by decide)
  have g18 : Sg (th 18) = some 18 := hsing 18 (by decide) (by decide)
  have hd : lk_dk (lk_cmpI 339 0 41 44) = true := by decide +kernel
  simp only [lk_dk, lk_cmpI, List.all_cons, List.all_append, List.all_nil, Bool.and_eq_true, decide_eq_true_eq] at hd
  obtain ⟨d0, -, d1, d3, -, d4, d5, -⟩ := hd
  obtain ⟨z9, g14, g15⟩ := hZ.2.1.2
  refine lv_aload_n hx hb d0 rfl (lv_at hl 3 rfl) ?_
  have hM1 := kc_X12_fault l D k s.heap.size az al sw Sg ws (lk_as [] t) th ((([] : List Int32).map Value.int).reverse ++ [Value.ref (th 0)]) H.size hone hsing hW.1 (lk_pre hD hW.1 hsing hW.2.2.2 (M := zm_X12_fault) (n := 0) (g := 0) (by decide +kernel) rfl hW.2.1 (as := []) rfl)
  have hM2 := kc_X12_faultF l D k s.heap.size az al sw Sg ws (kf_ρ z9 0 0) th [.ref (th 0)] H.size hone hsing hW.1 ⟨kf_no1 rfl (zi_lo z9) (zi_hi z9), fun g hg => (by cases hg), ⟨⟨rfl, g0⟩, trivial⟩, zf_ac ((zf_hokT (h := (0, 0, ([], 14), .inl ([(0, 1)], 0))) (show (0 : Nat) < 1000 by decide)).mpr ⟨g0, (show (0 : Int) ≤ 14 by decide), _, g14, ⟨z9, rfl, (zf_v_sym (kf_ρ z9 0 0) 0).symm⟩⟩) zf_an⟩
  refine lk_both (as := []) (t := t) (M := zm_X12_fault) (g := 0) (ci := 10) (rest := []) C0 hC hM1 hM2 (cwV 0 hts (zg_T (List.mem_of_getElem? (i := 633) (by decide +kernel)) (List.mem_of_getElem? (i := 634) (by decide +kernel)) (List.mem_of_getElem? (i := 635) (by decide +kernel)) (List.mem_of_getElem? (i := 95) (by decide +kernel)) (List.mem_of_getElem? (i := 636) (by decide +kernel))) rfl rfl rfl (by decide +kernel) ⟨Nat.le_of_ble_eq_true rfl, Nat.le_of_ble_eq_true rfl⟩) ⟨Nat.le_of_succ_le hcs.1, Nat.le_trans (Nat.le_add_right _ _) hcs.2⟩ rfl rfl (by decide +kernel) (by decide) (by decide +kernel) rfl hP hD hS hW.1 hl d1 (Nat.zero_le _) (fun x1 w1 H locs st hst hDv p1 hb2 hP hD hS => ?_)
  obtain ⟨wf, -, -, -, y4⟩ := hb2
  have hx1 := kf_fx12 y4
  refine lv_aload_n hx hb d3 rfl (lv_at hl 2 rfl) ?_
  have hF1 := lk_flag (M := zm_X12_fault) (by decide +kernel) hW.2.2.2 p1
  have r18 : zf_rd w1 (th 18) 2 (.int t) := lk_kp_ok (show lk_kp zm_X12_fault 18 ([], 2) ([], 2) = true by decide +kernel) p1.2.2 g18 (show (2 : Int) ≤ 2 by decide) (show (2 : Int) ≤ 2 by decide) hW.2.2.1
  have hK1 := kc_X13_fault l D k s.heap.size az al sw Sg w1 (lk_as [] t) th ((([] : List Int32).map Value.int).reverse ++ [Value.ref (th 18)]) H.size hone hsing p1.2.1 (lk_pre hD p1.2.1 hsing hF1 (M := zm_X13_fault) (n := 0) (g := 18) (by decide +kernel) rfl r18 (as := []) rfl)
  have hK2 := kc_X13_faultF l D k s.heap.size az al sw Sg w1 (kf_ρ z9 0 0) th [.ref (th 18)] H.size hone hsing p1.2.1 ⟨kf_no1 rfl (zi_lo z9) (zi_hi z9), fun g hg => (by cases hg), ⟨⟨rfl, g18⟩, trivial⟩, zf_ac ((zf_hokT (h := (18, 18, ([], 15), .inl ([(0, 1)], 0))) (show (18 : Nat) < 1000 by decide)).mpr ⟨g18, (show (0 : Int) ≤ 15 by decide), _, lk_G2 (M := zm_X12_fault) hsing (by decide +kernel) p1.2.2 g15, ⟨z9, rfl, (zf_v_sym (kf_ρ z9 0 0) 0).symm⟩⟩) zf_an⟩
  refine lk_both (as := []) (t := t) (M := zm_X13_fault) (g := 18) (ci := 11) (rest := [.int x1]) C0 hC hK1 hK2 (cwV 0 hts (zg_T (List.mem_of_getElem? (i := 1572) (by decide +kernel)) (List.mem_of_getElem? (i := 1573) (by decide +kernel)) (List.mem_of_getElem? (i := 1574) (by decide +kernel)) (List.mem_of_getElem? (i := 109) (by decide +kernel)) (List.mem_of_getElem? (i := 1575) (by decide +kernel))) rfl rfl rfl (by decide +kernel) ⟨Nat.le_of_ble_eq_true rfl, Nat.le_of_ble_eq_true rfl⟩) ⟨Nat.le_of_succ_le hcs.1, Nat.le_trans (Nat.le_add_right _ _) hcs.2⟩ rfl rfl (by decide +kernel) (by decide) (by decide +kernel) rfl hP hD hS p1.2.1 hl d4 (lk_c1 x1) (fun x2 w2 H locs st2 hst2 hDv2 p2 hb3 hP hD hS => ?_)
  obtain ⟨wg, -, -, -, y5⟩ := hb3
  have hx2 := kf_fx13 y5
  obtain ⟨t', hW', -⟩ := lk_two (n := 0) (szd := false) (cmp := false) (M1 := zm_X12_fault) (M2 := zm_X13_fault) (as := []) (by decide +kernel) hsing hW p1 p2
  refine lv_icmp_eq (tgt := lk_E) hx hb d5 (by decide) (fun _ => k0 w2 H locs ls t' hP hD hS hW' (lk_Vk (M := zm_X13_fault) hsing (by decide +kernel) p2.2.2 (lk_Vk (M := zm_X12_fault) hsing (by decide +kernel) p1.2.2 hZ)) hl) (fun hne => ?_)
  exact absurd (hx1.trans hx2.symm) hne
end LKS
