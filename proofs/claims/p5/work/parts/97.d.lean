/-! ===== image and restore in the law ===== -/
theorem nu_s34 {j : Nat} (h : j < 12) : zf_sp (zf_gi zGT 34).2.2 j = some (.inr none) := by
  match j, h with
  | 0, _ => rfl
  | 1, _ => rfl
  | 2, _ => rfl
  | 3, _ => rfl
  | 4, _ => rfl
  | 5, _ => rfl
  | 6, _ => rfl
  | 7, _ => rfl
  | 8, _ => rfl
  | 9, _ => rfl
  | 10, _ => rfl
  | 11, _ => rfl
theorem nu_x34 {j : Nat} (h : j < 12) : zf_sp (zf_gi xGT 34).2.2 j = some (.inr none) := by
  match j, h with
  | 0, _ => rfl
  | 1, _ => rfl
  | 2, _ => rfl
  | 3, _ => rfl
  | 4, _ => rfl
  | 5, _ => rfl
  | 6, _ => rfl
  | 7, _ => rfl
  | 8, _ => rfl
  | 9, _ => rfl
  | 10, _ => rfl
  | 11, _ => rfl
theorem nu_gok {a u : Int32} {x y : List (List Int32)} (h1 : lv_ok x) (h2 : lv_ok y) : lv_ok (nu_g u a x y) := by
  unfold nu_g
  split
  · exact h1
  · exact h2
section LKT
variable {p : Program} {l : Launch} {e : Env} {s : State} {m : MethodId} {below : List Frame} {meth : Method} {c : Code} {Q : State → Prop} {b L : Nat} {xs : Nat → Int32} {D : va_G} {k : Nat → ClassId} {az : Nat → Nat} {al sw : Nat} {Sg : Nat → Option Nat} {th : Nat → Nat} {cells slots : Nat} {i : Int32}
set_option maxRecDepth 100000 in
set_option maxHeartbeats 4000000 in
theorem ks_40 (hlt : l.stackTraces = false) (C0 : lw_At p s m meth c b L xs) (hC : lh_C s D k az al sw Sg th) (hL : L ≤ 3072) (h0 : 0 ≤ i.toInt) (h6 : i.toInt + 6 ≤ (L : Int)) (hcs : cells + 1 ≤ 601024 ∧ slots + 6 ≤ 7293034) (k0 : lk_K p l e s m below meth c Q b D k Sg th cells slots i lk_E) (k1 : lk_K p l e s m below meth c Q b D k Sg th (cells + 1) (slots + 6) i lk_E) : lk_K p l e s m below meth c Q b D k Sg th cells slots i 1309 := by
  intro ws H locs ls t hP hD hS hW hZ hl
  obtain ⟨hx, hb, hr, hml, hown, hts, hX, hbl, hlocks, hgv, hfit⟩ := id C0
  have hone := hC.2.2.1
  obtain ⟨hB1, hZz, nsv, ka, kb, o1, o2, o3, ⟨tw, nm, f9, s9, hNC⟩, hrC⟩ := id hZ

  have hsing := hC.2.2.2
  have hav : lk_vs xs i 1 1 = [xs (i + Int32.ofInt ((1 : Nat) : Int)).toNatClampNeg] := rfl
  generalize hae : xs (i + Int32.ofInt ((1 : Nat) : Int)).toNatClampNeg = a at hav
  have fl : ∀ {M : zf_M} {x : Int32} {w1 : va_W}, lk_js.all (lk_fk M) = true → zf_post Sg k zGT (lk_as [a] t) th M ws (some (.int x)) w1 → lk_F Sg w1 := fun h p1 => lk_flag h hW.2.2.2 p1
  rcases (by omega : a.toInt ≤ -1 ∨ 2 ≤ a.toInt ∨ (0 ≤ a.toInt ∧ a.toInt ≤ 1)) with ha | ha | ha
  · have a1 := zi_lo a
    refine lk_runP (M1 := zm_X12_image_lo) (M2 := zm_X13_image_lo) C0 hL h0 h6 (by decide +kernel) (by decide +kernel) (cr_X12_image_lo C0 hC ⟨Nat.le_of_succ_le hcs.1, Nat.le_trans (Nat.le_add_right _ _) hcs.2⟩) (cr_X13_image_lo C0 hC ⟨Nat.le_of_succ_le hcs.1, Nat.le_trans (Nat.le_add_right _ _) hcs.2⟩) hP hD hS hW hl ?_ ?_ ?_
    · rw [hav]
      exact lk_preV (kd := 16) (z := 0) (lo := (-2147483648)) (hi := (-1)) hsing hW.2.2.2 (by decide +kernel) rfl ⟨by omega, by omega⟩ (lk_nof (by decide +kernel))
    · intro x w1 p1
      rw [hav] at p1 ⊢
      exact lk_preV (kd := 35) (z := 0) (lo := (-2147483648)) (hi := (-1)) hsing (fl (by decide +kernel) p1) (by decide +kernel) rfl ⟨by omega, by omega⟩ (lk_nof (by decide +kernel))
    · intro x1 w1 x2 w2 H locs p1 p2 hP hD hS
      rw [hav] at p1 p2
      refine k0 w2 H locs ls t hP hD hS (lk_twoV (by decide +kernel) hsing hW p1 p2) ?_ hl
      exact lk_Vk hsing (by decide +kernel) p2.2.2 (lk_Vk hsing (by decide +kernel) p1.2.2 hZ)
  · have a1 := zi_hi a
    refine lk_runP (M1 := zm_X12_image_hi) (M2 := zm_X13_image_hi) C0 hL h0 h6 (by decide +kernel) (by decide +kernel) (cr_X12_image_hi C0 hC ⟨Nat.le_of_succ_le hcs.1, Nat.le_trans (Nat.le_add_right _ _) hcs.2⟩) (cr_X13_image_hi C0 hC ⟨Nat.le_of_succ_le hcs.1, Nat.le_trans (Nat.le_add_right _ _) hcs.2⟩) hP hD hS hW hl ?_ ?_ ?_
    · rw [hav]
      exact lk_preV (kd := 16) (z := 0) (lo := 2) (hi := 2147483647) hsing hW.2.2.2 (by decide +kernel) rfl ⟨by omega, by omega⟩ (lk_nof (by decide +kernel))
    · intro x w1 p1
      rw [hav] at p1 ⊢
      exact lk_preV (kd := 35) (z := 0) (lo := 2) (hi := 2147483647) hsing (fl (by decide +kernel) p1) (by decide +kernel) rfl ⟨by omega, by omega⟩ (lk_nof (by decide +kernel))
    · intro x1 w1 x2 w2 H locs p1 p2 hP hD hS
      rw [hav] at p1 p2
      refine k0 w2 H locs ls t hP hD hS (lk_twoV (by decide +kernel) hsing hW p1 p2) ?_ hl
      exact lk_Vk hsing (by decide +kernel) p2.2.2 (lk_Vk hsing (by decide +kernel) p1.2.2 hZ)
  · have hj : a.toInt.toNat < 2 := by omega
    have hd : lk_dk (lk_caseI 1309 1 192 195) = true := by decide +kernel
    simp only [lk_dk, lk_caseI, List.all_cons, List.all_append, List.all_nil, Bool.and_eq_true, decide_eq_true_eq] at hd
    obtain ⟨d0, e1', d1, d2, d3, e2', d4, d5, d6, -⟩ := hd
    refine lv_aload_n hx hb d0 rfl (lv_at hl 3 rfl) ?_
    refine lk_args C0 hL h0 h6 hS hl 1 (1309 + 1) 1 _ e1' (by omega) ?_
    rw [hav]
    have hM1 := kc_X12_image_k l D k s.heap.size az al sw Sg ws (lk_as [a] t) th ((([a] : List Int32).map Value.int).reverse ++ [Value.ref (th 0)]) H.size hone hsing hW.1 (lk_preV (kd := 16) (z := 0) (lo := 0) (hi := 1) hsing hW.2.2.2 (by decide +kernel) rfl ⟨by omega, by omega⟩ (lk_nof (by decide +kernel)))
    have hM2 := kn_X12_image l D k s.heap.size az al sw H.size hone hsing hW.1 hNC a
    refine lk_both (as := [a]) (t := t) (M := zm_X12_image_k) (g := 0) (ci := 10) (rest := []) C0 hC hM1 hM2 (cwV 1 hts (zg_T (List.mem_of_getElem? (i := 1208) (by decide +kernel)) (List.mem_of_getElem? (i := 1209) (by decide +kernel)) (List.mem_of_getElem? (i := 1210) (by decide +kernel)) (List.mem_of_getElem? (i := 95) (by decide +kernel)) (List.mem_of_getElem? (i := 1211) (by decide +kernel))) rfl rfl rfl (by decide +kernel) ⟨Nat.le_of_ble_eq_true rfl, Nat.le_of_ble_eq_true rfl⟩) ⟨Nat.le_of_succ_le hcs.1, Nat.le_trans (Nat.le_add_right _ _) hcs.2⟩ rfl rfl (by decide +kernel) (by decide) (by decide +kernel) rfl hP hD hS hW.1 hl d1 (Nat.zero_le _) (fun x1 w1 H locs st hst hDv p1 hb2 hP hD hS => ?_)
    have hs1 := nr_Cf o1.1 o2.1 o3.1 hsing (M := zm_X12_image_k) (by decide +kernel) p1.2.2 hrC
    obtain ⟨wn, n1, n2, n3, f7, s7, n4⟩ := hb2
    rw [hst] at n1
    have hN1 := nu_mv hsing hP n1 hDv n2 p1.2.1 n3 n4
    refine lv_pop hx hb d2 rfl ?_
    refine lv_aload_n hx hb d3 rfl (lv_at hl 2 rfl) ?_
    refine lk_args C0 hL h0 h6 hS hl 1 (1309 + 6 + 6 * 1) 1 _ e2' (by omega) ?_
    rw [hav]
    obtain ⟨θ, hp, g1, g2, g3⟩ := lk_pic0 hC p1.2.1
    have hF1 := fl (M := zm_X12_image_k) (by decide +kernel) p1
    have hK1 := kc_X13_image_k l D k s.heap.size az al sw Sg w1 (lk_as [a] t) th ((([a] : List Int32).map Value.int).reverse ++ [Value.ref (th 18)]) H.size hone hsing p1.2.1 (lk_preV (kd := 35) (z := 0) (lo := 0) (hi := 1) hsing (fl (M := zm_X12_image_k) (by decide +kernel) p1) (by decide +kernel) rfl ⟨by omega, by omega⟩ (lk_nof (by decide +kernel)))
    have i33 : ∀ j9 : Nat, j9 < 2 → hp.1 33 (874 * j9) = Int32.ofNat ([ka, kb].getD j9 []).length := fun j9 hj9 => by
      match j9, hj9 with
      | 0, _ => exact px_int hD g3 (g := 33) (i := 0) rfl rfl (by rw [g1 33 (by decide)]; exact hs1.2.1.1)
      | 1, _ => exact px_int hD g3 (g := 33) (i := 874) rfl rfl (by rw [g1 33 (by decide)]; exact hs1.2.2.1)
    have i34 : ∀ j9 : Nat, j9 < 2 → ∀ i9, i9 < ([ka, kb].getD j9 []).length → hp.2 34 (6 * j9 + i9) = c256 (([ka, kb].getD j9 []).getD i9 []) := fun j9 hj9 i9 hi9 => by
      match j9, hj9 with
      | 0, _ =>
        have hi9 : i9 < ka.length := hi9
        have h9 := px_long hD g3 (g := 34) (i := i9) rfl (nu_x34 (by have := o2.1; omega)) (by rw [g1 34 (by decide)]; exact hs1.2.1.2 i9 hi9)
        rw [show 6 * 0 + i9 = i9 by omega]
        exact h9
      | 1, _ =>
        have hi9 : i9 < kb.length := hi9
        exact px_long hD g3 (g := 34) (i := 6 + i9) rfl (nu_x34 (by have := o3.1; omega)) (by rw [g1 34 (by decide)]; exact hs1.2.2.2 i9 hi9)
    have i20 : hp.1 20 0 = Int32.ofNat nsv.length := px_int hD g3 (g := 20) (i := 0) rfl rfl (by rw [g1 20 (by decide)]; exact hs1.1.1)
    have i23 : ∀ j9, j9 < nsv.length → hp.2 23 j9 = c256 (nsv.getD j9 []) := fun j9 hj9 => px_long hD g3 (g := 23) (i := j9) rfl (nu_x23 (Nat.lt_of_lt_of_le hj9 o1.1)) (by rw [g1 23 (by decide)]; exact hs1.1.2 j9 hj9)
    rcases kv_image a hp.1 hp.2 with ⟨j, hj, ea, I', L', fx, k1', k2', k3', k4'⟩ | ⟨hne, -⟩
    rotate_left
    · exfalso
      rcases (by omega : a.toInt = 0 ∨ a.toInt = 1) with h | h
      · exact hne (.inl (Int32.toInt_inj.mp h))
      · exact hne (.inr (Int32.toInt_inj.mp h))
    have hK2 := kx_X13_image l D k s.heap.size az al sw Sg w1 θ [.int a, .ref 18] [.int a, .ref (th 18)] H.size hp _ (I', L') g2 (px_typ p1.2.1) g3 ⟨⟨rfl, trivial⟩, ⟨by show Value.ref (th 18) = Value.ref (θ 18); rw [g1 18 (by decide)], by show Sg (θ 18) = some (xe_k 18); rw [g1 18 (by decide)]; exact hsing 18 (by decide) (by decide)⟩, trivial⟩ fx
    refine lk_both (as := [a]) (t := t) (M := zm_X13_image_k) (g := 18) (ci := 11) (rest := []) C0 hC hK1 hK2 (cwV 1 hts (zg_T (List.mem_of_getElem? (i := 1945) (by decide +kernel)) (List.mem_of_getElem? (i := 1946) (by decide +kernel)) (List.mem_of_getElem? (i := 1947) (by decide +kernel)) (List.mem_of_getElem? (i := 109) (by decide +kernel)) (List.mem_of_getElem? (i := 1948) (by decide +kernel))) rfl rfl rfl (by decide +kernel) ⟨Nat.le_of_ble_eq_true rfl, Nat.le_of_ble_eq_true rfl⟩) ⟨Nat.le_of_succ_le hcs.1, Nat.le_trans (Nat.le_add_right _ _) hcs.2⟩ rfl rfl (by decide +kernel) (by decide) (by decide +kernel) rfl hP hD hS p1.2.1 hl d4 (Nat.zero_le _) (fun x2 w2 H locs st2 hst2 hDv2 p2 hb3 hP hD hS => ?_)
    obtain ⟨-, -, wc, u1, u2, u3, u4, u5, -⟩ := hb3
    rw [hst2] at u1
    refine lv_pop hx hb d5 rfl ?_
    refine lv_goto (tgt := lk_E) hx hb d6 (by decide) ?_
    have hBb : lk_B th w2 := lk_Bk (M := zm_X13_image_k) hsing (by decide +kernel) p2.2.2 (lk_Bk (M := zm_X12_image_k) hsing (by decide +kernel) p1.2.2 hB1)
    have rdI : ∀ g9 i9 : Nat, g9 < 37 → xe_el g9 xSC = true → ∀ P9 P8 : Int × Int, zf_sp (zf_gi zGT g9).2.2 i9 = some (.inl P9) → zf_sp (zf_gi xGT g9).2.2 i9 = some (.inl P8) → zf_rd w2 (th g9) i9 (.int (I' g9 i9)) := fun g9 i9 h37 hel P9 P8 hs9 hs8 => by
      have h9 := px_get hP u1 hDv2 u3 p2.2.1 u4 u5 (g := g9) (i := i9) hel hs9 hs8
      rw [g1 g9 h37] at h9
      exact h9
    have hZ20 : lk_Z0 th w2 := by
      obtain ⟨r1, f1⟩ := lk_zw_ok (kd := 16) (by decide +kernel) hsing (by omega) p1
      obtain ⟨r2, f2⟩ := lk_zw_ok (kd := 35) (by decide +kernel) hsing (by omega) p2
      intro j hj
      have l1 : (([], 0) : zf_L).2 ≤ (j : Int) := by show (0 : Int) ≤ j; omega
      have l2 : (j : Int) ≤ (([], 1) : zf_L).2 := by show (j : Int) ≤ 1; omega
      have k16 : ∀ u : Value, zf_rd w1 (th 16) j u → zf_rd w2 (th 16) j u := fun u h => lk_kp_ok (show lk_kp zm_X13_image_k 16 ([], 0) ([], 1) = true by decide +kernel) p2.2.2 (hsing 16 (by decide) (by decide)) l1 l2 h
      have k35 : ∀ u : Value, zf_rd ws (th 35) j u → zf_rd w1 (th 35) j u := fun u h => lk_kp_ok (show lk_kp zm_X12_image_k 35 ([], 0) ([], 1) = true by decide +kernel) p1.2.2 (hsing 35 (by decide) (by decide)) l1 l2 h
      by_cases hja : (j : Int) = a.toInt
      · have hj9 : j = a.toInt.toNat := by omega
        rw [← hj9] at r1 r2
        exact ⟨1, k16 _ r1, r2⟩
      · obtain ⟨z, h1, h2⟩ := hZz.1 j hj
        exact ⟨z, k16 _ (f1 j _ hja h1), f2 j _ hja (k35 _ h2)⟩
    have hZ2 : lk_Z th w2 := ⟨hZ20, lk_Gk (M := zm_X13_image_k) hsing (by decide +kernel) p2.2.2 (lk_Gk (M := zm_X12_image_k) hsing (by decide +kernel) p1.2.2 hZz.2)⟩
    have rd34 : ∀ i9, i9 < 12 → zf_rd w2 (th 34) i9 (.long (L' 34 i9)) := fun i9 hi9 => by
      have h9 := px_rdL u5 (g := 34) (i := i9) rfl (nu_x34 hi9)
      rw [g1 34 (by decide)] at h9
      exact px_carry hP u1 hDv2 u3 p2.2.1 u4 (hsing 34 (by decide) (by decide)) (by decide) (P := .inr none) (nu_s34 hi9) h9
    have r0 := rdI 33 0 (by decide) rfl _ _ rfl rfl
    have r8 := rdI 33 874 (by decide) rfl _ _ rfl rfl
    have ns2 := nr_s o1.1 hsing (M := zm_X13_image_k) (by decide +kernel) p2.2.2 hs1.1
    have nc2 := nu_Cf (by decide +kernel) p2.2.2 hsing hN1
    refine k0 w2 H locs ls t hP hD hS (lk_twoV (M1 := zm_X12_image_k) (M2 := zm_X13_image_k) (by decide +kernel) hsing hW p1 p2) ⟨hBb, hZ2, nsv, nu_g 0 a nsv ka, nu_g 1 a nsv kb, o1, nu_gok o1 o2, nu_gok o1 o3, ⟨tw, nm, f7, s7, nc2⟩, ns2, ?_⟩ hl
    match j, hj, ea, k1', k2', k3', k4' with
    | 0, _, ea, k1', k2', k3', k4' =>
      have ea : a = 0 := ea
      rw [show nu_g 0 a nsv ka = nsv from if_pos ea, show nu_g 1 a nsv kb = kb from if_neg (by rw [ea]; decide)]
      refine ⟨⟨?_, fun j9 hj9 => ?_⟩, ?_, fun j9 hj9 => ?_⟩
      · have e9 : I' 33 0 = _ := k1'.trans i20
        rw [e9] at r0
        exact r0
      · have e9 := (k3' j9 (Nat.lt_of_lt_of_le hj9 o1.1)).trans (i23 j9 hj9)
        rw [show 6 * 0 + j9 = j9 by omega] at e9
        rw [← e9]
        exact rd34 j9 (by have := o1.1; omega)
      · have e9 : I' 33 874 = _ := (k2' 1 (by decide) (by decide)).trans (i33 1 (by decide))
        rw [e9] at r8
        exact r8
      · have e9 := (k4' (6 + j9) (by omega)).trans (i34 1 (by decide) j9 hj9)
        have e9 : L' 34 (6 + j9) = c256 (kb.getD j9 []) := e9
        rw [← e9]
        exact rd34 (6 + j9) (by have := o3.1; omega)
    | 1, _, ea, k1', k2', k3', k4' =>
      have ea : a = 1 := ea
      rw [show nu_g 0 a nsv ka = ka from if_neg (by rw [ea]; decide), show nu_g 1 a nsv kb = nsv from if_pos ea]
      refine ⟨⟨?_, fun j9 hj9 => ?_⟩, ?_, fun j9 hj9 => ?_⟩
      · have e9 : I' 33 0 = _ := (k2' 0 (by decide) (by decide)).trans (i33 0 (by decide))
        rw [e9] at r0
        exact r0
      · have e8 := i34 0 (by decide) j9 hj9
        rw [show 6 * 0 + j9 = j9 by omega] at e8
        have e9 : L' 34 j9 = c256 (ka.getD j9 []) := (k4' j9 (by have := o2.1; omega)).trans e8
        rw [← e9]
        exact rd34 j9 (by have := o2.1; omega)
      · have e9 : I' 33 874 = _ := k1'.trans i20
        rw [e9] at r8
        exact r8
      · have e9 : L' 34 (6 + j9) = c256 (nsv.getD j9 []) := (k3' j9 (Nat.lt_of_lt_of_le hj9 o1.1)).trans (i23 j9 hj9)
        rw [← e9]
        exact rd34 (6 + j9) (by have := o1.1; omega)
set_option maxRecDepth 100000 in
set_option maxHeartbeats 4000000 in
theorem ks_41 (hlt : l.stackTraces = false) (C0 : lw_At p s m meth c b L xs) (hC : lh_C s D k az al sw Sg th) (hL : L ≤ 3072) (h0 : 0 ≤ i.toInt) (h6 : i.toInt + 6 ≤ (L : Int)) (hcs : cells + 1 ≤ 601024 ∧ slots + 6 ≤ 7293034) (k0 : lk_K p l e s m below meth c Q b D k Sg th cells slots i lk_E) (k1 : lk_K p l e s m below meth c Q b D k Sg th (cells + 1) (slots + 6) i lk_E) : lk_K p l e s m below meth c Q b D k Sg th cells slots i 1334 := by
  intro ws H locs ls t hP hD hS hW hZ hl
  obtain ⟨hx, hb, hr, hml, hown, hts, hX, hbl, hlocks, hgv, hfit⟩ := id C0
  have hone := hC.2.2.1
  obtain ⟨hB1, hZz, nsv, ka, kb, o1, o2, o3, ⟨tw, nm, f9, s9, hNC⟩, hrC⟩ := id hZ

  have hsing := hC.2.2.2
  have hav : lk_vs xs i 1 1 = [xs (i + Int32.ofInt ((1 : Nat) : Int)).toNatClampNeg] := rfl
  generalize hae : xs (i + Int32.ofInt ((1 : Nat) : Int)).toNatClampNeg = a at hav
  have fl : ∀ {M : zf_M} {x : Int32} {w1 : va_W}, lk_js.all (lk_fk M) = true → zf_post Sg k zGT (lk_as [a] t) th M ws (some (.int x)) w1 → lk_F Sg w1 := fun h p1 => lk_flag h hW.2.2.2 p1
  rcases (by omega : a.toInt ≤ -1 ∨ 2 ≤ a.toInt ∨ (0 ≤ a.toInt ∧ a.toInt ≤ 1)) with ha | ha | ha
  · have a1 := zi_lo a
    refine lk_runP (M1 := zm_X12_restore_lo) (M2 := zm_X13_restore_lo) C0 hL h0 h6 (by decide +kernel) (by decide +kernel) (cr_X12_restore_lo C0 hC ⟨Nat.le_of_succ_le hcs.1, Nat.le_trans (Nat.le_add_right _ _) hcs.2⟩) (cr_X13_restore_lo C0 hC ⟨Nat.le_of_succ_le hcs.1, Nat.le_trans (Nat.le_add_right _ _) hcs.2⟩) hP hD hS hW hl ?_ ?_ ?_
    · rw [hav]
      exact lk_preV (kd := 16) (z := 0) (lo := (-2147483648)) (hi := (-1)) hsing hW.2.2.2 (by decide +kernel) rfl ⟨by omega, by omega⟩ (lk_nof (by decide +kernel))
    · intro x w1 p1
      rw [hav] at p1 ⊢
      exact lk_preV (kd := 35) (z := 0) (lo := (-2147483648)) (hi := (-1)) hsing (fl (by decide +kernel) p1) (by decide +kernel) rfl ⟨by omega, by omega⟩ (lk_nof (by decide +kernel))
    · intro x1 w1 x2 w2 H locs p1 p2 hP hD hS
      rw [hav] at p1 p2
      refine k0 w2 H locs ls t hP hD hS (lk_twoV (by decide +kernel) hsing hW p1 p2) ?_ hl
      exact lk_Vk hsing (by decide +kernel) p2.2.2 (lk_Vk hsing (by decide +kernel) p1.2.2 hZ)
  · have a1 := zi_hi a
    refine lk_runP (M1 := zm_X12_restore_hi) (M2 := zm_X13_restore_hi) C0 hL h0 h6 (by decide +kernel) (by decide +kernel) (cr_X12_restore_hi C0 hC ⟨Nat.le_of_succ_le hcs.1, Nat.le_trans (Nat.le_add_right _ _) hcs.2⟩) (cr_X13_restore_hi C0 hC ⟨Nat.le_of_succ_le hcs.1, Nat.le_trans (Nat.le_add_right _ _) hcs.2⟩) hP hD hS hW hl ?_ ?_ ?_
    · rw [hav]
      exact lk_preV (kd := 16) (z := 0) (lo := 2) (hi := 2147483647) hsing hW.2.2.2 (by decide +kernel) rfl ⟨by omega, by omega⟩ (lk_nof (by decide +kernel))
    · intro x w1 p1
      rw [hav] at p1 ⊢
      exact lk_preV (kd := 35) (z := 0) (lo := 2) (hi := 2147483647) hsing (fl (by decide +kernel) p1) (by decide +kernel) rfl ⟨by omega, by omega⟩ (lk_nof (by decide +kernel))
    · intro x1 w1 x2 w2 H locs p1 p2 hP hD hS
      rw [hav] at p1 p2
      refine k0 w2 H locs ls t hP hD hS (lk_twoV (by decide +kernel) hsing hW p1 p2) ?_ hl
      exact lk_Vk hsing (by decide +kernel) p2.2.2 (lk_Vk hsing (by decide +kernel) p1.2.2 hZ)
  · have hj : a.toInt.toNat < 2 := by omega
    obtain ⟨z, r16, r35⟩ := hZz.1 a.toInt.toNat hj
    have l1 : (([], 0) : zf_L).2 ≤ ((a.toInt.toNat : Nat) : Int) := by show (0 : Int) ≤ _; omega
    have l2 : ((a.toInt.toNat : Nat) : Int) ≤ (([], 1) : zf_L).2 := by show _ ≤ (1 : Int); omega
    rcases lk_z01 hD hW.1 hsing hj r16 with hz | hz
    · have k35 : ∀ {x : Int32} {w1 : va_W}, zf_post Sg k zGT (lk_as [a] t) th zm_X12_restore_z0 ws (some (.int x)) w1 → zf_rd w1 (th 35) a.toInt.toNat (.int z) := fun p1 => lk_kp_ok (show lk_kp zm_X12_restore_z0 35 ([], 0) ([], 1) = true by decide +kernel) p1.2.2 (hsing 35 (by decide) (by decide)) l1 l2 r35
      refine lk_runP (M1 := zm_X12_restore_z0) (M2 := zm_X13_restore_z0) C0 hL h0 h6 (by decide +kernel) (by decide +kernel) (cr_X12_restore_z0 C0 hC ⟨Nat.le_of_succ_le hcs.1, Nat.le_trans (Nat.le_add_right _ _) hcs.2⟩) (cr_X13_restore_z0 C0 hC ⟨Nat.le_of_succ_le hcs.1, Nat.le_trans (Nat.le_add_right _ _) hcs.2⟩) hP hD hS hW hl ?_ ?_ ?_
      · rw [hav]
        exact lk_preV (kd := 16) (z := 0) (lo := 0) (hi := 1) hsing hW.2.2.2 (by decide +kernel) rfl ⟨by omega, by omega⟩ (fun _ _ _ => ⟨ha.1, z, hz, r16⟩)
      · intro x w1 p1
        rw [hav] at p1 ⊢
        exact lk_preV (kd := 35) (z := 0) (lo := 0) (hi := 1) hsing (fl (by decide +kernel) p1) (by decide +kernel) rfl ⟨by omega, by omega⟩ (fun _ _ _ => ⟨ha.1, z, hz, k35 p1⟩)
      · intro x1 w1 x2 w2 H locs p1 p2 hP hD hS
        rw [hav] at p1 p2
        refine k0 w2 H locs ls t hP hD hS (lk_twoV (by decide +kernel) hsing hW p1 p2) ?_ hl
        exact lk_Vk hsing (by decide +kernel) p2.2.2 (lk_Vk hsing (by decide +kernel) p1.2.2 hZ)
    · have k35 : ∀ {x : Int32} {w1 : va_W}, zf_post Sg k zGT (lk_as [a] t) th zm_X12_restore_z1 ws (some (.int x)) w1 → zf_rd w1 (th 35) a.toInt.toNat (.int z) := fun p1 => lk_kp_ok (show lk_kp zm_X12_restore_z1 35 ([], 0) ([], 1) = true by decide +kernel) p1.2.2 (hsing 35 (by decide) (by decide)) l1 l2 r35
      have hd : lk_dk (lk_caseI 1334 1 196 199) = true := by decide +kernel
      simp only [lk_dk, lk_caseI, List.all_cons, List.all_append, List.all_nil, Bool.and_eq_true, decide_eq_true_eq] at hd
      obtain ⟨d0, e1', d1, d2, d3, e2', d4, d5, d6, -⟩ := hd
      refine lv_aload_n hx hb d0 rfl (lv_at hl 3 rfl) ?_
      refine lk_args C0 hL h0 h6 hS hl 1 (1334 + 1) 1 _ e1' (by omega) ?_
      rw [hav]
      have hM1 := kc_X12_restore_z1 l D k s.heap.size az al sw Sg ws (lk_as [a] t) th ((([a] : List Int32).map Value.int).reverse ++ [Value.ref (th 0)]) H.size hone hsing hW.1 (lk_preV (kd := 16) (z := 1) (lo := 0) (hi := 1) hsing hW.2.2.2 (by decide +kernel) rfl ⟨by omega, by omega⟩ (fun _ _ _ => ⟨ha.1, z, hz, r16⟩))
      have hM2 := kn_X12_restore l D k s.heap.size az al sw H.size hone hsing hW.1 hNC a
      refine lk_both (as := [a]) (t := t) (M := zm_X12_restore_z1) (g := 0) (ci := 10) (rest := []) C0 hC hM1 hM2 (cwV 1 hts (zg_T (List.mem_of_getElem? (i := 1212) (by decide +kernel)) (List.mem_of_getElem? (i := 1213) (by decide +kernel)) (List.mem_of_getElem? (i := 1214) (by decide +kernel)) (List.mem_of_getElem? (i := 95) (by decide +kernel)) (List.mem_of_getElem? (i := 1215) (by decide +kernel))) rfl rfl rfl (by decide +kernel) ⟨Nat.le_of_ble_eq_true rfl, Nat.le_of_ble_eq_true rfl⟩) ⟨Nat.le_of_succ_le hcs.1, Nat.le_trans (Nat.le_add_right _ _) hcs.2⟩ rfl rfl (by decide +kernel) (by decide) (by decide +kernel) rfl hP hD hS hW.1 hl d1 (Nat.zero_le _) (fun x1 w1 H locs st hst hDv p1 hb2 hP hD hS => ?_)
      have hs1 := nr_Cf o1.1 o2.1 o3.1 hsing (M := zm_X12_restore_z1) (by decide +kernel) p1.2.2 hrC
      have hv1 : x1.toInt = 1 := lk_ansC (z := 1) (by decide +kernel) p1
      obtain ⟨y9, ey9, hy9⟩ := hb2
      have ey9 : x1 = y9 := (Value.int.inj (Option.some.inj ey9))
      rw [← ey9] at hy9
      rcases hy9 with ⟨h9, -⟩ | ⟨-, h01, wn, n1, n2, n3, f7, s7, n4⟩
      · exact absurd hv1 (by rw [h9]; decide)
      rw [hst] at n1
      have hN1 := nu_mv hsing hP n1 hDv n2 p1.2.1 n3 n4
      refine lv_pop hx hb d2 rfl ?_
      refine lv_aload_n hx hb d3 rfl (lv_at hl 2 rfl) ?_
      refine lk_args C0 hL h0 h6 hS hl 1 (1334 + 6 + 6 * 1) 1 _ e2' (by omega) ?_
      rw [hav]
      obtain ⟨θ, hp, g1, g2, g3⟩ := lk_pic0 hC p1.2.1
      have hF1 := fl (M := zm_X12_restore_z1) (by decide +kernel) p1
      have hK1 := kc_X13_restore_z1 l D k s.heap.size az al sw Sg w1 (lk_as [a] t) th ((([a] : List Int32).map Value.int).reverse ++ [Value.ref (th 18)]) H.size hone hsing p1.2.1 (lk_preV (kd := 35) (z := 1) (lo := 0) (hi := 1) hsing (fl (M := zm_X12_restore_z1) (by decide +kernel) p1) (by decide +kernel) rfl ⟨by omega, by omega⟩ (fun _ _ _ => ⟨ha.1, z, hz, k35 p1⟩))
      have i33 : ∀ j9 : Nat, j9 < 2 → hp.1 33 (874 * j9) = Int32.ofNat ([ka, kb].getD j9 []).length := fun j9 hj9 => by
        match j9, hj9 with
        | 0, _ => exact px_int hD g3 (g := 33) (i := 0) rfl rfl (by rw [g1 33 (by decide)]; exact hs1.2.1.1)
        | 1, _ => exact px_int hD g3 (g := 33) (i := 874) rfl rfl (by rw [g1 33 (by decide)]; exact hs1.2.2.1)
      have i34 : ∀ j9 : Nat, j9 < 2 → ∀ i9, i9 < ([ka, kb].getD j9 []).length → hp.2 34 (6 * j9 + i9) = c256 (([ka, kb].getD j9 []).getD i9 []) := fun j9 hj9 i9 hi9 => by
        match j9, hj9 with
        | 0, _ =>
          have hi9 : i9 < ka.length := hi9
          have h9 := px_long hD g3 (g := 34) (i := i9) rfl (nu_x34 (by have := o2.1; omega)) (by rw [g1 34 (by decide)]; exact hs1.2.1.2 i9 hi9)
          rw [show 6 * 0 + i9 = i9 by omega]
          exact h9
        | 1, _ =>
          have hi9 : i9 < kb.length := hi9
          exact px_long hD g3 (g := 34) (i := 6 + i9) rfl (nu_x34 (by have := o3.1; omega)) (by rw [g1 34 (by decide)]; exact hs1.2.2.2 i9 hi9)
      obtain ⟨j, hj2, ea⟩ : ∃ j : Nat, j < 2 ∧ a = Int32.ofNat j := by
        rcases h01 with h | h
        · exact ⟨0, by decide, h⟩
        · exact ⟨1, by decide, h⟩
      have ej : a.toInt.toNat = j := by rw [ea]; exact tin (by omega)
      have h35 : hp.1 35 j = 1 := by
        have h9 := k35 p1
        rw [ej, show z = 1 from Int32.toInt_inj.mp hz] at h9
        match j, hj2, h9 with
        | 0, _, h9 => exact px_int hD g3 (g := 35) (i := 0) rfl rfl (by rw [g1 35 (by decide)]; exact h9)
        | 1, _, h9 => exact px_int hD g3 (g := 35) (i := 1) rfl rfl (by rw [g1 35 (by decide)]; exact h9)
      obtain ⟨I', L', fx, k1', k2'⟩ := kv_restore hj2 hp.1 hp.2 h35
      rw [← ea] at fx
      have hK2 := kx_X13_restore l D k s.heap.size az al sw Sg w1 θ [.int a, .ref 18] [.int a, .ref (th 18)] H.size hp _ (I', L') g2 (px_typ p1.2.1) g3 ⟨⟨rfl, trivial⟩, ⟨by show Value.ref (th 18) = Value.ref (θ 18); rw [g1 18 (by decide)], by show Sg (θ 18) = some (xe_k 18); rw [g1 18 (by decide)]; exact hsing 18 (by decide) (by decide)⟩, trivial⟩ fx
      refine lk_both (as := [a]) (t := t) (M := zm_X13_restore_z1) (g := 18) (ci := 11) (rest := []) C0 hC hK1 hK2 (cwV 1 hts (zg_T (List.mem_of_getElem? (i := 1949) (by decide +kernel)) (List.mem_of_getElem? (i := 1950) (by decide +kernel)) (List.mem_of_getElem? (i := 1951) (by decide +kernel)) (List.mem_of_getElem? (i := 109) (by decide +kernel)) (List.mem_of_getElem? (i := 1952) (by decide +kernel))) rfl rfl rfl (by decide +kernel) ⟨Nat.le_of_ble_eq_true rfl, Nat.le_of_ble_eq_true rfl⟩) ⟨Nat.le_of_succ_le hcs.1, Nat.le_trans (Nat.le_add_right _ _) hcs.2⟩ rfl rfl (by decide +kernel) (by decide) (by decide +kernel) rfl hP hD hS p1.2.1 hl d4 (Nat.zero_le _) (fun x2 w2 H locs st2 hst2 hDv2 p2 hb3 hP hD hS => ?_)
      obtain ⟨-, -, wc, u1, u2, u3, u4, u5, -⟩ := hb3
      rw [hst2] at u1
      refine lv_pop hx hb d5 rfl ?_
      refine lv_goto (tgt := lk_E) hx hb d6 (by decide) ?_
      have hBb : lk_B th w2 := lk_Bk (M := zm_X13_restore_z1) hsing (by decide +kernel) p2.2.2 (lk_Bk (M := zm_X12_restore_z1) hsing (by decide +kernel) p1.2.2 hB1)
      have rdI : ∀ g9 i9 : Nat, g9 < 37 → xe_el g9 xSC = true → ∀ P9 P8 : Int × Int, zf_sp (zf_gi zGT g9).2.2 i9 = some (.inl P9) → zf_sp (zf_gi xGT g9).2.2 i9 = some (.inl P8) → zf_rd w2 (th g9) i9 (.int (I' g9 i9)) := fun g9 i9 h37 hel P9 P8 hs9 hs8 => by
        have h9 := px_get hP u1 hDv2 u3 p2.2.1 u4 u5 (g := g9) (i := i9) hel hs9 hs8
        rw [g1 g9 h37] at h9
        exact h9
      have hZ2 : lk_Z th w2 := lk_Zk (M := zm_X13_restore_z1) hsing (by decide +kernel) p2.2.2 (lk_Zk (M := zm_X12_restore_z1) hsing (by decide +kernel) p1.2.2 hZz)
      have rd23 : ∀ i9, i9 < 6 → zf_rd w2 (th 23) i9 (.long (L' 23 i9)) := fun i9 hi9 => by
        have h9 := px_rdL u5 (g := 23) (i := i9) rfl (nu_x23 hi9)
        rw [g1 23 (by decide)] at h9
        exact px_carry hP u1 hDv2 u3 p2.2.1 u4 (hsing 23 (by decide) (by decide)) (by decide) (P := .inr none) (nu_s23 hi9) h9
      have r0 := rdI 20 0 (by decide) rfl _ _ rfl rfl
      have hi2 := nr_i o2.1 o3.1 hsing (M := zm_X13_restore_z1) (by decide +kernel) p2.2.2 hs1.2
      have nc2 := nu_Cf (by decide +kernel) p2.2.2 hsing hN1
      refine k0 w2 H locs ls t hP hD hS (lk_twoV (M1 := zm_X12_restore_z1) (M2 := zm_X13_restore_z1) (by decide +kernel) hsing hW p1 p2) ⟨hBb, hZ2, nu_g 0 a ka kb, ka, kb, nu_gok o2 o3, o2, o3, ⟨tw, nm, f7, s7, nc2⟩, ?_, hi2⟩ hl
      match j, hj2, ea, k1', k2' with
      | 0, _, ea, k1', k2' =>
        have ea : a = 0 := ea
        rw [show nu_g 0 a ka kb = ka from if_pos ea]
        refine ⟨?_, fun j9 hj9 => ?_⟩
        · have e9 : I' 20 0 = _ := k1'.trans (i33 0 (by decide))
          rw [e9] at r0
          exact r0
        · have e9 := (k2' j9 (Nat.lt_of_lt_of_le hj9 o2.1)).trans (i34 0 (by decide) j9 hj9)
          have e9 : L' 23 j9 = c256 (ka.getD j9 []) := e9
          rw [← e9]
          exact rd23 j9 (Nat.lt_of_lt_of_le hj9 o2.1)
      | 1, _, ea, k1', k2' =>
        have ea : a = 1 := ea
        rw [show nu_g 0 a ka kb = kb from if_neg (by rw [ea]; decide)]
        refine ⟨?_, fun j9 hj9 => ?_⟩
        · have e9 : I' 20 0 = _ := k1'.trans (i33 1 (by decide))
          rw [e9] at r0
          exact r0
        · have e9 := (k2' j9 (Nat.lt_of_lt_of_le hj9 o3.1)).trans (i34 1 (by decide) j9 hj9)
          have e9 : L' 23 j9 = c256 (kb.getD j9 []) := e9
          rw [← e9]
          exact rd23 j9 (Nat.lt_of_lt_of_le hj9 o3.1)
end LKT
