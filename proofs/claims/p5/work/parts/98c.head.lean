/-! ===== the law's head once more ===== -/
set_option maxHeartbeats 4000000 in
set_option maxRecDepth 100000 in
theorem law_headN {p : Program} {e : Env} {s : State} {m : MethodId} {below : List Frame} {meth : Method} {c : Code} {Q : State → Prop} (l : Launch) {b L : Nat} {xs : Nat → Int32} (C0 : lw_At p s m meth c b L xs)
    (kk : ∀ (D : va_G) (k : Nat → ClassId) (az : Nat → Nat) (al sw : Nat) (Sg : Nat → Option Nat) (th : Nat → Nat) (ws : va_W) (H : Heap) (locs : List Loc) (ls : Array Slot), lh_C s D k az al sw Sg th → va_P D vwCl ws H → va_D (fun q : Nat => s.heap.size ≤ q) ws → va_S (fun q : Nat => s.heap.size ≤ q) s.heap H locs → lh_W Sg k th ws 0 → lk_V Sg th ws → lv_has ls 7 [(4, .int 0), (3, .ref (th 36)), (2, .ref (th 18)), (1, .ref (th 0)), (0, .ref b)] → W p l e room_1 s m #[Value.ref b] below meth c H locs 213 13817 Q (F0 m 23 ls [])) :
    W p l e room_1 s m #[Value.ref b] below meth c s.heap [] 0 0 Q (entryFrame m ([Value.ref b] : List Value).toArray 7) := by
  obtain ⟨hx, hb, hr, hml, hown, hts, hX, hbl, hlocks, hgv, hfit⟩ := id C0
  have hA : ∀ q : Nat, s.heap.size ≤ q → (fun q : Nat => s.heap.size ≤ q) q := fun _ h => h
  have hAB : ∀ q : Nat, (fun q : Nat => s.heap.size ≤ q) q → s.heap.size ≤ q := fun _ h => h
  have hbA : ¬ (fun q : Nat => s.heap.size ≤ q) b := Nat.not_le.mpr hbl
  obtain ⟨ad, al, az, sw, hE, h0, hZ, hne1, hne2, hne3⟩ := law_envZ hts hgv hfit
  obtain ⟨k, hkk⟩ := law_k hts
  obtain ⟨c0, iS0, hKn0⟩ := u_known (C := RX1) (T := TX1) (N := 2) (n := 2) hts inL_X1 (hts (.instantiable RX1 2) (by decide +kernel))
  obtain ⟨c1, iS1, hKn1⟩ := u_known (C := RX3) (T := TX3) (N := 6) (n := 6) hts inL_X3 (hts (.instantiable RX3 6) (by decide +kernel))
  obtain ⟨c2, iS2, hKn2⟩ := u_known (C := RX4) (T := TX4) (N := 7) (n := 7) hts inL_X4 (hts (.instantiable RX4 7) (by decide +kernel))
  obtain ⟨c3, iS3, hKn3⟩ := u_known (C := RX5) (T := TX5) (N := 3) (n := 3) hts inL_X5 (hts (.instantiable RX5 3) (by decide +kernel))
  obtain ⟨c4, iS4, hKn4⟩ := u_known (C := RX6) (T := TX6) (N := 1) (n := 1) hts inL_X6 (hts (.instantiable RX6 1) (by decide +kernel))
  obtain ⟨c5, iS5, hKn5⟩ := u_known (C := RX7) (T := TX7) (N := 11) (n := 11) hts inL_X7 (hts (.instantiable RX7 11) (by decide +kernel))
  obtain ⟨c6, iS6, hKn6⟩ := u_known (C := RX8) (T := TX8) (N := 6) (n := 6) hts inL_X8 (hts (.instantiable RX8 6) (by decide +kernel))
  obtain ⟨c7, iS7, hKn7⟩ := u_known (C := RX9) (T := TX9) (N := 2) (n := 2) hts inL_X9 (hts (.instantiable RX9 2) (by decide +kernel))
  obtain ⟨c8, iS8, hKn8⟩ := u_known (C := RX10) (T := TX10) (N := 9) (n := 9) hts inL_X10 (hts (.instantiable RX10 9) (by decide +kernel))
  obtain ⟨c9, iS9, hKn9⟩ := u_known (C := RX11) (T := TX11) (N := 4) (n := 4) hts inL_X11 (hts (.instantiable RX11 4) (by decide +kernel))
  obtain ⟨c10, iS10, hKn10⟩ := u_known (C := RX12) (T := TX12) (N := 18) (n := 18) hts inL_X12 (hts (.instantiable RX12 18) (by decide +kernel))
  obtain ⟨c11, iS11, hKn11⟩ := u_known (C := RX13) (T := TX13) (N := 47) (n := 47) hts inL_X13 (hts (.instantiable RX13 47) (by decide +kernel))
  obtain ⟨D, hKc⟩ : ∃ D : va_G, ∀ (kk : Nat) (q : vw_C), vwCl[kk]? = some q → u_Kn s q.1 q.2.1 q.2.2 (D.1 kk) (D.2 kk) := by
    refine ⟨((fun kk => if kk = 0 then c0 else if kk = 1 then c1 else if kk = 2 then c2 else if kk = 3 then c3 else if kk = 4 then c4 else if kk = 5 then c5 else if kk = 6 then c6 else if kk = 7 then c7 else if kk = 8 then c8 else if kk = 9 then c9 else if kk = 10 then c10 else c11), (fun kk => if kk = 0 then iS0 else if kk = 1 then iS1 else if kk = 2 then iS2 else if kk = 3 then iS3 else if kk = 4 then iS4 else if kk = 5 then iS5 else if kk = 6 then iS6 else if kk = 7 then iS7 else if kk = 8 then iS8 else if kk = 9 then iS9 else if kk = 10 then iS10 else iS11)), ?_⟩
    intro kk q hq
    match kk, hq with
    | 0, hq => cases hq; exact hKn0
    | 1, hq => cases hq; exact hKn1
    | 2, hq => cases hq; exact hKn2
    | 3, hq => cases hq; exact hKn3
    | 4, hq => cases hq; exact hKn4
    | 5, hq => cases hq; exact hKn5
    | 6, hq => cases hq; exact hKn6
    | 7, hq => cases hq; exact hKn7
    | 8, hq => cases hq; exact hKn8
    | 9, hq => cases hq; exact hKn9
    | 10, hq => cases hq; exact hKn10
    | 11, hq => cases hq; exact hKn11
    | n + 12, hq => simp [vwCl] at hq
  have hK : va_K D vwCl (tyz k) s := ⟨hKc, hkk⟩
  have hP : va_P D vwCl [] s.heap := fun k q h => by simp at h
  have hD : va_D (fun q : Nat => s.heap.size ≤ q) [] := ⟨fun i j p q h => by simp at h, fun k q h => by simp at h⟩
  have hS : va_S (fun q : Nat => s.heap.size ≤ q) s.heap s.heap [] := va_S.rf
  have hl := lv_entry ([.ref b]) (n := 7) (Nat.le_of_ble_eq_true rfl)
  rw [lg_entry_eq]
  generalize (lg_sl ([.ref b]) ++ List.replicate (7 - (lg_sl ([.ref b])).length) Slot.unset).toArray = ls at hl ⊢
  have hl : lv_has ls 7 [(0, .ref b)] := hl
  refine va_new (ci := 10) (fs := [.null, .null, .null, .null, .null, .null, .null, .null, .null, .null, .null, .null, .null, .null, .int 0, .int 0, .int 0, .int 0]) (C := RX12) (T := TX12) (N := 18) hx hb hts inL_X12 tyX12 tyX12_ok hown (hts (.classLink RL 8 RX12) (by decide +kernel)) (hts (.instantiable RX12 18) (by decide +kernel)) (hts (.initialized RX12) (by decide +kernel)) hK hP hD hS hA rfl (by decide +kernel) (Nat.le_of_ble_eq_true rfl) (Nat.le_of_ble_eq_true rfl) dL_law_0 (fun q1 H hP hD hS => ?_)
  have hP : va_P D vwCl ([] ++ [(q1, .inr (10, [.null, .null, .null, .null, .null, .null, .null, .null, .null, .null, .null, .null, .null, .null, .int 0, .int 0, .int 0, .int 0]))]) H := hP
  have hD : va_D (fun q : Nat => s.heap.size ≤ q) ([] ++ [(q1, .inr (10, [.null, .null, .null, .null, .null, .null, .null, .null, .null, .null, .null, .null, .null, .null, .int 0, .int 0, .int 0, .int 0]))]) := hD
  refine W.widen (k := 1) (n := 18) (Nat.le_of_ble_eq_true rfl) (Nat.le_of_ble_eq_true rfl) ?_
  refine lv_dup hx hb dL_law_3 rfl ?_
  refine zc_vI (As := []) (rest := [.ref q1]) (wr := []) ⟨hx, hb, hml, hown, hts⟩ (zM_initN l D k s.heap.size ad al az h0 q1) (cwI 0 hts ggL_law_X12_init rfl rfl rfl (hts (.initialized RX12) (by decide +kernel)) (hts (.methodLink RL 22 yX12_init) (by decide +kernel)) (hts (.instanceMethod yX12_init) (by decide +kernel)) rfl (by decide +kernel) ⟨Nat.le_of_ble_eq_true rfl, Nat.le_of_ble_eq_true rfl⟩) gX_ok (zc_gX hE hAB hS hD) hK hP hD hS hA rfl hl.1 rfl (Nat.le_of_ble_eq_true rfl) dL_law_4 ⟨Nat.le_of_ble_eq_true rfl, Nat.le_of_ble_eq_true rfl⟩ (fun u2 H locs hXu2 hP hD hS => ?_)
  have hP : va_P D vwCl (zc_w (zc_rm k (ad 0) q1 u2.1 u2.2.1 u2.2.2.1 u2.2.2.2.1 ++ u2.2.2.2.2)) H := hP
  have hD : va_D (fun q : Nat => s.heap.size ≤ q) (zc_w (zc_rm k (ad 0) q1 u2.1 u2.2.1 u2.2.2.1 u2.2.2.2.1 ++ u2.2.2.2.2)) := hD
  refine W.widen (k := 194) (n := 4305) (Nat.le_of_ble_eq_true rfl) (Nat.le_of_ble_eq_true rfl) ?_
  refine lv_astore_n (lv' := [(1, .ref q1), (0, .ref b)]) hx hb dL_law_7 rfl hl (by decide) rfl (fun ls hl => ?_)
  refine va_new (ci := 11) (fs := [.int 0, .null, .int 0, .int 0, .int 0, .int 0, .null, .null, .null, .null, .null, .int 0, .int 0, .int 0, .int 0, .int 0, .int 0, .long 0, .int 0, .int 0, .int 0, .int 0, .int 0, .null, .null, .int 0, .null, .null, .int 0, .int 0, .int 0, .null, .int 0, .int 0, .int 0, .null, .int 0, .null, .int 0, .int 0, .int 0, .int 0, .int 0, .null, .null, .null, .null]) (C := RX13) (T := TX13) (N := 47) hx hb hts inL_X13 tyX13 tyX13_ok hown (hts (.classLink RL 23 RX13) (by decide +kernel)) (hts (.instantiable RX13 47) (by decide +kernel)) (hts (.initialized RX13) (by decide +kernel)) hK hP hD hS hA rfl (by decide +kernel) (Nat.le_of_ble_eq_true rfl) (Nat.le_of_ble_eq_true rfl) dL_law_8 (fun q3 H hP hD hS => ?_)
  refine W.widen (k := 195) (n := 4352) (Nat.le_of_ble_eq_true rfl) (Nat.le_of_ble_eq_true rfl) ?_
  refine lv_dup hx hb dL_law_11 rfl ?_
  refine zc_vI (As := []) (rest := [.ref q3]) (wr := zc_w (zc_rm k (ad 0) q1 u2.1 u2.2.1 u2.2.2.1 u2.2.2.2.1 ++ u2.2.2.2.2)) ⟨hx, hb, hml, hown, hts⟩ (zc_Cv_of (cQ_init l D k q3)) (cwI 0 hts ggL_law_X13_init rfl rfl rfl (hts (.initialized RX13) (by decide +kernel)) (hts (.methodLink RL 25 yX13_init) (by decide +kernel)) (hts (.instanceMethod yX13_init) (by decide +kernel)) rfl (by decide +kernel) ⟨Nat.le_of_ble_eq_true rfl, Nat.le_of_ble_eq_true rfl⟩) g_E0_ok (fun _ _ _ => trivial) hK hP hD hS hA rfl hl.1 rfl (Nat.le_of_ble_eq_true rfl) dL_law_12 ⟨Nat.le_of_ble_eq_true rfl, Nat.le_of_ble_eq_true rfl⟩ (fun u4 H locs hXu4 hP hD hS => ?_)
  have hP : va_P D vwCl ((zc_w (zc_rm k (ad 0) q1 u2.1 u2.2.1 u2.2.2.1 u2.2.2.2.1) ++ zc_w u2.2.2.2.2) ++ [(q3, .inr (11, [.int 0, .ref (u4 0), .int 0, .int 0, .int 0, .int 0, .ref (u4 1), .ref (u4 2), .ref (u4 3), .ref (u4 4), .ref (u4 5), .int 0, .int 0, .int 0, .int 0, .int 0, .int 0, .long 0, .int 0, .int 0, .int 0, .int 0, .int 0, .ref (u4 6), .ref (u4 7), .int 0, .ref (u4 8), .ref (u4 9), .int 0, .int 0, .int 0, .ref (u4 10), .int 0, .int 0, .int 0, .ref (u4 11), .int 0, .ref (u4 12), .int 0, .int 0, .int 0, .int 0, .int 0, .ref (u4 13), .ref (u4 14), .ref (u4 15), .ref (u4 16)])), ((u4 0), .inl (k 3, 940, .inl (fun _ => 0))), ((u4 1), .inl (k 0, 874, .inl sf)), ((u4 2), .inl (k 0, 87, .inl (fun _ => 0))), ((u4 3), .inl (k 0, 160, .inl (fun _ => 0))), ((u4 4), .inl (k 1, 12, .inr (.inl (fun _ => 0)))), ((u4 5), .inl (k 1, 23, .inr (.inl rsv))), ((u4 6), .inl (k 0, 4848, .inl (fun _ => 0))), ((u4 7), .inl (k 0, 606, .inl (fun _ => 0))), ((u4 8), .inl (k 0, 36, .inl (fun _ => 0))), ((u4 9), .inl (k 0, 6, .inl (fun _ => 0))), ((u4 10), .inl (k 0, 16, .inl (fun _ => 0))), ((u4 11), .inl (k 0, 4, .inl (fun _ => 0))), ((u4 12), .inl (k 0, 45, .inl (fun _ => 0))), ((u4 13), .inl (k 2, 45, .inl (fun _ => 0))), ((u4 14), .inl (k 0, 1748, .inl (fun _ => 0))), ((u4 15), .inl (k 1, 12, .inr (.inl (fun _ => 0)))), ((u4 16), .inl (k 2, 2, .inl (fun _ => 0)))]) H := by rw [← zc_w_app]; exact hP
  have hP := hP.swap
  have hD : va_D (fun q : Nat => s.heap.size ≤ q) ((zc_w (zc_rm k (ad 0) q1 u2.1 u2.2.1 u2.2.2.1 u2.2.2.2.1) ++ zc_w u2.2.2.2.2) ++ [(q3, .inr (11, [.int 0, .ref (u4 0), .int 0, .int 0, .int 0, .int 0, .ref (u4 1), .ref (u4 2), .ref (u4 3), .ref (u4 4), .ref (u4 5), .int 0, .int 0, .int 0, .int 0, .int 0, .int 0, .long 0, .int 0, .int 0, .int 0, .int 0, .int 0, .ref (u4 6), .ref (u4 7), .int 0, .ref (u4 8), .ref (u4 9), .int 0, .int 0, .int 0, .ref (u4 10), .int 0, .int 0, .int 0, .ref (u4 11), .int 0, .ref (u4 12), .int 0, .int 0, .int 0, .int 0, .int 0, .ref (u4 13), .ref (u4 14), .ref (u4 15), .ref (u4 16)])), ((u4 0), .inl (k 3, 940, .inl (fun _ => 0))), ((u4 1), .inl (k 0, 874, .inl sf)), ((u4 2), .inl (k 0, 87, .inl (fun _ => 0))), ((u4 3), .inl (k 0, 160, .inl (fun _ => 0))), ((u4 4), .inl (k 1, 12, .inr (.inl (fun _ => 0)))), ((u4 5), .inl (k 1, 23, .inr (.inl rsv))), ((u4 6), .inl (k 0, 4848, .inl (fun _ => 0))), ((u4 7), .inl (k 0, 606, .inl (fun _ => 0))), ((u4 8), .inl (k 0, 36, .inl (fun _ => 0))), ((u4 9), .inl (k 0, 6, .inl (fun _ => 0))), ((u4 10), .inl (k 0, 16, .inl (fun _ => 0))), ((u4 11), .inl (k 0, 4, .inl (fun _ => 0))), ((u4 12), .inl (k 0, 45, .inl (fun _ => 0))), ((u4 13), .inl (k 2, 45, .inl (fun _ => 0))), ((u4 14), .inl (k 0, 1748, .inl (fun _ => 0))), ((u4 15), .inl (k 1, 12, .inr (.inl (fun _ => 0)))), ((u4 16), .inl (k 2, 2, .inl (fun _ => 0)))]) := by rw [← zc_w_app]; exact hD
  have hD := hD.swap
  refine W.widen (k := 212) (n := 13816) (Nat.le_of_ble_eq_true rfl) (Nat.le_of_ble_eq_true rfl) ?_
  refine lv_astore_n (lv' := [(2, .ref q3), (1, .ref q1), (0, .ref b)]) hx hb dL_law_15 rfl hl (by decide) rfl (fun ls hl => ?_)
  refine lv_iconst (v := 1) hx hb dL_law_16 (by decide) ?_
  refine va_newa (atype := .long) (a0 := (1, .inr (.inl (fun _ => 0)))) (ty := .long) hx hb (hts (.arrayClass .long) (by decide +kernel)) rfl hK hP hD hS hA (fun _ => rfl) (by decide) rfl (by decide) (Nat.le_of_ble_eq_true rfl) (Nat.le_of_ble_eq_true rfl) dL_law_17 (fun q5 cA6 H hK9 hP hD hS => ?_)
  obtain rfl := g_cls (cA := k 1) (cB := cA6) (ty := .long) 1 7 hK9 rfl rfl rfl
  have hP := hP.swap
  have hD := hD.swap
  have hP := hP.part (cx := zc_w (zc_X k (ad 0) q1 u2.1 u2.2.1 u2.2.2.1 u2.2.2.2.1 q3 u4 q5)) [0, 1, 2, 3, 4, 5, 6, 7, 8, 9, 10, 11, 12, 13, 14, 15, 16, 17, 18, 19, 20, 21, 22, 23, 24, 29, 25, 26, 27, 28, 30, 31, 32, 33, 34, 35, 36] rfl
  have hD := hD.part (cx := zc_w (zc_X k (ad 0) q1 u2.1 u2.2.1 u2.2.2.1 u2.2.2.2.1 q3 u4 q5)) [0, 1, 2, 3, 4, 5, 6, 7, 8, 9, 10, 11, 12, 13, 14, 15, 16, 17, 18, 19, 20, 21, 22, 23, 24, 29, 25, 26, 27, 28, 30, 31, 32, 33, 34, 35, 36] (by decide) rfl
  rw [← zc_w_app] at hP hD
  refine W.widen (k := 213) (n := 13817) (Nat.le_of_ble_eq_true rfl) (Nat.le_of_ble_eq_true rfl) ?_
  refine lv_astore_n (lv' := [(3, .ref q5), (2, .ref q3), (1, .ref q1), (0, .ref b)]) hx hb dL_law_19 rfl hl (by decide) rfl (fun ls hl => ?_)
  refine lv_iconst (v := 0) hx hb dL_law_20 (by decide) ?_
  refine lv_istore (lv' := [(4, .int 0), (3, .ref q5), (2, .ref q3), (1, .ref q1), (0, .ref b)]) hx hb dL_law_21 hl (by decide) rfl (fun ls hl => ?_)
  have hl : lv_has ls 7 [(4, .int 0), (3, .ref q5), (2, .ref q3), (1, .ref q1), (0, .ref b)] := lv_sub hl [0, 1, 2, 3, 4] rfl
  have hok := zc_ok_all (m0 := q3) (v := u4) (ou := q5) hXu2.1
  have h37 : (zc_X k (ad 0) q1 u2.1 u2.2.1 u2.2.2.1 u2.2.2.2.1 q3 u4 q5).map (fun q => q.1) = List.range 37 := rfl
  obtain ⟨hone, hsing⟩ := zc_one (ad := az) (al := al) (sw := sw) hD h37 hXu2.2.1
  have hB : ∀ q ∈ zc_X k (ad 0) q1 u2.1 u2.2.1 u2.2.2.1 u2.2.2.2.1 q3 u4 q5 ++ u2.2.2.2.2, s.heap.size ≤ q.2.1 := fun q hq => by
    obtain ⟨i, hi⟩ := zc_at (g := q.1) (a := q.2.1) (e := q.2.2) hq
    exact hD.2 i _ hi
  have hKs : zKs (zc_Sg az al sw (zc_X k (ad 0) q1 u2.1 u2.2.1 u2.2.2.1 u2.2.2.2.1 q3 u4 q5 ++ u2.2.2.2.2)) az al sw := zc_Ks hok hB (fun i hi => by obtain ⟨_, _, _, _, h⟩ := (hZ.1.1 i hi).2.1; exact h) (by obtain ⟨_, _, _, _, _, _, _, h⟩ := hZ.2.2.1; exact h) (by obtain ⟨_, _, _, _, _, _, _, _, h⟩ := hZ.2.2.2.2.1; exact h) hne1 hne2 hne3
  obtain ⟨L9, hx9, hk1, hk2, hk3, hk4, hk5, hk6⟩ := hXu2.2.2
  have ht9 := zc_typ hok hD hKs.2.1
  have hV0 : lk_V (zc_Sg az al sw (zc_X k (ad 0) q1 u2.1 u2.2.1 u2.2.2.1 u2.2.2.2.1 q3 u4 q5 ++ u2.2.2.2.2)) (zc_th (zc_X k (ad 0) q1 u2.1 u2.2.1 u2.2.2.1 u2.2.2.2.1 q3 u4 q5)) (zc_w (zc_X k (ad 0) q1 u2.1 u2.2.1 u2.2.2.1 u2.2.2.2.1 q3 u4 q5 ++ u2.2.2.2.2)) := by
    have r33 : ∀ j : Nat, j < 1748 → zf_rd (zc_w (zc_X k (ad 0) q1 u2.1 u2.2.1 u2.2.2.1 u2.2.2.2.1 q3 u4 q5 ++ u2.2.2.2.2)) (zc_th (zc_X k (ad 0) q1 u2.1 u2.2.1 u2.2.2.1 u2.2.2.2.1 q3 u4 q5) 33) j (.int 0) := fun j hj => ⟨33, _, rfl, (by first | exact if_pos hj | (show (if j < 1748 then some (Value.int 0) else none) = some (Value.int 0); exact if_pos hj))⟩
    have r20 : zf_rd (zc_w (zc_X k (ad 0) q1 u2.1 u2.2.1 u2.2.2.1 u2.2.2.2.1 q3 u4 q5 ++ u2.2.2.2.2)) (zc_th (zc_X k (ad 0) q1 u2.1 u2.2.1 u2.2.2.1 u2.2.2.2.1 q3 u4 q5) 20) 0 (.int (sf 0)) := ⟨20, _, rfl, rfl⟩
    rw [zc_sf0 (by decide)] at r20
    have hT := zx_T (X9 := zc_X k (ad 0) q1 u2.1 u2.2.1 u2.2.2.1 u2.2.2.2.1 q3 u4 q5) (P9 := u2.2.2.2.2) (L9 := L9) (fun g h _ => hsing g h) ht9 hD hx9 hk1 (by rw [← hk2]; exact ⟨0, _, rfl, rfl⟩) (by rw [← hk3]; exact ⟨0, _, rfl, rfl⟩) (fun j hj => by
      match j, hj with
      | 0, _ => exact ⟨14, _, rfl, show (if 0 < 2 then some (va_rf (u2.2.2.1 0)) else none) = _ by rw [hk4]; rfl⟩
      | 1, _ => exact ⟨14, _, rfl, show (if 1 < 2 then some (va_rf (u2.2.2.1 1)) else none) = _ by rw [hk5]; rfl⟩) (fun j hj => ⟨11, _, rfl, show (if j < 9 then some (va_rf (u2.2.1 j)) else none) = _ by rw [if_pos hj, hk6 j hj]; rfl⟩)
    exact lk_V0 (fun j hj => ⟨⟨2, _, rfl, (by first | exact if_pos hj | (show (if j < 940 then some (Value.int 0) else none) = some (Value.int 0); exact if_pos hj))⟩, ⟨19, _, rfl, (by first | exact if_pos hj | (show (if j < 940 then some (Value.int 0) else none) = some (Value.int 0); exact if_pos hj))⟩⟩) (fun j hj => ⟨24, _, rfl, (by first | exact if_pos hj | (show (if j < 23 then some (Value.long (rsv j)) else none) = some (Value.long (rsv j)); exact if_pos hj))⟩) (fun j hj => ⟨⟨16, _, rfl, (by first | exact if_pos hj | (show (if j < 2 then some (Value.int 0) else none) = some (Value.int 0); exact if_pos hj))⟩, ⟨35, _, rfl, (by first | exact if_pos hj | (show (if j < 2 then some (Value.int 0) else none) = some (Value.int 0); exact if_pos hj))⟩⟩) ⟨0, ⟨0, _, rfl, rfl⟩, ⟨18, _, rfl, rfl⟩⟩ ⟨r20, r33 0 (by decide), r33 874 (by decide)⟩ ⟨⟨10, _, rfl, rfl⟩, ⟨10, _, rfl, rfl⟩⟩ hT.1 hT.2
  refine kk D k az al sw (zc_Sg az al sw (zc_X k (ad 0) q1 u2.1 u2.2.1 u2.2.2.1 u2.2.2.2.1 q3 u4 q5 ++ u2.2.2.2.2)) (zc_th (zc_X k (ad 0) q1 u2.1 u2.2.1 u2.2.2.1 u2.2.2.2.1 q3 u4 q5)) _ H locs ls ⟨hK, ⟨Nat.le_refl _, (fun c h => by cases h), hKs, hZ⟩, hone, fun g h _ => hsing g h⟩ hP hD hS ⟨zc_typ hok hD hKs.2.1, ⟨1, _, rfl, rfl⟩, ⟨18, _, rfl, rfl⟩, ?_⟩ hV0 hl
  intro j hj a b
  have hfl := zc_fl0 (P := u2.2.2.2.2) hone a b
  simp only [List.mem_cons, List.not_mem_nil, or_false] at hj
  rcases hj with rfl | rfl | rfl | rfl | rfl
  · exact hfl.1
  · exact hfl.2.1
  · exact hfl.2.2.1
  · exact hfl.2.2.2.1
  · exact hfl.2.2.2.2
