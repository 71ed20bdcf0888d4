/-! ===== the law: from its entry to the head of its loop ===== -/
theorem goodIn_q {big : List Cond} (ws : List Cond) (pc po : List Nat) (h1 : ws.filter k2_isCode = pc.filterMap (fun i => big[i]?)) (h2 : ws.filter (fun w => !k2_isCode w) = po.filterMap (fun i => big[i]?)) (h : ws.all goodWord = true) : GoodIn big ws := by
  intro w hw
  refine ⟨?_, good_of_word (List.all_eq_true.mp h w hw)⟩
  by_cases hc : k2_isCode w = true
  · have q : w ∈ ws.filter k2_isCode := List.mem_filter.mpr ⟨hw, hc⟩
    rw [h1] at q
    obtain ⟨i, -, hi⟩ := List.mem_filterMap.mp q
    exact List.mem_of_getElem? hi
  · have q : w ∈ ws.filter (fun w => !k2_isCode w) := List.mem_filter.mpr ⟨hw, by simpa using hc⟩
    rw [h2] at q
    obtain ⟨i, -, hi⟩ := List.mem_filterMap.mp q
    exact List.mem_of_getElem? hi
set_option maxRecDepth 40000 in
set_option maxHeartbeats 4000000 in
theorem ggL_law_X12_init : GoodIn lw_tbl wsX12_init := goodIn_q _ [122, 125, 130, 148, 197, 217, 223, 254, 307, 337, 369, 389, 398] [123, 124, 126, 127, 96, 399, 144, 145, 97, 400, 193, 194, 98, 401, 213, 214, 99, 402, 403, 303, 304, 102, 404, 405, 333, 334, 105, 406, 365, 366, 106, 407, 385, 386, 107, 408, 409, 410, 454, 411, 143, 412, 414, 415, 416, 129, 131, 132, 146, 147, 149, 150, 195, 196, 198, 199, 216, 218, 249, 266, 219, 220, 100, 267, 250, 251, 101, 270, 273, 275, 222, 224, 231, 232, 233, 234, 235, 253, 255, 256, 257, 305, 306, 308, 309, 313, 314, 315, 316, 311, 335, 336, 338, 339, 341, 342, 343, 344, 340, 367, 368, 370, 371, 374, 388, 390, 391, 396, 397, 108, 138, 140, 417, 419, 421, 423, 425, 427, 429, 431, 433, 435, 437, 439, 441, 443, 445, 447, 449, 451, 170, 172, 174, 176, 178, 180, 182, 184, 186, 188, 190, 204, 206, 208, 210, 284, 286, 288, 290, 292, 294, 296, 298, 300, 320, 322, 324, 326, 328, 330, 350, 352, 354, 356, 358, 360, 362, 378, 380, 382, 392, 236, 238, 240, 242, 244, 246, 258, 260] rfl (by decide +kernel) (by decide +kernel)
set_option maxRecDepth 40000 in
set_option maxHeartbeats 4000000 in
theorem ggL_law_X13_init : GoodIn lw_tbl wsX13_init := goodIn_q _ [1323, 125] [1324, 124, 1490, 1349, 143, 1354, 1355, 1356, 249, 1357, 1358, 1371, 1372, 1374, 1375, 1379, 1383, 1385, 454, 1391, 1392, 1393, 1394, 1325, 1326, 1327, 1328, 1329, 1330, 1331, 1332, 1333, 1334, 1335, 1336, 1337, 1338, 1339, 1340, 1341, 1342, 1343, 1344, 1345, 1346, 1347, 1395, 1397, 1399, 1401, 1403, 1405, 1407, 1409, 1411, 1413, 1415, 1417, 1419, 1421, 1423, 1425, 1427, 1429, 1431, 1433, 1435, 1437, 1439, 1441, 1443, 1445, 1447, 1449, 1451, 1453, 1455, 1457, 1459, 1461, 1463, 1465, 1467, 1469, 1471, 1473, 1475, 1477, 1479, 1481, 1483, 1485, 1487] rfl (by decide +kernel) (by decide +kernel)
theorem inL_X12 : ∀ w ∈ wsX120, w ∈ lw_tbl := by decide +kernel
theorem inL_X13 : ∀ w ∈ wsX130, w ∈ lw_tbl := by decide +kernel
theorem inL_X1 : ∀ w ∈ wsX10, w ∈ lw_tbl := by decide +kernel
theorem inL_X3 : ∀ w ∈ wsX30, w ∈ lw_tbl := by decide +kernel
theorem inL_X4 : ∀ w ∈ wsX40, w ∈ lw_tbl := by decide +kernel
theorem inL_X5 : ∀ w ∈ wsX50, w ∈ lw_tbl := by decide +kernel
theorem inL_X6 : ∀ w ∈ wsX60, w ∈ lw_tbl := by decide +kernel
theorem inL_X7 : ∀ w ∈ wsX70, w ∈ lw_tbl := by decide +kernel
theorem inL_X8 : ∀ w ∈ wsX80, w ∈ lw_tbl := by decide +kernel
theorem inL_X9 : ∀ w ∈ wsX90, w ∈ lw_tbl := by decide +kernel
theorem inL_X10 : ∀ w ∈ wsX100, w ∈ lw_tbl := by decide +kernel
theorem inL_X11 : ∀ w ∈ wsX110, w ∈ lw_tbl := by decide +kernel
theorem dL_law_0 : decode code 0 = .ok (.new 8, 3) := by decide +kernel
theorem dL_law_3 : decode code 3 = .ok (.dup, 1) := by decide +kernel
theorem dL_law_4 : decode code 4 = .ok (.invokespecial 22, 3) := by decide +kernel
theorem dL_law_7 : decode code 7 = .ok (.astore_n 1, 1) := by decide +kernel
theorem dL_law_8 : decode code 8 = .ok (.new 23, 3) := by decide +kernel
theorem dL_law_11 : decode code 11 = .ok (.dup, 1) := by decide +kernel
theorem dL_law_12 : decode code 12 = .ok (.invokespecial 25, 3) := by decide +kernel
theorem dL_law_15 : decode code 15 = .ok (.astore_n 2, 1) := by decide +kernel
theorem dL_law_16 : decode code 16 = .ok (.iconst 1, 1) := by decide +kernel
theorem dL_law_17 : decode code 17 = .ok (.newarray .long, 2) := by decide +kernel
theorem dL_law_19 : decode code 19 = .ok (.astore_n 3, 1) := by decide +kernel
theorem dL_law_20 : decode code 20 = .ok (.iconst 0, 1) := by decide +kernel
theorem dL_law_21 : decode code 21 = .ok (.istore 4, 2) := by decide +kernel
/-- what holds at the law's entry -/
def lw_At (p : Program) (s : State) (m : MethodId) (meth : Method) (c : Code) (b L : Nat) (xs : Nat → Int32) : Prop :=
  p.tables.exec = Jvm.exec ∧ c.code = code ∧ meth.sig.returnType = ret ∧ c.maxLocals = 7 ∧ s.vm.findClass RL = some m.cls ∧ (∀ w ∈ lw_tbl, w.before #[Value.ref b] s = true) ∧ va_X b L xs s s.heap ∧ b < s.heap.size ∧ meth.locks = false ∧ (Jvm.Cond.and given_1 narrow_1).before #[Value.ref b] s = true ∧ heapFits s = true
/-- what stays the same all along: the kinds, the constants, the classes -/
def lh_C (s : State) (D : va_G) (k : Nat → ClassId) (az : Nat → Nat) (al sw : Nat) (Sg : Nat → Option Nat) (th : Nat → Nat) : Prop :=
  va_K D vwCl (tyz k) s ∧ zEx s.heap.size az al sw Sg [] s ∧ (∀ a g, Sg a = some g → g < 64 → a = th g) ∧ ∀ g, g < 37 → g < 64 → Sg (th g) = some g
/-- what holds of the world at the head of the loop: both tapes hold t bytes -/
def lh_W (Sg : Nat → Option Nat) (k : Nat → ClassId) (th : Nat → Nat) (ws : va_W) (t : Int32) : Prop :=
  zf_typ Sg k zGT ws ∧ zf_rd ws (th 1) 1 (.int t) ∧ zf_rd ws (th 18) 2 (.int t) ∧ ∀ j ∈ [0, 2, 3, 4, 6], ∀ a b : Int, zf_pi Sg j a b ws
set_option maxHeartbeats 4000000 in
set_option maxRecDepth 100000 in
theorem law_head {p : Program} {e : Env} {s : State} {m : MethodId} {below : List Frame} {meth : Method} {c : Code} {Q : State → Prop} (l : Launch) {b L : Nat} {xs : Nat → Int32} (C0 : lw_At p s m meth c b L xs)
    (kk : ∀ (D : va_G) (k : Nat → ClassId) (az : Nat → Nat) (al sw : Nat) (Sg : Nat → Option Nat) (th : Nat → Nat) (ws : va_W) (H : Heap) (locs : List Loc) (ls : Array Slot), lh_C s D k az al sw Sg th → va_P D vwCl ws H → va_D (fun q : Nat => s.heap.size ≤ q) ws → va_S (fun q : Nat => s.heap.size ≤ q) s.heap H locs → lh_W Sg k th ws 0 → (∀ j : Nat, j < 940 → zf_rd ws (th 2) j (.int 0) ∧ zf_rd ws (th 19) j (.int 0)) → (∀ j : Nat, j < 23 → zf_rd ws (th 24) j (.long (rsv j))) → lv_has ls 7 [(4, .int 0), (3, .ref (th 36)), (2, .ref (th 18)), (1, .ref (th 0)), (0, .ref b)] → W p l e room_1 s m #[Value.ref b] below meth c H locs 213 13817 Q (F0 m 23 ls [])) :
    W p l e room_1 s m #[Value.ref b] below meth c s.heap [] 0 0 Q (entryFrame m ([Value.ref b] : List Value).toArray 7) := by
  obtain ⟨hx, hb, hr, hml, hown, hts, hX, hbl, hlocks, hgv, hfit⟩ := id C0
  have hA : ∀ q : Nat, s.heap.size ≤ q → (fun q : Nat => s.heap.size ≤ q) q := fun _ h => h
  have hAB : ∀ q : Nat, (fun q : Nat => s.heap.size ≤ q) q → s.heap.size ≤ q := fun _ h => h
  have hbA : ¬ (fun q : Nat => s.heap.size ≤ q) b := Nat.not_le.mpr hbl
  obtain ⟨ad, al, az, sw, hE, h0, hZ, hne1, hne2, hne3⟩ := law_envZ hts hgv hfit
  obtain ⟨k, hkk⟩ := law_k hts
  obtain ⟨c0, iS0, hKn0⟩ := u_known (C := RX1) (T := TX1) (N := 2) (n := 2) hts inL_X1 (hts (.instantiable RX1 2) (by decide +kernel))
  obtain ⟨c1, iS1, hKn1⟩ := u_known (C := RX3) (T := TX3) (N := 6) (n := 6) hts inL_X3 (hts (.instantiable RX3 6) (by decide +kernel))
  obtain ⟨c2, iS2, hKn2⟩ := u_known (C := RX4) (T := TX4) (N := 7) (n := 7) hts inL_X4 (hts (.instantiable RX4 7) (by decide +kernel))
  obtain ⟨c3, iS3, hKn3⟩ := u_known (C := RX5) (T := TX5) (N := 3) (n := 3) hts inL_X5 (hts (.instantiable RX5 3) (by decide +kernel))
  obtain ⟨c4, iS4, hKn4⟩ := u_known (C := RX6) (T := TX6) (N := 1) (n := 1) hts inL_X6 (hts (.instantiable RX6 1) (by decide +kernel))
  obtain ⟨c5, iS5, hKn5⟩ := u_known (C := RX7) (T := TX7) (N := 11) (n := 11) hts inL_X7 (hts (.instantiable RX7 11) (by decide +kernel))
  obtain ⟨c6, iS6, hKn6⟩ := u_known (C := RX8) (T := TX8) (N := 6) (n := 6) hts inL_X8 (hts (.instantiable RX8 6) (by decide +kernel))
  obtain ⟨c7, iS7, hKn7⟩ := u_known (C := RX9) (T := TX9) (N := 2) (n := 2) hts inL_X9 (hts (.instantiable RX9 2) (by decide +kernel))
  obtain ⟨c8, iS8, hKn8⟩ := u_known (C := RX10) (T := TX10) (N := 9) (n := 9) hts inL_X10 (hts (.instantiable RX10 9) (by decide +kernel))
  obtain ⟨c9, iS9, hKn9⟩ := u_known (C := RX11) (T := TX11) (N := 4) (n := 4) hts inL_X11 (hts (.instantiable RX11 4) (by decide +kernel))
  obtain ⟨c10, iS10, hKn10⟩ := u_known (C := RX12) (T := TX12) (N := 18) (n := 18) hts inL_X12 (hts (.instantiable RX12 18) (by decide +kernel))
  obtain ⟨c11, iS11, hKn11⟩ := u_known (C := RX13) (T := TX13) (N := 47) (n := 47) hts inL_X13 (hts (.instantiable RX13 47) (by decide +kernel))
  obtain ⟨D, hKc⟩ : ∃ D : va_G, ∀ (kk : Nat) (q : vw_C), vwCl[kk]? = some q → u_Kn s q.1 q.2.1 q.2.2 (D.1 kk) (D.2 kk) := by
    refine ⟨((fun kk => if kk = 0 then c0 else if kk = 1 then c1 else if kk = 2 then c2 else if kk = 3 then c3 else if kk = 4 then c4 else if kk = 5 then c5 else if kk = 6 then c6 else if kk = 7 then c7 else if kk = 8 then c8 else if kk = 9 then c9 else if kk = 10 then c10 else c11), (fun kk => if kk = 0 then iS0 else if kk = 1 then iS1 else if kk = 2 then iS2 else if kk = 3 then iS3 else if kk = 4 then iS4 else if kk = 5 then iS5 else if kk = 6 then iS6 else if kk = 7 then iS7 else if kk = 8 then iS8 else if kk = 9 then iS9 else if kk = 10 then iS10 else iS11)), ?_⟩
    intro kk q hq
    match kk, hq with
    | 0, hq => cases hq; exact hKn0
    | 1, hq => cases hq; exact hKn1
    | 2, hq => cases hq; exact hKn2
    | 3, hq => cases hq; exact hKn3
    | 4, hq => cases hq; exact hKn4
    | 5, hq => cases hq; exact hKn5
    | 6, hq => cases hq; exact hKn6
    | 7, hq => cases hq; exact hKn7
    | 8, hq => cases hq; exact hKn8
    | 9, hq => cases hq; exact hKn9
    | 10, hq => cases hq; exact hKn10
    | 11, hq => cases hq; exact hKn11
    | n + 12, hq => simp [vwCl] at hq
  have hK : va_K D vwCl (tyz k) s := ⟨hKc, hkk⟩
  have hP : va_P D vwCl [] s.heap := fun k q h => by simp at h
  have hD : va_D (fun q : Nat => s.heap.size ≤ q) [] := ⟨fun i j p q h => by simp at h, fun k q h => by simp at h⟩
  have hS : va_S (fun q : Nat => s.heap.size ≤ q) s.heap s.heap [] := va_S.rf
  have hl := lv_entry ([.ref b]) (n := 7) (Nat.le_of_ble_eq_true rfl)
  rw [lg_entry_eq]
  generalize (lg_sl ([.ref b]) ++ List.replicate (7 - (lg_sl ([.ref b])).length) Slot.unset).toArray = ls at hl ⊢
  have hl : lv_has ls 7 [(0, .ref b)] := hl
  refine va_new (ci := 10) (fs := [.null, .null, .null, .null, .null, .null, .null, .null, .null, .null, .null, .null, .null, .null, .int 0, .int 0, .int 0, .int 0]) (C := RX12) (T := TX12) (N := 18) hx hb hts inL_X12 tyX12 tyX12_ok hown (hts (.classLink RL 8 RX12) (by decide +kernel)) (hts (.instantiable RX12 18) (by decide +kernel)) (hts (.initialized RX12) (by decide +kernel)) hK hP hD hS hA rfl (by decide +kernel) (Nat.le_of_ble_eq_true rfl) (Nat.le_of_ble_eq_true rfl) dL_law_0 (fun q1 H hP hD hS => ?_)
  have hP : va_P D vwCl ([] ++ [(q1, .inr (10, [.null, .null, .null, .null, .null, .null, .null, .null, .null, .null, .null, .null, .null, .null, .int 0, .int 0, .int 0, .int 0]))]) H := hP
  have hD : va_D (fun q : Nat => s.heap.size ≤ q) ([] ++ [(q1, .inr (10, [.null, .null, .null, .null, .null, .null, .null, .null, .null, .null, .null, .null, .null, .null, .int 0, .int 0, .int 0, .int 0]))]) := hD
  refine W.widen (k := 1) (n := 18) (Nat.le_of_ble_eq_true rfl) (Nat.le_of_ble_eq_true rfl) ?_
  refine lv_dup hx hb dL_law_3 rfl ?_
  refine zc_vI (As := []) (rest := [.ref q1]) (wr := []) ⟨hx, hb, hml, hown, hts⟩ (zM_init l D k s.heap.size ad al az h0 q1) (cwI 0 hts ggL_law_X12_init rfl rfl rfl (hts (.initialized RX12) (by decide +kernel)) (hts (.methodLink RL 22 yX12_init) (by decide +kernel)) (hts (.instanceMethod yX12_init) (by decide +kernel)) rfl (by decide +kernel) ⟨Nat.le_of_ble_eq_true rfl, Nat.le_of_ble_eq_true rfl⟩) gX_ok (zc_gX hE hAB hS hD) hK hP hD hS hA rfl hl.1 rfl (Nat.le_of_ble_eq_true rfl) dL_law_4 ⟨Nat.le_of_ble_eq_true rfl, Nat.le_of_ble_eq_true rfl⟩ (fun u2 H locs hXu2 hP hD hS => ?_)
  have hP : va_P D vwCl (zc_w (zc_rm k (ad 0) q1 u2.1 u2.2.1 u2.2.2.1 u2.2.2.2.1 ++ u2.2.2.2.2)) H := hP
  have hD : va_D (fun q : Nat => s.heap.size ≤ q) (zc_w (zc_rm k (ad 0) q1 u2.1 u2.2.1 u2.2.2.1 u2.2.2.2.1 ++ u2.2.2.2.2)) := hD
  refine W.widen (k := 194) (n := 4305) (Nat.le_of_ble_eq_true rfl) (Nat.le_of_ble_eq_true rfl) ?_
  refine lv_astore_n (lv' := [(1, .ref q1), (0, .ref b)]) hx hb dL_law_7 rfl hl (by decide) rfl (fun ls hl => ?_)
  refine va_new (ci := 11) (fs := [.int 0, .null, .int 0, .int 0, .int 0, .int 0, .null, .null, .null, .null, .null, .int 0, .int 0, .int 0, .int 0, .int 0, .int 0, .long 0, .int 0, .int 0, .int 0, .int 0, .int 0, .null, .null, .int 0, .null, .null, .int 0, .int 0, .int 0, .null, .int 0, .int 0, .int 0, .null, .int 0, .null, .int 0, .int 0, .int 0, .int 0, .int 0, .null, .null, .null, .null]) (C := RX13) (T := TX13) (N := 47) hx hb hts inL_X13 tyX13 tyX13_ok hown (hts (.classLink RL 23 RX13) (by decide +kernel)) (hts (.instantiable RX13 47) (by decide +kernel)) (hts (.initialized RX13) (by decide +kernel)) hK hP hD hS hA rfl (by decide +kernel) (Nat.le_of_ble_eq_true rfl) (Nat.le_of_ble_eq_true rfl) dL_law_8 (fun q3 H hP hD hS => ?_)
  refine W.widen (k := 195) (n := 4352) (Nat.le_of_ble_eq_true rfl) (Nat.le_of_ble_eq_true rfl) ?_
  refine lv_dup hx hb dL_law_11 rfl ?_
  refine zc_vI (As := []) (rest := [.ref q3]) (wr := zc_w (zc_rm k (ad 0) q1 u2.1 u2.2.1 u2.2.2.1 u2.2.2.2.1 ++ u2.2.2.2.2)) ⟨hx, hb, hml, hown, hts⟩ (zc_Cv_of (cQ_init l D k q3)) (cwI 0 hts ggL_law_X13_init rfl rfl rfl (hts (.initialized RX13) (by decide +kernel)) (hts (.methodLink RL 25 yX13_init) (by decide +kernel)) (hts (.instanceMethod yX13_init) (by decide +kernel)) rfl (by decide +kernel) ⟨Nat.le_of_ble_eq_true rfl, Nat.le_of_ble_eq_true rfl⟩) g_E0_ok (fun _ _ _ => trivial) hK hP hD hS hA rfl hl.1 rfl (Nat.le_of_ble_eq_true rfl) dL_law_12 ⟨Nat.le_of_ble_eq_true rfl, Nat.le_of_ble_eq_true rfl⟩ (fun u4 H locs hXu4 hP hD hS => ?_)
  have hP : va_P D vwCl ((zc_w (zc_rm k (ad 0) q1 u2.1 u2.2.1 u2.2.2.1 u2.2.2.2.1) ++ zc_w u2.2.2.2.2) ++ [(q3, .inr (11, [.int 0, .ref (u4 0), .int 0, .int 0, .int 0, .int 0, .ref (u4 1), .ref (u4 2), .ref (u4 3), .ref (u4 4), .ref (u4 5), .int 0, .int 0, .int 0, .int 0, .int 0, .int 0, .long 0, .int 0, .int 0, .int 0, .int 0, .int 0, .ref (u4 6), .ref (u4 7), .int 0, .ref (u4 8), .ref (u4 9), .int 0, .int 0, .int 0, .ref (u4 10), .int 0, .int 0, .int 0, .ref (u4 11), .int 0, .ref (u4 12), .int 0, .int 0, .int 0, .int 0, .int 0, .ref (u4 13), .ref (u4 14), .ref (u4 15), .ref (u4 16)])), ((u4 0), .inl (k 3, 940, .inl (fun _ => 0))), ((u4 1), .inl (k 0, 874, .inl sf)), ((u4 2), .inl (k 0, 87, .inl (fun _ => 0))), ((u4 3), .inl (k 0, 160, .inl (fun _ => 0))), ((u4 4), .inl (k 1, 12, .inr (.inl (fun _ => 0)))), ((u4 5), .inl (k 1, 23, .inr (.inl rsv))), ((u4 6), .inl (k 0, 4848, .inl (fun _ => 0))), ((u4 7), .inl (k 0, 606, .inl (fun _ => 0))), ((u4 8), .inl (k 0, 36, .inl (fun _ => 0))), ((u4 9), .inl (k 0, 6, .inl (fun _ => 0))), ((u4 10), .inl (k 0, 16, .inl (fun _ => 0))), ((u4 11), .inl (k 0, 4, .inl (fun _ => 0))), ((u4 12), .inl (k 0, 45, .inl (fun _ => 0))), ((u4 13), .inl (k 2, 45, .inl (fun _ => 0))), ((u4 14), .inl (k 0, 1748, .inl (fun _ => 0))), ((u4 15), .inl (k 1, 12, .inr (.inl (fun _ => 0)))), ((u4 16), .inl (k 2, 2, .inl (fun _ => 0)))]) H := by rw [← zc_w_app]; exact hP
  have hP := hP.swap
  have hD : va_D (fun q : Nat => s.heap.size ≤ q) ((zc_w (zc_rm k (ad 0) q1 u2.1 u2.2.1 u2.2.2.1 u2.2.2.2.1) ++ zc_w u2.2.2.2.2) ++ [(q3, .inr (11, [.int 0, .ref (u4 0), .int 0, .int 0, .int 0, .int 0, .ref (u4 1), .ref (u4 2), .ref (u4 3), .ref (u4 4), .ref (u4 5), .int 0, .int 0, .int 0, .int 0, .int 0, .int 0, .long 0, .int 0, .int 0, .int 0, .int 0, .int 0, .ref (u4 6), .ref (u4 7), .int 0, .ref (u4 8), .ref (u4 9), .int 0, .int 0, .int 0, .ref (u4 10), .int 0, .int 0, .int 0, .ref (u4 11), .int 0, .ref (u4 12), .int 0, .int 0, .int 0, .int 0, .int 0, .ref (u4 13), .ref (u4 14), .ref (u4 15), .ref (u4 16)])), ((u4 0), .inl (k 3, 940, .inl (fun _ => 0))), ((u4 1), .inl (k 0, 874, .inl sf)), ((u4 2), .inl (k 0, 87, .inl (fun _ => 0))), ((u4 3), .inl (k 0, 160, .inl (fun _ => 0))), ((u4 4), .inl (k 1, 12, .inr (.inl (fun _ => 0)))), ((u4 5), .inl (k 1, 23, .inr (.inl rsv))), ((u4 6), .inl (k 0, 4848, .inl (fun _ => 0))), ((u4 7), .inl (k 0, 606, .inl (fun _ => 0))), ((u4 8), .inl (k 0, 36, .inl (fun _ => 0))), ((u4 9), .inl (k 0, 6, .inl (fun _ => 0))), ((u4 10), .inl (k 0, 16, .inl (fun _ => 0))), ((u4 11), .inl (k 0, 4, .inl (fun _ => 0))), ((u4 12), .inl (k 0, 45, .inl (fun _ => 0))), ((u4 13), .inl (k 2, 45, .inl (fun _ => 0))), ((u4 14), .inl (k 0, 1748, .inl (fun _ => 0))), ((u4 15), .inl (k 1, 12, .inr (.inl (fun _ => 0)))), ((u4 16), .inl (k 2, 2, .inl (fun _ => 0)))]) := by rw [← zc_w_app]; exact hD
  have hD := hD.swap
  refine W.widen (k := 212) (n := 13816) (Nat.le_of_ble_eq_true rfl) (Nat.le_of_ble_eq_true rfl) ?_
  refine lv_astore_n (lv' := [(2, .ref q3), (1, .ref q1), (0, .ref b)]) hx hb dL_law_15 rfl hl (by decide) rfl (fun ls hl => ?_)
  refine lv_iconst (v := 1) hx hb dL_law_16 (by decide) ?_
  refine va_newa (atype := .long) (a0 := (1, .inr (.inl (fun _ => 0)))) (ty := .long) hx hb (hts (.arrayClass .long) (by decide +kernel)) rfl hK hP hD hS hA (fun _ => rfl) (by decide) rfl (by decide) (Nat.le_of_ble_eq_true rfl) (Nat.le_of_ble_eq_true rfl) dL_law_17 (fun q5 cA6 H hK9 hP hD hS => ?_)
  obtain rfl := g_cls (cA := k 1) (cB := cA6) (ty := .long) 1 7 hK9 rfl rfl rfl
  have hP := hP.swap
  have hD := hD.swap
  have hP := hP.part (cx := zc_w (zc_X k (ad 0) q1 u2.1 u2.2.1 u2.2.2.1 u2.2.2.2.1 q3 u4 q5)) [0, 1, 2, 3, 4, 5, 6, 7, 8, 9, 10, 11, 12, 13, 14, 15, 16, 17, 18, 19, 20, 21, 22, 23, 24, 29, 25, 26, 27, 28, 30, 31, 32, 33, 34, 35, 36] rfl
  have hD := hD.part (cx := zc_w (zc_X k (ad 0) q1 u2.1 u2.2.1 u2.2.2.1 u2.2.2.2.1 q3 u4 q5)) [0, 1, 2, 3, 4, 5, 6, 7, 8, 9, 10, 11, 12, 13, 14, 15, 16, 17, 18, 19, 20, 21, 22, 23, 24, 29, 25, 26, 27, 28, 30, 31, 32, 33, 34, 35, 36] (by decide) rfl
  rw [← zc_w_app] at hP hD
  refine W.widen (k := 213) (n := 13817) (Nat.le_of_ble_eq_true rfl) (Nat.le_of_ble_eq_true rfl) ?_
  refine lv_astore_n (lv' := [(3, .ref q5), (2, .ref q3), (1, .ref q1), (0, .ref b)]) hx hb dL_law_19 rfl hl (by decide) rfl (fun ls hl => ?_)
  refine lv_iconst (v := 0) hx hb dL_law_20 (by decide) ?_
  refine lv_istore (lv' := [(4, .int 0), (3, .ref q5), (2, .ref q3), (1, .ref q1), (0, .ref b)]) hx hb dL_law_21 hl (by decide) rfl (fun ls hl => ?_)
  have hl : lv_has ls 7 [(4, .int 0), (3, .ref q5), (2, .ref q3), (1, .ref q1), (0, .ref b)] := lv_sub hl [0, 1, 2, 3, 4] rfl
  have hok := zc_ok_all (m0 := q3) (v := u4) (ou := q5) hXu2.1
  have h37 : (zc_X k (ad 0) q1 u2.1 u2.2.1 u2.2.2.1 u2.2.2.2.1 q3 u4 q5).map (fun q => q.1) = List.range 37 := rfl
  obtain ⟨hone, hsing⟩ := zc_one (ad := az) (al := al) (sw := sw) hD h37 hXu2.2
  have hB : ∀ q ∈ zc_X k (ad 0) q1 u2.1 u2.2.1 u2.2.2.1 u2.2.2.2.1 q3 u4 q5 ++ u2.2.2.2.2, s.heap.size ≤ q.2.1 := fun q hq => by
    obtain ⟨i, hi⟩ := zc_at (g := q.1) (a := q.2.1) (e := q.2.2) hq
    exact hD.2 i _ hi
  have hKs : zKs (zc_Sg az al sw (zc_X k (ad 0) q1 u2.1 u2.2.1 u2.2.2.1 u2.2.2.2.1 q3 u4 q5 ++ u2.2.2.2.2)) az al sw := zc_Ks hok hB (fun i hi => by obtain ⟨_, _, _, _, h⟩ := (hZ.1.1 i hi).2.1; exact h) (by obtain ⟨_, _, _, _, _, _, _, h⟩ := hZ.2.2.1; exact h) (by obtain ⟨_, _, _, _, _, _, _, _, h⟩ := hZ.2.2.2.2.1; exact h) hne1 hne2 hne3
  refine kk D k az al sw (zc_Sg az al sw (zc_X k (ad 0) q1 u2.1 u2.2.1 u2.2.2.1 u2.2.2.2.1 q3 u4 q5 ++ u2.2.2.2.2)) (zc_th (zc_X k (ad 0) q1 u2.1 u2.2.1 u2.2.2.1 u2.2.2.2.1 q3 u4 q5)) _ H locs ls ⟨hK, ⟨Nat.le_refl _, (fun c h => by cases h), hKs, hZ⟩, hone, fun g h _ => hsing g h⟩ hP hD hS ⟨zc_typ hok hD hKs.2.1, ⟨1, _, rfl, rfl⟩, ⟨18, _, rfl, rfl⟩, ?_⟩ (fun j hj => ⟨⟨2, _, rfl, (by first | exact if_pos hj | (show (if j < 940 then some (Value.int 0) else none) = some (Value.int 0); exact if_pos hj))⟩, ⟨19, _, rfl, (by first | exact if_pos hj | (show (if j < 940 then some (Value.int 0) else none) = some (Value.int 0); exact if_pos hj))⟩⟩) (fun j hj => ⟨24, _, rfl, (by first | exact if_pos hj | (show (if j < 23 then some (Value.long (rsv j)) else none) = some (Value.long (rsv j)); exact if_pos hj))⟩) hl
  intro j hj a b
  have hfl := zc_fl0 (P := u2.2.2.2.2) hone a b
  simp only [List.mem_cons, List.not_mem_nil, or_false] at hj
  rcases hj with rfl | rfl | rfl | rfl | rfl
  · exact hfl.1
  · exact hfl.2.1
  · exact hfl.2.2.1
  · exact hfl.2.2.2.1
  · exact hfl.2.2.2.2
