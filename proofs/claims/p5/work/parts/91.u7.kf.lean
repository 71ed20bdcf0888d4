/-! ===== the class's fault: what town, sentence, ledger leave ===== -/
def lp_flt (r : lp_rs) : Int32 := match r with
  | .inl q => q.1
  | .inr _ => 0
/-- a cell's int, told of a heap -/
def kf_Q (D : va_G) (k : Nat → ClassId) (Sg : Nat → Option Nat) (a i : Nat) (x : Int32) (A : Nat → Prop) (t : State) : Prop := ∃ w' : va_W, va_P D vwCl w' t.heap ∧ va_D A w' ∧ zf_typ Sg k zGT w' ∧ zf_rd w' a i (.int x)
def kf_ρ (x v9 a1 : Int32) : Nat → Int
  | 0 => x.toInt
  | 1 => v9.toInt
  | _ => a1.toInt
theorem kf_E3 {x v9 a1 : Int32} (hv : v9 = 0 ∨ v9 = 1) : zf_okE [((-2147483648), 2147483647), (0, 1), ((-2147483648), 2147483647)] (kf_ρ x v9 a1)
  | 0 => ⟨zi_lo x, zi_hi x⟩
  | 1 => by
    show (0 : Int) ≤ v9.toInt ∧ v9.toInt ≤ 1
    rcases hv with rfl | rfl <;> decide
  | 2 => ⟨zi_lo a1, zi_hi a1⟩
  | _ + 3 => ⟨zi_lo a1, zi_hi a1⟩
theorem kf_E2 {x v9 a1 : Int32} (hv : v9 = 0 ∨ v9 = 1) : zf_okE [((-2147483648), 2147483647), (0, 1)] (kf_ρ x v9 a1) := fun i => by
  match i with
  | 0 => exact ⟨zi_lo x, zi_hi x⟩
  | 1 =>
    show (0 : Int) ≤ v9.toInt ∧ v9.toInt ≤ 1
    rcases hv with rfl | rfl <;> decide
  | i + 2 => exact ⟨zi_lo a1, zi_hi a1⟩
theorem cs_readF {B : Nat → Int32} {n : Nat} (hn : n ≤ 940) {I : Nat → Nat → Int32} {L : Nat → Nat → Int64} (h1 : I 1 1 = Int32.ofNat n) (hB : ∀ i, i < 940 → I 2 i = B i) : ∃ (v9 : Int32) (I' : Nat → Nat → Int32) (L' : Nat → Nat → Int64), (v9 = 0 ∨ v9 = 1) ∧ fx_X11_read [.ref 64, .ref 4] (I, L) (some (.int v9)) (I', L') ∧ I' 3 9 = lp_flt (lp_tx B n (n + 1) 0 0 lp_s0) := by
  have h := cs_read (B := B) (L := L) hn h1 hB
  cases hx : lp_tx B n (n + 1) 0 0 lp_s0 with
  | inl q =>
    rw [hx] at h
    obtain ⟨I', L', f, z9, -⟩ := h
    exact ⟨0, I', L', Or.inl rfl, f, z9⟩
  | inr q =>
    rw [hx] at h
    obtain ⟨I', L', f, -, z9, -⟩ := h
    exact ⟨1, I', L', Or.inr rfl, f, z9⟩
theorem cv_readF {B : Nat → Int32} {n : Nat} {I : Nat → Nat → Int32} {L : Nat → Nat → Int64} {nsv : List (List Int32)} (hn : n ≤ 940) (O : lv_ok nsv) (h1 : I 1 1 = Int32.ofNat n) (hB : ∀ i, i < 940 → I 2 i = B i) (T : lv_TC nsv I L) : ∃ (r : sv_rs) (v9 : Int32) (I' : Nat → Nat → Int32) (L' : Nat → Nat → Int64), sv_ends B n nsv (0, 0, [], false) r ∧ (v9 = 0 ∨ v9 = 1) ∧ fx_X8_read (rv_F 9).2.2 [.ref 64, .ref 3, .ref 76] (I, L) (some (.int v9)) (I', L') ∧ I' 3 9 = sv_flt r := by
  rcases cv_read (B := B) hn O h1 hB T with ⟨q, hq1, I', L', f, z9, -⟩ | ⟨o', -, hq1, I', L', f, z9, -⟩
  · exact ⟨.inl q, 0, I', L', hq1, Or.inl rfl, f, z9⟩
  · exact ⟨.inr o', 1, I', L', hq1, Or.inr rfl, f, z9⟩

def zm_kfL : zf_M := (([((-2147483648), 2147483647), (0, 1), ((-2147483648), 2147483647)], [], 64, [], [], []), [(6, ([], 0), ([], 39)), (7, ([], 0), ([], 39)), (8, ([], 0), ([], 39)), (9, ([], 0), ([], 39)), (3, ([], 1), ([], 10)), (1, ([], 1), ([], 1)), (0, ([], 14), ([], 14)), (64, ([], 0), ([], 0)), (65, ([], 0), ([], 5)), (66, ([], 0), ([], 0)), (67, ([], 0), ([], 15)), (68, ([], 0), ([], 15)), (69, ([], 0), ([], 15)), (70, ([], 0), ([], 15)), (71, ([], 0), ([], 15)), (73, ([], 0), ([], 35)), (75, ([], 0), ([], 5)), (64, ([], 5), ([], 8)), (10, ([], 1), ([], 2)), (5, ([], 4), ([], 6)), (17, ([], 0), ([], 3))], [(some (.inl ([(3, 1)], 0)), ([((-2147483648), 2147483647), (0, 1), ((-2147483648), 2147483647), ((-2147483648), 2147483647)], [], 64, [], [], [(0, 0, ([], 14), .inl ([(0, 1)], 0))]))])
set_option maxRecDepth 100000 in
set_option maxHeartbeats 4000000 in
theorem kr_kfL : zf_run 3 64 37 3 zGT zm_kfL [zm_X4_read, zm_X10_copy, zm_X4_live, zm_X1_all, zm_X3_bitsThere, zm_X5_hold, zm_X5_keepN] [(10, 10, 0, .inl (0, 0)), (21, 10, 1, .inl (0, 0)), (37, 10, 3, .inl (0, 0)), (41, 10, 4, .inl (0, 0)), (57, 10, 7, .inl (0, 0)), (64, 10, 8, .inl (0, 0)), (87, 10, 13, .inl (0, 0)), (122, 5, 9, .inl (0, 0)), (128, 5, 10, .inl (0, 0)), (142, 8, 2, .inl (0, 0)), (172, 8, 3, .inl (0, 0)), (333, 2, 6, .inl (0, 0)), (336, 2, 5, .inl (0, 0))] [(115, 7, 1, .inl ((-2147483648), 2147483647)), (125, 10, 14, .inl ((-2147483648), 2147483647))] zn_X12_ledger [] none 3000 28 ([((-2147483648), 2147483647), (0, 1), ((-2147483648), 2147483647)], [], 64, [(0, .inr (some (0, 0))), (1, .inl ([(2, 1)], 0))], [.inl ([(1, 1)], 0)], [(3, 3, ([], 9), .inl ([(0, 1)], 0))]) = true := by decide +kernel
theorem dKX12_ledger_0 : decode cX12_ledger 0 = .ok (.iload_n 1, 1) := by decide +kernel
theorem dKX12_ledger_1 : decode cX12_ledger 1 = .ok (.ifCond .eq 12, 3) := by decide +kernel
theorem dKX12_ledger_4 : decode cX12_ledger 4 = .ok (.iload_n 1, 1) := by decide +kernel
theorem dKX12_ledger_5 : decode cX12_ledger 5 = .ok (.iconst 1, 1) := by decide +kernel
theorem dKX12_ledger_6 : decode cX12_ledger 6 = .ok (.if_icmp .eq 7, 3) := by decide +kernel
theorem dKX12_ledger_13 : decode cX12_ledger 13 = .ok (.aload_n 0, 1) := by decide +kernel
theorem dKX12_ledger_14 : decode cX12_ledger 14 = .ok (.getfield 57, 3) := by decide +kernel
theorem dKX12_ledger_17 : decode cX12_ledger 17 = .ok (.aload_n 0, 1) := by decide +kernel
theorem dKX12_ledger_18 : decode cX12_ledger 18 = .ok (.getfield 21, 3) := by decide +kernel
theorem dKX12_ledger_21 : decode cX12_ledger 21 = .ok (.aload_n 0, 1) := by decide +kernel
theorem dKX12_ledger_22 : decode cX12_ledger 22 = .ok (.getfield 37, 3) := by decide +kernel
theorem dKX12_ledger_25 : decode cX12_ledger 25 = .ok (.invokevirtual 327, 3) := by decide +kernel
set_option maxRecDepth 100000 in
set_option maxHeartbeats 4000000 in
theorem kf_X12_ledger (l : Launch) (D : va_G) (k : Nat → ClassId) (B0 : Nat) (ad : Nat → Nat) (al sw : Nat) {Sg : Nat → Option Nat} {ws : va_W} {th : Nat → Nat} (sz : Nat) (hone : ∀ a g, Sg a = some g → g < 64 → a = th g) (hsing : ∀ g, g < 37 → g < 64 → Sg (th g) = some g) {B : Nat → Int32} {n9 sp nm : Nat} {nsv : List (List Int32)} (hpre : sn_Pre Sg k th B n9 nsv sp nm ws) {a1 : Int32} (ha : a1 = 0 ∨ a1 = 1) :
    Met l yX12_ledger (zw yX12_ledger cX12_ledger 3 (some .int)) ({ frames := 6, cells := 0, slots := 0, locals := 137 }) (va_Pc [.ref (th 0), .int a1] (g_pr D k (zEx B0 ad al sw Sg ws) sz ws)) (zf_Q (fun _ t => kf_Q D k Sg (th 0) 14 (ld_flt (ld_tx B n9 nsv (n9 + 1) 0 0)) (va_A ws sz) t) (va_A ws sz)) 0 0 (va_A ws sz) := by
  obtain ⟨hn9, ht, hsz9, hby, h03, s64, h641, hm0, hmn, O⟩ := hpre
  have hEx := zEx_ok B0 ad al sw
  refine zp_open (Qp := fun A _ t => kf_Q D k Sg (th 0) 14 (ld_flt (ld_tx B n9 nsv (n9 + 1) 0 0)) A t) (by decide) rfl hEx (Nat.le_of_ble_eq_true rfl) ?_
  intro p e s m below meth c A ls S hr hlocks hK hE hAB hA hP hD hS hl
  have hx := S.1
  have hb := S.2.1
  have hl : lv_has ls 3 [(0, .ref (th 0)), (1, .int a1)] := hl
  have g0 : Sg (th 0) = some 0 := hsing 0 (by decide) (by decide)
  have g3 : Sg (th 3) = some 3 := hsing 3 (by decide) (by decide)
  obtain ⟨q0, en, pe, pt⟩ := ht _ 0 g0 (by decide)
  obtain ⟨fs, rfl, hfl⟩ := zf_obj pt rfl rfl
  have g5 : Sg (th 5) = some 5 := hsing 5 (by decide) (by decide)
  obtain ⟨_, h1, b1, rfl, s1⟩ := pt.2 1 (.inr (some 3)) rfl
  obtain ⟨_, h3, b3, rfl, s3⟩ := pt.2 3 (.inr (some 64)) rfl
  obtain ⟨_, h7, b7, rfl, s7⟩ := pt.2 7 (.inr (some 5)) rfl
  obtain ⟨_, -, sn, -, s6⟩ := pt.2 6 (.inr (some 76)) rfl
  have e1 : b1 = th 3 := hone b1 3 s1 (by decide)
  subst e1
  have e7 : b7 = th 5 := hone b7 5 s7 (by decide)
  subst e7
  have e3 : sp = b3 := by
    have h9 := zf_rd_fun hD h03 ⟨q0, _, pe, h3⟩
    cases h9
    rfl
  subst e3
  suffices K13 : W p l e ({ frames := 6, cells := 0, slots := 0, locals := 137 }) s m ([.ref (th 0), .int a1] : List Value).toArray below meth c s.heap [] 0 0 (MQ below (zf_Q (fun _ t => kf_Q D k Sg (th 0) 14 (ld_flt (ld_tx B n9 nsv (n9 + 1) 0 0)) A t) A) ([.ref (th 0), .int a1] : List Value).toArray s 0 0 A) (F0 m 13 ls []) by
    refine lv_iload_n hx hb dKX12_ledger_0 rfl (lv_at hl 1 rfl) ?_
    refine lv_if_eq (tgt := 13) hx hb dKX12_ledger_1 (by decide) (fun _ => K13) (fun h => ?_)
    refine lv_iload_n hx hb dKX12_ledger_4 rfl (lv_at hl 1 rfl) ?_
    refine lv_iconst (v := 1) hx hb dKX12_ledger_5 (by decide) ?_
    refine lv_icmp_eq (tgt := 13) hx hb dKX12_ledger_6 (by decide) (fun _ => K13) (fun h2 => ?_)
    rcases ha with h9 | h9
    · exact absurd h9 h
    · exact absurd h9 h2
  refine lv_aload_n hx hb dKX12_ledger_13 rfl (lv_at hl 0 rfl) ?_
  refine va_get (D := D) (ci := 10) (C := RX12) (T := TX12) (N := 18) (own := RX12) S.1 S.2.1 S.2.2.2.2 (zg_in inW_X12) S.2.2.2.1 hK hP q0 pe rfl 7 (by decide) (S.2.2.2.2 (.fieldLink RX12 57 "RungMoney" "ledger" "LRungMoney$Ledger;") (List.mem_cons_of_mem _ zw_406)) (fun _ h9 => h9) h7 dKX12_ledger_14 ?_
  refine lv_aload_n hx hb dKX12_ledger_17 rfl (lv_at hl 0 rfl) ?_
  refine va_get (D := D) (ci := 10) (C := RX12) (T := TX12) (N := 18) (own := RX12) S.1 S.2.1 S.2.2.2.2 (zg_in inW_X12) S.2.2.2.1 hK hP q0 pe rfl 1 (by decide) (S.2.2.2.2 (.fieldLink RX12 21 "RungMoney" "reader" "LRungMoney$Reader;") (List.mem_cons_of_mem _ zw_400)) (fun _ h9 => h9) h1 dKX12_ledger_18 ?_
  refine lv_aload_n hx hb dKX12_ledger_21 rfl (lv_at hl 0 rfl) ?_
  refine va_get (D := D) (ci := 10) (C := RX12) (T := TX12) (N := 18) (own := RX12) S.1 S.2.1 S.2.2.2.2 (zg_in inW_X12) S.2.2.2.1 hK hP q0 pe rfl 3 (by decide) (S.2.2.2.2 (.fieldLink RX12 37 "RungMoney" "town" "LRungMoney$Town;") (List.mem_cons_of_mem _ zw_402)) (fun _ h9 => h9) h3 dKX12_ledger_22 ?_
  -- the reading: both contracts
  obtain ⟨θx, hp, x1, x2, x2n, x3, x4⟩ := px_world (ad := ad) ht hone hsing hE.2.2.2.1.2 hE.2.2.1.2.1 s64 s6
  have i1 : hp.1 1 1 = Int32.ofNat n9 := px_int hD x4 (g := 1) (i := 1) rfl rfl (by rw [x1 1 (by decide)]; exact hsz9)
  have i2 : ∀ i, i < 940 → hp.1 2 i = B i := fun i hi => px_int hD x4 (g := 2) (i := i) rfl (px_spx hi) (by rw [x1 2 (by decide)]; exact hby i hi)
  have i64 : hp.1 64 0 = Int32.ofNat nsv.length := px_int hD x4 (g := 64) (i := 0) rfl rfl (by rw [x2]; exact hm0)
  have e65 : θx 65 = nm := by
    have h9 := (x4.2 (64, 1, 65) (List.mem_of_getElem? (i := 3) rfl)).2.2.2.1
    have h9 : zf_rd ws (θx 64) 1 (.ref (θx 65)) := h9
    rw [x2] at h9
    cases zf_rd_fun hD h641 h9
    rfl
  have i65 : ∀ j, j < nsv.length → hp.2 65 j = c32 (nsv.getD j []) := fun j hj => px_long hD x4 (g := 65) (i := j) rfl (px_spx (show j < 6 by have := O.1; omega)) (by rw [e65]; exact hmn j hj)
  obtain ⟨v9, I', L', hv9, fx, z9⟩ := cl_read (B := B) (I := hp.1) (L := hp.2) hn9 O i1 i2 ⟨i64, i65⟩
  have hMc := kc_X4_read l D k B0 ad al sw Sg ws (fun _ => 0) (zf_upr th 64 sp) [.ref sp, .ref (th 3), .ref (th 5)] s.heap.size (fun a g h1 h2 => by rw [show zf_upr th 64 sp g = th g from if_neg (Nat.ne_of_lt h2)]; exact hone a g h1 h2) (fun g h1 h2 => by rw [show zf_upr th 64 sp g = th g from if_neg (Nat.ne_of_lt h2)]; exact hsing g h1 h2) ht ⟨lp_zr rfl, fun f hf => (by cases hf), ⟨⟨rfl, s64⟩, ⟨rfl, g3⟩, ⟨rfl, g5⟩, trivial⟩, fun h hh => (by cases hh)⟩
  have hus : zf_f2 (xe_v Sg θx) [.ref 64, .ref 3, .ref 5] [.ref sp, .ref (th 3), .ref (th 5)] := ⟨⟨by show Value.ref sp = Value.ref (θx 64); rw [x2], by show Sg (θx 64) = some (xe_k 64); rw [x2]; exact s64⟩, ⟨by show Value.ref (th 3) = Value.ref (θx 3); rw [x1 3 (by decide)], by show Sg (θx 3) = some (xe_k 3); rw [x1 3 (by decide)]; exact g3⟩, ⟨by show Value.ref (th 5) = Value.ref (θx 5); rw [x1 5 (by decide)], by show Sg (θx 5) = some (xe_k 5); rw [x1 5 (by decide)]; exact g5⟩, trivial⟩
  have hMx := kx_X4_read l D k B0 ad al sw Sg ws θx [.ref 64, .ref 3, .ref 5] [.ref sp, .ref (th 3), .ref (th 5)] s.heap.size hp _ (I', L') x3 (px_typ ht) x4 hus fx
  refine zp_call (cells := 0) (slots := 0) (As := [.ref (th 3), .ref sp]) (b := th 5) (g := 5) (ci := 2) (rest := []) S hEx hE hAB hA hK (Met_two hMc hMx) (cwV 2 S.2.2.2.2 (zg_V zw_1038 zw_1039 zw_1040 zw_105 zw_1041) rfl rfl rfl (by decide +kernel) ⟨(Nat.le_of_ble_eq_true rfl), (Nat.le_of_ble_eq_true rfl)⟩) ⟨Nat.le_of_ble_eq_true rfl, Nat.le_of_ble_eq_true rfl⟩ rfl rfl (by decide +kernel) g5 rfl hP hD hS ht hl.1 (Nat.zero_le _) dKX12_ledger_25 (fun v' t H1 locs1 ht1 hB hDD hS1 => ?_)
  obtain ⟨⟨wa, y1, y2, y3, y4⟩, rfl, c0, wb, c1, c2, c3, c4, c5, c6⟩ := hB
  rw [ht1] at y1 c1
  have hq := px_get y1 c1 y3 c3 y4.2.1 c4 c5 (g := 3) (i := 9) rfl rfl rfl
  have hq : zf_rd wa (θx 3) 9 (.int (I' 3 9)) := hq
  rw [x1 3 (by decide), z9] at hq
  generalize hxf : ld_flt (ld_tx B n9 nsv (n9 + 1) 0 0) = xf at hq
  refine zp_run (M := zm_kfL) (σ := ([((-2147483648), 2147483647), (0, 1), ((-2147483648), 2147483647)], [], 64, [(0, .inr (some (0, 0))), (1, .inl ([(2, 1)], 0))], [.inl ([(1, 1)], 0)], [(3, 3, ([], 9), .inl ([(0, 1)], 0))])) (ρ := kf_ρ xf v9 a1) (θ := th) hEx (by decide +kernel) (zR_X12_ledger l D k B0 ad al sw) S hK hE hAB hA hone hsing rfl (by decide +kernel) kr_kfL y1 (hDD _ y1 y3) hS1 y4.2.1 ⟨kf_E3 hv9, fun g hg => (by cases hg), ⟨_, hl, ⟨⟨rfl, ⟨rfl, g0⟩⟩, ⟨rfl, ⟨a1, rfl, (zf_v_sym (kf_ρ xf v9 a1) 2).symm⟩⟩, trivial⟩⟩, ⟨⟨v9, rfl, (zf_v_sym (kf_ρ xf v9 a1) 1).symm⟩, trivial⟩, zf_ac ((zf_hokT (show (3 : Nat) < 1000 by decide)).mpr ⟨g3, zp_0 (by decide), _, hq, ⟨_, rfl, (zf_v_sym (kf_ρ xf v9 a1) 0).symm⟩⟩) zf_an⟩ zf_an (fun H locs w2 ls pc i v hP2 hD2 hS2 hpost hdg hrv => ?_)
  obtain ⟨rfl, v, rfl⟩ := zt_ri (by decide +kernel) hpost hrv
  refine W.iret hx hb hr (fun t ht' hW => ⟨⟨_, rfl, ?_⟩, hS2.F ht'⟩) hS2.2.2 hdg hlocks
  obtain ⟨⟨o, ho, ρ1, θ1, u1, u2, -, -, u5, u6⟩, ht2, hfr⟩ := hpost
  cases List.mem_singleton.mp ho
  obtain ⟨-, -, z, d1, x, rfl, d2⟩ := (zf_hokT (h := (0, 0, ([], 14), .inl ([(0, 1)], 0))) (show (0 : Nat) < 1000 by decide)).mp (u5 _ List.mem_cons_self)
  have d1 : zf_rd w2 (θ1 0) 14 (.int x) := d1
  rw [u2 0 (by decide)] at d1
  have d2 : x.toInt = zf_v ρ1 ([(0, 1)], 0) := d2
  have f2 : zf_v ρ1 ([(0, 1)], 0) = ρ1 0 := zf_v_sym ρ1 0
  rw [f2, u1 0 (by decide)] at d2
  have e9 : x = xf := Int32.toInt_inj.mp d2
  rw [e9] at d1
  exact ⟨w2, by rw [ht']; exact hP2, hD2, ht2, d1⟩

def zm_kfT : zf_M := (([((-2147483648), 2147483647), (0, 1)], [], 64, [], [], []), [(64, ([], 0), ([], 0)), (66, ([], 0), ([], 0)), (73, ([], 0), ([], 35)), (75, ([], 0), ([], 5)), (64, ([], 5), ([], 8)), (65, ([], 0), ([], 5)), (67, ([], 0), ([], 15)), (68, ([], 0), ([], 15)), (69, ([], 0), ([], 15)), (70, ([], 0), ([], 15)), (71, ([], 0), ([], 15)), (3, ([], 1), ([], 10)), (4, ([], 1), ([], 3)), (1, ([], 1), ([], 1)), (0, ([], 14), ([], 14)), (76, ([], 4), ([], 5)), (10, ([], 2), ([], 2))], [(some (.inl ([(2, 1)], 0)), ([((-2147483648), 2147483647), (0, 1), ((-2147483648), 2147483647)], [], 64, [], [], [(0, 0, ([], 14), .inl ([(0, 1)], 0))]))])
set_option maxRecDepth 100000 in
set_option maxHeartbeats 4000000 in
theorem kr_kfT : zf_run 2 64 37 2 zGT zm_kfT [zm_X11_read, zm_X10_copy, zm_X8_forget, zm_X5_forgetN] [(10, 10, 0, .inl (0, 0)), (21, 10, 1, .inl (0, 0)), (30, 10, 2, .inl (0, 0)), (37, 10, 3, .inl (0, 0)), (41, 10, 4, .inl (0, 0)), (47, 10, 5, .inl (0, 0)), (64, 10, 8, .inl (0, 0)), (122, 5, 9, .inl (0, 0)), (128, 5, 10, .inl (0, 0)), (139, 9, 3, .inl (0, 0))] [(115, 7, 1, .inl ((-2147483648), 2147483647)), (125, 10, 14, .inl ((-2147483648), 2147483647))] zn_X12_town [] none 3000 11 ([((-2147483648), 2147483647), (0, 1)], [], 64, [(0, .inr (some (0, 0)))], [.inl ([(1, 1)], 0)], [(3, 3, ([], 9), .inl ([(0, 1)], 0))]) = true := by decide +kernel
theorem dKX12_town_0 : decode cX12_town 0 = .ok (.aload_n 0, 1) := by decide +kernel
theorem dKX12_town_1 : decode cX12_town 1 = .ok (.getfield 30, 3) := by decide +kernel
theorem dKX12_town_4 : decode cX12_town 4 = .ok (.aload_n 0, 1) := by decide +kernel
theorem dKX12_town_5 : decode cX12_town 5 = .ok (.getfield 41, 3) := by decide +kernel
theorem dKX12_town_8 : decode cX12_town 8 = .ok (.invokevirtual 118, 3) := by decide +kernel
set_option maxRecDepth 100000 in
set_option maxHeartbeats 4000000 in
theorem kf_X12_town (l : Launch) (D : va_G) (k : Nat → ClassId) (B0 : Nat) (ad : Nat → Nat) (al sw : Nat) {Sg : Nat → Option Nat} {ws : va_W} {th : Nat → Nat} (sz : Nat) (hone : ∀ a g, Sg a = some g → g < 64 → a = th g) (hsing : ∀ g, g < 37 → g < 64 → Sg (th g) = some g) {B : Nat → Int32} {n9 : Nat} (hpre : lp_Pre Sg k th B n9 ws) :
    Met l yX12_town (zw yX12_town cX12_town 2 (some .int)) ({ frames := 6, cells := 0, slots := 0, locals := 134 }) (va_Pc [.ref (th 0)] (g_pr D k (zEx B0 ad al sw Sg ws) sz ws)) (zf_Q (fun _ t => kf_Q D k Sg (th 0) 14 (lp_flt (lp_tx B n9 (n9 + 1) 0 0 lp_s0)) (va_A ws sz) t) (va_A ws sz)) 0 0 (va_A ws sz) := by
  obtain ⟨hn9, ht, hsz9, hby⟩ := hpre
  have hEx := zEx_ok B0 ad al sw
  refine zp_open (Qp := fun A _ t => kf_Q D k Sg (th 0) 14 (lp_flt (lp_tx B n9 (n9 + 1) 0 0 lp_s0)) A t) (by decide) rfl hEx (Nat.le_of_ble_eq_true rfl) ?_
  intro p e s m below meth c A ls S hr hlocks hK hE hAB hA hP hD hS hl
  have hx := S.1
  have hb := S.2.1
  have hl : lv_has ls 2 [(0, .ref (th 0))] := hl
  have g0 : Sg (th 0) = some 0 := hsing 0 (by decide) (by decide)
  have g3 : Sg (th 3) = some 3 := hsing 3 (by decide) (by decide)
  obtain ⟨q0, en, pe, pt⟩ := ht _ 0 g0 (by decide)
  obtain ⟨fs, rfl, hfl⟩ := zf_obj pt rfl rfl
  have g4 : Sg (th 4) = some 4 := hsing 4 (by decide) (by decide)
  obtain ⟨_, h2, b2, rfl, s2⟩ := pt.2 2 (.inr (some 4)) rfl
  obtain ⟨_, h4, sp, rfl, s64⟩ := pt.2 4 (.inr (some 64)) rfl
  obtain ⟨_, -, snt, -, s6⟩ := pt.2 6 (.inr (some 76)) rfl
  have e2 : b2 = th 4 := hone b2 4 s2 (by decide)
  subst e2
  refine lv_aload_n hx hb dKX12_town_0 rfl (lv_at hl 0 rfl) ?_
  refine va_get (D := D) (ci := 10) (C := RX12) (T := TX12) (N := 18) (own := RX12) S.1 S.2.1 S.2.2.2.2 (zg_in inW_X12) S.2.2.2.1 hK hP q0 pe rfl 2 (by decide) (S.2.2.2.2 (.fieldLink RX12 30 "RungMoney" "townReader" "LRungMoney$TownReader;") (List.mem_cons_of_mem _ zw_401)) (fun _ h9 => h9) h2 dKX12_town_1 ?_
  refine lv_aload_n hx hb dKX12_town_4 rfl (lv_at hl 0 rfl) ?_
  refine va_get (D := D) (ci := 10) (C := RX12) (T := TX12) (N := 18) (own := RX12) S.1 S.2.1 S.2.2.2.2 (zg_in inW_X12) S.2.2.2.1 hK hP q0 pe rfl 4 (by decide) (S.2.2.2.2 (.fieldLink RX12 41 "RungMoney" "spare" "LRungMoney$Town;") (List.mem_cons_of_mem _ zw_403)) (fun _ h9 => h9) h4 dKX12_town_5 ?_
  -- the reading: both contracts
  obtain ⟨θx, hp, x1, x2, x2n, x3, x4⟩ := px_world (ad := ad) ht hone hsing hE.2.2.2.1.2 hE.2.2.1.2.1 s64 s6
  have i1 : hp.1 1 1 = Int32.ofNat n9 := px_int hD x4 (g := 1) (i := 1) rfl rfl (by rw [x1 1 (by decide)]; exact hsz9)
  have i2 : ∀ i, i < 940 → hp.1 2 i = B i := fun i hi => px_int hD x4 (g := 2) (i := i) rfl (px_spx hi) (by rw [x1 2 (by decide)]; exact hby i hi)

  obtain ⟨v9, I', L', hv9, fx, z9⟩ := cs_readF (B := B) (I := hp.1) (L := hp.2) hn9 i1 i2
  have hMc := kc_X11_read l D k B0 ad al sw Sg ws (fun _ => 0) (zf_upr th 64 sp) [.ref sp, .ref (th 4)] s.heap.size (fun a g h1 h2 => by rw [show zf_upr th 64 sp g = th g from if_neg (Nat.ne_of_lt h2)]; exact hone a g h1 h2) (fun g h1 h2 => by rw [show zf_upr th 64 sp g = th g from if_neg (Nat.ne_of_lt h2)]; exact hsing g h1 h2) ht ⟨lp_zr rfl, fun f hf => (by cases hf), ⟨⟨rfl, s64⟩, ⟨rfl, g4⟩, trivial⟩, fun h hh => (by cases hh)⟩
  have hus : zf_f2 (xe_v Sg θx) [.ref 64, .ref 4] [.ref sp, .ref (th 4)] := ⟨⟨by show Value.ref sp = Value.ref (θx 64); rw [x2], by show Sg (θx 64) = some (xe_k 64); rw [x2]; exact s64⟩, ⟨by show Value.ref (th 4) = Value.ref (θx 4); rw [x1 4 (by decide)], by show Sg (θx 4) = some (xe_k 4); rw [x1 4 (by decide)]; exact g4⟩, trivial⟩
  have hMx := kx_X11_read l D k B0 ad al sw Sg ws θx [.ref 64, .ref 4] [.ref sp, .ref (th 4)] s.heap.size hp _ (I', L') x3 (px_typ ht) x4 hus fx
  refine zp_call (cells := 0) (slots := 0) (As := [.ref sp]) (b := th 4) (g := 4) (ci := 9) (rest := []) S hEx hE hAB hA hK (Met_two hMc hMx) (cwV 1 S.2.2.2.2 (zg_V zw_475 zw_476 zw_477 zw_98 zw_478) rfl rfl rfl (by decide +kernel) ⟨(Nat.le_of_ble_eq_true rfl), (Nat.le_of_ble_eq_true rfl)⟩) ⟨Nat.le_of_ble_eq_true rfl, Nat.le_of_ble_eq_true rfl⟩ rfl rfl (by decide +kernel) g4 rfl hP hD hS ht hl.1 (Nat.zero_le _) dKX12_town_8 (fun v' t H1 locs1 ht1 hB hDD hS1 => ?_)
  obtain ⟨⟨wa, y1, y2, y3, y4⟩, rfl, c0, wb, c1, c2, c3, c4, c5, c6⟩ := hB
  rw [ht1] at y1 c1
  have hq := px_get y1 c1 y3 c3 y4.2.1 c4 c5 (g := 3) (i := 9) rfl rfl rfl
  have hq : zf_rd wa (θx 3) 9 (.int (I' 3 9)) := hq
  rw [x1 3 (by decide), z9] at hq
  generalize hxf : lp_flt (lp_tx B n9 (n9 + 1) 0 0 lp_s0) = xf at hq
  refine zp_run (M := zm_kfT) (σ := ([((-2147483648), 2147483647), (0, 1)], [], 64, [(0, .inr (some (0, 0)))], [.inl ([(1, 1)], 0)], [(3, 3, ([], 9), .inl ([(0, 1)], 0))])) (ρ := kf_ρ xf v9 0) (θ := th) hEx (by decide +kernel) (zRN_X12_town l D k B0 ad al sw) S hK hE hAB hA hone hsing rfl (by decide +kernel) kr_kfT y1 (hDD _ y1 y3) hS1 y4.2.1 ⟨kf_E2 hv9, fun g hg => (by cases hg), ⟨_, hl, ⟨⟨rfl, ⟨rfl, g0⟩⟩, trivial⟩⟩, ⟨⟨v9, rfl, (zf_v_sym (kf_ρ xf v9 0) 1).symm⟩, trivial⟩, zf_ac ((zf_hokT (show (3 : Nat) < 1000 by decide)).mpr ⟨g3, zp_0 (by decide), _, hq, ⟨_, rfl, (zf_v_sym (kf_ρ xf v9 0) 0).symm⟩⟩) zf_an⟩ zf_an (fun H locs w2 ls pc i v hP2 hD2 hS2 hpost hdg hrv => ?_)
  obtain ⟨rfl, v, rfl⟩ := zt_ri (by decide +kernel) hpost hrv
  refine W.iret hx hb hr (fun t ht' hW => ⟨⟨_, rfl, ?_⟩, hS2.F ht'⟩) hS2.2.2 hdg hlocks
  obtain ⟨⟨o, ho, ρ1, θ1, u1, u2, -, -, u5, u6⟩, ht2, hfr⟩ := hpost
  cases List.mem_singleton.mp ho
  obtain ⟨-, -, z, d1, x, rfl, d2⟩ := (zf_hokT (h := (0, 0, ([], 14), .inl ([(0, 1)], 0))) (show (0 : Nat) < 1000 by decide)).mp (u5 _ List.mem_cons_self)
  have d1 : zf_rd w2 (θ1 0) 14 (.int x) := d1
  rw [u2 0 (by decide)] at d1
  have d2 : x.toInt = zf_v ρ1 ([(0, 1)], 0) := d2
  have f2 : zf_v ρ1 ([(0, 1)], 0) = ρ1 0 := zf_v_sym ρ1 0
  rw [f2, u1 0 (by decide)] at d2
  have e9 : x = xf := Int32.toInt_inj.mp d2
  rw [e9] at d1
  exact ⟨w2, by rw [ht']; exact hP2, hD2, ht2, d1⟩

def zm_kfS : zf_M := (([((-2147483648), 2147483647), (0, 1)], [], 64, [], [], []), [(76, ([], 4), ([], 5)), (77, ([], 0), ([], 39)), (78, ([], 0), ([], 39)), (79, ([], 0), ([], 39)), (3, ([], 1), ([], 10)), (1, ([], 1), ([], 1)), (0, ([], 14), ([], 14))], [(some (.inl ([(2, 1)], 0)), ([((-2147483648), 2147483647), (0, 1), ((-2147483648), 2147483647)], [], 64, [], [], [(0, 0, ([], 14), .inl ([(0, 1)], 0))]))])
set_option maxRecDepth 100000 in
set_option maxHeartbeats 4000000 in
theorem kr_kfS : zf_run 2 64 37 2 zGT zm_kfS [zm_X8_read, zm_X8_copyN] [(10, 10, 0, .inl (0, 0)), (21, 10, 1, .inl (0, 0)), (37, 10, 3, .inl (0, 0)), (47, 10, 5, .inl (0, 0)), (51, 10, 6, .inl (0, 0)), (122, 5, 9, .inl (0, 0)), (128, 5, 10, .inl (0, 0)), (343, 6, 5, .inl (0, 0))] [(115, 7, 1, .inl ((-2147483648), 2147483647)), (125, 10, 14, .inl ((-2147483648), 2147483647))] zn_X12_sentence [] none 3000 15 ([((-2147483648), 2147483647), (0, 1)], [], 64, [(0, .inr (some (0, 0)))], [.inl ([(1, 1)], 0)], [(3, 3, ([], 9), .inl ([(0, 1)], 0))]) = true := by decide +kernel
theorem dKX12_sentence_0 : decode cX12_sentence 0 = .ok (.aload_n 0, 1) := by decide +kernel
theorem dKX12_sentence_1 : decode cX12_sentence 1 = .ok (.getfield 51, 3) := by decide +kernel
theorem dKX12_sentence_4 : decode cX12_sentence 4 = .ok (.aload_n 0, 1) := by decide +kernel
theorem dKX12_sentence_5 : decode cX12_sentence 5 = .ok (.getfield 21, 3) := by decide +kernel
theorem dKX12_sentence_8 : decode cX12_sentence 8 = .ok (.aload_n 0, 1) := by decide +kernel
theorem dKX12_sentence_9 : decode cX12_sentence 9 = .ok (.getfield 37, 3) := by decide +kernel
theorem dKX12_sentence_12 : decode cX12_sentence 12 = .ok (.invokevirtual 339, 3) := by decide +kernel
set_option maxRecDepth 100000 in
set_option maxHeartbeats 4000000 in
theorem kf_X12_sentence (l : Launch) (D : va_G) (k : Nat → ClassId) (B0 : Nat) (ad : Nat → Nat) (al sw : Nat) {Sg : Nat → Option Nat} {ws : va_W} {th : Nat → Nat} (sz : Nat) (hone : ∀ a g, Sg a = some g → g < 64 → a = th g) (hsing : ∀ g, g < 37 → g < 64 → Sg (th g) = some g) {B : Nat → Int32} {n9 sp nm : Nat} {nsv : List (List Int32)} (hpre : sn_Pre Sg k th B n9 nsv sp nm ws) :
    Met l yX12_sentence (zw yX12_sentence cX12_sentence 2 (some .int)) ({ frames := 37, cells := 0, slots := 0, locals := 1070 }) (va_Pc [.ref (th 0)] (g_pr D k (zEx B0 ad al sw Sg ws) sz ws)) (zf_Q (fun _ t => ∃ r : sv_rs, sv_ends B n9 nsv (0, 0, [], false) r ∧ kf_Q D k Sg (th 0) 14 (sv_flt r) (va_A ws sz) t) (va_A ws sz)) 0 0 (va_A ws sz) := by
  obtain ⟨hn9, ht, hsz9, hby, h03, s64, h641, hm0, hmn, O⟩ := hpre
  have hEx := zEx_ok B0 ad al sw
  refine zp_open (Qp := fun A _ t => ∃ r : sv_rs, sv_ends B n9 nsv (0, 0, [], false) r ∧ kf_Q D k Sg (th 0) 14 (sv_flt r) A t) (by decide) rfl hEx (Nat.le_of_ble_eq_true rfl) ?_
  intro p e s m below meth c A ls S hr hlocks hK hE hAB hA hP hD hS hl
  have hx := S.1
  have hb := S.2.1
  have hl : lv_has ls 2 [(0, .ref (th 0))] := hl
  have g0 : Sg (th 0) = some 0 := hsing 0 (by decide) (by decide)
  have g3 : Sg (th 3) = some 3 := hsing 3 (by decide) (by decide)
  obtain ⟨q0, en, pe, pt⟩ := ht _ 0 g0 (by decide)
  obtain ⟨fs, rfl, hfl⟩ := zf_obj pt rfl rfl
  obtain ⟨_, h1, b1, rfl, s1⟩ := pt.2 1 (.inr (some 3)) rfl
  obtain ⟨_, h3, b3, rfl, s3⟩ := pt.2 3 (.inr (some 64)) rfl
  obtain ⟨_, h6, sn, rfl, s6⟩ := pt.2 6 (.inr (some 76)) rfl
  have e1 : b1 = th 3 := hone b1 3 s1 (by decide)
  subst e1
  have e3 : sp = b3 := by
    have h9 := zf_rd_fun hD h03 ⟨q0, _, pe, h3⟩
    cases h9
    rfl
  subst e3
  refine lv_aload_n hx hb dKX12_sentence_0 rfl (lv_at hl 0 rfl) ?_
  refine va_get (D := D) (ci := 10) (C := RX12) (T := TX12) (N := 18) (own := RX12) S.1 S.2.1 S.2.2.2.2 (zg_in inW_X12) S.2.2.2.1 hK hP q0 pe rfl 6 (by decide) (S.2.2.2.2 (.fieldLink RX12 51 "RungMoney" "spareSentence" "LRungMoney$Sentence;") (List.mem_cons_of_mem _ zw_405)) (fun _ h9 => h9) h6 dKX12_sentence_1 ?_
  refine lv_aload_n hx hb dKX12_sentence_4 rfl (lv_at hl 0 rfl) ?_
  refine va_get (D := D) (ci := 10) (C := RX12) (T := TX12) (N := 18) (own := RX12) S.1 S.2.1 S.2.2.2.2 (zg_in inW_X12) S.2.2.2.1 hK hP q0 pe rfl 1 (by decide) (S.2.2.2.2 (.fieldLink RX12 21 "RungMoney" "reader" "LRungMoney$Reader;") (List.mem_cons_of_mem _ zw_400)) (fun _ h9 => h9) h1 dKX12_sentence_5 ?_
  refine lv_aload_n hx hb dKX12_sentence_8 rfl (lv_at hl 0 rfl) ?_
  refine va_get (D := D) (ci := 10) (C := RX12) (T := TX12) (N := 18) (own := RX12) S.1 S.2.1 S.2.2.2.2 (zg_in inW_X12) S.2.2.2.1 hK hP q0 pe rfl 3 (by decide) (S.2.2.2.2 (.fieldLink RX12 37 "RungMoney" "town" "LRungMoney$Town;") (List.mem_cons_of_mem _ zw_402)) (fun _ h9 => h9) h3 dKX12_sentence_9 ?_
  -- the reading: both contracts
  obtain ⟨θx, hp, x1, x2, x2n, x3, x4⟩ := px_world (ad := ad) ht hone hsing hE.2.2.2.1.2 hE.2.2.1.2.1 s64 s6
  have i1 : hp.1 1 1 = Int32.ofNat n9 := px_int hD x4 (g := 1) (i := 1) rfl rfl (by rw [x1 1 (by decide)]; exact hsz9)
  have i2 : ∀ i, i < 940 → hp.1 2 i = B i := fun i hi => px_int hD x4 (g := 2) (i := i) rfl (px_spx hi) (by rw [x1 2 (by decide)]; exact hby i hi)
  have i64 : hp.1 64 0 = Int32.ofNat nsv.length := px_int hD x4 (g := 64) (i := 0) rfl rfl (by rw [x2]; exact hm0)
  have e65 : θx 65 = nm := by
    have h9 := (x4.2 (64, 1, 65) (List.mem_of_getElem? (i := 3) rfl)).2.2.2.1
    have h9 : zf_rd ws (θx 64) 1 (.ref (θx 65)) := h9
    rw [x2] at h9
    cases zf_rd_fun hD h641 h9
    rfl
  have i65 : ∀ j, j < nsv.length → hp.2 65 j = c32 (nsv.getD j []) := fun j hj => px_long hD x4 (g := 65) (i := j) rfl (px_spx (show j < 6 by have := O.1; omega)) (by rw [e65]; exact hmn j hj)
  obtain ⟨r9, v9, I', L', hends, hv9, fx, z9⟩ := cv_readF (B := B) (I := hp.1) (L := hp.2) hn9 O i1 i2 ⟨i64, i65⟩
  have hMc := Met_room (r2 := ({ frames := 36, cells := 0, slots := 0, locals := 1040 } : Room)) (kc_X8_read l D k B0 ad al sw Sg ws (fun _ => 0) (zf_up2 th sn sp) [.ref sp, .ref (th 3), .ref sn] s.heap.size (fun a g h1 h2 => by rw [zf_up2_lt h2]; exact hone a g h1 h2) (fun g h1 h2 => by rw [zf_up2_lt h2]; exact hsing g h1 h2) ht ⟨lp_zr rfl, fun f hf => (by cases hf), ⟨⟨rfl, s64⟩, ⟨rfl, g3⟩, ⟨rfl, s6⟩, trivial⟩, fun h hh => (by cases hh)⟩) (by decide) (by decide) (by decide) (by decide)
  have hus : zf_f2 (xe_v Sg θx) [.ref 64, .ref 3, .ref 76] [.ref sp, .ref (th 3), .ref sn] := ⟨⟨by show Value.ref sp = Value.ref (θx 64); rw [x2], by show Sg (θx 64) = some (xe_k 64); rw [x2]; exact s64⟩, ⟨by show Value.ref (th 3) = Value.ref (θx 3); rw [x1 3 (by decide)], by show Sg (θx 3) = some (xe_k 3); rw [x1 3 (by decide)]; exact g3⟩, ⟨by show Value.ref sn = Value.ref (θx 76); rw [x2n], by show Sg (θx 76) = some (xe_k 76); rw [x2n]; exact s6⟩, trivial⟩
  have hMx := kx_X8_read9 l D k B0 ad al sw Sg ws θx [.ref 64, .ref 3, .ref 76] [.ref sp, .ref (th 3), .ref sn] s.heap.size hp _ (I', L') x3 (px_typ ht) x4 hus fx
  refine zp_call (cells := 0) (slots := 0) (As := [.ref (th 3), .ref sp]) (b := sn) (g := 76) (ci := 6) (rest := []) S hEx hE hAB hA hK (Met_two hMc hMx) (cwV 2 S.2.2.2.2 (zg_V zw_1102 zw_1103 zw_1104 zw_102 zw_1105) rfl rfl rfl (by decide +kernel) ⟨(Nat.le_of_ble_eq_true rfl), (Nat.le_of_ble_eq_true rfl)⟩) ⟨Nat.le_of_ble_eq_true rfl, Nat.le_of_ble_eq_true rfl⟩ rfl rfl (by decide +kernel) s6 rfl hP hD hS ht hl.1 (Nat.zero_le _) dKX12_sentence_12 (fun v' t H1 locs1 ht1 hB hDD hS1 => ?_)
  obtain ⟨⟨wa, y1, y2, y3, y4⟩, rfl, c0, wb, c1, c2, c3, c4, c5, c6⟩ := hB
  rw [ht1] at y1 c1
  have hq := px_get y1 c1 y3 c3 y4.2.1 c4 c5 (g := 3) (i := 9) rfl rfl rfl
  have hq : zf_rd wa (θx 3) 9 (.int (I' 3 9)) := hq
  rw [x1 3 (by decide), z9] at hq
  generalize hxf : sv_flt r9 = xf at hq
  refine zp_run (M := zm_kfS) (σ := ([((-2147483648), 2147483647), (0, 1)], [], 64, [(0, .inr (some (0, 0)))], [.inl ([(1, 1)], 0)], [(3, 3, ([], 9), .inl ([(0, 1)], 0))])) (ρ := kf_ρ xf v9 0) (θ := th) hEx (by decide +kernel) (zR_X12_sentence l D k B0 ad al sw) S hK hE hAB hA hone hsing rfl (by decide +kernel) kr_kfS y1 (hDD _ y1 y3) hS1 y4.2.1 ⟨kf_E2 hv9, fun g hg => (by cases hg), ⟨_, hl, ⟨⟨rfl, ⟨rfl, g0⟩⟩, trivial⟩⟩, ⟨⟨v9, rfl, (zf_v_sym (kf_ρ xf v9 0) 1).symm⟩, trivial⟩, zf_ac ((zf_hokT (show (3 : Nat) < 1000 by decide)).mpr ⟨g3, zp_0 (by decide), _, hq, ⟨_, rfl, (zf_v_sym (kf_ρ xf v9 0) 0).symm⟩⟩) zf_an⟩ zf_an (fun H locs w2 ls pc i v hP2 hD2 hS2 hpost hdg hrv => ?_)
  obtain ⟨rfl, v, rfl⟩ := zt_ri (by decide +kernel) hpost hrv
  refine W.iret hx hb hr (fun t ht' hW => ⟨⟨_, rfl, r9, hends, ?_⟩, hS2.F ht'⟩) hS2.2.2 hdg hlocks
  obtain ⟨⟨o, ho, ρ1, θ1, u1, u2, -, -, u5, u6⟩, ht2, hfr⟩ := hpost
  cases List.mem_singleton.mp ho
  obtain ⟨-, -, z, d1, x, rfl, d2⟩ := (zf_hokT (h := (0, 0, ([], 14), .inl ([(0, 1)], 0))) (show (0 : Nat) < 1000 by decide)).mp (u5 _ List.mem_cons_self)
  have d1 : zf_rd w2 (θ1 0) 14 (.int x) := d1
  rw [u2 0 (by decide)] at d1
  have d2 : x.toInt = zf_v ρ1 ([(0, 1)], 0) := d2
  have f2 : zf_v ρ1 ([(0, 1)], 0) = ρ1 0 := zf_v_sym ρ1 0
  rw [f2, u1 0 (by decide)] at d2
  have e9 : x = xf := Int32.toInt_inj.mp d2
  rw [e9] at d1
  rw [← hxf] at d1
  exact ⟨w2, by rw [ht']; exact hP2, hD2, ht2, d1⟩
def zm_X12_faultF : zf_M := (([((-2147483648), 2147483647)], [], 64, [], [.inr (some (0, 0))], [(0, 0, ([], 14), .inl ([(0, 1)], 0))]), [], [(some (.inl ([(0, 1)], 0)), ([((-2147483648), 2147483647)], [], 64, [], [], []))])
set_option maxRecDepth 100000 in
set_option maxHeartbeats 4000000 in
theorem kc_X12_faultF (l : Launch) (D : va_G) (k : Nat → ClassId) (B0 : Nat) (ad : Nat → Nat) (al sw : Nat) : zf_Con l yX12_fault (zw yX12_fault cX12_fault 1 (some .int)) ({ frames := 0, cells := 0, slots := 0, locals := 0 }) D k (zEx B0 ad al sw) zGT 37 zm_X12_faultF := by
  have hEx := zEx_ok B0 ad al sw
  refine zf_mk (cc := cX12_fault) (nL := 1) (ret := (some .int)) (Ms := []) (fg := [(125, 10, 14, .inl (0, 0))]) (fp := []) (ins := zn_X12_fault) (cuts := zu_X12_fault) (fuel := 3000) (by decide) rfl hEx (by decide +kernel) (by decide +kernel) (by decide +kernel) (by decide +kernel) ?_
  intro p e s m args below meth c Q Sg w0 A θ0 S hK hE hAB hA hone hsing
  refine ⟨?_, ?_, ?_⟩
  · exact zf_ac ((fun H locs ws a q0 fs v rest pc ls hP he hv hdg kk => va_get (D := D) (ci := 10) (C := RX12) (T := TX12) (N := 18) (own := RX12) S.1 S.2.1 S.2.2.2.2 (zg_in inW_X12) S.2.2.2.1 hK hP q0 he rfl 14 (by decide) (S.2.2.2.2 (.fieldLink RX12 125 "RungMoney" "faultKind" "I") (List.mem_cons_of_mem _ zw_413)) (fun _ h9 => h9) hv hdg kk)) zf_an
  · exact zf_an
  · exact zf_crl (xs := []) (by decide +kernel) (zf_an)
