/-! ===== the class's town: its answer ===== -/
def lp_ans (r : lp_rs) : Int32 := match r with
  | .inl q => Int32.ofInt (-1) - Int32.ofNat q.2
  | .inr q => Int32.ofNat q.1
def lp_eff : zf_F := [(1, ([], 1), ([], 1)), (0, ([], 14), ([], 14)), (64, ([], 0), ([], 0)), (65, ([], 0), ([], 5)), (66, ([], 0), ([], 0)), (67, ([], 0), ([], 15)), (68, ([], 0), ([], 15)), (69, ([], 0), ([], 15)), (70, ([], 0), ([], 15)), (71, ([], 0), ([], 15)), (73, ([], 0), ([], 35)), (75, ([], 0), ([], 5)), (64, ([], 5), ([], 8)), (76, ([], 4), ([], 5)), (10, ([], 2), ([], 2))]
def zm_T11f : zf_M := (([], [], 64, [], [], []), lp_eff, [(some (.inl ([(0, 1)], 0)), ([((-2147483648), 2147483647)], [], 64, [], [], [(3, 3, ([], 10), .inl ([(0, (-1))], (-1)))]))])
def zm_T11s : zf_M := (([], [], 64, [], [], []), lp_eff, [(some (.inl ([(0, 1)], 0)), ([((-2147483648), 2147483647)], [], 64, [], [], [(4, 4, ([], 3), .inl ([(0, 1)], 0))]))])
set_option maxRecDepth 100000 in
set_option maxHeartbeats 4000000 in
theorem kr_T11f : zf_run 0 64 37 2 zGT zm_T11f [zm_X11_read, zm_X10_copy, zm_X8_forget, zm_X5_forget] [(10, 10, 0, .inl (0, 0)), (21, 10, 1, .inl (0, 0)), (30, 10, 2, .inl (0, 0)), (37, 10, 3, .inl (0, 0)), (41, 10, 4, .inl (0, 0)), (47, 10, 5, .inl (0, 0)), (64, 10, 8, .inl (0, 0)), (122, 5, 9, .inl (0, 0)), (128, 5, 10, .inl (0, 0)), (139, 9, 3, .inl (0, 0))] [(115, 7, 1, .inl ((-2147483648), 2147483647)), (125, 10, 14, .inl ((-2147483648), 2147483647))] zn_X12_town [] none 3000 11 ([], [], 64, [(0, .inr (some (0, 0)))], [.inl ([], 0)], []) = true := by decide +kernel
set_option maxRecDepth 100000 in
set_option maxHeartbeats 4000000 in
theorem kr_T11s : zf_run 0 64 37 2 zGT zm_T11s [zm_X11_read, zm_X10_copy, zm_X8_forget, zm_X5_forget] [(10, 10, 0, .inl (0, 0)), (21, 10, 1, .inl (0, 0)), (30, 10, 2, .inl (0, 0)), (37, 10, 3, .inl (0, 0)), (41, 10, 4, .inl (0, 0)), (47, 10, 5, .inl (0, 0)), (64, 10, 8, .inl (0, 0)), (122, 5, 9, .inl (0, 0)), (128, 5, 10, .inl (0, 0)), (139, 9, 3, .inl (0, 0))] [(115, 7, 1, .inl ((-2147483648), 2147483647)), (125, 10, 14, .inl ((-2147483648), 2147483647))] zn_X12_town [] none 3000 11 ([], [], 64, [(0, .inr (some (0, 0)))], [.inl ([], 1)], []) = true := by decide +kernel
theorem dX12_town_0 : decode cX12_town 0 = .ok (.aload_n 0, 1) := by decide +kernel
theorem dX12_town_1 : decode cX12_town 1 = .ok (.getfield 30, 3) := by decide +kernel
theorem dX12_town_4 : decode cX12_town 4 = .ok (.aload_n 0, 1) := by decide +kernel
theorem dX12_town_5 : decode cX12_town 5 = .ok (.getfield 41, 3) := by decide +kernel
theorem dX12_town_8 : decode cX12_town 8 = .ok (.invokevirtual 118, 3) := by decide +kernel
theorem lp_zr {E9 : zf_E} (hE9 : E9 = []) : zf_okE E9 (fun _ => 0) := by
  rw [hE9]
  intro x
  exact ⟨show (-2147483648 : Int) ≤ 0 by decide, show (0 : Int) ≤ 2147483647 by decide⟩
def lp_Pre (Sg : Nat → Option Nat) (k : Nat → ClassId) (th : Nat → Nat) (B : Nat → Int32) (n9 : Nat) (ws : va_W) : Prop := n9 ≤ 940 ∧ zf_typ Sg k zGT ws ∧ zf_rd ws (th 1) 1 (.int (Int32.ofNat n9)) ∧ ∀ i, i < 940 → zf_rd ws (th 2) i (.int (B i))
set_option maxRecDepth 100000 in
set_option maxHeartbeats 4000000 in
theorem kt_X12_town (l : Launch) (D : va_G) (k : Nat → ClassId) (B0 : Nat) (ad : Nat → Nat) (al sw : Nat) {Sg : Nat → Option Nat} {ws : va_W} {th : Nat → Nat} (sz : Nat) (hone : ∀ a g, Sg a = some g → g < 64 → a = th g) (hsing : ∀ g, g < 37 → g < 64 → Sg (th g) = some g) {B : Nat → Int32} {n9 : Nat} (hpre : lp_Pre Sg k th B n9 ws) :
    Met l yX12_town (zw yX12_town cX12_town 2 (some .int)) ({ frames := 6, cells := 0, slots := 0, locals := 134 }) (va_Pc [.ref (th 0)] (g_pr D k (zEx B0 ad al sw Sg ws) sz ws)) (zf_Q (fun v _ => v = some (.int (lp_ans (lp_tx B n9 (n9 + 1) 0 0 lp_s0)))) (va_A ws sz)) 0 0 (va_A ws sz) := by
  obtain ⟨hn9, ht, hsz9, hby⟩ := hpre
  have hEx := zEx_ok B0 ad al sw
  refine Met.ofW (cc := cX12_town) (maxL := 2) (ret := some .int) (by decide) rfl ?_
  intro p e s m args below meth c s₁ B1 hml hv
  obtain ⟨rfl, hsz, hP, hK, hD0, hE⟩ := hv
  have hx := B1.exec
  have hb := B1.bytes
  have hr := B1.returns
  have hts := atoms_spec (ws := zw yX12_town cX12_town 2 (some .int)) B1.pre
  have hown : s.vm.findClass yX12_town.cls = some m.cls := findClass_of_methodNamed B1.named
  have hlocks := B1.notSynchronized
  subst hsz
  have hD := hD0.self (sz := s.heap.size)
  have hAB := hEx.2.1 Sg ws s hE
  generalize hAe : va_A ws s.heap.size = A at hD hAB ⊢
  have hA : ∀ q : Nat, s.heap.size ≤ q → A q := fun q h => by rw [← hAe]; exact Or.inr h
  have hS : va_S A s.heap s.heap [] := va_S.rf
  have hl := lv_entry ([.ref (th 0)] : List Value) (n := 2) (Nat.le_of_ble_eq_true rfl)
  rw [lg_entry_eq]
  generalize (lg_sl ([.ref (th 0)] : List Value) ++ List.replicate (2 - (lg_sl ([.ref (th 0)] : List Value)).length) Slot.unset).toArray = ls at hl ⊢
  have hl : lv_has ls 2 [(0, .ref (th 0))] := hl
  have S : CallFix p m c cX12_town 2 s ([.ref (th 0)] : List Value).toArray (zw yX12_town cX12_town 2 (some .int)) RX12 := ⟨hx, hb, hml, hown, hts⟩
  have g0 : Sg (th 0) = some 0 := hsing 0 (by decide) (by decide)
  have g4 : Sg (th 4) = some 4 := hsing 4 (by decide) (by decide)
  obtain ⟨q0, en, pe, pt⟩ := ht _ 0 g0 (by decide)
  obtain ⟨fs, rfl, hfl⟩ := zf_obj pt rfl rfl
  obtain ⟨_, h2, b2, rfl, s2⟩ := pt.2 2 (.inr (some 4)) rfl
  obtain ⟨_, h4, sp, rfl, s4⟩ := pt.2 4 (.inr (some 64)) rfl
  have e2 : b2 = th 4 := hone b2 4 s2 (by decide)
  subst e2
  have hsp : zf_rd ws (th 0) 4 (.ref sp) := ⟨q0, _, pe, h4⟩
  refine lv_aload_n hx hb dX12_town_0 rfl (lv_at hl 0 rfl) ?_
  refine va_get (D := D) (ci := 10) (C := RX12) (T := TX12) (N := 18) (own := RX12) S.1 S.2.1 S.2.2.2.2 (zg_in inW_X12) S.2.2.2.1 hK hP q0 pe rfl 2 (by decide) (S.2.2.2.2 (.fieldLink RX12 30 "RungMoney" "townReader" "LRungMoney$TownReader;") (List.mem_cons_of_mem _ zw_401)) (fun _ h9 => h9) h2 dX12_town_1 ?_
  refine lv_aload_n hx hb dX12_town_4 rfl (lv_at hl 0 rfl) ?_
  refine va_get (D := D) (ci := 10) (C := RX12) (T := TX12) (N := 18) (own := RX12) S.1 S.2.1 S.2.2.2.2 (zg_in inW_X12) S.2.2.2.1 hK hP q0 pe rfl 4 (by decide) (S.2.2.2.2 (.fieldLink RX12 41 "RungMoney" "spare" "LRungMoney$Town;") (List.mem_cons_of_mem _ zw_403)) (fun _ h9 => h9) h4 dX12_town_5 ?_
  -- the reading: both contracts
  obtain ⟨_, -, snt, -, s6⟩ := pt.2 6 (.inr (some 76)) rfl
  obtain ⟨θx, hp, x1, x2, -, x3, x4⟩ := px_world (ad := ad) ht hone hsing hE.2.2.2.1.2 hE.2.2.1.2.1 s4 s6
  have i1 : hp.1 1 1 = Int32.ofNat n9 := px_int hD x4 (g := 1) (i := 1) rfl rfl (by rw [x1 1 (by decide)]; exact hsz9)
  have i2 : ∀ i, i < 940 → hp.1 2 i = B i := fun i hi => px_int hD x4 (g := 2) (i := i) rfl (px_spx hi) (by rw [x1 2 (by decide)]; exact hby i hi)
  have hrun := cs_read (B := B) (I := hp.1) (L := hp.2) hn9 i1 i2
  have hMc := kc_X11_read l D k B0 ad al sw Sg ws (fun _ => 0) (zf_upr th 64 sp) [.ref sp, .ref (th 4)] s.heap.size (fun a g h1 h2 => by rw [show zf_upr th 64 sp g = th g from if_neg (Nat.ne_of_lt h2)]; exact hone a g h1 h2) (fun g h1 h2 => by rw [show zf_upr th 64 sp g = th g from if_neg (Nat.ne_of_lt h2)]; exact hsing g h1 h2) ht ⟨lp_zr rfl, fun f hf => (by cases hf), ⟨⟨rfl, s4⟩, ⟨rfl, g4⟩, trivial⟩, fun h hh => (by cases hh)⟩
  have hus : zf_f2 (xe_v Sg θx) [.ref 64, .ref 4] [.ref sp, .ref (th 4)] := by
    refine ⟨⟨?_, ?_⟩, ⟨?_, ?_⟩, trivial⟩
    · show Value.ref sp = Value.ref (θx 64)
      rw [x2]
    · show Sg (θx 64) = some (xe_k 64)
      rw [x2]; exact s4
    · show Value.ref (th 4) = Value.ref (θx 4)
      rw [x1 4 (by decide)]
    · show Sg (θx 4) = some (xe_k 4)
      rw [x1 4 (by decide)]; exact g4
  have hFc := va_free hD hS hA (List.range ws.length) (zf_whole ws)
  obtain ⟨qr, er, per, ptr⟩ := ht _ 4 g4 (by decide)
  obtain ⟨fr4, rfl, -⟩ := zf_obj ptr rfl rfl
  have cw : CallW ({ frames := 6, cells := 0, slots := 0, locals := 134 } : Room) s ([.ref (th 0)] : List Value).toArray RX12 RX11 118 yX11_read cX11_read 2 (some .boolean) (zw yX11_read cX11_read 2 (some .boolean)) ({ frames := 5, cells := 0, slots := 0, locals := 113 }) 0 0 1 := cwV 1 S.2.2.2.2 (zg_V zw_475 zw_476 zw_477 zw_98 zw_478) rfl rfl rfl (by decide +kernel) ⟨(Nat.le_of_ble_eq_true rfl), (Nat.le_of_ble_eq_true rfl)⟩
  -- what is said of the rest
  have rest : ∀ (H : Heap) (locs : List Loc) (w1 : va_W) (x : Int32) (M9 : zf_M) (f9 : zf_L), va_P D vwCl w1 H → va_D A w1 → va_S A s.heap H locs → zf_typ Sg k zGT w1 → f9 = ([], x.toInt) → M9.1 = ([], [], 64, [], [], []) → M9.2.1 = lp_eff → zf_tyo (some .int) M9 = true → zf_run 0 64 37 2 zGT M9 [zm_X11_read, zm_X10_copy, zm_X8_forget, zm_X5_forget] [(10, 10, 0, .inl (0, 0)), (21, 10, 1, .inl (0, 0)), (30, 10, 2, .inl (0, 0)), (37, 10, 3, .inl (0, 0)), (41, 10, 4, .inl (0, 0)), (47, 10, 5, .inl (0, 0)), (64, 10, 8, .inl (0, 0)), (122, 5, 9, .inl (0, 0)), (128, 5, 10, .inl (0, 0)), (139, 9, 3, .inl (0, 0))] [(115, 7, 1, .inl ((-2147483648), 2147483647)), (125, 10, 14, .inl ((-2147483648), 2147483647))] zn_X12_town [] none 3000 11 ([], [], 64, [(0, .inr (some (0, 0)))], [.inl f9], []) = true → (∀ (w2 : va_W) (v : Int32), zf_post Sg k zGT (fun _ => 0) th M9 w1 (some (.int v)) w2 → va_D A w2 → v = lp_ans (lp_tx B n9 (n9 + 1) 0 0 lp_s0)) →
      W p l e ({ frames := 6, cells := 0, slots := 0, locals := 134 }) s m ([.ref (th 0)] : List Value).toArray below meth c H locs 0 0 (MQ below (zf_Q (fun v _ => v = some (.int (lp_ans (lp_tx B n9 (n9 + 1) 0 0 lp_s0)))) A) ([.ref (th 0)] : List Value).toArray s 0 0 A) (F0 m 11 ls [.int x]) := by
    intro H locs w1 x M9 f9 hP hD hS ht1 ef eM eE ety hr9 hans
    have hl9 : M9.1.1.length = 0 := by rw [eM]; rfl
    have h649 : M9.1.2.2.1 = 64 := by rw [eM]
    refine zf_run_ok (D := D) (k := k) (H0 := s.heap) (A := A) (Sg := Sg) (GT := zGT) (NS := 37) (nL := 2) (cl := vwCl) (M := M9) (Ms := [zm_X11_read, zm_X10_copy, zm_X8_forget, zm_X5_forget]) (fg := [(10, 10, 0, .inl (0, 0)), (21, 10, 1, .inl (0, 0)), (30, 10, 2, .inl (0, 0)), (37, 10, 3, .inl (0, 0)), (41, 10, 4, .inl (0, 0)), (47, 10, 5, .inl (0, 0)), (64, 10, 8, .inl (0, 0)), (122, 5, 9, .inl (0, 0)), (128, 5, 10, .inl (0, 0)), (139, 9, 3, .inl (0, 0))]) (fp := [(115, 7, 1, .inl ((-2147483648), 2147483647)), (125, 10, 14, .inl ((-2147483648), 2147483647))]) (ins := zn_X12_town) (ws0 := w1) (ρe := fun _ => 0) (θe := th) (om := none) (cuts := []) hx hb hK hone (by rw [h649]; exact Nat.le_refl _) hsing (fun H locs hS' => hEx.2.2.2 Sg ws s H locs A hE hAB hS') ?_ ?_ (fun x hx' => of_decide_eq_true (List.all_eq_true.mp (show zn_X12_town.all (fun x => decide (decode cX12_town x.1 = .ok (x.2.2.1, x.2.1))) = true by decide +kernel) x hx')) ?_ ?_ (by rw [eE, hl9]; decide +kernel) (n0 := 0) (r0 := 64) (ρ0 := fun _ => 0) (θ0 := th) (by rw [hl9]; exact Nat.le_refl _) (by rw [h649]; exact Nat.le_refl _) (fun _ _ => rfl) (fun _ _ => rfl) (fun x hx' => by cases hx') zf_an 3000 11 _ hr9 (fun _ => 0) th w1 H locs ls [.int x] (fun _ _ => rfl) (fun _ _ => rfl) ⟨hP, hD, hS, ht1, fun _ _ _ _ _ _ h => h⟩ ⟨lp_zr rfl, fun g hg => (by cases hg), ⟨_, hl, ⟨⟨rfl, ⟨rfl, g0⟩⟩, trivial⟩⟩, ⟨⟨x, rfl, by rw [ef]; rfl⟩, trivial⟩, fun h hh => (by cases hh)⟩
    · exact zf_ac ((fun H locs ws a q0 fs v rest pc ls hP he hv hdg kk => va_get (D := D) (ci := 10) (C := RX12) (T := TX12) (N := 18) (own := RX12) S.1 S.2.1 S.2.2.2.2 (zg_in inW_X12) S.2.2.2.1 hK hP q0 he rfl 0 (by decide) (S.2.2.2.2 (.fieldLink RX12 10 "RungMoney" "tape" "LRungMoney$Tape;") (List.mem_cons_of_mem _ zw_399)) (fun _ h9 => h9) hv hdg kk)) (zf_ac ((fun H locs ws a q0 fs v rest pc ls hP he hv hdg kk => va_get (D := D) (ci := 10) (C := RX12) (T := TX12) (N := 18) (own := RX12) S.1 S.2.1 S.2.2.2.2 (zg_in inW_X12) S.2.2.2.1 hK hP q0 he rfl 1 (by decide) (S.2.2.2.2 (.fieldLink RX12 21 "RungMoney" "reader" "LRungMoney$Reader;") (List.mem_cons_of_mem _ zw_400)) (fun _ h9 => h9) hv hdg kk)) (zf_ac ((fun H locs ws a q0 fs v rest pc ls hP he hv hdg kk => va_get (D := D) (ci := 10) (C := RX12) (T := TX12) (N := 18) (own := RX12) S.1 S.2.1 S.2.2.2.2 (zg_in inW_X12) S.2.2.2.1 hK hP q0 he rfl 2 (by decide) (S.2.2.2.2 (.fieldLink RX12 30 "RungMoney" "townReader" "LRungMoney$TownReader;") (List.mem_cons_of_mem _ zw_401)) (fun _ h9 => h9) hv hdg kk)) (zf_ac ((fun H locs ws a q0 fs v rest pc ls hP he hv hdg kk => va_get (D := D) (ci := 10) (C := RX12) (T := TX12) (N := 18) (own := RX12) S.1 S.2.1 S.2.2.2.2 (zg_in inW_X12) S.2.2.2.1 hK hP q0 he rfl 3 (by decide) (S.2.2.2.2 (.fieldLink RX12 37 "RungMoney" "town" "LRungMoney$Town;") (List.mem_cons_of_mem _ zw_402)) (fun _ h9 => h9) hv hdg kk)) (zf_ac ((fun H locs ws a q0 fs v rest pc ls hP he hv hdg kk => va_get (D := D) (ci := 10) (C := RX12) (T := TX12) (N := 18) (own := RX12) S.1 S.2.1 S.2.2.2.2 (zg_in inW_X12) S.2.2.2.1 hK hP q0 he rfl 4 (by decide) (S.2.2.2.2 (.fieldLink RX12 41 "RungMoney" "spare" "LRungMoney$Town;") (List.mem_cons_of_mem _ zw_403)) (fun _ h9 => h9) hv hdg kk)) (zf_ac ((fun H locs ws a q0 fs v rest pc ls hP he hv hdg kk => va_get (D := D) (ci := 10) (C := RX12) (T := TX12) (N := 18) (own := RX12) S.1 S.2.1 S.2.2.2.2 (zg_in inW_X12) S.2.2.2.1 hK hP q0 he rfl 5 (by decide) (S.2.2.2.2 (.fieldLink RX12 47 "RungMoney" "sentence" "LRungMoney$Sentence;") (List.mem_cons_of_mem _ zw_404)) (fun _ h9 => h9) hv hdg kk)) (zf_ac ((fun H locs ws a q0 fs v rest pc ls hP he hv hdg kk => va_get (D := D) (ci := 10) (C := RX12) (T := TX12) (N := 18) (own := RX12) S.1 S.2.1 S.2.2.2.2 (zg_in inW_X12) S.2.2.2.1 hK hP q0 he rfl 8 (by decide) (S.2.2.2.2 (.fieldLink RX12 64 "RungMoney" "past" "LRungMoney$Past;") (List.mem_cons_of_mem _ zw_407)) (fun _ h9 => h9) hv hdg kk)) (zf_ac ((fun H locs ws a q0 fs v rest pc ls hP he hv hdg kk => va_get (D := D) (ci := 5) (C := RX7) (T := TX7) (N := 11) (own := RX12) S.1 S.2.1 S.2.2.2.2 (zg_in inW_X7) S.2.2.2.1 hK hP q0 he rfl 9 (by decide) (S.2.2.2.2 (.fieldLink RX12 122 "RungMoney$Reader" "fault" "I") (List.mem_cons_of_mem _ zw_167)) (fun _ h9 => h9) hv hdg kk)) (zf_ac ((fun H locs ws a q0 fs v rest pc ls hP he hv hdg kk => va_get (D := D) (ci := 5) (C := RX7) (T := TX7) (N := 11) (own := RX12) S.1 S.2.1 S.2.2.2.2 (zg_in inW_X7) S.2.2.2.1 hK hP q0 he rfl 10 (by decide) (S.2.2.2.2 (.fieldLink RX12 128 "RungMoney$Reader" "place" "I") (List.mem_cons_of_mem _ zw_169)) (fun _ h9 => h9) hv hdg kk)) (zf_ac ((fun H locs ws a q0 fs v rest pc ls hP he hv hdg kk => va_get (D := D) (ci := 9) (C := RX11) (T := TX11) (N := 4) (own := RX12) S.1 S.2.1 S.2.2.2.2 (zg_in inW_X11) S.2.2.2.1 hK hP q0 he rfl 3 (by decide) (S.2.2.2.2 (.fieldLink RX12 139 "RungMoney$TownReader" "lines" "I") (List.mem_cons_of_mem _ zw_203)) (fun _ h9 => h9) hv hdg kk)) zf_an)))))))))
    · exact zf_ac ((fun H locs ws a q0 fs v rest pc ls hP hD hS he hl hv hdg kk => by obtain ⟨x, rfl, h1, h2⟩ := hv; exact va_put (D := D) (ci := 7) (v := .int x) (ty := .int) (C := RX9) (T := TX9) (N := 2) (own := RX12) S.1 S.2.1 S.2.2.2.2 (zg_in inW_X9) tyX9 tyX9_ok nmX9 S.2.2.2.1 hK hP hD hS q0 he rfl 1 (by decide) (S.2.2.2.2 (.fieldLink RX12 115 "RungMoney$Tape" "size" "I") (List.mem_cons_of_mem _ zw_136)) (fun _ h9 => h9) rfl (by decide +kernel) rfl rfl hl hdg kk)) (zf_ac ((fun H locs ws a q0 fs v rest pc ls hP hD hS he hl hv hdg kk => by obtain ⟨x, rfl, h1, h2⟩ := hv; exact va_put (D := D) (ci := 10) (v := .int x) (ty := .int) (C := RX12) (T := TX12) (N := 18) (own := RX12) S.1 S.2.1 S.2.2.2.2 (zg_in inW_X12) tyX12 tyX12_ok nmX12 S.2.2.2.1 hK hP hD hS q0 he rfl 14 (by decide) (S.2.2.2.2 (.fieldLink RX12 125 "RungMoney" "faultKind" "I") (List.mem_cons_of_mem _ zw_413)) (fun _ h9 => h9) rfl (by decide +kernel) rfl rfl hl hdg kk)) zf_an)
    · exact zf_crl (xs := [(.invokevirtual 118, 3, 0), (.invokevirtual 131, 3, 1), (.invokevirtual 135, 3, 2), (.invokevirtual 138, 3, 3)]) (by decide +kernel) (zf_ac (zf_crV S hEx hE hAB hA hK hone hsing (kc_X11_read l D k B0 ad al sw) (cwV 1 S.2.2.2.2 (zg_V zw_475 zw_476 zw_477 zw_98 zw_478) rfl rfl rfl (by decide +kernel) ⟨(Nat.le_of_ble_eq_true rfl), (Nat.le_of_ble_eq_true rfl)⟩) ⟨(Nat.le_of_ble_eq_true rfl), (Nat.le_of_ble_eq_true rfl)⟩ 9 rfl rfl (ar := [.inr (some (64, 64))]) rfl rfl (by decide +kernel)) (zf_ac (zf_crV S hEx hE hAB hA hK hone hsing (kc_X10_copy l D k B0 ad al sw) (cwV 1 S.2.2.2.2 (zg_V zw_608 zw_609 zw_610 zw_99 zw_611) rfl rfl rfl (by decide +kernel) ⟨(Nat.le_of_ble_eq_true rfl), (Nat.le_of_ble_eq_true rfl)⟩) ⟨(Nat.le_of_ble_eq_true rfl), (Nat.le_of_ble_eq_true rfl)⟩ 8 rfl rfl (ar := [.inr (some (64, 65))]) rfl rfl (by decide +kernel)) (zf_ac (zf_crV S hEx hE hAB hA hK hone hsing (kc_X8_forget l D k B0 ad al sw) (cwV 0 S.2.2.2.2 (zg_V zw_625 zw_626 zw_627 zw_102 zw_628) rfl rfl rfl (by decide +kernel) ⟨(Nat.le_of_ble_eq_true rfl), (Nat.le_of_ble_eq_true rfl)⟩) ⟨(Nat.le_of_ble_eq_true rfl), (Nat.le_of_ble_eq_true rfl)⟩ 6 rfl rfl (ar := []) rfl rfl (by decide +kernel)) (zf_ac (zf_crV S hEx hE hAB hA hK hone hsing (kc_X5_forget l D k B0 ad al sw) (cwV 0 S.2.2.2.2 (zg_V zw_629 zw_630 zw_631 zw_106 zw_632) rfl rfl rfl (by decide +kernel) ⟨(Nat.le_of_ble_eq_true rfl), (Nat.le_of_ble_eq_true rfl)⟩) ⟨(Nat.le_of_ble_eq_true rfl), (Nat.le_of_ble_eq_true rfl)⟩ 3 rfl rfl (ar := []) rfl rfl (by decide +kernel)) zf_an))))
    · intro H locs ws' ls pc i v hP' hD' hS' hpost hdg hrv
      obtain ⟨rfl, x9, rfl⟩ := zt_ri ety hpost hrv
      have post : ∀ t : State, t.heap = H → s.WarmedH t.vm → zf_Q (fun v _ => v = some (.int (lp_ans (lp_tx B n9 (n9 + 1) 0 0 lp_s0)))) A ([.ref (th 0)] : List Value).toArray s (.returned (some (.int x9))) t := fun t ht' hW => ⟨⟨_, rfl, by rw [hans ws' x9 hpost hD']⟩, hS'.F ht'⟩
      exact W.iret hx hb hr post hS'.2.2 hdg hlocks
  cases hx9 : lp_tx B n9 (n9 + 1) 0 0 lp_s0 with
  | inl q =>
    rw [hx9] at hrun rest
    obtain ⟨I', L', fx, z9, z10⟩ := hrun
    have hMx := kx_X11_read l D k B0 ad al sw Sg ws θx [.ref 64, .ref 4] [.ref sp, .ref (th 4)] s.heap.size hp _ (I', L') x3 (px_typ ht) x4 hus fx
    have hM9 : Met l yX11_read (zw yX11_read cX11_read 2 (some .boolean)) ({ frames := 5, cells := 0, slots := 0, locals := 113 }) (va_Pc (.ref (th 4) :: [.ref sp]) (g_pr D k (zEx B0 ad al sw Sg ws) s.heap.size ws)) _ 0 0 _ := Met_two hMc hMx
    have hrn := va_runV (As := [.ref sp]) (b := th 4) (rest := []) (locs := []) (e := e) (below := below) (meth := meth) (cells := 0) (slots := 0) S hM9 cw ⟨zf_blind (hEx.1 Sg ws), va_recv (q := (RX11, TX11, 4)) hK hP rfl per, zf_pass hEx hE hAB hK hP hD hS⟩ (g := F0 m 8 ls ([.ref sp] ++ .ref (th 4) :: [])) rfl rfl hl.1 rfl (lv_room (rest := []) (ls := ls) (pc := 8) (m := m) (Nat.zero_le _)) dX12_town_8 ⟨Nat.le_of_ble_eq_true rfl, Nat.le_of_ble_eq_true rfl⟩
    refine zf_callg hrn hS (fun q _ h => hFc q h) hFc (fun v' t H1 locs1 ht1 hvm hB hz hk1 hS1 => ?_)
    obtain ⟨⟨wa, a1, a2, a3, a4⟩, rfl, c0, wb, c1, c2, c3, c4, c5, c6⟩ := hB
    rw [ht1] at a1 c1
    obtain ⟨hP1, hD1⟩ := zf_back hP hD hS hA hk1 a1 a3
    have hq := px_get a1 c1 a3 c3 a4.2.1 c4 c5 (g := 3) (i := 10) rfl rfl rfl
    have hq : zf_rd wa (θx 3) 10 (.int (I' 3 10)) := hq
    rw [x1 3 (by decide), z10] at hq
    refine rest H1 locs1 wa 0 zm_T11f ([], 0) hP1 hD1 hS1 a4.2.1 rfl rfl rfl (by decide +kernel) kr_T11f (fun w2 v hpost hD2 => ?_)
    obtain ⟨⟨o, ho, ρ1, θ1, y1, y2, -, -, y5, y6⟩, -, hfr⟩ := hpost
    cases List.mem_singleton.mp ho
    obtain ⟨-, -, z, d1, x, rfl, d2⟩ := (zf_hokT (h := (3, 3, ([], 10), .inl ([(0, (-1))], (-1)))) (show (3 : Nat) < 1000 by decide)).mp (y5 _ List.mem_cons_self)
    have d1 : zf_rd w2 (θ1 3) 10 (.int x) := d1
    rw [y2 3 (by decide)] at d1
    have hk : zf_rd w2 (th 3) 10 (.int (Int32.ofNat q.2)) := by
      refine hfr _ 3 10 _ (hsing 3 (by decide) (by decide)) ?_ hq
      rintro ⟨u, hu, u1, u2, u3⟩
      have hall : lp_eff.all (fun q => !(Nat.beq q.1 3)) = true := by decide
      have := List.all_eq_true.mp hall u hu
      rw [u1] at this
      exact absurd this (by decide)
    have ex := zf_rd_fun hD2 d1 hk
    cases ex
    obtain ⟨y, e9, y7⟩ := y6
    cases e9
    have d2 : (Int32.ofNat q.2).toInt = zf_v ρ1 ([(0, (-1))], (-1)) := d2
    have y7 : v.toInt = zf_v ρ1 ([(0, 1)], 0) := y7
    have f1 : zf_v ρ1 ([(0, (-1))], (-1)) = (-1) * ρ1 0 + (-1) := rfl
    have f2 : zf_v ρ1 ([(0, 1)], 0) = ρ1 0 := zf_v_sym ρ1 0
    rw [f1] at d2
    rw [f2] at y7
    have hq0 := zi_lo (Int32.ofNat q.2)
    have hq1 := zi_hi (Int32.ofNat q.2)
    show v = Int32.ofInt (-1) - Int32.ofNat q.2
    refine Int32.toInt_inj.mp ?_
    have em : (Int32.ofInt (-1)).toInt = -1 := by decide
    have hv0 := zi_lo v
    have hv1 := zi_hi v
    rw [Kit.i32_sub (by rw [em]; omega) (by rw [em]; omega), em]
    omega
  | inr q =>
    rw [hx9] at hrun rest
    obtain ⟨I', L', fx, z43, z9, z10⟩ := hrun
    have hMx := kx_X11_read l D k B0 ad al sw Sg ws θx [.ref 64, .ref 4] [.ref sp, .ref (th 4)] s.heap.size hp _ (I', L') x3 (px_typ ht) x4 hus fx
    have hM9 : Met l yX11_read (zw yX11_read cX11_read 2 (some .boolean)) ({ frames := 5, cells := 0, slots := 0, locals := 113 }) (va_Pc (.ref (th 4) :: [.ref sp]) (g_pr D k (zEx B0 ad al sw Sg ws) s.heap.size ws)) _ 0 0 _ := Met_two hMc hMx
    have hrn := va_runV (As := [.ref sp]) (b := th 4) (rest := []) (locs := []) (e := e) (below := below) (meth := meth) (cells := 0) (slots := 0) S hM9 cw ⟨zf_blind (hEx.1 Sg ws), va_recv (q := (RX11, TX11, 4)) hK hP rfl per, zf_pass hEx hE hAB hK hP hD hS⟩ (g := F0 m 8 ls ([.ref sp] ++ .ref (th 4) :: [])) rfl rfl hl.1 rfl (lv_room (rest := []) (ls := ls) (pc := 8) (m := m) (Nat.zero_le _)) dX12_town_8 ⟨Nat.le_of_ble_eq_true rfl, Nat.le_of_ble_eq_true rfl⟩
    refine zf_callg hrn hS (fun q _ h => hFc q h) hFc (fun v' t H1 locs1 ht1 hvm hB hz hk1 hS1 => ?_)
    obtain ⟨⟨wa, a1, a2, a3, a4⟩, rfl, c0, wb, c1, c2, c3, c4, c5, c6⟩ := hB
    rw [ht1] at a1 c1
    obtain ⟨hP1, hD1⟩ := zf_back hP hD hS hA hk1 a1 a3
    have hq := px_get a1 c1 a3 c3 a4.2.1 c4 c5 (g := 4) (i := 3) rfl rfl rfl
    have hq : zf_rd wa (θx 4) 3 (.int (I' 4 3)) := hq
    rw [x1 4 (by decide), z43] at hq
    refine rest H1 locs1 wa 1 zm_T11s ([], 1) hP1 hD1 hS1 a4.2.1 rfl rfl rfl (by decide +kernel) kr_T11s (fun w2 v hpost hD2 => ?_)
    obtain ⟨⟨o, ho, ρ1, θ1, y1, y2, -, -, y5, y6⟩, -, hfr⟩ := hpost
    cases List.mem_singleton.mp ho
    obtain ⟨-, -, z, d1, x, rfl, d2⟩ := (zf_hokT (h := (4, 4, ([], 3), .inl ([(0, 1)], 0))) (show (4 : Nat) < 1000 by decide)).mp (y5 _ List.mem_cons_self)
    have d1 : zf_rd w2 (θ1 4) 3 (.int x) := d1
    rw [y2 4 (by decide)] at d1
    have hk : zf_rd w2 (th 4) 3 (.int (Int32.ofNat q.1)) := by
      refine hfr _ 4 3 _ g4 ?_ hq
      rintro ⟨u, hu, u1, u2, u3⟩
      have hall : lp_eff.all (fun q => !(Nat.beq q.1 4)) = true := by decide
      have := List.all_eq_true.mp hall u hu
      rw [u1] at this
      exact absurd this (by decide)
    have ex := zf_rd_fun hD2 d1 hk
    cases ex
    obtain ⟨y, e9, y7⟩ := y6
    cases e9
    have d2 : (Int32.ofNat q.1).toInt = zf_v ρ1 ([(0, 1)], 0) := d2
    have y7 : v.toInt = zf_v ρ1 ([(0, 1)], 0) := y7
    show v = Int32.ofNat q.1
    exact Int32.toInt_inj.mp (y7.trans d2.symm)
