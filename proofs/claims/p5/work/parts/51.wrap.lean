/-! ===== the law's own wrappers: a call that may throw, caught ===== -/
def zl_Con (l : Launch) (y : MethodName) (wsY : List Cond) (rm : Room) (D : va_G) (k : Nat → ClassId) (Ex : (Nat → Option Nat) → va_W → State → Prop) (GT : List zf_G) (NS : Nat) (M : zf_M) : Prop :=
  ∀ (Sg : Nat → Option Nat) (ws : va_W) (ρ : Nat → Int) (θ : Nat → Nat) (vs : List Value) (sz : Nat), (∀ a g, Sg a = some g → g < 64 → a = θ g) → (∀ g, g < NS → g < 64 → Sg (θ g) = some g) → zf_typ Sg k GT ws → zf_pre Sg ρ θ M vs ws →
    Met l y wsY rm (va_Pc vs.reverse (g_pr D k (Ex Sg ws) sz ws)) (zf_Q (zf_po D k Sg GT ρ θ M ws (va_A ws sz)) (va_A ws sz)) 1 6 (va_A ws sz)
abbrev zwL (y : MethodName) (c : ByteArray) (n : Nat) (hh : List (Nat × Nat × Nat × Nat)) : List Cond := Cond.codeWith y c n (some .int) hh :: lw_g
section ZTC
variable {p : Program} {l : Launch} {e : Env} {R : Room} {s : State} {m : MethodId} {args : Array Value} {below : List Frame} {meth : Method} {c : Code} {cells slots : Nat} {Q : State → Prop} {H : Heap} {locs : List Loc}
variable {cc bytes : ByteArray} {nL maxL index n B0 NS pc mc ms : Nat} {D : va_G} {A A0 A1 : Nat → Prop} {k : Nat → ClassId} {own : String} {y : MethodName} {wsY Ts : List Cond} {rm : Room} {ret : Option FieldType} {GT : List zf_G} {M : zf_M} {Sg : Nat → Option Nat} {ρ : Nat → Int} {θ : Nat → Nat} {w0 ws : va_W} {Ex : (Nat → Option Nat) → va_W → State → Prop} {ls : Array Slot} {As rest st0 : List Value} {b : Nat} {a : Array Value} {H0 : Heap} {free : Addr → Prop}
theorem zt_callg {B : Option Value → State → Prop} {BX : String → Unit → State → Prop} (hr : vx_Run p l e R s m args below meth c H locs cells slots mc ms (F0 m pc ls st0) rest (zf_Q B A1 a) (vx_X (fun (_ : Unit) => True) BX A1) free) (hS : va_S A0 H0 H locs) (hA : ∀ q, q < H.size → A1 q → A0 q) (hf : ∀ q, free q → A0 q)
    (kx : ∀ (E : String) (ce : Cell) (q9 : Addr) (t : State) (H1 : Heap) (locs1 : List Loc), t.heap = H1 → s.vm.Alike t.vm → BX E () t → H.size ≤ H1.size → (∀ q : Nat, q < H.size → ¬ A1 q → H1[q]? = H[q]?) → va_S A0 H0 H1 locs1 → H1[q9]? = some ce → ce.vm = .none → s.vm.findClass E = some ce.cls → vx_W p l e R s m args below meth c H1 locs1 (cells + mc) (slots + ms) Q (F0 m pc ls rest) q9)
    (kk : ∀ (v : Option Value) (t : State) (H1 : Heap) (locs1 : List Loc), t.heap = H1 → s.vm.Alike t.vm → B v t → H.size ≤ H1.size → (∀ q : Nat, q < H.size → ¬ A1 q → H1[q]? = H[q]?) → va_S A0 H0 H1 locs1 → W p l e R s m args below meth c H1 locs1 (cells + mc) (slots + ms) Q (F0 m (pc + 3) ls (v.toList ++ rest))) : W p l e R s m args below meth c H locs cells slots Q (F0 m pc ls st0) := by
  intro T hT X
  rcases hr T hT X with ⟨v, st₀, t, T', L, h0, X', hL, e1, e2, ⟨⟨w, hv, hb⟩, hF⟩, st⟩ | ⟨q, st₀, t, T', L, E, ce, h0, X', hL, e1, e2, ⟨u, hp, hb, hF⟩, hce, hcv, hcl, st⟩
  · cases hv
    obtain ⟨k1, k2, k3⟩ := vx_keep h0 e1 hS hA hf hL hF
    obtain ⟨t2, a1, b1⟩ := kk v t T'.heap (locs ++ L) e1.symm (by rw [← e2]; exact X'.warmed.alike) hb k1 k2 k3 T' rfl X'
    exact ⟨t2, st t2 a1, b1⟩
  · obtain ⟨k1, k2, k3⟩ := vx_keep h0 e1 hS hA hf hL hF
    obtain ⟨t2, a1, b1⟩ := kx E ce q t T'.heap (locs ++ L) e1.symm (by rw [← e2]; exact X'.warmed.alike) hb k1 k2 k3 (by rw [e1]; exact hce) hcv hcl T' rfl X'
    exact ⟨t2, st.trans a1, b1⟩
theorem zt_crV (S : CallFix p m c cc nL s args Ts own) (hEx : zf_Eo Ex B0) (hE : Ex Sg w0 s) (hAB : ∀ q, A q → B0 ≤ q) (hA : ∀ q, s.heap.size ≤ q → A q) (hK : va_K D vwCl (tyz k) s) (hone : ∀ a g, Sg a = some g → g < 64 → a = θ g) (hsing : ∀ g, g < NS → g < 64 → Sg (θ g) = some g)
    (hM : zt_Con l y wsY rm D k Ex GT NS M) (cw : CallW R s args own RX12 index y bytes maxL ret wsY rm 1 6 n) (hf : cells + 1 ≤ R.cells ∧ slots + 6 ≤ R.slots) (hAs : As.length = n) (hg : Sg b = some 0) (hkn : zf_knd GT 0 false 10 = true)
    (hP : va_P D vwCl ws H) (hD : va_D A ws) (hS : va_S A s.heap H locs) (ht : zf_typ Sg k GT ws) (hpre : zf_pre Sg ρ θ M (As.reverse ++ [.ref b]) ws) (hdg : decode cc pc = .ok (.invokevirtual index, 3)) (hls : ls.size = nL) (hcat : (rest.map fun v => v.category).sum ≤ 8)
    (kx : ∀ (q9 : Addr) (ce : Cell) (ws' : va_W) (H1 : Heap) (locs1 : List Loc), zf_typ Sg k GT ws' → zf_fr Sg M.2.1 ρ ws ws' → va_P D vwCl ws' H1 → va_D A ws' → va_S A s.heap H1 locs1 → H1[q9]? = some ce → ce.vm = .none → s.vm.findClass "java/util/NoSuchElementException" = some ce.cls → vx_W p l e R s m args below meth c H1 locs1 (cells + 1) (slots + 6) Q (F0 m pc ls rest) q9)
    (kk : ∀ (v : Option Value) (ws' : va_W) (H1 : Heap) (locs1 : List Loc), zf_post Sg k GT ρ θ M ws v ws' → va_P D vwCl ws' H1 → va_D A ws' → va_S A s.heap H1 locs1 → W p l e R s m args below meth c H1 locs1 (cells + 1) (slots + 6) Q (F0 m (pc + 3) ls (v.toList ++ rest))) :
    W p l e R s m args below meth c H locs cells slots Q (F0 m pc ls (As.reverse ++ .ref b :: rest)) := by
  have hMet := hM Sg ws ρ θ (As.reverse ++ [.ref b]) H.size hone hsing ht hpre
  obtain ⟨k1, k2, k3⟩ := zf_knd_ok hkn
  obtain ⟨q0, en, p1, p2⟩ := ht _ _ hg k3
  obtain ⟨fs, rfl, -⟩ := zf_obj p2 k1 k2
  have hav : (As.reverse ++ [Value.ref b]).reverse = Value.ref b :: As := by simp
  rw [hav] at hMet
  have hrun := vx_runV (rest := rest) (locs := locs) (e := e) (below := below) (meth := meth) (cells := cells) (slots := slots) S hMet cw ⟨zf_blind (hEx.1 Sg ws), va_recv (q := (RX12, TX12, 18)) hK hP rfl p1, zf_pass hEx hE hAB hK hP hD hS⟩ (g := F0 m pc ls (As.reverse ++ .ref b :: rest)) rfl hAs hls rfl (lv_room (rest := rest) (ls := ls) (pc := pc) (m := m) hcat) hdg hf
  have hFc := va_free hD hS hA (List.range ws.length) (zf_whole ws)
  refine zt_callg hrun hS (fun q _ h => hFc q h) hFc (fun E9 ce q9 t H1 locs1 ht1 hvm hB hz hk1 hS1 hc1 hc2 hc3 => ?_) (fun v t H1 locs1 ht1 hvm hB hz hk1 hS1 => ?_)
  · obtain ⟨rfl, ws', z1, z2, z3, z4, z5⟩ := hB
    rw [ht1] at z1
    obtain ⟨hP1, hD1⟩ := zf_back hP hD hS hA hk1 z1 z3
    exact kx q9 ce ws' H1 locs1 z4 z5 hP1 hD1 hS1 hc1 hc2 hc3
  · obtain ⟨ws', z1, z2, z3, z4⟩ := hB
    rw [ht1] at z1
    obtain ⟨hP1, hD1⟩ := zf_back hP hD hS hA hk1 z1 z3
    exact kk v ws' H1 locs1 z4 hP1 hD1 hS1
end ZTC
def zl_eff : zf_F := [(36, ([], 0), ([], 0))]
theorem zl_fr0 {Sg : Nat → Option Nat} {ρ ρ' : Nat → Int} {ws ws' : va_W} {eff : zf_F} (h : zf_fr Sg [] ρ ws ws') : zf_fr Sg eff ρ' ws ws' := fun a g i v hg _ hr => h a g i v hg (fun hq => by obtain ⟨q, hq, -⟩ := hq; cases hq) hr
theorem zg_L {k : Cond} {own C : String} {idx : Nat} {y : MethodName} {c : ByteArray} {n : Nat} {r : Option FieldType} (h1 : Cond.methodLink own idx y ∈ lw_tbl) (h2 : Cond.instanceMethod y ∈ lw_tbl) (h3 : Cond.selects C y y ∈ lw_tbl) (h4 : Cond.initialized C ∈ lw_tbl) (hc : Cond.code y c n r ∈ lw_tbl) : GoodIn (k :: lw_g) (wsV own idx C y (zw y c n r)) :=
  zg_V (List.mem_filter.mpr ⟨h1, rfl⟩) (List.mem_filter.mpr ⟨h2, rfl⟩) (List.mem_filter.mpr ⟨h3, rfl⟩) (List.mem_filter.mpr ⟨h4, rfl⟩) (List.mem_filter.mpr ⟨hc, rfl⟩)
def zm_L_ladder : zf_M := (([((-2147483648), 2147483647), ((-2147483648), 2147483647)], [], 64, [], [.inr (some (36, 36)), .inl ([(1, 1)], 0), .inl ([(0, 1)], 0), .inr (some (0, 0))], []), zl_eff, [(some (.inl ([(2, 1)], 0)), ([((-2147483648), 2147483647), ((-2147483648), 2147483647), (0, 1)], [], 64, [], [], []))])
theorem dL_ladder_0 : decode cL_ladder 0 = .ok (.aload_n 3, 1) := by decide +kernel
theorem dL_ladder_1 : decode cL_ladder 1 = .ok (.iconst 0, 1) := by decide +kernel
theorem dL_ladder_2 : decode cL_ladder 2 = .ok (.aload_n 0, 1) := by decide +kernel
theorem dL_ladder_3 : decode cL_ladder 3 = .ok (.iload_n 1, 1) := by decide +kernel
theorem dL_ladder_4 : decode cL_ladder 4 = .ok (.iload_n 2, 1) := by decide +kernel
theorem dL_ladder_5 : decode cL_ladder 5 = .ok (.invokevirtual 7, 3) := by decide +kernel
theorem dL_ladder_8 : decode cL_ladder 8 = .ok (.i2l, 1) := by decide +kernel
theorem dL_ladder_9 : decode cL_ladder 9 = .ok (.lastore, 1) := by decide +kernel
theorem dL_ladder_10 : decode cL_ladder 10 = .ok (.goto 7, 3) := by decide +kernel
theorem dL_ladder_13 : decode cL_ladder 13 = .ok (.astore 4, 2) := by decide +kernel
theorem dL_ladder_15 : decode cL_ladder 15 = .ok (.iconst 1, 1) := by decide +kernel
theorem dL_ladder_16 : decode cL_ladder 16 = .ok (.ireturn, 1) := by decide +kernel
theorem dL_ladder_17 : decode cL_ladder 17 = .ok (.iconst 0, 1) := by decide +kernel
theorem dL_ladder_18 : decode cL_ladder 18 = .ok (.ireturn, 1) := by decide +kernel
def zn_L_ladder : List zf_X := [(8, 1, .i2l, []), (9, 1, .lastore, []), (10, 3, .goto 7, []), (17, 1, .iconst 0, []), (18, 1, .ireturn, [])]
set_option maxRecDepth 100000 in
set_option maxHeartbeats 4000000 in
theorem kr_L_ladder : zf_run 2 64 37 5 zGT zm_L_ladder [] [] [] zn_L_ladder [] none 50 8 ([((-2147483648), 2147483647), ((-2147483648), 2147483647), ((-2147483648), 2147483647)], [], 64, [], [.inl ([(2, 1)], 0), .inl ([], 0), .inr (some (36, 36))], []) = true := by decide +kernel
set_option maxRecDepth 100000 in
set_option maxHeartbeats 4000000 in
theorem kl_L_ladder (l : Launch) (hlt : l.stackTraces = false) (D : va_G) (k : Nat → ClassId) (B0 : Nat) (ad : Nat → Nat) (al sw : Nat) : zl_Con l yL_ladder (zwL yL_ladder cL_ladder 5 [(0, 10, 13, 13)]) ({ frames := 7, cells := 1, slots := 6, locals := 103 }) D k (zTx B0 ad al sw) zGT 37 zm_L_ladder := by
  intro Sg ws ρ θ vs sz hone hsing ht hpre
  obtain ⟨e1, e2, e3, -⟩ := hpre
  obtain ⟨_, vs1, rfl, ⟨rfl, g3⟩, f1⟩ := zf_f2_c e3
  obtain ⟨_, vs2, rfl, ⟨x1, rfl, hx1⟩, f2⟩ := zf_f2_c f1
  obtain ⟨_, vs3, rfl, ⟨x0, rfl, hx0⟩, f3⟩ := zf_f2_c f2
  obtain ⟨_, vs4, rfl, ⟨rfl, g0⟩, f4⟩ := zf_f2_c f3
  cases zf_nil f4
  have g0 : Sg (θ 0) = some 0 := g0
  have g3 : Sg (θ 36) = some 36 := g3
  show Met l yL_ladder _ _ (va_Pc ([.ref (θ 0), .int x0, .int x1, .ref (θ 36)] : List Value) (g_pr D k (zTx B0 ad al sw Sg ws) sz ws)) _ 1 6 _
  refine va_MetW (hh := [(0, 10, 13, 13)]) (cc := cL_ladder) (maxL := 5) (ret := (some .int)) (by decide) rfl ?_
  intro p e s m args below meth c s₁ B hml hv
  obtain ⟨rfl, hsz, hP, hK, hD0, hE⟩ := hv
  have hEx := zTx_ok B0 ad al sw
  have hx := B.exec
  have hb := B.bytes
  have hr := B.returns
  have hts := atoms_spec (ws := zwL yL_ladder cL_ladder 5 [(0, 10, 13, 13)]) B.pre
  have hown : s.vm.findClass RL = some m.cls := findClass_of_methodNamed B.named
  have hlocks := B.notSynchronized
  subst hsz
  have hD := hD0.self (sz := s.heap.size)
  have hAB := hEx.2.1 Sg ws s hE
  generalize hAe : va_A ws s.heap.size = A at hD hAB ⊢
  have hA : ∀ q : Nat, s.heap.size ≤ q → A q := fun q h => by rw [← hAe]; exact Or.inr h
  have hS : va_S A s.heap s.heap [] := va_S.rf
  have hl := lv_entry ([.ref (θ 0), .int x0, .int x1, .ref (θ 36)] : List Value) (n := 5) (Nat.le_of_ble_eq_true rfl)
  rw [lg_entry_eq]
  generalize (lg_sl ([.ref (θ 0), .int x0, .int x1, .ref (θ 36)] : List Value) ++ List.replicate (5 - (lg_sl ([.ref (θ 0), .int x0, .int x1, .ref (θ 36)] : List Value)).length) Slot.unset).toArray = ls at hl ⊢
  have hl : lv_has ls 5 [(0, .ref (θ 0)), (1, .int x0), (2, .int x1), (3, .ref (θ 36))] := hl
  have htab : c.exceptionTable.toList = tableOf [(0, 10, 13, 13)] := vx_table (x := yL_ladder) B (hts _ List.mem_cons_self)
  refine lv_aload_n hx hb dL_ladder_0 rfl (lv_at hl 3 rfl) ?_
  refine lv_iconst (v := 0) hx hb dL_ladder_1 (by decide) ?_
  refine lv_aload_n hx hb dL_ladder_2 rfl (lv_at hl 0 rfl) ?_
  refine lv_iload_n hx hb dL_ladder_3 rfl (lv_at hl 1 rfl) ?_
  refine lv_iload_n hx hb dL_ladder_4 rfl (lv_at hl 2 rfl) ?_
  refine zt_crV (As := [.int x0, .int x1]) (rest := [.int 0, .ref (θ 36)]) (b := θ 0) (ρ := ρ) (θ := θ) ⟨hx, hb, hml, hown, hts⟩ hEx hE hAB hA hK hone hsing (kt_X12_ladder l hlt D k B0 ad al sw) (cwV 2 hts (zg_L (List.mem_of_getElem? (i := 1220) (by decide +kernel)) (List.mem_of_getElem? (i := 1221) (by decide +kernel)) (List.mem_of_getElem? (i := 1222) (by decide +kernel)) (List.mem_of_getElem? (i := 95) (by decide +kernel)) (List.mem_of_getElem? (i := 1223) (by decide +kernel))) rfl rfl rfl (by decide +kernel) ⟨Nat.le_of_ble_eq_true rfl, Nat.le_of_ble_eq_true rfl⟩) ⟨Nat.le_of_ble_eq_true rfl, Nat.le_of_ble_eq_true rfl⟩ rfl g0 (by decide +kernel) hP hD hS ht ⟨e1, e2, ⟨⟨x1, rfl, hx1⟩, ⟨x0, rfl, hx0⟩, ⟨rfl, g0⟩, trivial⟩, fun h hh => by cases hh⟩ dL_ladder_5 hl.1 (Nat.le_of_ble_eq_true rfl) ?_ ?_
  · intro q2 ce ws1 H locs ht1 hf1 hP hD hS hc1 hc2 hc3
    refine cx_catch (name := "java/util/NoSuchElementException") hown ⟨0, 10, 13, 13⟩ [] htab (by decide) (by decide) (hts (.classLink RL 13 "java/util/NoSuchElementException") (List.mem_cons_of_mem _ (List.mem_filter.mpr ⟨(List.mem_of_getElem? (i := 1219) (by decide +kernel)), rfl⟩))) (va_Nw.use rfl hE.2.2.1) hc1 hc2 hc3 ?_
    refine W.widen (k := 1) (n := 6) (Nat.le_of_ble_eq_true rfl) (Nat.le_of_ble_eq_true rfl) ?_
    refine W.eq (g2 := F0 m 13 ls [.ref q2]) rfl ?_
    refine lv_astore (lv' := [(4, .ref q2), (0, .ref (θ 0)), (1, .int x0), (2, .int x1), (3, .ref (θ 36))]) hx hb dL_ladder_13 hl (by decide) rfl (fun ls hl => ?_)
    refine lv_iconst (v := 1) hx hb dL_ladder_15 (by decide) ?_
    refine W.iret hx hb hr (fun t ht' hW => ⟨⟨_, rfl, ws1, by rw [ht']; exact hP, va_K.moved hW.alike hK, hD, ⟨_, List.mem_cons_self, zf_up ρ 2 1, θ, fun j hj => if_neg (Nat.ne_of_lt hj), fun _ _ => rfl, zf_okE1 e1 (x := 1) (v := (0, 1)) ⟨by decide, by decide⟩, fun g hg => (by cases hg), fun h hh => (by cases hh), ⟨1, rfl, ?_⟩⟩, ht1, zl_fr0 hf1⟩, hS.F ht'⟩) hS.2.2 dL_ladder_16 hlocks
    show (1 : Int32).toInt = zf_v _ (zf_sym 2)
    rw [zf_v_sym, zf_up_n]; decide
  · intro v ws1 H locs hpost hP hD hS
    obtain ⟨⟨o, ho, ρ1, θ1, -, -, -, -, -, hro⟩, ht1, hf1⟩ := hpost
    have hv : ∃ x : Int32, v = some (.int x) := by
      have hq := List.all_eq_true.mp (show zf_tyo (some .int) zm_X12_ladder = true by decide +kernel) o ho
      cases h0 : o.1 with
      | none => rw [h0] at hq; cases hq
      | some q =>
        rw [h0] at hq hro
        match v, q, hq, hro with
        | some w, .inl f, _, ⟨x, e, _⟩ => exact ⟨x, by rw [e]⟩
        | none, .inl f, _, h => exact h.elim
    obtain ⟨x, rfl⟩ := hv
    refine zf_run_ok (D := D) (k := k) (H0 := s.heap) (A := A) (Sg := Sg) (GT := zGT) (NS := 37) (nL := 5) (cl := vwCl) (M := zm_L_ladder) (Ms := []) (fg := []) (fp := []) (ins := zn_L_ladder) (ws0 := ws) (ρe := ρ) (θe := θ) (om := none) (cuts := []) hx hb hK hone (Nat.le_of_ble_eq_true rfl) hsing (fun H locs hS' => hEx.2.2.2 Sg ws s H locs A hE hAB hS') zf_an zf_an (fun x hx' => of_decide_eq_true (List.all_eq_true.mp (show zn_L_ladder.all (fun x => decide (decode cL_ladder x.1 = .ok (x.2.2.1, x.2.1))) = true by decide +kernel) x hx')) (fun x hx' j hj => ?_) ?_ (by decide +kernel) (n0 := 2) (r0 := 64) (ρ0 := ρ) (θ0 := θ) (Nat.le_refl _) (Nat.le_refl _) (fun _ _ => rfl) (fun _ _ => rfl) (fun x hx' => by cases hx') zf_an 50 8 _ kr_L_ladder (zf_up ρ 2 x.toInt) θ ws1 H locs ls [.int x, .int 0, .ref (θ 36)] (fun j hj => if_neg (Nat.ne_of_lt hj)) (fun _ _ => rfl) ⟨hP, hD, hS, ht1, zl_fr0 hf1⟩ ⟨zf_okE1 e1 (x := x.toInt) ⟨zi_lo _, zi_hi _⟩, fun g hg => (by cases hg), ⟨[], ⟨hl.1, hl.2.1, fun q hq => by cases hq⟩, trivial⟩, ⟨⟨x, rfl, ?_⟩, ⟨0, rfl, rfl⟩, ⟨rfl, g3⟩, trivial⟩, fun h hh => (by cases hh)⟩
    · exfalso
      have hq : zn_L_ladder.all (fun x => x.2.2.2.isEmpty) = true := by decide +kernel
      have := List.all_eq_true.mp hq x hx'
      rw [List.isEmpty_iff] at this
      rw [this] at hj; cases hj
    · intro H locs ws' ls pc i v hP' hD' hS' hpost hdg hrv
      have post : ∀ t : State, t.heap = H → s.WarmedH t.vm → zf_Q (zf_po D k Sg zGT ρ θ zm_L_ladder ws A) A ([.ref (θ 0), .int x0, .int x1, .ref (θ 36)] : List Value).toArray s (.returned v) t := fun t ht' hW => ⟨⟨v, rfl, ws', by rw [ht']; exact hP', va_K.moved hW.alike hK, hD', hpost⟩, hS'.F ht'⟩
      obtain ⟨rfl, x, rfl⟩ := zt_ri (by decide +kernel) hpost hrv
      exact W.iret hx hb hr post hS'.2.2 hdg hlocks
    · show x.toInt = zf_v _ (zf_sym 2)
      rw [zf_v_sym, zf_up_n]
def zm_L_test : zf_M := (([((-2147483648), 2147483647), ((-2147483648), 2147483647)], [], 64, [], [.inr (some (36, 36)), .inl ([(1, 1)], 0), .inl ([(0, 1)], 0), .inr (some (0, 0))], []), zl_eff, [(some (.inl ([(2, 1)], 0)), ([((-2147483648), 2147483647), ((-2147483648), 2147483647), (0, 1)], [], 64, [], [], []))])
theorem dL_test_0 : decode cL_test 0 = .ok (.aload_n 3, 1) := by decide +kernel
theorem dL_test_1 : decode cL_test 1 = .ok (.iconst 0, 1) := by decide +kernel
theorem dL_test_2 : decode cL_test 2 = .ok (.aload_n 0, 1) := by decide +kernel
theorem dL_test_3 : decode cL_test 3 = .ok (.iload_n 1, 1) := by decide +kernel
theorem dL_test_4 : decode cL_test 4 = .ok (.iload_n 2, 1) := by decide +kernel
theorem dL_test_5 : decode cL_test 5 = .ok (.invokevirtual 15, 3) := by decide +kernel
theorem dL_test_8 : decode cL_test 8 = .ok (.i2l, 1) := by decide +kernel
theorem dL_test_9 : decode cL_test 9 = .ok (.lastore, 1) := by decide +kernel
theorem dL_test_10 : decode cL_test 10 = .ok (.goto 7, 3) := by decide +kernel
theorem dL_test_13 : decode cL_test 13 = .ok (.astore 4, 2) := by decide +kernel
theorem dL_test_15 : decode cL_test 15 = .ok (.iconst 1, 1) := by decide +kernel
theorem dL_test_16 : decode cL_test 16 = .ok (.ireturn, 1) := by decide +kernel
theorem dL_test_17 : decode cL_test 17 = .ok (.iconst 0, 1) := by decide +kernel
theorem dL_test_18 : decode cL_test 18 = .ok (.ireturn, 1) := by decide +kernel
def zn_L_test : List zf_X := [(8, 1, .i2l, []), (9, 1, .lastore, []), (10, 3, .goto 7, []), (17, 1, .iconst 0, []), (18, 1, .ireturn, [])]
set_option maxRecDepth 100000 in
set_option maxHeartbeats 4000000 in
theorem kr_L_test : zf_run 2 64 37 5 zGT zm_L_test [] [] [] zn_L_test [] none 50 8 ([((-2147483648), 2147483647), ((-2147483648), 2147483647), ((-2147483648), 2147483647)], [], 64, [], [.inl ([(2, 1)], 0), .inl ([], 0), .inr (some (36, 36))], []) = true := by decide +kernel
set_option maxRecDepth 100000 in
set_option maxHeartbeats 4000000 in
theorem kl_L_test (l : Launch) (hlt : l.stackTraces = false) (D : va_G) (k : Nat → ClassId) (B0 : Nat) (ad : Nat → Nat) (al sw : Nat) : zl_Con l yL_test (zwL yL_test cL_test 5 [(0, 10, 13, 13)]) ({ frames := 7, cells := 1, slots := 6, locals := 108 }) D k (zTx B0 ad al sw) zGT 37 zm_L_test := by
  intro Sg ws ρ θ vs sz hone hsing ht hpre
  obtain ⟨e1, e2, e3, -⟩ := hpre
  obtain ⟨_, vs1, rfl, ⟨rfl, g3⟩, f1⟩ := zf_f2_c e3
  obtain ⟨_, vs2, rfl, ⟨x1, rfl, hx1⟩, f2⟩ := zf_f2_c f1
  obtain ⟨_, vs3, rfl, ⟨x0, rfl, hx0⟩, f3⟩ := zf_f2_c f2
  obtain ⟨_, vs4, rfl, ⟨rfl, g0⟩, f4⟩ := zf_f2_c f3
  cases zf_nil f4
  have g0 : Sg (θ 0) = some 0 := g0
  have g3 : Sg (θ 36) = some 36 := g3
  show Met l yL_test _ _ (va_Pc ([.ref (θ 0), .int x0, .int x1, .ref (θ 36)] : List Value) (g_pr D k (zTx B0 ad al sw Sg ws) sz ws)) _ 1 6 _
  refine va_MetW (hh := [(0, 10, 13, 13)]) (cc := cL_test) (maxL := 5) (ret := (some .int)) (by decide) rfl ?_
  intro p e s m args below meth c s₁ B hml hv
  obtain ⟨rfl, hsz, hP, hK, hD0, hE⟩ := hv
  have hEx := zTx_ok B0 ad al sw
  have hx := B.exec
  have hb := B.bytes
  have hr := B.returns
  have hts := atoms_spec (ws := zwL yL_test cL_test 5 [(0, 10, 13, 13)]) B.pre
  have hown : s.vm.findClass RL = some m.cls := findClass_of_methodNamed B.named
  have hlocks := B.notSynchronized
  subst hsz
  have hD := hD0.self (sz := s.heap.size)
  have hAB := hEx.2.1 Sg ws s hE
  generalize hAe : va_A ws s.heap.size = A at hD hAB ⊢
  have hA : ∀ q : Nat, s.heap.size ≤ q → A q := fun q h => by rw [← hAe]; exact Or.inr h
  have hS : va_S A s.heap s.heap [] := va_S.rf
  have hl := lv_entry ([.ref (θ 0), .int x0, .int x1, .ref (θ 36)] : List Value) (n := 5) (Nat.le_of_ble_eq_true rfl)
  rw [lg_entry_eq]
  generalize (lg_sl ([.ref (θ 0), .int x0, .int x1, .ref (θ 36)] : List Value) ++ List.replicate (5 - (lg_sl ([.ref (θ 0), .int x0, .int x1, .ref (θ 36)] : List Value)).length) Slot.unset).toArray = ls at hl ⊢
  have hl : lv_has ls 5 [(0, .ref (θ 0)), (1, .int x0), (2, .int x1), (3, .ref (θ 36))] := hl
  have htab : c.exceptionTable.toList = tableOf [(0, 10, 13, 13)] := vx_table (x := yL_test) B (hts _ List.mem_cons_self)
  refine lv_aload_n hx hb dL_test_0 rfl (lv_at hl 3 rfl) ?_
  refine lv_iconst (v := 0) hx hb dL_test_1 (by decide) ?_
  refine lv_aload_n hx hb dL_test_2 rfl (lv_at hl 0 rfl) ?_
  refine lv_iload_n hx hb dL_test_3 rfl (lv_at hl 1 rfl) ?_
  refine lv_iload_n hx hb dL_test_4 rfl (lv_at hl 2 rfl) ?_
  refine zt_crV (As := [.int x0, .int x1]) (rest := [.int 0, .ref (θ 36)]) (b := θ 0) (ρ := ρ) (θ := θ) ⟨hx, hb, hml, hown, hts⟩ hEx hE hAB hA hK hone hsing (kt_X12_test l hlt D k B0 ad al sw) (cwV 2 hts (zg_L (List.mem_of_getElem? (i := 1288) (by decide +kernel)) (List.mem_of_getElem? (i := 1289) (by decide +kernel)) (List.mem_of_getElem? (i := 1290) (by decide +kernel)) (List.mem_of_getElem? (i := 95) (by decide +kernel)) (List.mem_of_getElem? (i := 1291) (by decide +kernel))) rfl rfl rfl (by decide +kernel) ⟨Nat.le_of_ble_eq_true rfl, Nat.le_of_ble_eq_true rfl⟩) ⟨Nat.le_of_ble_eq_true rfl, Nat.le_of_ble_eq_true rfl⟩ rfl g0 (by decide +kernel) hP hD hS ht ⟨e1, e2, ⟨⟨x1, rfl, hx1⟩, ⟨x0, rfl, hx0⟩, ⟨rfl, g0⟩, trivial⟩, fun h hh => by cases hh⟩ dL_test_5 hl.1 (Nat.le_of_ble_eq_true rfl) ?_ ?_
  · intro q2 ce ws1 H locs ht1 hf1 hP hD hS hc1 hc2 hc3
    refine cx_catch (name := "java/util/NoSuchElementException") hown ⟨0, 10, 13, 13⟩ [] htab (by decide) (by decide) (hts (.classLink RL 13 "java/util/NoSuchElementException") (List.mem_cons_of_mem _ (List.mem_filter.mpr ⟨(List.mem_of_getElem? (i := 1219) (by decide +kernel)), rfl⟩))) (va_Nw.use rfl hE.2.2.1) hc1 hc2 hc3 ?_
    refine W.widen (k := 1) (n := 6) (Nat.le_of_ble_eq_true rfl) (Nat.le_of_ble_eq_true rfl) ?_
    refine W.eq (g2 := F0 m 13 ls [.ref q2]) rfl ?_
    refine lv_astore (lv' := [(4, .ref q2), (0, .ref (θ 0)), (1, .int x0), (2, .int x1), (3, .ref (θ 36))]) hx hb dL_test_13 hl (by decide) rfl (fun ls hl => ?_)
    refine lv_iconst (v := 1) hx hb dL_test_15 (by decide) ?_
    refine W.iret hx hb hr (fun t ht' hW => ⟨⟨_, rfl, ws1, by rw [ht']; exact hP, va_K.moved hW.alike hK, hD, ⟨_, List.mem_cons_self, zf_up ρ 2 1, θ, fun j hj => if_neg (Nat.ne_of_lt hj), fun _ _ => rfl, zf_okE1 e1 (x := 1) (v := (0, 1)) ⟨by decide, by decide⟩, fun g hg => (by cases hg), fun h hh => (by cases hh), ⟨1, rfl, ?_⟩⟩, ht1, zl_fr0 hf1⟩, hS.F ht'⟩) hS.2.2 dL_test_16 hlocks
    show (1 : Int32).toInt = zf_v _ (zf_sym 2)
    rw [zf_v_sym, zf_up_n]; decide
  · intro v ws1 H locs hpost hP hD hS
    obtain ⟨⟨o, ho, ρ1, θ1, -, -, -, -, -, hro⟩, ht1, hf1⟩ := hpost
    have hv : ∃ x : Int32, v = some (.int x) := by
      have hq := List.all_eq_true.mp (show zf_tyo (some .int) zm_X12_test = true by decide +kernel) o ho
      cases h0 : o.1 with
      | none => rw [h0] at hq; cases hq
      | some q =>
        rw [h0] at hq hro
        match v, q, hq, hro with
        | some w, .inl f, _, ⟨x, e, _⟩ => exact ⟨x, by rw [e]⟩
        | none, .inl f, _, h => exact h.elim
    obtain ⟨x, rfl⟩ := hv
    refine zf_run_ok (D := D) (k := k) (H0 := s.heap) (A := A) (Sg := Sg) (GT := zGT) (NS := 37) (nL := 5) (cl := vwCl) (M := zm_L_test) (Ms := []) (fg := []) (fp := []) (ins := zn_L_test) (ws0 := ws) (ρe := ρ) (θe := θ) (om := none) (cuts := []) hx hb hK hone (Nat.le_of_ble_eq_true rfl) hsing (fun H locs hS' => hEx.2.2.2 Sg ws s H locs A hE hAB hS') zf_an zf_an (fun x hx' => of_decide_eq_true (List.all_eq_true.mp (show zn_L_test.all (fun x => decide (decode cL_test x.1 = .ok (x.2.2.1, x.2.1))) = true by decide +kernel) x hx')) (fun x hx' j hj => ?_) ?_ (by decide +kernel) (n0 := 2) (r0 := 64) (ρ0 := ρ) (θ0 := θ) (Nat.le_refl _) (Nat.le_refl _) (fun _ _ => rfl) (fun _ _ => rfl) (fun x hx' => by cases hx') zf_an 50 8 _ kr_L_test (zf_up ρ 2 x.toInt) θ ws1 H locs ls [.int x, .int 0, .ref (θ 36)] (fun j hj => if_neg (Nat.ne_of_lt hj)) (fun _ _ => rfl) ⟨hP, hD, hS, ht1, zl_fr0 hf1⟩ ⟨zf_okE1 e1 (x := x.toInt) ⟨zi_lo _, zi_hi _⟩, fun g hg => (by cases hg), ⟨[], ⟨hl.1, hl.2.1, fun q hq => by cases hq⟩, trivial⟩, ⟨⟨x, rfl, ?_⟩, ⟨0, rfl, rfl⟩, ⟨rfl, g3⟩, trivial⟩, fun h hh => (by cases hh)⟩
    · exfalso
      have hq : zn_L_test.all (fun x => x.2.2.2.isEmpty) = true := by decide +kernel
      have := List.all_eq_true.mp hq x hx'
      rw [List.isEmpty_iff] at this
      rw [this] at hj; cases hj
    · intro H locs ws' ls pc i v hP' hD' hS' hpost hdg hrv
      have post : ∀ t : State, t.heap = H → s.WarmedH t.vm → zf_Q (zf_po D k Sg zGT ρ θ zm_L_test ws A) A ([.ref (θ 0), .int x0, .int x1, .ref (θ 36)] : List Value).toArray s (.returned v) t := fun t ht' hW => ⟨⟨v, rfl, ws', by rw [ht']; exact hP', va_K.moved hW.alike hK, hD', hpost⟩, hS'.F ht'⟩
      obtain ⟨rfl, x, rfl⟩ := zt_ri (by decide +kernel) hpost hrv
      exact W.iret hx hb hr post hS'.2.2 hdg hlocks
    · show x.toInt = zf_v _ (zf_sym 2)
      rw [zf_v_sym, zf_up_n]
def zm_L_stands : zf_M := (([((-2147483648), 2147483647)], [], 64, [], [.inr (some (36, 36)), .inl ([(0, 1)], 0), .inr (some (0, 0))], []), zl_eff, [(some (.inl ([(1, 1)], 0)), ([((-2147483648), 2147483647), (0, 1)], [], 64, [], [], []))])
theorem dL_stands_0 : decode cL_stands 0 = .ok (.aload_n 2, 1) := by decide +kernel
theorem dL_stands_1 : decode cL_stands 1 = .ok (.iconst 0, 1) := by decide +kernel
theorem dL_stands_2 : decode cL_stands 2 = .ok (.aload_n 0, 1) := by decide +kernel
theorem dL_stands_3 : decode cL_stands 3 = .ok (.iload_n 1, 1) := by decide +kernel
theorem dL_stands_4 : decode cL_stands 4 = .ok (.invokevirtual 18, 3) := by decide +kernel
theorem dL_stands_7 : decode cL_stands 7 = .ok (.i2l, 1) := by decide +kernel
theorem dL_stands_8 : decode cL_stands 8 = .ok (.lastore, 1) := by decide +kernel
theorem dL_stands_9 : decode cL_stands 9 = .ok (.goto 6, 3) := by decide +kernel
theorem dL_stands_12 : decode cL_stands 12 = .ok (.astore_n 3, 1) := by decide +kernel
theorem dL_stands_13 : decode cL_stands 13 = .ok (.iconst 1, 1) := by decide +kernel
theorem dL_stands_14 : decode cL_stands 14 = .ok (.ireturn, 1) := by decide +kernel
theorem dL_stands_15 : decode cL_stands 15 = .ok (.iconst 0, 1) := by decide +kernel
theorem dL_stands_16 : decode cL_stands 16 = .ok (.ireturn, 1) := by decide +kernel
def zn_L_stands : List zf_X := [(7, 1, .i2l, []), (8, 1, .lastore, []), (9, 3, .goto 6, []), (15, 1, .iconst 0, []), (16, 1, .ireturn, [])]
set_option maxRecDepth 100000 in
set_option maxHeartbeats 4000000 in
theorem kr_L_stands : zf_run 1 64 37 4 zGT zm_L_stands [] [] [] zn_L_stands [] none 50 7 ([((-2147483648), 2147483647), ((-2147483648), 2147483647)], [], 64, [], [.inl ([(1, 1)], 0), .inl ([], 0), .inr (some (36, 36))], []) = true := by decide +kernel
set_option maxRecDepth 100000 in
set_option maxHeartbeats 4000000 in
theorem kl_L_stands (l : Launch) (hlt : l.stackTraces = false) (D : va_G) (k : Nat → ClassId) (B0 : Nat) (ad : Nat → Nat) (al sw : Nat) : zl_Con l yL_stands (zwL yL_stands cL_stands 4 [(0, 9, 12, 13)]) ({ frames := 7, cells := 1, slots := 6, locals := 130 }) D k (zTx B0 ad al sw) zGT 37 zm_L_stands := by
  intro Sg ws ρ θ vs sz hone hsing ht hpre
  obtain ⟨e1, e2, e3, -⟩ := hpre
  obtain ⟨_, vs1, rfl, ⟨rfl, g3⟩, f1⟩ := zf_f2_c e3
  obtain ⟨_, vs2, rfl, ⟨x0, rfl, hx0⟩, f2⟩ := zf_f2_c f1
  obtain ⟨_, vs3, rfl, ⟨rfl, g0⟩, f3⟩ := zf_f2_c f2
  cases zf_nil f3
  have g0 : Sg (θ 0) = some 0 := g0
  have g3 : Sg (θ 36) = some 36 := g3
  show Met l yL_stands _ _ (va_Pc ([.ref (θ 0), .int x0, .ref (θ 36)] : List Value) (g_pr D k (zTx B0 ad al sw Sg ws) sz ws)) _ 1 6 _
  refine va_MetW (hh := [(0, 9, 12, 13)]) (cc := cL_stands) (maxL := 4) (ret := (some .int)) (by decide) rfl ?_
  intro p e s m args below meth c s₁ B hml hv
  obtain ⟨rfl, hsz, hP, hK, hD0, hE⟩ := hv
  have hEx := zTx_ok B0 ad al sw
  have hx := B.exec
  have hb := B.bytes
  have hr := B.returns
  have hts := atoms_spec (ws := zwL yL_stands cL_stands 4 [(0, 9, 12, 13)]) B.pre
  have hown : s.vm.findClass RL = some m.cls := findClass_of_methodNamed B.named
  have hlocks := B.notSynchronized
  subst hsz
  have hD := hD0.self (sz := s.heap.size)
  have hAB := hEx.2.1 Sg ws s hE
  generalize hAe : va_A ws s.heap.size = A at hD hAB ⊢
  have hA : ∀ q : Nat, s.heap.size ≤ q → A q := fun q h => by rw [← hAe]; exact Or.inr h
  have hS : va_S A s.heap s.heap [] := va_S.rf
  have hl := lv_entry ([.ref (θ 0), .int x0, .ref (θ 36)] : List Value) (n := 4) (Nat.le_of_ble_eq_true rfl)
  rw [lg_entry_eq]
  generalize (lg_sl ([.ref (θ 0), .int x0, .ref (θ 36)] : List Value) ++ List.replicate (4 - (lg_sl ([.ref (θ 0), .int x0, .ref (θ 36)] : List Value)).length) Slot.unset).toArray = ls at hl ⊢
  have hl : lv_has ls 4 [(0, .ref (θ 0)), (1, .int x0), (2, .ref (θ 36))] := hl
  have htab : c.exceptionTable.toList = tableOf [(0, 9, 12, 13)] := vx_table (x := yL_stands) B (hts _ List.mem_cons_self)
  refine lv_aload_n hx hb dL_stands_0 rfl (lv_at hl 2 rfl) ?_
  refine lv_iconst (v := 0) hx hb dL_stands_1 (by decide) ?_
  refine lv_aload_n hx hb dL_stands_2 rfl (lv_at hl 0 rfl) ?_
  refine lv_iload_n hx hb dL_stands_3 rfl (lv_at hl 1 rfl) ?_
  refine zt_crV (As := [.int x0]) (rest := [.int 0, .ref (θ 36)]) (b := θ 0) (ρ := ρ) (θ := θ) ⟨hx, hb, hml, hown, hts⟩ hEx hE hAB hA hK hone hsing (kt_X12_stands l hlt D k B0 ad al sw) (cwV 1 hts (zg_L (List.mem_of_getElem? (i := 1302) (by decide +kernel)) (List.mem_of_getElem? (i := 1303) (by decide +kernel)) (List.mem_of_getElem? (i := 1304) (by decide +kernel)) (List.mem_of_getElem? (i := 95) (by decide +kernel)) (List.mem_of_getElem? (i := 1305) (by decide +kernel))) rfl rfl rfl (by decide +kernel) ⟨Nat.le_of_ble_eq_true rfl, Nat.le_of_ble_eq_true rfl⟩) ⟨Nat.le_of_ble_eq_true rfl, Nat.le_of_ble_eq_true rfl⟩ rfl g0 (by decide +kernel) hP hD hS ht ⟨e1, e2, ⟨⟨x0, rfl, hx0⟩, ⟨rfl, g0⟩, trivial⟩, fun h hh => by cases hh⟩ dL_stands_4 hl.1 (Nat.le_of_ble_eq_true rfl) ?_ ?_
  · intro q2 ce ws1 H locs ht1 hf1 hP hD hS hc1 hc2 hc3
    refine cx_catch (name := "java/util/NoSuchElementException") hown ⟨0, 9, 12, 13⟩ [] htab (by decide) (by decide) (hts (.classLink RL 13 "java/util/NoSuchElementException") (List.mem_cons_of_mem _ (List.mem_filter.mpr ⟨(List.mem_of_getElem? (i := 1219) (by decide +kernel)), rfl⟩))) (va_Nw.use rfl hE.2.2.1) hc1 hc2 hc3 ?_
    refine W.widen (k := 1) (n := 6) (Nat.le_of_ble_eq_true rfl) (Nat.le_of_ble_eq_true rfl) ?_
    refine W.eq (g2 := F0 m 12 ls [.ref q2]) rfl ?_
    refine lv_astore_n (lv' := [(3, .ref q2), (0, .ref (θ 0)), (1, .int x0), (2, .ref (θ 36))]) hx hb dL_stands_12 rfl hl (by decide) rfl (fun ls hl => ?_)
    refine lv_iconst (v := 1) hx hb dL_stands_13 (by decide) ?_
    refine W.iret hx hb hr (fun t ht' hW => ⟨⟨_, rfl, ws1, by rw [ht']; exact hP, va_K.moved hW.alike hK, hD, ⟨_, List.mem_cons_self, zf_up ρ 1 1, θ, fun j hj => if_neg (Nat.ne_of_lt hj), fun _ _ => rfl, zf_okE1 e1 (x := 1) (v := (0, 1)) ⟨by decide, by decide⟩, fun g hg => (by cases hg), fun h hh => (by cases hh), ⟨1, rfl, ?_⟩⟩, ht1, zl_fr0 hf1⟩, hS.F ht'⟩) hS.2.2 dL_stands_14 hlocks
    show (1 : Int32).toInt = zf_v _ (zf_sym 1)
    rw [zf_v_sym, zf_up_n]; decide
  · intro v ws1 H locs hpost hP hD hS
    obtain ⟨⟨o, ho, ρ1, θ1, -, -, -, -, -, hro⟩, ht1, hf1⟩ := hpost
    have hv : ∃ x : Int32, v = some (.int x) := by
      have hq := List.all_eq_true.mp (show zf_tyo (some .int) zm_X12_stands = true by decide +kernel) o ho
      cases h0 : o.1 with
      | none => rw [h0] at hq; cases hq
      | some q =>
        rw [h0] at hq hro
        match v, q, hq, hro with
        | some w, .inl f, _, ⟨x, e, _⟩ => exact ⟨x, by rw [e]⟩
        | none, .inl f, _, h => exact h.elim
    obtain ⟨x, rfl⟩ := hv
    refine zf_run_ok (D := D) (k := k) (H0 := s.heap) (A := A) (Sg := Sg) (GT := zGT) (NS := 37) (nL := 4) (cl := vwCl) (M := zm_L_stands) (Ms := []) (fg := []) (fp := []) (ins := zn_L_stands) (ws0 := ws) (ρe := ρ) (θe := θ) (om := none) (cuts := []) hx hb hK hone (Nat.le_of_ble_eq_true rfl) hsing (fun H locs hS' => hEx.2.2.2 Sg ws s H locs A hE hAB hS') zf_an zf_an (fun x hx' => of_decide_eq_true (List.all_eq_true.mp (show zn_L_stands.all (fun x => decide (decode cL_stands x.1 = .ok (x.2.2.1, x.2.1))) = true by decide +kernel) x hx')) (fun x hx' j hj => ?_) ?_ (by decide +kernel) (n0 := 1) (r0 := 64) (ρ0 := ρ) (θ0 := θ) (Nat.le_refl _) (Nat.le_refl _) (fun _ _ => rfl) (fun _ _ => rfl) (fun x hx' => by cases hx') zf_an 50 7 _ kr_L_stands (zf_up ρ 1 x.toInt) θ ws1 H locs ls [.int x, .int 0, .ref (θ 36)] (fun j hj => if_neg (Nat.ne_of_lt hj)) (fun _ _ => rfl) ⟨hP, hD, hS, ht1, zl_fr0 hf1⟩ ⟨zf_okE1 e1 (x := x.toInt) ⟨zi_lo _, zi_hi _⟩, fun g hg => (by cases hg), ⟨[], ⟨hl.1, hl.2.1, fun q hq => by cases hq⟩, trivial⟩, ⟨⟨x, rfl, ?_⟩, ⟨0, rfl, rfl⟩, ⟨rfl, g3⟩, trivial⟩, fun h hh => (by cases hh)⟩
    · exfalso
      have hq : zn_L_stands.all (fun x => x.2.2.2.isEmpty) = true := by decide +kernel
      have := List.all_eq_true.mp hq x hx'
      rw [List.isEmpty_iff] at this
      rw [this] at hj; cases hj
    · intro H locs ws' ls pc i v hP' hD' hS' hpost hdg hrv
      have post : ∀ t : State, t.heap = H → s.WarmedH t.vm → zf_Q (zf_po D k Sg zGT ρ θ zm_L_stands ws A) A ([.ref (θ 0), .int x0, .ref (θ 36)] : List Value).toArray s (.returned v) t := fun t ht' hW => ⟨⟨v, rfl, ws', by rw [ht']; exact hP', va_K.moved hW.alike hK, hD', hpost⟩, hS'.F ht'⟩
      obtain ⟨rfl, x, rfl⟩ := zt_ri (by decide +kernel) hpost hrv
      exact W.iret hx hb hr post hS'.2.2 hdg hlocks
    · show x.toInt = zf_v _ (zf_sym 1)
      rw [zf_v_sym, zf_up_n]
