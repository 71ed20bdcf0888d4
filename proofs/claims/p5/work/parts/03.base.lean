/-! ===== base: worlds, contracts and calls in one shape ===== -/
/-- the array classes: int, long, boolean, byte, Town, Sentence, Key -/
def tyz (k : Nat → ClassId) : List (ClassId × FieldType) := [(k 0, .int), (k 1, .long), (k 2, .boolean), (k 3, .byte), (k 4, .object "RungMoney$Town"), (k 5, .object "RungMoney$Sentence"), (k 6, .object "RungMoney$Key")]
def g_pr (D : va_G) (k : Nat → ClassId) (E : State → Prop) (sz : Nat) (ws : va_W) : State → Prop := fun U => U.heap.size = sz ∧ va_P D vwCl ws U.heap ∧ va_K D vwCl (tyz k) U ∧ va_D (fun _ => True) ws ∧ E U
def g_po (D : va_G) (k : Nat → ClassId) (A : Nat → Prop) (ws : va_W) : State → Prop := fun t => va_P D vwCl ws t.heap ∧ va_K D vwCl (tyz k) t ∧ va_D A ws
/-- a method that answers an int (or a truth): the world ws before, w1 u behind, the answer r -/
def g_Ci (l : Launch) (y : MethodName) (wsY : List Cond) (rm : Room) (D : va_G) (k : Nat → ClassId) (E : State → Prop) (av : List Value) (ws : va_W) (r : Int32) (w1 : (Nat → Nat) → va_W) (mc ms : Nat) : Prop :=
  ∀ sz : Nat, Met l y wsY rm (va_Pc av (g_pr D k E sz ws)) (va_Qi (fun x (_ : Nat → Nat) => x = r) (fun u t => g_po D k (va_A ws sz) (w1 u) t) (va_A ws sz)) mc ms (va_A ws sz)
def g_Cv (l : Launch) (y : MethodName) (wsY : List Cond) (rm : Room) (D : va_G) (k : Nat → ClassId) (E : State → Prop) (av : List Value) (ws : va_W) (w1 : (Nat → Nat) → va_W) (mc ms : Nat) : Prop :=
  ∀ sz : Nat, Met l y wsY rm (va_Pc av (g_pr D k E sz ws)) (va_Qv (fun (_ : Nat → Nat) => True) (fun u t => g_po D k (va_A ws sz) (w1 u) t) (va_A ws sz)) mc ms (va_A ws sz)
def g_E0 : State → Prop := fun _ => True
/-- what is said of a state stays over a new frame and over warmer tables -/
def g_Ok (E : State → Prop) : Prop := (∀ (a : Array Value) (U : State) (g : JFrame) (mk : MethodId), E U → E (U.calling g mk a))
theorem g_E0_ok : g_Ok g_E0 := fun _ _ _ _ _ => trivial
theorem g_fm {α β : Type} (f : α → Option β) : ∀ (is : List α) (w : List β), is.map f = w.map some → is.filterMap f = w
  | [], w, h => by cases w with
    | nil => rfl
    | cons a t => simp at h
  | i :: is, w, h => by
    cases w with
    | nil => simp at h
    | cons a t =>
      simp only [List.map_cons, List.cons.injEq] at h
      rw [List.filterMap_cons, h.1, g_fm f is t h.2]
section G1
variable {p : Program} {l : Launch} {e : Env} {R : Room} {s : State} {m : MethodId} {args : Array Value} {below : List Frame} {meth : Method} {c : Code} {H : Heap} {locs : List Loc} {cells slots : Nat} {Q : State → Prop}
variable {cc bytes : ByteArray} {nL maxL pc : Nat} {ls : Array Slot} {As rest st0 : List Value} {D : va_G} {A : Nat → Prop} {k : Nat → ClassId} {ws wc wr : va_W} {w1 : (Nat → Nat) → va_W} {mc ms : Nat} {own C host : String} {index n : Nat} {y : MethodName} {wsY Ts : List Cond} {rm : Room} {ret : Option FieldType} {r : Int32} {b : Addr} {H0 : Heap} {E : State → Prop} {args' : Array Value}
theorem g_blind (hE : g_Ok E) {av : List Value} {sz : Nat} : FrameBlind (va_Pc av (g_pr D k E sz ws)) := fun a U g mk q => by
  obtain ⟨q0, q1, qP, qK, qD, qE⟩ := q
  exact ⟨q0, q1, qP, va_K.moved (u := U) (U := U.calling g mk a) (Vm.Alike.refl U.vm) qK, qD, hE a U g mk qE⟩
theorem g_pre (hE : ∀ U : State, U.heap = H → s.WarmedH U.vm → E U) (hK : va_K D vwCl (tyz k) s) (hP : va_P D vwCl ws H) (hD : va_D A ws) (isC : List Nat) (hC : isC.map (fun i => ws[i]?) = wc.map some) (hnC : va_nd isC = true) {av : List Value} :
    ∀ U : State, U.heap = H → s.WarmedH U.vm → va_Pc av (g_pr D k E H.size wc) av.toArray U := fun U hU hW =>
  ⟨rfl, by rw [hU], by rw [hU]; exact hP.sub isC (g_fm _ _ _ hC), va_K.moved hW.alike hK, (hD.sub isC hnC hC).weaken (fun _ _ _ _ => trivial), hE U hU hW⟩
theorem g_ki (hS : va_S A H0 H locs) (hA : ∀ q, H0.size ≤ q → A q) (hP : va_P D vwCl ws H) (hD : va_D A ws) (isC isR : List Nat) (hC : isC.map (fun i => ws[i]?) = wc.map some) (hR : isR.map (fun i => ws[i]?) = wr.map some) (hn : va_nd isR = true) (hdis : ∀ i ∈ isR, i ∉ isC)
    (hr : va_Run p l e R s m args below meth c H locs cells slots mc ms (F0 m pc ls st0) rest (va_Qi (fun x (_ : Nat → Nat) => x = r) (fun u t => g_po D k (va_A wc H.size) (w1 u) t) (va_A wc H.size) args') (va_A wc H.size))
    (kk : ∀ (u : Nat → Nat) (H1 : Heap) (locs1 : List Loc), va_P D vwCl (wr ++ w1 u) H1 → va_D A (wr ++ w1 u) → va_S A H0 H1 locs1 → W p l e R s m args below meth c H1 locs1 (cells + mc) (slots + ms) Q (F0 m (pc + 3) ls (.int r :: rest))) :
    W p l e R s m args below meth c H locs cells slots Q (F0 m pc ls st0) := by
  have hFc := va_free hD hS hA isC hC
  refine va_calli hr hS (fun q _ h => hFc q h) hFc (fun x u t H1 locs ht hvm hw hB hz1 hk1 hS => ?_)
  subst hw
  obtain ⟨hP1, hK1, hD1⟩ := hB
  rw [ht] at hP1
  obtain ⟨hP, hD⟩ := va_join hP hD isC isR hC hR hn hdis hk1 hFc hP1 hD1
  exact kk u H1 locs hP hD hS
theorem g_kv (hS : va_S A H0 H locs) (hA : ∀ q, H0.size ≤ q → A q) (hP : va_P D vwCl ws H) (hD : va_D A ws) (isC isR : List Nat) (hC : isC.map (fun i => ws[i]?) = wc.map some) (hR : isR.map (fun i => ws[i]?) = wr.map some) (hn : va_nd isR = true) (hdis : ∀ i ∈ isR, i ∉ isC)
    (hr : va_Run p l e R s m args below meth c H locs cells slots mc ms (F0 m pc ls st0) rest (va_Qv (fun (_ : Nat → Nat) => True) (fun u t => g_po D k (va_A wc H.size) (w1 u) t) (va_A wc H.size) args') (va_A wc H.size))
    (kk : ∀ (u : Nat → Nat) (H1 : Heap) (locs1 : List Loc), va_P D vwCl (wr ++ w1 u) H1 → va_D A (wr ++ w1 u) → va_S A H0 H1 locs1 → W p l e R s m args below meth c H1 locs1 (cells + mc) (slots + ms) Q (F0 m (pc + 3) ls rest)) :
    W p l e R s m args below meth c H locs cells slots Q (F0 m pc ls st0) := by
  have hFc := va_free hD hS hA isC hC
  refine va_callv hr hS (fun q _ h => hFc q h) hFc (fun u t H1 locs ht hvm hw hB hz1 hk1 hS => ?_)
  obtain ⟨hP1, hK1, hD1⟩ := hB
  rw [ht] at hP1
  obtain ⟨hP, hD⟩ := va_join hP hD isC isR hC hR hn hdis hk1 hFc hP1 hD1
  exact kk u H1 locs hP hD hS
/-- a virtual call that answers an int -/
theorem g_iV (S : CallFix p m c cc nL s args Ts own) (hM : g_Ci l y wsY rm D k E (.ref b :: As) wc r w1 mc ms) (cw : CallW R s args own C index y bytes maxL ret wsY rm mc ms n) (hEo : g_Ok E) (hE : ∀ U : State, U.heap = H → s.WarmedH U.vm → E U) (hK : va_K D vwCl (tyz k) s) (hP : va_P D vwCl ws H) (hD : va_D A ws) (hS : va_S A H0 H locs) (hA : ∀ q, H0.size ≤ q → A q)
    (q0 ci : Nat) {q : vw_C} {fs : List Value} (hcl : vwCl[ci]? = some q) (hqC : q.1 = C) (hrec : ws[q0]? = some (b, .inr (ci, fs)))
    (isC isR : List Nat) (hC : isC.map (fun i => ws[i]?) = wc.map some) (hR : isR.map (fun i => ws[i]?) = wr.map some) (hnd : va_nd isC = true ∧ va_nd isR = true ∧ isR.all (fun i => decide (i ∉ isC)) = true)
    (hn1 : As.length = n) (hsize : ls.size = nL) (hst : st0 = As.reverse ++ .ref b :: rest) (hW : (rest.map fun v => v.category).sum ≤ 8) (hdg : decode cc pc = .ok (.invokevirtual index, 3)) (hf : cells + mc ≤ R.cells ∧ slots + ms ≤ R.slots)
    (kk : ∀ (u : Nat → Nat) (H1 : Heap) (locs1 : List Loc), va_P D vwCl (wr ++ w1 u) H1 → va_D A (wr ++ w1 u) → va_S A H0 H1 locs1 → W p l e R s m args below meth c H1 locs1 (cells + mc) (slots + ms) Q (F0 m (pc + 3) ls (.int r :: rest))) :
    W p l e R s m args below meth c H locs cells slots Q (F0 m pc ls st0) := by
  subst hqC
  exact g_ki hS hA hP hD isC isR hC hR hnd.2.1 (fun i hi => by have := List.all_eq_true.mp hnd.2.2 i hi; exact of_decide_eq_true this) (va_runV S (hM H.size) cw ⟨g_blind hEo, va_recv hK hP hcl hrec, g_pre hE hK hP hD isC hC hnd.1⟩ rfl hn1 hsize hst (lv_room (rest := rest) (ls := ls) (pc := pc) (m := m) hW) hdg hf) kk
theorem g_vV (S : CallFix p m c cc nL s args Ts own) (hM : g_Cv l y wsY rm D k E (.ref b :: As) wc w1 mc ms) (cw : CallW R s args own C index y bytes maxL ret wsY rm mc ms n) (hEo : g_Ok E) (hE : ∀ U : State, U.heap = H → s.WarmedH U.vm → E U) (hK : va_K D vwCl (tyz k) s) (hP : va_P D vwCl ws H) (hD : va_D A ws) (hS : va_S A H0 H locs) (hA : ∀ q, H0.size ≤ q → A q)
    (q0 ci : Nat) {q : vw_C} {fs : List Value} (hcl : vwCl[ci]? = some q) (hqC : q.1 = C) (hrec : ws[q0]? = some (b, .inr (ci, fs)))
    (isC isR : List Nat) (hC : isC.map (fun i => ws[i]?) = wc.map some) (hR : isR.map (fun i => ws[i]?) = wr.map some) (hnd : va_nd isC = true ∧ va_nd isR = true ∧ isR.all (fun i => decide (i ∉ isC)) = true)
    (hn1 : As.length = n) (hsize : ls.size = nL) (hst : st0 = As.reverse ++ .ref b :: rest) (hW : (rest.map fun v => v.category).sum ≤ 8) (hdg : decode cc pc = .ok (.invokevirtual index, 3)) (hf : cells + mc ≤ R.cells ∧ slots + ms ≤ R.slots)
    (kk : ∀ (u : Nat → Nat) (H1 : Heap) (locs1 : List Loc), va_P D vwCl (wr ++ w1 u) H1 → va_D A (wr ++ w1 u) → va_S A H0 H1 locs1 → W p l e R s m args below meth c H1 locs1 (cells + mc) (slots + ms) Q (F0 m (pc + 3) ls rest)) :
    W p l e R s m args below meth c H locs cells slots Q (F0 m pc ls st0) := by
  subst hqC
  exact g_kv hS hA hP hD isC isR hC hR hnd.2.1 (fun i hi => by have := List.all_eq_true.mp hnd.2.2 i hi; exact of_decide_eq_true this) (va_runV S (hM H.size) cw ⟨g_blind hEo, va_recv hK hP hcl hrec, g_pre hE hK hP hD isC hC hnd.1⟩ rfl hn1 hsize hst (lv_room (rest := rest) (ls := ls) (pc := pc) (m := m) hW) hdg hf) kk
theorem g_iS (S : CallFix p m c cc nL s args Ts own) (hM : g_Ci l y wsY rm D k E As wc r w1 mc ms) (cw : CallB R s args own index y bytes maxL ret wsY rm mc ms n ∧ (Cond.static y).before args s = true) (hEo : g_Ok E) (hE : ∀ U : State, U.heap = H → s.WarmedH U.vm → E U) (hK : va_K D vwCl (tyz k) s) (hP : va_P D vwCl ws H) (hD : va_D A ws) (hS : va_S A H0 H locs) (hA : ∀ q, H0.size ≤ q → A q)
    (isC isR : List Nat) (hC : isC.map (fun i => ws[i]?) = wc.map some) (hR : isR.map (fun i => ws[i]?) = wr.map some) (hnd : va_nd isC = true ∧ va_nd isR = true ∧ isR.all (fun i => decide (i ∉ isC)) = true)
    (hn1 : As.length = n) (hsize : ls.size = nL) (hst : st0 = As.reverse ++ rest) (hW : (rest.map fun v => v.category).sum ≤ 8) (hdg : decode cc pc = .ok (.invokestatic index, 3)) (hf : cells + mc ≤ R.cells ∧ slots + ms ≤ R.slots)
    (kk : ∀ (u : Nat → Nat) (H1 : Heap) (locs1 : List Loc), va_P D vwCl (wr ++ w1 u) H1 → va_D A (wr ++ w1 u) → va_S A H0 H1 locs1 → W p l e R s m args below meth c H1 locs1 (cells + mc) (slots + ms) Q (F0 m (pc + 3) ls (.int r :: rest))) :
    W p l e R s m args below meth c H locs cells slots Q (F0 m pc ls st0) :=
  g_ki hS hA hP hD isC isR hC hR hnd.2.1 (fun i hi => by have := List.all_eq_true.mp hnd.2.2 i hi; exact of_decide_eq_true this) (va_runS S (hM H.size) cw ⟨g_blind hEo, g_pre hE hK hP hD isC hC hnd.1⟩ rfl hn1 hsize hst (lv_room (rest := rest) (ls := ls) (pc := pc) (m := m) hW) hdg hf) kk
theorem g_vS (S : CallFix p m c cc nL s args Ts own) (hM : g_Cv l y wsY rm D k E As wc w1 mc ms) (cw : CallB R s args own index y bytes maxL ret wsY rm mc ms n ∧ (Cond.static y).before args s = true) (hEo : g_Ok E) (hE : ∀ U : State, U.heap = H → s.WarmedH U.vm → E U) (hK : va_K D vwCl (tyz k) s) (hP : va_P D vwCl ws H) (hD : va_D A ws) (hS : va_S A H0 H locs) (hA : ∀ q, H0.size ≤ q → A q)
    (isC isR : List Nat) (hC : isC.map (fun i => ws[i]?) = wc.map some) (hR : isR.map (fun i => ws[i]?) = wr.map some) (hnd : va_nd isC = true ∧ va_nd isR = true ∧ isR.all (fun i => decide (i ∉ isC)) = true)
    (hn1 : As.length = n) (hsize : ls.size = nL) (hst : st0 = As.reverse ++ rest) (hW : (rest.map fun v => v.category).sum ≤ 8) (hdg : decode cc pc = .ok (.invokestatic index, 3)) (hf : cells + mc ≤ R.cells ∧ slots + ms ≤ R.slots)
    (kk : ∀ (u : Nat → Nat) (H1 : Heap) (locs1 : List Loc), va_P D vwCl (wr ++ w1 u) H1 → va_D A (wr ++ w1 u) → va_S A H0 H1 locs1 → W p l e R s m args below meth c H1 locs1 (cells + mc) (slots + ms) Q (F0 m (pc + 3) ls rest)) :
    W p l e R s m args below meth c H locs cells slots Q (F0 m pc ls st0) :=
  g_kv hS hA hP hD isC isR hC hR hnd.2.1 (fun i hi => by have := List.all_eq_true.mp hnd.2.2 i hi; exact of_decide_eq_true this) (va_runS S (hM H.size) cw ⟨g_blind hEo, g_pre hE hK hP hD isC hC hnd.1⟩ rfl hn1 hsize hst (lv_room (rest := rest) (ls := ls) (pc := pc) (m := m) hW) hdg hf) kk
theorem g_vI (S : CallFix p m c cc nL s args Ts own) (hM : g_Cv l y wsY rm D k E (.ref b :: As) wc w1 mc ms) (cw : CallB R s args own index y bytes maxL none wsY rm mc ms n ∧ y.name = "<init>" ∧ (Cond.instanceMethod y).before args s = true) (hEo : g_Ok E) (hE : ∀ U : State, U.heap = H → s.WarmedH U.vm → E U) (hK : va_K D vwCl (tyz k) s) (hP : va_P D vwCl ws H) (hD : va_D A ws) (hS : va_S A H0 H locs) (hA : ∀ q, H0.size ≤ q → A q)
    (isC isR : List Nat) (hC : isC.map (fun i => ws[i]?) = wc.map some) (hR : isR.map (fun i => ws[i]?) = wr.map some) (hnd : va_nd isC = true ∧ va_nd isR = true ∧ isR.all (fun i => decide (i ∉ isC)) = true)
    (hn1 : As.length = n) (hsize : ls.size = nL) (hst : st0 = As.reverse ++ .ref b :: rest) (hW : (rest.map fun v => v.category).sum ≤ 8) (hdg : decode cc pc = .ok (.invokespecial index, 3)) (hf : cells + mc ≤ R.cells ∧ slots + ms ≤ R.slots)
    (kk : ∀ (u : Nat → Nat) (H1 : Heap) (locs1 : List Loc), va_P D vwCl (wr ++ w1 u) H1 → va_D A (wr ++ w1 u) → va_S A H0 H1 locs1 → W p l e R s m args below meth c H1 locs1 (cells + mc) (slots + ms) Q (F0 m (pc + 3) ls rest)) :
    W p l e R s m args below meth c H locs cells slots Q (F0 m pc ls st0) :=
  g_kv hS hA hP hD isC isR hC hR hnd.2.1 (fun i hi => by have := List.all_eq_true.mp hnd.2.2 i hi; exact of_decide_eq_true this) (va_runI S (hM H.size) cw ⟨g_blind hEo, g_pre hE hK hP hD isC hC hnd.1⟩ rfl hn1 hsize hst (lv_room (rest := rest) (ls := ls) (pc := pc) (m := m) hW) hdg hf) kk
theorem g_vIN (S : CallFix p m c cc nL s args Ts own) (hM : g_Cv l y wsY rm D k E (.ref b :: As) wc w1 mc ms) (cw : va_CN R s args own index y host bytes maxL none wsY rm mc ms n ∧ y.name = "<init>" ∧ (Cond.instanceMethod y).before args s = true) (hEo : g_Ok E) (hE : ∀ U : State, U.heap = H → s.WarmedH U.vm → E U) (hK : va_K D vwCl (tyz k) s) (hP : va_P D vwCl ws H) (hD : va_D A ws) (hS : va_S A H0 H locs) (hA : ∀ q, H0.size ≤ q → A q)
    (isC isR : List Nat) (hC : isC.map (fun i => ws[i]?) = wc.map some) (hR : isR.map (fun i => ws[i]?) = wr.map some) (hnd : va_nd isC = true ∧ va_nd isR = true ∧ isR.all (fun i => decide (i ∉ isC)) = true)
    (hn1 : As.length = n) (hsize : ls.size = nL) (hst : st0 = As.reverse ++ .ref b :: rest) (hW : (rest.map fun v => v.category).sum ≤ 8) (hdg : decode cc pc = .ok (.invokespecial index, 3)) (hf : cells + mc ≤ R.cells ∧ slots + ms ≤ R.slots)
    (kk : ∀ (u : Nat → Nat) (H1 : Heap) (locs1 : List Loc), va_P D vwCl (wr ++ w1 u) H1 → va_D A (wr ++ w1 u) → va_S A H0 H1 locs1 → W p l e R s m args below meth c H1 locs1 (cells + mc) (slots + ms) Q (F0 m (pc + 3) ls rest)) :
    W p l e R s m args below meth c H locs cells slots Q (F0 m pc ls st0) :=
  g_kv hS hA hP hD isC isR hC hR hnd.2.1 (fun i hi => by have := List.all_eq_true.mp hnd.2.2 i hi; exact of_decide_eq_true this) (va_runIN S (hM H.size) cw ⟨g_blind hEo, g_pre hE hK hP hD isC hC hnd.1⟩ rfl hn1 hsize hst (lv_room (rest := rest) (ls := ls) (pc := pc) (m := m) hW) hdg hf) kk
/-- the ends -/
theorem g_iret {v : Int32} {ty : FieldType} (hx : p.tables.exec = Jvm.exec) (hb : c.code = cc) (hr : meth.sig.returnType = some ty) (hn : narrow ty (.int v) = .int v) (hlocks : meth.locks = false) (hK : va_K D vwCl (tyz k) s) (u : Nat → Nat) (hP : va_P D vwCl (w1 u) H) (hD : va_D A (w1 u)) (hS : va_S A s.heap H locs) (hv : v = r) (hdg : decode cc pc = .ok (.ireturn, 1)) (hm : cells ≤ mc ∧ slots ≤ ms) :
    W p l e R s m args below meth c H locs cells slots (MQ below (va_Qi (fun x (_ : Nat → Nat) => x = r) (fun u t => g_po D k A (w1 u) t) A) args s mc ms A) (F0 m pc ls [.int v]) := by
  refine W.widen (k := mc) (n := ms) hm.1 hm.2 ?_
  exact W.zret hx hb hr hn (fun t ht hW => ⟨⟨v, u, rfl, hv, by rw [ht]; exact hP, va_K.moved hW.alike hK, hD⟩, hS.F ht⟩) hS.2.2 hdg hlocks
theorem g_vret (hx : p.tables.exec = Jvm.exec) (hb : c.code = cc) (hr : meth.sig.returnType = none) (hlocks : meth.locks = false) (hK : va_K D vwCl (tyz k) s) (u : Nat → Nat) (hP : va_P D vwCl (w1 u) H) (hD : va_D A (w1 u)) (hS : va_S A s.heap H locs) (hdg : decode cc pc = .ok (.return_, 1)) (hm : cells ≤ mc ∧ slots ≤ ms) :
    W p l e R s m args below meth c H locs cells slots (MQ below (va_Qv (fun (_ : Nat → Nat) => True) (fun u t => g_po D k A (w1 u) t) A) args s mc ms A) (F0 m pc ls []) := by
  refine W.widen (k := mc) (n := ms) hm.1 hm.2 ?_
  exact W.vret hx hb hr (fun t ht hW => ⟨⟨u, rfl, trivial, by rw [ht]; exact hP, va_K.moved hW.alike hK, hD⟩, hS.F ht⟩) hS.2.2 hdg hlocks
/-- a new row of ints (longs, truths, bytes) has the class of all such -/
theorem g_cls {tys : List (ClassId × FieldType)} {cA : ClassId} {ty : FieldType} (i : Nat) (j : Nat) (h : va_K D vwCl tys s) {cB : ClassId} (h1 : tys[i]? = some (cA, ty)) (h2 : tys[j]? = some (cB, ty)) (hp : refKind ty = false) : cB = cA := by
  have e1 := (h.2 i _ h1).2
  have e2 := (h.2 j _ h2).2
  cases ty <;> first | (exact Option.some.inj (e2.symm.trans e1)) | (simp [refKind] at hp)
theorem g_clsO {tys : List (ClassId × FieldType)} {cA : ClassId} {C : String} (i : Nat) (j : Nat) (h : va_K D vwCl tys s) {cB : ClassId} (h1 : tys[i]? = some (cA, .object C)) (h2 : tys[j]? = some (cB, .object C)) : cB = cA := by
  obtain ⟨-, -, -, -, -, e1⟩ := (h.2 i _ h1).2
  obtain ⟨-, -, -, -, -, e2⟩ := (h.2 j _ h2).2
  exact Option.some.inj (e2.symm.trans e1)
end G1
theorem g_upd0 (k : Nat) : upd (fun _ => (0 : Int32)) k 0 = fun _ => (0 : Int32) := by
  funext j; simp [upd]
theorem g_upds (f : Nat → Int32) (k : Nat) (x : Int32) (h : x = f k) : upd f k x = f := by
  funext j
  by_cases hj : j = k
  · subst hj; simp [upd, h]
  · simp [upd, hj]
theorem g_cpy0 (a b n : Nat) : va_cpy (fun _ => (0 : Int32)) (fun _ => (0 : Int32)) a b n = fun _ => (0 : Int32) := by
  funext j; simp [va_cpy]
theorem g_cpyL (a b n : Nat) : va_cpy (fun _ => (0 : Int64)) (fun _ => (0 : Int64)) a b n = fun _ => (0 : Int64) := by
  funext j; simp [va_cpy]
theorem fa_lt (a b : Int32) : a < b ↔ a.toInt < b.toInt := Int32.lt_iff_toInt_lt
theorem fa_le (a b : Int32) : a ≤ b ↔ a.toInt ≤ b.toInt := Int32.le_iff_toInt_le
theorem fa_eq (a b : Int32) : a = b ↔ a.toInt = b.toInt := ⟨fun h => by rw [h], fun h => Int32.toInt_inj.mp h⟩
/-- a loop that counts i up to N, an invariant of heap, written places and locals -/
theorem g_loop {p : Program} {l : Launch} {e : Env} {R : Room} {s : State} {m : MethodId} {args : Array Value} {below : List Frame} {meth : Method} {c : Code} {cells slots : Nat} {Q : State → Prop}
    (head N : Nat) (I : Nat → Heap → List Loc → Array Slot → Prop) (stk : List Value)
    (hx : ∀ (H : Heap) (locs : List Loc) (ls : Array Slot), I N H locs ls → W p l e R s m args below meth c H locs cells slots Q (F0 m head ls stk))
    (hs : ∀ i : Nat, i < N → (∀ (H : Heap) (locs : List Loc) (ls : Array Slot), I (i + 1) H locs ls → W p l e R s m args below meth c H locs cells slots Q (F0 m head ls stk)) → ∀ (H : Heap) (locs : List Loc) (ls : Array Slot), I i H locs ls → W p l e R s m args below meth c H locs cells slots Q (F0 m head ls stk)) :
    ∀ i : Nat, i ≤ N → ∀ (H : Heap) (locs : List Loc) (ls : Array Slot), I i H locs ls → W p l e R s m args below meth c H locs cells slots Q (F0 m head ls stk) := by
  have key : ∀ n i : Nat, i + n = N → ∀ (H : Heap) (locs : List Loc) (ls : Array Slot), I i H locs ls → W p l e R s m args below meth c H locs cells slots Q (F0 m head ls stk) := by
    intro n
    induction n with
    | zero => intro i hi; obtain rfl : i = N := by omega
              exact hx
    | succ n ih => intro i hi; exact hs i (by omega) (ih (i + 1) (by omega))
  exact fun i hi => key (N - i) i (by omega)
theorem g_dn (N i : Nat) (h : i < N) : nI (N - i) + Int32.ofInt (-1) = nI (N - (i + 1)) := by
  obtain ⟨j, rfl⟩ : ∃ j, N = j + i + 1 := ⟨N - i - 1, by omega⟩
  rw [show j + i + 1 - i = j + 1 by omega, show j + i + 1 - (i + 1) = j by omega]
  exact pk_m1 j
/-- rows of references that are all there -/
def rgf (w : Nat → Nat) (n : Nat) : Nat → Option Nat := fun j => if j < n then some (w j) else none
theorem rgf_eq {w w' : Nat → Nat} {n : Nat} (h : ∀ j, j < n → w j = w' j) : rgf w n = rgf w' n := by
  funext j
  by_cases hj : j < n
  · simp [rgf, hj, h j hj]
  · simp [rgf, hj]
def by8 (x s : Int32) : Int32 := (x.toUInt32 >>> (s.toUInt32 &&& Int32.toUInt32 31)).toInt32 &&& 255
/-- the reference's numbers at the start: all 0, but the rot is 1 -/
def sf : Nat → Int32 := upd (fun _ => 0) 2 1
theorem sf_0 {n : Nat} (h : n ≠ 2) (hn : n < 2 ^ 31) : sf (nI n).toNatClampNeg = 0 := by
  rw [nI_clamp hn]; simp [sf, upd, h]
theorem g_updL0 (k : Nat) : vp_updL (fun _ => (0 : Int64)) k 0 = fun _ => (0 : Int64) := by
  funext j; simp [vp_updL]
/-- what was told last, at the start: -1 at the four places -/
def tl4 : Nat → Int32 := upd (upd (upd (upd (fun _ => 0) 0 (-1)) 1 (-1)) 2 (-1)) 3 (-1)
theorem g_upd2 (f : Nat → Int32) (k : Nat) (x y : Int32) : upd (upd f k x) k y = upd f k y := by
  funext j
  by_cases hj : j = k
  · simp [upd, hj]
  · simp [upd, hj]
def rb8 (v k : Int32) : Int32 := (v >>> (k &&& 31)).toInt8.toInt32
