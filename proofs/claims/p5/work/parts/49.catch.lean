/-! ===== a method that throws NoSuchElementException, and its catching by a first row ===== -/
def gDw (U : State) : Prop := va_Nw (.declares ⟨"java/lang/RuntimeException", "<init>", "()V"⟩) U ∧ va_Nw (.declares ⟨"java/lang/Exception", "<init>", "()V"⟩) U ∧ va_Nw (.declares ⟨"java/lang/Throwable", "<init>", "()V"⟩) U
def gY (B0 : Nat) (ad : Nat → Nat) (al : Nat) (ws : va_W) : State → Prop := fun U => gX B0 ad al ws U ∧ gDw U
theorem gY_ok {B0 : Nat} {ad : Nat → Nat} {al : Nat} {ws : va_W} : g_Ok (gY B0 ad al ws) := fun a U g mk h =>
  ⟨gX_ok a U g mk h.1, va_Nw.same rfl (u := U) (U := U.calling g mk a) rfl h.2.1, va_Nw.same rfl (u := U) (U := U.calling g mk a) rfl h.2.2.1, va_Nw.same rfl (u := U) (U := U.calling g mk a) rfl h.2.2.2⟩
theorem gY_pass {B0 : Nat} {ad : Nat → Nat} {al : Nat} {w0 ws wc : va_W} {s : State} {H : Heap} {locs : List Loc} {A : Nat → Prop} (hE : gY B0 ad al w0 s) (hAB : ∀ q, A q → B0 ≤ q) (hS : va_S A s.heap H locs) (hD : va_D A ws) (isC : List Nat) (hC : isC.map (fun i => ws[i]?) = wc.map some) :
    ∀ U : State, U.heap = H → s.WarmedH U.vm → gY B0 ad al wc U := fun U hU hW =>
  ⟨gX_pass hE.1 hAB hS hD isC hC U hU hW, hE.2.1.warmD hW, hE.2.2.1.warmD hW, hE.2.2.2.warmD hW⟩
def g_Ct (l : Launch) (y : MethodName) (wsY : List Cond) (rm : Room) (D : va_G) (k : Nat → ClassId) (E : State → Prop) (av : List Value) (ws : va_W) (mc ms : Nat) : Prop :=
  ∀ sz : Nat, vx_Met l y wsY rm (va_Pc av (g_pr D k E sz ws)) (va_Qi (fun _ (_ : Nat → Nat) => False) (fun _ _ => True) (va_A ws sz)) (vx_X (fun (_ : Unit) => True) (fun E9 _ t => E9 = "java/util/NoSuchElementException" ∧ g_po D k (va_A ws sz) ws t) (va_A ws sz)) mc ms (va_A ws sz)
theorem g_thr {D : va_G} {k : Nat → ClassId} {A : Nat → Prop} {ws : va_W} {s : State} {H : Heap} {locs : List Loc} (hK : va_K D vwCl (tyz k) s) (hP : va_P D vwCl ws H) (hD : va_D A ws) (hS : va_S A s.heap H locs) :
    ∀ t : State, s.vm.Alike t.vm → H.size ≤ t.heap.size → (∀ q : Nat, q < H.size → t.heap[q]? = H[q]?) → vx_X (fun (_ : Unit) => True) (fun E9 _ t => E9 = "java/util/NoSuchElementException" ∧ g_po D k A ws t) A "java/util/NoSuchElementException" s t := by
  intro t hvm hz hk
  exact ⟨(), trivial, ⟨rfl, hP.kept (fun j q h => hk q.1 (hP j q h).lt), va_K.moved hvm hK, hD⟩, Nat.le_trans hS.1 hz, fun q h1 h2 => (hk q (Nat.lt_of_lt_of_le h1 hS.1)).trans (hS.2.1 q h1 h2)⟩
section G5
variable {p : Program} {l : Launch} {e : Env} {R : Room} {s : State} {m : MethodId} {args : Array Value} {below : List Frame} {meth : Method} {c : Code} {H : Heap} {locs : List Loc} {cells slots : Nat} {Q : State → Prop}
variable {cc bytes : ByteArray} {nL maxL pc : Nat} {ls : Array Slot} {As rest st0 : List Value} {D : va_G} {A : Nat → Prop} {k : Nat → ClassId} {ws wc wr : va_W} {w1 : (Nat → Nat) → va_W} {mc ms : Nat} {own C host : String} {index n : Nat} {y : MethodName} {wsY Ts : List Cond} {rm : Room} {ret : Option FieldType} {r : Int32} {b : Addr} {H0 : Heap} {E : State → Prop} {args' : Array Value}
theorem g_tV (S : CallFix p m c cc nL s args Ts own) (hM : g_Ct l y wsY rm D k E (.ref b :: As) wc mc ms) (cw : CallW R s args own C index y bytes maxL ret wsY rm mc ms n) (hEo : g_Ok E) (hE : ∀ U : State, U.heap = H → s.WarmedH U.vm → E U) (hK : va_K D vwCl (tyz k) s) (hP : va_P D vwCl ws H) (hD : va_D A ws) (hS : va_S A H0 H locs) (hA : ∀ q, H0.size ≤ q → A q)
    (q0 ci : Nat) {q : vw_C} {fs : List Value} (hcl : vwCl[ci]? = some q) (hqC : q.1 = C) (hrec : ws[q0]? = some (b, .inr (ci, fs)))
    (isC isR : List Nat) (hC : isC.map (fun i => ws[i]?) = wc.map some) (hR : isR.map (fun i => ws[i]?) = wr.map some) (hnd : va_nd isC = true ∧ va_nd isR = true ∧ isR.all (fun i => decide (i ∉ isC)) = true)
    (hn1 : As.length = n) (hsize : ls.size = nL) (hst : st0 = As.reverse ++ .ref b :: rest) (hW : (rest.map fun v => v.category).sum ≤ 8) (hdg : decode cc pc = .ok (.invokevirtual index, 3)) (hf : cells + mc ≤ R.cells ∧ slots + ms ≤ R.slots)
    (kk : ∀ (q9 : Addr) (ce : Cell) (H1 : Heap) (locs1 : List Loc), va_P D vwCl (wr ++ wc) H1 → va_D A (wr ++ wc) → va_S A H0 H1 locs1 → H1[q9]? = some ce → ce.vm = .none → s.vm.findClass "java/util/NoSuchElementException" = some ce.cls → vx_W p l e R s m args below meth c H1 locs1 (cells + mc) (slots + ms) Q (F0 m pc ls rest) q9) :
    W p l e R s m args below meth c H locs cells slots Q (F0 m pc ls st0) := by
  subst hqC
  have hFc := va_free hD hS hA isC hC
  refine vx_calli (vx_runV S (hM H.size) cw ⟨g_blind hEo, va_recv hK hP hcl hrec, g_pre hE hK hP hD isC hC hnd.1⟩ rfl hn1 hsize hst (lv_room (rest := rest) (ls := ls) (pc := pc) (m := m) hW) hdg hf) hS (fun q _ h => hFc q h) hFc (fun q _ h => hFc q h) ?_ ?_
  · intro E9 ce q9 u t H1 locs1 ht hvm hpx hB hz1 hk1 hS1 hcell hv hcls
    obtain ⟨rfl, hP1, hK1, hD1⟩ := hB
    rw [ht] at hP1
    obtain ⟨hP, hD⟩ := va_join hP hD isC isR hC hR hnd.2.1 (fun i hi => by have := List.all_eq_true.mp hnd.2.2 i hi; exact of_decide_eq_true this) hk1 hFc hP1 hD1
    exact kk q9 ce H1 locs1 hP hD hS1 hcell hv hcls
  · intro r9 u t H1 locs1 ht hvm hw
    exact hw.elim
/-- the search for a handler, where the first row that is asked names a class that takes it -/
theorem cx_go {Qh : Handler → Pre} {Eh : CtlPost} {d : Bool} {acts : List Action} {S : State} {f : JFrame} {a : Addr} {x : ExceptionTableEntry} {t : List ExceptionTableEntry} {cT : ClassId} {cell : Cell} (hx : covers x f.pc = true) (h0 : x.catchType ≠ 0)
    (hl : S.vm.ClassLinks e.platform f.method.cls x.catchType cT) (hcell : S.heap[a]? = some cell) (hobj : ∀ k, cell.vm ≠ .statics k)
    (hk : ∃ k, S.vm.classes[cell.cls]? = some k) (hc : ∃ k, S.vm.classes[cT]? = some k) (hfit : S.vm.assignable cell.cls cT = true) :
    wp (findHandler.go f a (x :: t)) Qh Eh e d acts S ↔ Qh (.found x.handlerPc) d acts (S.setVm (S.vm.noted f.method.cls x.catchType (.cls cT))) := by
  simp only [covers] at hx
  obtain ⟨ha, ht⟩ := (resolveClass_links e.toSetting hl).op (op := VmOp.resolveClass f.method.cls x.catchType) rfl
  have hal : S.vm.Alike (S.vm.noted f.method.cls x.catchType (.cls cT)) := (Vm.Alike.refl S.vm).noted _ _ _
  obtain ⟨k1, hk1⟩ := hk
  obtain ⟨k2, hk2⟩ := hc
  obtain ⟨k1', hk1', -⟩ := hal.2.2 _ _ hk1
  obtain ⟨k2', hk2', -⟩ := hal.2.2 _ _ hk2
  have hfit' : (S.vm.noted f.method.cls x.catchType (.cls cT)).assignable cell.cls cT = true := by rw [hal.assignable]; exact hfit
  simp [findHandler.go, hx, h0, ha, ht, hcell, hobj, hk1', hk2', hfit', VmOp.dirties, VmOp.acts]
theorem cx_step {S : State} {a : Addr} {f : JFrame} {fr : List Frame} {pc9 : Nat} {vm' : Vm} (hfind : ∀ (Qh : Handler → Pre) (Eh : CtlPost) (d : Bool) (acts : List Action), wp (findHandler f a) Qh Eh e d acts S ↔ Qh (.found pc9) d acts (S.setVm vm')) :
    (stepThrowing e S a (.java f :: fr)).Is ((S.setVm vm').setFrames (.java { f with pc := pc9, stack := [.ref a] } :: fr)) [] := by
  simp only [stepThrowing, searchFrame, vmDo]
  generalize hr : Sem.go _ e false [] S = res
  obtain ⟨as, rfl, ha⟩ := Sem.eq_ok_of hr (a := Handler.found pc9) (s' := S.setVm vm') (acts' := []) (by simp [hfind _ _ _ _])
  exact ⟨rfl, ha⟩
theorem cx_frames (u : State) (vm' : Vm) (F G : List Frame) : ((u.setFrames F).setVm vm').setFrames G = (u.setVm vm').setFrames G := by
  have h1 : (u.setFrames F).setVm vm' = (u.setVm vm').setFrames F := rfl
  rw [h1, State.setFrames_setFrames]
theorem cx_steps {tb : Tables} {S target : State} {g : JFrame} {c9 : Code} {a : Addr} (h : At S g.method c9 below) {pc9 : Nat} {vm' : Vm}
    (hfind : ∀ (Qh : Handler → Pre) (Eh : CtlPost) (d : Bool) (acts : List Action), wp (findHandler g a) Qh Eh e d acts ((S.setTop g).pushFrame (.throwing a)) ↔ Qh (.found pc9) d acts (((S.setTop g).pushFrame (.throwing a)).setVm vm')) (hrest : Steps tb e below ((S.setVm vm').setTop { g with pc := pc9, stack := [.ref a] }) target) :
    Steps tb e below ((S.setTop g).pushFrame (.throwing a)) target := by
  obtain ⟨hgo, hw⟩ := h.throwing a
  refine Steps.head hgo hw ?_
  rw [stepThread_throwing (frames_entered h.top _), (cx_step (S := (S.setTop g).pushFrame (.throwing a)) hfind).1]
  obtain ⟨g₀, hg⟩ := Option.isSome_iff_exists.mp h.top
  obtain ⟨r, hr⟩ := State.topJava?_eq_some.mp hg
  have hr' : (S.setVm vm').frames = .java g₀ :: r := hr
  rw [State.setTop_of_frames _ hr'] at hrest
  rw [hr, List.tail_cons, State.pushFrame, cx_frames, State.setTop_of_frames _ hr, cx_frames]
  exact hrest
/-- caught by the first row of this method's table -/
theorem cx_catch {name E9 : String} {ce : Cell} {q : Addr} (hown : s.vm.findClass own = some m.cls) (x : ExceptionTableEntry) (suf : List ExceptionTableEntry) (hsplit : c.exceptionTable.toList = x :: suf) (hx : covers x pc = true) (h0 : x.catchType ≠ 0)
    (hlink : (Cond.classLink own x.catchType name).before args s = true) (hcast : (Cond.castable E9 name).before args s = true) (hcell : H[q]? = some ce) (hv : ce.vm = .none) (hcl : s.vm.findClass E9 = some ce.cls)
    (kk : W p l e R s m args below meth c H locs cells slots Q (F0 m x.handlerPc ls [.ref q])) : vx_W p l e R s m args below meth c H locs cells slots Q (F0 m pc ls rest) q := by
  intro T hT X
  have hpl : e.platform.magicAccessors = ({} : Platform).magicAccessors := by rw [X.admits.platform]
  obtain ⟨c3, c4, hc3, hc4, hasg⟩ := Cond.castable_spec hcast
  cases Option.some.inj (hc3.symm.trans hcl)
  obtain ⟨c5, hc5, hcl5⟩ := Cond.classLink_spec hown hlink e.platform hpl
  cases Option.some.inj (hc4.symm.trans hc5)
  obtain ⟨dk, _, _, kt, hd, _, _, _, _, hkt, _, hopen⟩ := hcl5.here
  have hcl₀ := X.warmed.classLinks hcl5
  have hW' : s.WarmedH (T.vm.noted m.cls x.catchType (.cls c4)) := X.warmed.noted hd hopen (State.rightAt_cls hcl5)
  have hal := X.warmed.alike
  obtain ⟨kt', hkt', -⟩ := hal.2.2 _ _ hkt
  have hfit' : T.vm.assignable ce.cls c4 = true := by rw [hal.assignable]; exact hasg
  have hcellT : T.heap[q]? = some ce := by rw [hT]; exact hcell
  obtain ⟨t, a1, b1⟩ := kk (T.setVm (T.vm.noted m.cls x.catchType (.cls c4))) hT (X.noted hW')
  refine ⟨t, cx_steps (S := T) (g := F0 m pc ls rest) (c9 := c) X.here (fun Qh Eh d acts => ?_) a1, b1⟩
  rw [W.findHandler_eq (s := (T.setTop (F0 m pc ls rest)).pushFrame (.throwing q)) (f := F0 m pc ls rest) (meth := meth) (code := c) X.method' X.code, hsplit]
  exact cx_go (S := (T.setTop (F0 m pc ls rest)).pushFrame (.throwing q)) (f := F0 m pc ls rest) hx h0 hcl₀ hcellT (VmData.ne_statics_of (by rw [hv]; rfl)) (Vm.classAt_of_assignable hfit' ⟨kt', hkt'⟩) ⟨kt', hkt'⟩ hfit'
/-- a static method with a table of its own that answers an int -/
theorem g_iSW {hh : List (Nat × Nat × Nat × Nat)} (S : CallFix p m c cc nL s args Ts own) (hM : g_Ci l y wsY rm D k E As wc r w1 mc ms) (cw : vx_CSW R s args own index y bytes maxL ret hh wsY rm mc ms n) (hEo : g_Ok E) (hE : ∀ U : State, U.heap = H → s.WarmedH U.vm → E U) (hK : va_K D vwCl (tyz k) s) (hP : va_P D vwCl ws H) (hD : va_D A ws) (hS : va_S A H0 H locs) (hA : ∀ q, H0.size ≤ q → A q)
    (isC isR : List Nat) (hC : isC.map (fun i => ws[i]?) = wc.map some) (hR : isR.map (fun i => ws[i]?) = wr.map some) (hnd : va_nd isC = true ∧ va_nd isR = true ∧ isR.all (fun i => decide (i ∉ isC)) = true)
    (hn1 : As.length = n) (hsize : ls.size = nL) (hst : st0 = As.reverse ++ rest) (hW : (rest.map fun v => v.category).sum ≤ 8) (hdg : decode cc pc = .ok (.invokestatic index, 3)) (hf : cells + mc ≤ R.cells ∧ slots + ms ≤ R.slots)
    (kk : ∀ (u : Nat → Nat) (H1 : Heap) (locs1 : List Loc), va_P D vwCl (wr ++ w1 u) H1 → va_D A (wr ++ w1 u) → va_S A H0 H1 locs1 → W p l e R s m args below meth c H1 locs1 (cells + mc) (slots + ms) Q (F0 m (pc + 3) ls (.int r :: rest))) :
    W p l e R s m args below meth c H locs cells slots Q (F0 m pc ls st0) :=
  g_ki hS hA hP hD isC isR hC hR hnd.2.1 (fun i hi => by have := List.all_eq_true.mp hnd.2.2 i hi; exact of_decide_eq_true this) (vx_runSW S (hM H.size) cw ⟨g_blind hEo, g_pre hE hK hP hD isC hC hnd.1⟩ rfl hn1 hsize hst (lv_room (rest := rest) (ls := ls) (pc := pc) (m := m) hW) hdg hf) kk
end G5
theorem law_dw {args : Array Value} {s : State} (hts : ∀ w ∈ lw_tbl, w.before args s = true) : gDw s := ⟨va_Nw.of rfl (hts _ (by decide +kernel)), va_Nw.of rfl (hts _ (by decide +kernel)), va_Nw.of rfl (hts _ (by decide +kernel))⟩
