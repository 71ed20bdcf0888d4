/-! ===== what lies outside: Key's constants, the class tables' words on nest mates and arrays ===== -/
def kA (B0 : Nat) : Nat → Prop := fun q => B0 ≤ q
def kNm : List String := ["OTHER", "NOT", "OF", "GONE", "BEARS", "FALSE", "LONG", "LOOKS", "WORTH", "NUMBER"]
def kD : String := "LRungMoney$Key;"
def kF : List (String × String × String × List Int32) := []
def gEh (B0 : Nat) (ad : Nat → Nat) (al : Nat) (U : State) (H : Heap) : Prop :=
  va_En RX2 kD kNm kF ad (kA B0) U H ∧ va_Z RX2 "ALL" "[LRungMoney$Key;" (.ref al) (kA B0) U H ∧ (∃ f : Nat → Value, f 0 = .ref (ad 0) ∧ va_T (.object "RungMoney$Key") al 24 f (kA B0) U H) ∧
  va_OF RX2 "code" "J" (.long 0) (ad 0) (kA B0) U H ∧ vx_Zq Bundle.tN "UNASSIGNED_STACK" Bundle.steD (kA B0) U H ∧ vx_Zq Bundle.tN "SUPPRESSED_SENTINEL" Bundle.listD (kA B0) U H
def gEw (U : State) : Prop := (va_AO "RungMoney$Town" U ∧ va_AO "RungMoney$Sentence" U ∧ va_AO "RungMoney$Key" U ∧ va_Nw (.castable "java/util/NoSuchElementException" "java/util/NoSuchElementException") U) ∧
  va_Nw (.methodLinkNest RX12 9 yX9_init "RungMoney") U ∧ va_Nw (.methodLinkNest RX12 36 yX10_init "RungMoney") U ∧ va_Nw (.methodLinkNest RX10 17 yX3_init "RungMoney") U ∧ va_Nw (.methodLinkNest RX10 24 yX1_init "RungMoney") U ∧ va_Nw (.methodLinkNest RX5 15 yX10_init "RungMoney") U ∧ va_Nw (.methodLinkNest RX12 70 yX6_init "RungMoney") U
def gE (B0 : Nat) (ad : Nat → Nat) (al : Nat) (U : State) : Prop := B0 ≤ U.heap.size ∧ gEh B0 ad al U U.heap ∧ gEw U
/-- with it: the world's cells lie behind B0 -/
def gX (B0 : Nat) (ad : Nat → Nat) (al : Nat) (ws : va_W) : State → Prop := fun U => gE B0 ad al U ∧ ∀ c ∈ ws, B0 ≤ c.1
theorem gEh_moved {B0 : Nat} {ad : Nat → Nat} {al : Nat} {u U : State} {H : Heap} (hvm : u.vm.Alike U.vm) (h : gEh B0 ad al u H) : gEh B0 ad al U H := by
  obtain ⟨h1, h2, ⟨f, h3, h4⟩, h5, h6, h7⟩ := h
  exact ⟨h1.moved hvm, h2.moved hvm, ⟨f, h3, h4.moved hvm⟩, h5.moved hvm, h6.moved hvm, h7.moved hvm⟩
theorem gEh_kept {B0 : Nat} {ad : Nat → Nat} {al : Nat} {U : State} {H H1 : Heap} (h : gEh B0 ad al U H) (hq : ∀ a : Nat, a < H.size → ¬ kA B0 a → H1[a]? = H[a]?) : gEh B0 ad al U H1 := by
  obtain ⟨h1, h2, ⟨f, h3, h4⟩, h5, h6, h7⟩ := h
  exact ⟨h1.kept hq, h2.kept hq, ⟨f, h3, h4.kept hq⟩, h5.kept hq, h6.kept hq, h7.kept hq⟩
theorem gEw_warm {s U : State} (hW : s.WarmedH U.vm) (h : gEw s) : gEw U := by
  obtain ⟨⟨a1, a2, a3, a4⟩, b1, b2, b3, b4, b5, b6⟩ := h
  exact ⟨⟨a1.moved hW.alike, a2.moved hW.alike, a3.moved hW.alike, a4.warmC hW⟩, b1.warmM hW, b2.warmM hW, b3.warmM hW, b4.warmM hW, b5.warmM hW, b6.warmM hW⟩
theorem gEw_same {s U : State} (h9 : s.vm = U.vm) (h : gEw s) : gEw U := by
  obtain ⟨⟨a1, a2, a3, a4⟩, b1, b2, b3, b4, b5, b6⟩ := h
  have r : s.vm.Alike U.vm := h9 ▸ Vm.Alike.refl s.vm
  exact ⟨⟨a1.moved r, a2.moved r, a3.moved r, a4.same rfl h9⟩, b1.same rfl h9, b2.same rfl h9, b3.same rfl h9, b4.same rfl h9, b5.same rfl h9, b6.same rfl h9⟩
theorem gX_ok {B0 : Nat} {ad : Nat → Nat} {al : Nat} {ws : va_W} : g_Ok (gX B0 ad al ws) := fun a U g mk h =>
  ⟨⟨h.1.1, gEh_moved (u := U) (U := U.calling g mk a) (Vm.Alike.refl U.vm) h.1.2.1, gEw_same (s := U) (U := U.calling g mk a) rfl h.1.2.2⟩, h.2⟩
theorem gX_pass {B0 : Nat} {ad : Nat → Nat} {al : Nat} {w0 ws wc : va_W} {s : State} {H : Heap} {locs : List Loc} {A : Nat → Prop} (hE : gX B0 ad al w0 s) (hAB : ∀ q, A q → B0 ≤ q) (hS : va_S A s.heap H locs) (hD : va_D A ws) (isC : List Nat) (hC : isC.map (fun i => ws[i]?) = wc.map some) :
    ∀ U : State, U.heap = H → s.WarmedH U.vm → gX B0 ad al wc U := by
  intro U hU hW
  refine ⟨⟨by rw [hU]; exact Nat.le_trans hE.1.1 hS.1, ?_, gEw_warm hW hE.1.2.2⟩, ?_⟩
  · rw [hU]
    exact gEh_moved hW.alike (gEh_kept hE.1.2.1 (fun a h1 h2 => hS.2.1 a h1 (fun z => h2 (hAB a z))))
  · intro c hc
    have h1 : some c ∈ wc.map some := List.mem_map.mpr ⟨c, hc, rfl⟩
    rw [← hC] at h1
    obtain ⟨i, -, hi⟩ := List.mem_map.mp h1
    exact hAB _ (hD.2 i c hi)
theorem gX_AB {B0 : Nat} {ad : Nat → Nat} {al : Nat} {ws : va_W} {s : State} {A : Nat → Prop} (hE : gX B0 ad al ws s) (hAe : va_A ws s.heap.size = A) : ∀ q, A q → B0 ≤ q := by
  intro q h
  rw [← hAe] at h
  rcases h with ⟨k, e, h⟩ | h
  · exact hE.2 (q, e) (List.mem_of_getElem? h)
  · exact Nat.le_trans hE.1.1 h
theorem g_asg (vm : Vm) (c : ClassId) : vm.assignable c c = true := by
  show vm.assignableAux (255 + 1) c c = true
  rw [Vm.assignableAux]
  simp only [beq_self_eq_true, Bool.true_or]
def g_lg : List Nat → Nat → Nat
  | [], _ => 0
  | a :: _, 0 => a
  | _ :: t, n + 1 => g_lg t n
def sh (n : Nat) (u : Nat → Nat) : Nat → Nat := fun j => u (n + j)
theorem g_any {E d : String} {nm : List String} {F : List (String × String × String × List Int32)} {ad : Nat → Nat} {i : Nat} {s : State} {A : Nat → Prop} {H : Heap} {locs : List Loc} (hE : va_En E d nm F ad A s s.heap) (hi : i < nm.length) (hS : va_S A s.heap H locs) : va_Any E s H (ad i) := by
  obtain ⟨cell, h1, h2, h3⟩ := va_recvE hE hi hS
  obtain ⟨kC, hkC, -⟩ := Vm.findClass_spec h3
  refine ⟨cell, h1, h2, ⟨kC, hkC⟩, fun comp h => ?_⟩
  cases Option.some.inj (h3.symm.trans h)
  exact g_asg _ _
theorem rgf_0 (w : Nat → Nat) : rgf w 0 = fun _ => none := by
  funext j; simp [rgf]
theorem rgf_s {w : Nat → Nat} {i v : Nat} (hi : i < 2 ^ 31) (hv : v = w i) : va_up (rgf w i) (nI i).toNatClampNeg (some v) = rgf w (i + 1) := by
  rw [nI_clamp hi, hv]
  funext j
  simp only [va_up, rgf]
  by_cases hj : j = i
  · subst hj; simp
  · rw [if_neg hj]
    by_cases h2 : j < i
    · rw [if_pos h2, if_pos (by omega)]
    · rw [if_neg h2, if_neg (by omega)]
theorem rgf_u (w : Nat → Nat) (i q : Nat) : va_up (rgf w i) i (some q) = rgf (va_up w i q) (i + 1) := by
  funext j
  simp only [va_up, rgf]
  by_cases hj : j = i
  · subst hj; simp
  · rw [if_neg hj, if_neg hj]
    by_cases h2 : j < i
    · rw [if_pos h2, if_pos (by omega)]
    · rw [if_neg h2, if_neg (by omega)]
def kq (a : Nat) : Nat → Nat := fun _ => a
theorem kq_at (a n i : Nat) (h : i < n) (hn : n < 2 ^ 31) : rgf (kq a) n (nI i).toNatClampNeg = some a := by
  rw [nI_clamp (by omega)]; simp [rgf, kq, h]
theorem rgf_k {w : Nat → Nat} {n i v : Nat} (hi : i < n) (hn : n < 2 ^ 31) (hv : some v = rgf w n (nI i).toNatClampNeg) : va_up (rgf w n) (nI i).toNatClampNeg (some v) = rgf w n := by
  rw [hv]
  funext j
  simp only [va_up]
  by_cases hj : j = (nI i).toNatClampNeg
  · rw [if_pos hj, hj]
  · rw [if_neg hj]

section G3
variable {p : Program} {l : Launch} {e : Env} {R : Room} {s : State} {m : MethodId} {args : Array Value} {below : List Frame} {meth : Method} {c : Code} {H : Heap} {locs : List Loc} {cells slots : Nat} {Q : State → Prop}
variable {cc bytes : ByteArray} {nL maxL pc : Nat} {ls : Array Slot} {As rest st0 : List Value} {D : va_G} {A : Nat → Prop} {k : Nat → ClassId} {ws wc wr : va_W} {w1 : (Nat → Nat) → va_W} {mc ms : Nat} {own C host : String} {index n : Nat} {y : MethodName} {wsY Ts : List Cond} {rm : Room} {ret : Option FieldType} {r : Int32} {b rr : Addr} {H0 : Heap} {E : State → Prop} {args' : Array Value}
/-- a method that answers a cell that is known -/
def g_Cr (l : Launch) (y : MethodName) (wsY : List Cond) (rm : Room) (D : va_G) (k : Nat → ClassId) (E : State → Prop) (av : List Value) (ws : va_W) (r : Nat) (w1 : (Nat → Nat) → va_W) (mc ms : Nat) : Prop :=
  ∀ sz : Nat, Met l y wsY rm (va_Pc av (g_pr D k E sz ws)) (va_Qr (fun (_ : Nat → Nat) => True) (fun u a t => a = r ∧ g_po D k (va_A ws sz) (w1 u) t) (va_A ws sz)) mc ms (va_A ws sz)
theorem g_kr (hS : va_S A H0 H locs) (hA : ∀ q, H0.size ≤ q → A q) (hP : va_P D vwCl ws H) (hD : va_D A ws) (isC isR : List Nat) (hC : isC.map (fun i => ws[i]?) = wc.map some) (hR : isR.map (fun i => ws[i]?) = wr.map some) (hn : va_nd isR = true) (hdis : ∀ i ∈ isR, i ∉ isC)
    (hr : va_Run p l e R s m args below meth c H locs cells slots mc ms (F0 m pc ls st0) rest (va_Qr (fun (_ : Nat → Nat) => True) (fun u a t => a = rr ∧ g_po D k (va_A wc H.size) (w1 u) t) (va_A wc H.size) args') (va_A wc H.size))
    (kk : ∀ (u : Nat → Nat) (H1 : Heap) (locs1 : List Loc), va_P D vwCl (wr ++ w1 u) H1 → va_D A (wr ++ w1 u) → va_S A H0 H1 locs1 → W p l e R s m args below meth c H1 locs1 (cells + mc) (slots + ms) Q (F0 m (pc + 3) ls (.ref rr :: rest))) :
    W p l e R s m args below meth c H locs cells slots Q (F0 m pc ls st0) := by
  have hFc := va_free hD hS hA isC hC
  refine va_callr hr hS (fun q _ h => hFc q h) hFc (fun u ra t H1 locs ht hvm hw hB hz1 hk1 hS => ?_)
  obtain ⟨rfl, hP1, hK1, hD1⟩ := hB
  rw [ht] at hP1
  obtain ⟨hP, hD⟩ := va_join hP hD isC isR hC hR hn hdis hk1 hFc hP1 hD1
  exact kk u H1 locs hP hD hS
theorem g_rV (S : CallFix p m c cc nL s args Ts own) (hM : g_Cr l y wsY rm D k E (.ref b :: As) wc rr w1 mc ms) (cw : CallW R s args own C index y bytes maxL ret wsY rm mc ms n) (hEo : g_Ok E) (hE : ∀ U : State, U.heap = H → s.WarmedH U.vm → E U) (hK : va_K D vwCl (tyz k) s) (hP : va_P D vwCl ws H) (hD : va_D A ws) (hS : va_S A H0 H locs) (hA : ∀ q, H0.size ≤ q → A q)
    (hrec : ∃ cellB : Cell, H[b]? = some cellB ∧ cellB.vm.isStatics = false ∧ s.vm.findClass C = some cellB.cls)
    (isC isR : List Nat) (hC : isC.map (fun i => ws[i]?) = wc.map some) (hR : isR.map (fun i => ws[i]?) = wr.map some) (hnd : va_nd isC = true ∧ va_nd isR = true ∧ isR.all (fun i => decide (i ∉ isC)) = true)
    (hn1 : As.length = n) (hsize : ls.size = nL) (hst : st0 = As.reverse ++ .ref b :: rest) (hW : (rest.map fun v => v.category).sum ≤ 8) (hdg : decode cc pc = .ok (.invokevirtual index, 3)) (hf : cells + mc ≤ R.cells ∧ slots + ms ≤ R.slots)
    (kk : ∀ (u : Nat → Nat) (H1 : Heap) (locs1 : List Loc), va_P D vwCl (wr ++ w1 u) H1 → va_D A (wr ++ w1 u) → va_S A H0 H1 locs1 → W p l e R s m args below meth c H1 locs1 (cells + mc) (slots + ms) Q (F0 m (pc + 3) ls (.ref rr :: rest))) :
    W p l e R s m args below meth c H locs cells slots Q (F0 m pc ls st0) :=
  g_kr hS hA hP hD isC isR hC hR hnd.2.1 (fun i hi => by have := List.all_eq_true.mp hnd.2.2 i hi; exact of_decide_eq_true this) (va_runV S (hM H.size) cw ⟨g_blind hEo, hrec, g_pre hE hK hP hD isC hC hnd.1⟩ rfl hn1 hsize hst (lv_room (rest := rest) (ls := ls) (pc := pc) (m := m) hW) hdg hf) kk
theorem g_rS (S : CallFix p m c cc nL s args Ts own) (hM : g_Cr l y wsY rm D k E As wc rr w1 mc ms) (cw : CallB R s args own index y bytes maxL ret wsY rm mc ms n ∧ (Cond.static y).before args s = true) (hEo : g_Ok E) (hE : ∀ U : State, U.heap = H → s.WarmedH U.vm → E U) (hK : va_K D vwCl (tyz k) s) (hP : va_P D vwCl ws H) (hD : va_D A ws) (hS : va_S A H0 H locs) (hA : ∀ q, H0.size ≤ q → A q)
    (isC isR : List Nat) (hC : isC.map (fun i => ws[i]?) = wc.map some) (hR : isR.map (fun i => ws[i]?) = wr.map some) (hnd : va_nd isC = true ∧ va_nd isR = true ∧ isR.all (fun i => decide (i ∉ isC)) = true)
    (hn1 : As.length = n) (hsize : ls.size = nL) (hst : st0 = As.reverse ++ rest) (hW : (rest.map fun v => v.category).sum ≤ 8) (hdg : decode cc pc = .ok (.invokestatic index, 3)) (hf : cells + mc ≤ R.cells ∧ slots + ms ≤ R.slots)
    (kk : ∀ (u : Nat → Nat) (H1 : Heap) (locs1 : List Loc), va_P D vwCl (wr ++ w1 u) H1 → va_D A (wr ++ w1 u) → va_S A H0 H1 locs1 → W p l e R s m args below meth c H1 locs1 (cells + mc) (slots + ms) Q (F0 m (pc + 3) ls (.ref rr :: rest))) :
    W p l e R s m args below meth c H locs cells slots Q (F0 m pc ls st0) :=
  g_kr hS hA hP hD isC isR hC hR hnd.2.1 (fun i hi => by have := List.all_eq_true.mp hnd.2.2 i hi; exact of_decide_eq_true this) (va_runS S (hM H.size) cw ⟨g_blind hEo, g_pre hE hK hP hD isC hC hnd.1⟩ rfl hn1 hsize hst (lv_room (rest := rest) (ls := ls) (pc := pc) (m := m) hW) hdg hf) kk
/-- an int of a receiver that lies outside the world -/
theorem g_iVE (S : CallFix p m c cc nL s args Ts own) (hM : g_Ci l y wsY rm D k E (.ref b :: As) wc r w1 mc ms) (cw : CallW R s args own C index y bytes maxL ret wsY rm mc ms n) (hEo : g_Ok E) (hE : ∀ U : State, U.heap = H → s.WarmedH U.vm → E U) (hK : va_K D vwCl (tyz k) s) (hP : va_P D vwCl ws H) (hD : va_D A ws) (hS : va_S A H0 H locs) (hA : ∀ q, H0.size ≤ q → A q)
    (hrec : ∃ cellB : Cell, H[b]? = some cellB ∧ cellB.vm.isStatics = false ∧ s.vm.findClass C = some cellB.cls)
    (isC isR : List Nat) (hC : isC.map (fun i => ws[i]?) = wc.map some) (hR : isR.map (fun i => ws[i]?) = wr.map some) (hnd : va_nd isC = true ∧ va_nd isR = true ∧ isR.all (fun i => decide (i ∉ isC)) = true)
    (hn1 : As.length = n) (hsize : ls.size = nL) (hst : st0 = As.reverse ++ .ref b :: rest) (hW : (rest.map fun v => v.category).sum ≤ 8) (hdg : decode cc pc = .ok (.invokevirtual index, 3)) (hf : cells + mc ≤ R.cells ∧ slots + ms ≤ R.slots)
    (kk : ∀ (u : Nat → Nat) (H1 : Heap) (locs1 : List Loc), va_P D vwCl (wr ++ w1 u) H1 → va_D A (wr ++ w1 u) → va_S A H0 H1 locs1 → W p l e R s m args below meth c H1 locs1 (cells + mc) (slots + ms) Q (F0 m (pc + 3) ls (.int r :: rest))) :
    W p l e R s m args below meth c H locs cells slots Q (F0 m pc ls st0) :=
  g_ki hS hA hP hD isC isR hC hR hnd.2.1 (fun i hi => by have := List.all_eq_true.mp hnd.2.2 i hi; exact of_decide_eq_true this) (va_runV S (hM H.size) cw ⟨g_blind hEo, hrec, g_pre hE hK hP hD isC hC hnd.1⟩ rfl hn1 hsize hst (lv_room (rest := rest) (ls := ls) (pc := pc) (m := m) hW) hdg hf) kk
theorem g_rret {rt : FieldType} (hx : p.tables.exec = Jvm.exec) (hb : c.code = cc) (hr : meth.sig.returnType = some rt) (hrt : (∃ n, rt = .object n) ∨ ∃ t, rt = .array t) (hlocks : meth.locks = false) (hK : va_K D vwCl (tyz k) s) (u : Nat → Nat) (hP : va_P D vwCl (w1 u) H) (hD : va_D A (w1 u)) (hS : va_S A s.heap H locs) (hdg : decode cc pc = .ok (.areturn, 1)) (hm : cells ≤ mc ∧ slots ≤ ms) :
    W p l e R s m args below meth c H locs cells slots (MQ below (va_Qr (fun (_ : Nat → Nat) => True) (fun u a t => a = rr ∧ g_po D k A (w1 u) t) A) args s mc ms A) (F0 m pc ls [.ref rr]) := by
  refine W.widen (k := mc) (n := ms) hm.1 hm.2 ?_
  exact W.aret hx hb hr hrt (Or.inr ⟨_, rfl⟩) (fun t ht hW => ⟨⟨u, rr, rfl, trivial, rfl, by rw [ht]; exact hP, va_K.moved hW.alike hK, hD⟩, hS.F ht⟩) hS.2.2 hdg hlocks
/-- a place of a static row of references -/
theorem g_tq {t N : Nat} {f : Nat → Value} (hexec : p.tables.exec = Jvm.exec) (hb : c.code = cc) (hT : va_T (.object C) t N f A s s.heap) (hS : va_S A s.heap H locs) {i : Int32} (hin : vp_in i N) {v : Value} (hv : f i.toNatClampNeg = v) (hdg : decode cc pc = .ok (.aaload, 1))
    (kk : W p l e R s m args below meth c H locs cells slots Q (F0 m (pc + 1) ls (v :: rest))) : W p l e R s m args below meth c H locs cells slots Q (F0 m pc ls (.int i :: .ref t :: rest)) := by
  obtain ⟨cell, h1, h2, h3, h4, h5, h6, h7⟩ := hT
  have hlt : i.toNatClampNeg < N := Nat.not_le.mp fun q => hin (Or.inr q)
  have hin' : ¬ (i < 0 ∨ cell.slots.size ≤ i.toNatClampNeg) := by
    intro q
    rcases q with q | q
    · exact hin (Or.inl q)
    · omega
  exact W.aald (v := v) (ty := .object C) hexec hb (by rw [hS.2.1 t (Array.getElem?_eq_some_iff.mp h1).1 h7]; exact h1) h2 rfl h3 hin' (by rw [h6 _ hlt, hv]) rfl rfl hdg kk
/-- a field of an object that lies outside the world -/
theorem g_getOF {o nm d ref : String} {v : Value} {t : Nat} (hexec : p.tables.exec = Jvm.exec) (hb : c.code = cc) (hF : va_OF o nm d v t A s s.heap) (hS : va_S A s.heap H locs) (hown : s.vm.findClass own = some m.cls) (hlink : (Cond.fieldLink own index ref nm d).before args s = true) (hsame : ∀ x, s.fieldFound? o nm d = some x → s.fieldFound? ref nm d = some x) (hdg : decode cc pc = .ok (.getfield index, 3))
    (kk : W p l e R s m args below meth c H locs cells slots Q (F0 m (pc + 3) ls (v :: rest))) : W p l e R s m args below meth c H locs cells slots Q (F0 m pc ls (.ref t :: rest)) := by
  obtain ⟨cf, k, fi, f, cell, h1, h2, h3, h4, h5, h6⟩ := hF.kept hS.2.1
  exact W.getf hexec hb hown hlink (hsame _ h1) h2 h3 h4 (v := v) h5 rfl rfl hdg kk
end G3
