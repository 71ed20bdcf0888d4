/-! ===== contracts of methods, and their calls ===== -/
def zf_Q (B : Option Value → State → Prop) (A : Nat → Prop) : Array Value → State → Outcome → State → Prop := fun _ st oc t => (∃ v, oc = .returned v ∧ B v t) ∧ va_F A st t
def zf_po (D : va_G) (k : Nat → ClassId) (Sg : Nat → Option Nat) (GT : List zf_G) (ρ : Nat → Int) (θ : Nat → Nat) (M : zf_M) (ws : va_W) (A : Nat → Prop) : Option Value → State → Prop := fun v t => ∃ ws', va_P D vwCl ws' t.heap ∧ va_K D vwCl (tyz k) t ∧ va_D A ws' ∧ zf_post Sg k GT ρ θ M ws v ws'
def zf_Con (l : Launch) (y : MethodName) (wsY : List Cond) (rm : Room) (D : va_G) (k : Nat → ClassId) (Ex : (Nat → Option Nat) → va_W → State → Prop) (GT : List zf_G) (NS : Nat) (M : zf_M) : Prop :=
  ∀ (Sg : Nat → Option Nat) (ws : va_W) (ρ : Nat → Int) (θ : Nat → Nat) (vs : List Value) (sz : Nat), (∀ a g, Sg a = some g → g < 64 → a = θ g) → (∀ g, g < NS → g < 64 → Sg (θ g) = some g) → zf_typ Sg k GT ws → zf_pre Sg ρ θ M vs ws →
    Met l y wsY rm (va_Pc vs.reverse (g_pr D k (Ex Sg ws) sz ws)) (zf_Q (zf_po D k Sg GT ρ θ M ws (va_A ws sz)) (va_A ws sz)) 0 0 (va_A ws sz)
/-- what is said of the rest of the heap stays -/
def zf_Eo (Ex : (Nat → Option Nat) → va_W → State → Prop) (B0 : Nat) : Prop :=
  (∀ Sg ws, g_Ok (Ex Sg ws)) ∧ (∀ Sg ws s, Ex Sg ws s → ∀ q, va_A ws s.heap.size q → B0 ≤ q) ∧
  (∀ (Sg : Nat → Option Nat) (w0 ws : va_W) (s U : State) (H : Heap) (locs : List Loc) (A : Nat → Prop), Ex Sg w0 s → (∀ q, A q → B0 ≤ q) → va_S A s.heap H locs → va_D A ws → U.heap = H → s.WarmedH U.vm → Ex Sg ws U) ∧
  ∀ (Sg : Nat → Option Nat) (ws : va_W) (s : State) (H : Heap) (locs : List Loc) (A : Nat → Prop), Ex Sg ws s → (∀ q, A q → B0 ≤ q) → va_S A s.heap H locs → ∀ a, Sg a = some 128 → va_Any "RungMoney$Key" s H a
theorem zf_ac {α : Type} {P : α → Prop} {a : α} {t : List α} (h : P a) (ht : ∀ x ∈ t, P x) : ∀ x ∈ a :: t, P x := fun x hx => by
  rcases List.mem_cons.mp hx with rfl | hx
  · exact h
  · exact ht x hx
theorem zf_an {α : Type} {P : α → Prop} : ∀ x ∈ ([] : List α), P x := fun x hx => by cases hx
section ZG
variable {p : Program} {l : Launch} {e : Env} {R : Room} {s : State} {m : MethodId} {args : Array Value} {below : List Frame} {meth : Method} {c : Code} {H : Heap} {locs : List Loc} {cells slots : Nat} {Q : State → Prop}
variable {pc : Nat} {ls : Array Slot} {rest st0 : List Value} {a : Array Value} {A0 A1 : Nat → Prop} {H0 : Heap} {mc ms : Nat} {free : Addr → Prop}
theorem zf_callg {B : Option Value → State → Prop} (hr : va_Run p l e R s m args below meth c H locs cells slots mc ms (F0 m pc ls st0) rest (zf_Q B A1 a) free) (hS : va_S A0 H0 H locs) (hA : ∀ q, q < H.size → A1 q → A0 q) (hf : ∀ q, free q → A0 q)
    (kk : ∀ (v : Option Value) (t : State) (H1 : Heap) (locs1 : List Loc), t.heap = H1 → s.vm.Alike t.vm → B v t → H.size ≤ H1.size → (∀ q : Nat, q < H.size → ¬ A1 q → H1[q]? = H[q]?) → va_S A0 H0 H1 locs1 → W p l e R s m args below meth c H1 locs1 (cells + mc) (slots + ms) Q (F0 m (pc + 3) ls (v.toList ++ rest))) : W p l e R s m args below meth c H locs cells slots Q (F0 m pc ls st0) := by
  intro T hT X
  obtain ⟨v, st₀, t, T', L, h0, X', hL, e1, e2, ⟨⟨w, hv, hb⟩, hz, hk⟩, st⟩ := hr T hT X
  cases hv
  rw [h0] at hz hk
  obtain ⟨t2, a1, b1⟩ := kk v t T'.heap (locs ++ L) e1.symm (by rw [← e2]; exact X'.warmed.alike) hb (by rw [e1]; exact hz) (fun q h1 h2 => by rw [e1]; exact hk q h1 h2)
    ⟨Nat.le_trans hS.1 (by rw [e1]; exact hz), fun q h1 h2 => by rw [e1, hk q (Nat.lt_of_lt_of_le h1 hS.1) (fun z => h2 (hA q (Nat.lt_of_lt_of_le h1 hS.1) z))]; exact hS.2.1 q h1 h2, fun q hq => by
      rcases List.mem_append.mp hq with h | h
      · exact hS.2.2 q h
      · exact hf _ (hL q h)⟩ T' rfl X'
  exact ⟨t2, st t2 a1, b1⟩
end ZG
section ZO
variable {p : Program} {l : Launch} {e : Env} {R : Room} {s : State} {m : MethodId} {args : Array Value} {below : List Frame} {meth : Method} {c : Code} {cells slots : Nat} {Q : State → Prop}
variable {cc bytes : ByteArray} {nL maxL index n B0 NS : Nat} {D : va_G} {A : Nat → Prop} {k : Nat → ClassId} {own C : String} {y : MethodName} {wsY Ts : List Cond} {rm : Room} {ret : Option FieldType} {GT : List zf_G} {M : zf_M} {Sg : Nat → Option Nat} {θ0 : Nat → Nat} {w0 : va_W} {Ex : (Nat → Option Nat) → va_W → State → Prop}
theorem zf_whole (ws : va_W) : (List.range ws.length).map (fun i => ws[i]?) = ws.map some := by
  apply List.ext_getElem?
  intro i
  rw [List.getElem?_map, List.getElem?_map]
  by_cases h : i < ws.length
  · rw [List.getElem?_range h]
    show some ws[i]? = _
    rw [List.getElem?_eq_getElem h]
    rfl
  · rw [List.getElem?_eq_none (by simpa using h), List.getElem?_eq_none (by simpa using h)]
    rfl
theorem zf_blind {av : List Value} {sz : Nat} {ws : va_W} {E : State → Prop} (hE : g_Ok E) : FrameBlind (va_Pc av (g_pr D k E sz ws)) := g_blind hE
/-- the world behind a call, where all of it went in -/
theorem zf_back {A : Nat → Prop} {H H1 : Heap} {H0 : Heap} {locs : List Loc} {ws w1 : va_W} (hP : va_P D vwCl ws H) (hD : va_D A ws) (hS : va_S A H0 H locs) (hA : ∀ q, H0.size ≤ q → A q) (hk1 : ∀ q : Nat, q < H.size → ¬ va_A ws H.size q → H1[q]? = H[q]?) (hP1 : va_P D vwCl w1 H1) (hD1 : va_D (va_A ws H.size) w1) : va_P D vwCl w1 H1 ∧ va_D A w1 := by
  have hF := va_free hD hS hA (List.range ws.length) (zf_whole ws)
  obtain ⟨h1, h2⟩ := va_join (wr := []) hP hD (List.range ws.length) [] (zf_whole ws) rfl rfl (fun i hi => by cases hi) hk1 hF hP1 hD1
  exact ⟨h1, h2⟩
theorem zf_pass (hEx : zf_Eo Ex B0) (hE : Ex Sg w0 s) (hAB : ∀ q, A q → B0 ≤ q) (hK : va_K D vwCl (tyz k) s) {H : Heap} {locs : List Loc} {ws : va_W} (hP : va_P D vwCl ws H) (hD : va_D A ws) (hS : va_S A s.heap H locs) {av : List Value} :
    ∀ U : State, U.heap = H → s.WarmedH U.vm → va_Pc av (g_pr D k (Ex Sg ws) H.size ws) av.toArray U := fun U hU hW =>
  ⟨rfl, by rw [hU], by rw [hU]; exact hP, va_K.moved hW.alike hK, hD.weaken (fun _ _ _ _ => trivial), hEx.2.2.1 Sg w0 ws s U H locs A hE hAB hS hD hU hW⟩
theorem zf_crV (S : CallFix p m c cc nL s args Ts own) (hEx : zf_Eo Ex B0) (hE : Ex Sg w0 s) (hAB : ∀ q, A q → B0 ≤ q) (hA : ∀ q, s.heap.size ≤ q → A q) (hK : va_K D vwCl (tyz k) s) (hone : ∀ a g, Sg a = some g → g < 64 → a = θ0 g) (hsing : ∀ g, g < NS → g < 64 → Sg (θ0 g) = some g)
    (hM : zf_Con l y wsY rm D k Ex GT NS M) (cw : CallW R s args own C index y bytes maxL ret wsY rm 0 0 n) (hf : cells + 0 ≤ R.cells ∧ slots + 0 ≤ R.slots) (ci : Nat) {q : vw_C} (hcl : vwCl[ci]? = some q) (hqC : q.1 = C) {ar : List zf_A} {g r : Nat} (hst : M.1.2.2.2.2.1 = ar ++ [.inr (some (g, r))]) (har : ar.length = n) (hkn : zf_knd GT g false ci = true) :
    zf_CR p l e R s m args below meth c cells slots Q cc D vwCl A s.heap Sg k GT θ0 nL (.invokevirtual index) 3 M := by
  subst hqC
  intro H locs ws ρ θ vs rest pc ls hP hD hS ht hθ hpre hdg hls hcat kk
  have hone' : ∀ a g, Sg a = some g → g < 64 → a = θ g := fun a g h1 h2 => by rw [hθ g h2]; exact hone a g h1 h2
  have hsing' : ∀ g, g < NS → g < 64 → Sg (θ g) = some g := fun g h1 h2 => by rw [hθ g h2]; exact hsing g h1 h2
  have hMet := hM Sg ws ρ θ vs H.size hone' hsing' ht hpre
  obtain ⟨k1, k2, k3⟩ := zf_knd_ok hkn
  -- the receiver
  obtain ⟨As, b, rfl, hAs, hg⟩ : ∃ (As : List Value) (b : Nat), vs = As.reverse ++ [.ref b] ∧ As.length = n ∧ Sg b = some g := by
    have h2 := hpre.2.2.1
    rw [hst] at h2
    have hl := zf_f2_len h2
    obtain ⟨x, z, rfl⟩ : ∃ x z, vs = x ++ [z] := by
      cases hv : vs.reverse with
      | nil => rw [List.reverse_eq_nil_iff] at hv; rw [hv] at hl; simp at hl
      | cons z x => exact ⟨x.reverse, z, by rw [← List.reverse_reverse vs, hv, List.reverse_cons]⟩
    have hlx : x.length = n := by simp at hl; omega
    have h3 := zf_f2_rev h2
    rw [List.reverse_append, List.reverse_append] at h3
    obtain ⟨⟨e1, e2⟩, -⟩ := h3
    exact ⟨x.reverse, _, by rw [List.reverse_reverse]; simpa using e1, by rw [List.length_reverse]; exact hlx, e2⟩
  obtain ⟨q0, en, p1, p2⟩ := ht _ _ hg k3
  obtain ⟨fs, rfl, -⟩ := zf_obj p2 k1 k2
  have hav : (As.reverse ++ [Value.ref b]).reverse = Value.ref b :: As := by simp
  rw [hav] at hMet
  have hrun := va_runV (rest := rest) (locs := locs) (e := e) (below := below) (meth := meth) (cells := cells) (slots := slots) S hMet cw ⟨zf_blind (hEx.1 Sg ws), va_recv hK hP hcl p1, zf_pass hEx hE hAB hK hP hD hS⟩ (g := F0 m pc ls (As.reverse ++ .ref b :: rest)) rfl hAs hls rfl (lv_room (rest := rest) (ls := ls) (pc := pc) (m := m) hcat) hdg hf
  rw [List.append_assoc]
  have hFc := va_free hD hS hA (List.range ws.length) (zf_whole ws)
  refine zf_callg hrun hS (fun q _ h => hFc q h) hFc (fun v t H1 locs1 ht1 hvm hB hz hk1 hS1 => ?_)
  obtain ⟨ws', z1, z2, z3, z4⟩ := hB
  rw [ht1] at z1
  obtain ⟨hP1, hD1⟩ := zf_back hP hD hS hA hk1 z1 z3
  exact kk v ws' H1 locs1 z4 hP1 hD1 hS1
theorem zf_crS (S : CallFix p m c cc nL s args Ts own) (hEx : zf_Eo Ex B0) (hE : Ex Sg w0 s) (hAB : ∀ q, A q → B0 ≤ q) (hA : ∀ q, s.heap.size ≤ q → A q) (hK : va_K D vwCl (tyz k) s) (hone : ∀ a g, Sg a = some g → g < 64 → a = θ0 g) (hsing : ∀ g, g < NS → g < 64 → Sg (θ0 g) = some g)
    (hM : zf_Con l y wsY rm D k Ex GT NS M) (cw : CallB R s args own index y bytes maxL ret wsY rm 0 0 n ∧ (Cond.static y).before args s = true) (hf : cells + 0 ≤ R.cells ∧ slots + 0 ≤ R.slots) (har : M.1.2.2.2.2.1.length = n) :
    zf_CR p l e R s m args below meth c cells slots Q cc D vwCl A s.heap Sg k GT θ0 nL (.invokestatic index) 3 M := by
  intro H locs ws ρ θ vs rest pc ls hP hD hS ht hθ hpre hdg hls hcat kk
  have hone' : ∀ a g, Sg a = some g → g < 64 → a = θ g := fun a g h1 h2 => by rw [hθ g h2]; exact hone a g h1 h2
  have hsing' : ∀ g, g < NS → g < 64 → Sg (θ g) = some g := fun g h1 h2 => by rw [hθ g h2]; exact hsing g h1 h2
  have hMet := hM Sg ws ρ θ vs H.size hone' hsing' ht hpre
  have hl := zf_f2_len hpre.2.2.1
  have hrun := va_runS (rest := rest) (locs := locs) (e := e) (below := below) (meth := meth) (cells := cells) (slots := slots) S hMet cw ⟨zf_blind (hEx.1 Sg ws), zf_pass hEx hE hAB hK hP hD hS⟩ (g := F0 m pc ls (vs ++ rest)) rfl (by rw [List.length_reverse]; omega) hls (by rw [List.reverse_reverse]) (lv_room (rest := rest) (ls := ls) (pc := pc) (m := m) hcat) hdg hf
  have hFc := va_free hD hS hA (List.range ws.length) (zf_whole ws)
  refine zf_callg hrun hS (fun q _ h => hFc q h) hFc (fun v t H1 locs1 ht1 hvm hB hz hk1 hS1 => ?_)
  obtain ⟨ws', z1, z2, z3, z4⟩ := hB
  rw [ht1] at z1
  obtain ⟨hP1, hD1⟩ := zf_back hP hD hS hA hk1 z1 z3
  exact kk v ws' H1 locs1 z4 hP1 hD1 hS1
end ZO
/-- where the arguments lie -/
def zf_ag : Nat → List zf_A → List (Nat × zf_A)
  | _, [] => []
  | i, a :: t => (i, a) :: zf_ag (i + (match zf_c2 a with | true => 2 | false => 1)) t
theorem zf_ag_ok {Sg : Nat → Option Nat} {ρ : Nat → Int} {θ : Nat → Nat} : ∀ {i : Nat} {x : List zf_A} {vs : List Value}, zf_f2 (zf_vok Sg ρ θ) x vs → zf_f2 (zf_lok Sg ρ θ) (zf_ag i x) (lv_args i vs)
  | _, [], [], _ => trivial
  | i, a :: x, v :: vs, h => by
    have hc := zf_c2_ok h.1
    unfold zf_ag lv_args
    refine ⟨⟨rfl, h.1⟩, ?_⟩
    rcases lv_cat v with h1 | h1
    · have e0 : zf_c2 a = false := by rw [hc, h1]; rfl
      rw [e0, if_neg (by rw [h1]; decide)]
      exact zf_ag_ok h.2
    · have e0 : zf_c2 a = true := by rw [hc, h1]; rfl
      rw [e0, if_pos h1]
      exact zf_ag_ok h.2
  | _, [], _ :: _, h => h.elim
  | _, _ :: _, [], h => h.elim
def zf_ent0 (M : zf_M) : zf_S := zf_los M.1 (zf_ag 0 M.1.2.2.2.2.1.reverse) []
/-- a truth is 0 or 1 -/
def zf_bo (M : zf_M) : Bool := M.2.2.all (fun o => match o.1 with
  | some (.inl f) => zf_ge o.2.1 o.2.2.1 f && zf_ge o.2.1 o.2.2.1 (zf_sub (zf_con 1) f)
  | _ => false)
/-- the declared answer and the contract's -/
def zf_tyo (ret : Option FieldType) (M : zf_M) : Bool := match ret with
  | none => M.2.2.all (fun o => o.1.isNone)
  | some .int => M.2.2.all (fun o => match o.1 with | some (.inl _) => true | _ => false)
  | some .boolean => zf_bo M
  | some (.object _) => M.2.2.all (fun o => match o.1 with | some (.inr (some _)) => true | _ => false)
  | _ => false
section ZM
variable {l : Launch} {cc : ByteArray} {nL B0 NS fuel : Nat} {D : va_G} {k : Nat → ClassId} {y : MethodName} {wsY wsY' : List Cond} {rm : Room} {ret : Option FieldType} {GT : List zf_G} {M : zf_M} {Ms : List zf_M} {fg fp : zf_ft} {ins : List zf_X} {cuts : List zf_U} {Ex : (Nat → Option Nat) → va_W → State → Prop}
theorem zf_bo_ok {Sg : Nat → Option Nat} {ρ : Nat → Int} {θ : Nat → Nat} {ws ws' : va_W} {v : Int32} (hb : zf_bo M = true) (h : zf_post Sg k GT ρ θ M ws (some (.int v)) ws') : 0 ≤ v.toInt ∧ v.toInt ≤ 1 := by
  obtain ⟨⟨o, ho, ρ1, θ1, -, -, h1, h2, -, h3⟩, -, -⟩ := h
  unfold zf_bo at hb
  rw [List.all_eq_true] at hb
  have hb := hb o ho
  split at hb
  · rename_i f e0
    rw [e0] at h3
    obtain ⟨x, e1, e2⟩ := h3
    cases e1
    rw [Bool.and_eq_true] at hb
    have b1 := zf_ge_of h1 h2 hb.1
    have b2 := zf_ge_of h1 h2 hb.2
    rw [zf_v_sub, zf_v_con] at b2
    omega
  · cases hb
theorem zf_lgl (vs : List Value) : (lg_sl vs).length = (vs.map fun v => v.category).sum := by
  induction vs with
  | nil => rfl
  | cons v t ih =>
    have e : lg_sl (v :: t) = (if v.category = 2 then [Slot.val v, .second] else [.val v]) ++ lg_sl t := rfl
    rw [e, List.length_append, ih, List.map_cons, List.sum_cons]
    rcases lv_cat v with h | h
    · rw [h]; simp
    · rw [h]; simp
def zf_Rl (l : Launch) (y : MethodName) (wsY : List Cond) (rm : Room) (cc : ByteArray) (nL : Nat) (D : va_G) (k : Nat → ClassId) (GT : List zf_G) (NS B0 : Nat) (Ms : List zf_M) (fg fp : zf_ft) (ins : List zf_X) (Ex : (Nat → Option Nat) → va_W → State → Prop) : Prop :=
  ∀ (p : Program) (e : Env) (s : State) (m : MethodId) (args : Array Value) (below : List Frame) (meth : Method) (c : Code) (Q : State → Prop) (Sg : Nat → Option Nat) (w0 : va_W) (A : Nat → Prop) (θ0 : Nat → Nat), CallFix p m c cc nL s args wsY y.cls → va_K D vwCl (tyz k) s → Ex Sg w0 s → (∀ q, A q → B0 ≤ q) → (∀ q, s.heap.size ≤ q → A q) → (∀ a g, Sg a = some g → g < 64 → a = θ0 g) → (∀ g, g < NS → g < 64 → Sg (θ0 g) = some g) →
    (∀ x ∈ fg, zf_FG p l e rm s m args below meth c 0 0 Q cc D vwCl x) ∧ (∀ x ∈ fp, zf_FP p l e rm s m args below meth c 0 0 Q cc D vwCl A s.heap Sg x) ∧ ∀ x ∈ ins, ∀ j ∈ x.2.2.2, zf_CR p l e rm s m args below meth c 0 0 Q cc D vwCl A s.heap Sg k GT θ0 nL x.2.2.1 x.2.1 (Ms.getD j (([], [], 0, [], [], []), [], []))
theorem zf_mk (hy : plainName y.cls = true) (hw : wsY = Cond.code y cc nL ret :: wsY') (hEx : zf_Eo Ex B0) (hins : ins.all (fun x => decide (decode cc x.1 = .ok (x.2.2.1, x.2.1))) = true) (hty : zf_tyo ret M = true) (hnl : Nat.ble (zf_cs M.1.2.2.2.2.1) nL = true)
    (hchk : zf_chk NS nL GT M Ms fg fp ins cuts fuel (zf_ent0 M) = true) (hrules : zf_Rl l y wsY rm cc nL D k GT NS B0 Ms fg fp ins Ex) : zf_Con l y wsY rm D k Ex GT NS M := by
  intro Sg ws ρ θ vs sz hone hsing ht hpre
  refine Met.ofW (cc := cc) (maxL := nL) (ret := ret) hy hw ?_
  intro p e s m args below meth c s₁ B hml hv
  obtain ⟨rfl, hsz, hP, hK, hD0, hE⟩ := hv
  have hx := B.exec
  have hb := B.bytes
  have hr := B.returns
  have hts := atoms_spec (ws := wsY) B.pre
  have hown : s.vm.findClass y.cls = some m.cls := findClass_of_methodNamed B.named
  have hlocks := B.notSynchronized
  subst hsz
  have hD := hD0.self (sz := s.heap.size)
  have hAB := hEx.2.1 Sg ws s hE
  generalize hAe : va_A ws s.heap.size = A at hD hAB ⊢
  have hA : ∀ q : Nat, s.heap.size ≤ q → A q := fun q h => by rw [← hAe]; exact Or.inr h
  have hS : va_S A s.heap s.heap [] := va_S.rf
  obtain ⟨e1, e2, e3, e4⟩ := hpre
  have e3r := zf_f2_rev e3
  have hcat : (lg_sl vs.reverse).length ≤ nL := by
    rw [zf_lgl, zf_cs_ok e3r]
    have h1 : zf_cs M.1.2.2.2.2.1.reverse = zf_cs M.1.2.2.2.2.1 := by
      rw [← zf_cs_ok e3r, ← zf_cs_ok e3, List.map_reverse, List.sum_reverse]
    rw [h1]
    exact Nat.le_of_ble_eq_true hnl
  have hl := lv_entry vs.reverse (n := nL) hcat
  rw [lg_entry_eq]
  obtain ⟨r1, r2, r3⟩ := hrules p e s m vs.reverse.toArray below meth c (MQ below (zf_Q (zf_po D k Sg GT ρ θ M ws A) A) vs.reverse.toArray s 0 0 A) Sg ws A θ ⟨hx, hb, hml, hown, hts⟩ hK hE hAB hA hone hsing
  refine zf_chk_ok (H0 := s.heap) (A := A) (ws0 := ws) (ρe := ρ) (θe := θ) (cuts := cuts) hx hb hK hone hsing (fun H locs hS' => hEx.2.2.2 Sg ws s H locs A hE hAB hS') r1 r2 (fun x hx' => of_decide_eq_true (List.all_eq_true.mp hins x hx')) r3 ?_ hchk ρ θ ws s.heap [] _ [] (fun _ _ => rfl) (fun _ _ => rfl) ⟨hP, hD, hS, ht, fun a g i v _ _ h => h⟩ ⟨e1, e2, ⟨_, hl, zf_ag_ok e3r⟩, trivial, e4⟩
  -- the ends
  intro H locs ws' ls pc i v hP' hD' hS' hpost hdg hrv
  have post : ∀ t : State, t.heap = H → s.WarmedH t.vm → zf_Q (zf_po D k Sg GT ρ θ M ws A) A vs.reverse.toArray s (.returned v) t := fun t ht' hW => ⟨⟨v, rfl, ws', by rw [ht']; exact hP', va_K.moved hW.alike hK, hD', hpost⟩, hS'.F ht'⟩
  rcases hrv with ⟨rfl, x, rfl⟩ | ⟨rfl, a, rfl⟩ | ⟨rfl, rfl⟩
  · have hn : ∃ ty, ret = some ty ∧ narrow ty (.int x) = .int x := by
      unfold zf_tyo at hty
      split at hty
      · obtain ⟨⟨o, ho, ρ1, θ1, -, -, -, -, -, h3⟩, -, -⟩ := hpost
        rw [List.all_eq_true] at hty
        have := hty o ho
        cases h0 : o.1 with
        | none => rw [h0] at h3; exact h3.elim
        | some a => rw [h0] at this; cases this
      · exact ⟨.int, rfl, rfl⟩
      · obtain ⟨b1, b2⟩ := zf_bo_ok hty hpost
        refine ⟨.boolean, rfl, ?_⟩
        have : x = 0 ∨ x = 1 := by
          rcases (by omega : x.toInt = 0 ∨ x.toInt = 1) with h | h
          · exact Or.inl (Int32.toInt_inj.mp (h.trans (by decide)))
          · exact Or.inr (Int32.toInt_inj.mp (h.trans (by decide)))
        rcases this with rfl | rfl <;> rfl
      · obtain ⟨⟨o, ho, ρ1, θ1, -, -, -, -, -, h3⟩, -, -⟩ := hpost
        rw [List.all_eq_true] at hty
        have := hty o ho
        split at this
        · rename_i q h0
          rw [h0] at h3
          have := h3.1
          cases this
        · cases this
      · cases hty
    obtain ⟨ty, h1, h2⟩ := hn
    exact W.zret hx hb (hr.trans h1) h2 post hS'.2.2 hdg hlocks
  · have hn : ∃ n, ret = some (.object n) := by
      unfold zf_tyo at hty
      obtain ⟨⟨o, ho, ρ1, θ1, -, -, -, -, -, h3⟩, -, -⟩ := id hpost
      split at hty
      · rw [List.all_eq_true] at hty
        have := hty o ho
        cases h0 : o.1 with
        | none => rw [h0] at h3; exact h3.elim
        | some a => rw [h0] at this; cases this
      · rw [List.all_eq_true] at hty
        have := hty o ho
        split at this
        · rename_i f h0
          rw [h0] at h3
          obtain ⟨x, e, -⟩ := h3
          cases e
        · cases this
      · unfold zf_bo at hty
        rw [List.all_eq_true] at hty
        have := hty o ho
        split at this
        · rename_i f h0
          rw [h0] at h3
          obtain ⟨x, e, -⟩ := h3
          cases e
        · cases this
      · exact ⟨_, rfl⟩
      · cases hty
    obtain ⟨n, h1⟩ := hn
    exact W.aret hx hb (hr.trans h1) (Or.inl ⟨n, rfl⟩) (Or.inr ⟨a, rfl⟩) post hS'.2.2 hdg hlocks
  · have hn : ret = none := by
      unfold zf_tyo at hty
      obtain ⟨⟨o, ho, ρ1, θ1, -, -, -, -, -, h3⟩, -, -⟩ := id hpost
      have h4 : o.1 = none := by
        cases h0 : o.1 with
        | none => rfl
        | some a => rw [h0] at h3; exact h3.elim
      split at hty
      · rfl
      · rw [List.all_eq_true] at hty; have := hty o ho; rw [h4] at this; cases this
      · unfold zf_bo at hty; rw [List.all_eq_true] at hty; have := hty o ho; rw [h4] at this; cases this
      · rw [List.all_eq_true] at hty; have := hty o ho; rw [h4] at this; cases this
      · cases hty
    exact W.vret hx hb (hr.trans hn) post hS'.2.2 hdg hlocks
end ZM
