/-! ===== runs of the plain machine, contracts, calls ===== -/
def xe_il (pc : Nat) : List (Nat × Nat × Instr) → Option (Nat × Instr)
  | [] => none
  | x :: t => match Nat.beq x.1 pc with
    | true => some x.2
    | false => xe_il pc t
theorem xe_il_ok {pc : Nat} {y : Nat × Instr} : ∀ {t : List (Nat × Nat × Instr)}, xe_il pc t = some y → (pc, y) ∈ t
  | [], h => by simp [xe_il] at h
  | x :: t, h => by
    unfold xe_il at h
    split at h
    · rename_i hb
      cases h
      rw [← Nat.eq_of_beq_eq_true hb]
      exact List.mem_cons_self
    · exact List.mem_cons_of_mem _ (xe_il_ok h)
/-- an end -/
def xe_r (len : Nat) (i : Instr) (st : List Value) : Option (Option Value) := match i, st, Nat.beq len 1 with
  | .ireturn, [.int x], true => some (some (.int x))
  | .areturn, [.ref g], true => some (some (.ref g))
  | .return_, [], true => some none
  | _, _, _ => none
/-- a call, by its table: how many it takes from the stack, what it does -/
def xe_cl (T : List (Nat × Nat × xe_F)) (j : Nat) (s s' : xe_X) : Prop := ∃ q ∈ T, q.1 = j ∧ q.2.1 ≤ s.2.2.1.length ∧ ∃ v hp', q.2.2 (s.2.2.1.take q.2.1) s.2.2.2 v hp' ∧ s' = (s.1 + 3, s.2.1, v.toList ++ s.2.2.1.drop q.2.1, hp')
/-- what an entry of the second table stands for: a static call, or (with 1000 more) a field of a constant -/
def xe_in (j n : Nat) : Instr × Nat := match Nat.blt n 1000 with
  | true => (.invokestatic j, n)
  | false => (.getfield j, n - 1000)
theorem xe_l8 : ∀ l : List Value, l.length ≤ (l.map fun v => v.category).sum
  | [] => Nat.le_refl _
  | v :: t => by
    have h := xe_l8 t
    have hv : 1 ≤ v.category := by cases v <;> exact Nat.le_of_ble_eq_true rfl
    show t.length + 1 ≤ v.category + (t.map fun v => v.category).sum
    omega
def xe_st (GT : List zf_G) (SC : List Nat) (RF : List (Nat × Nat × Nat)) (nL : Nat) (fg fp : zf_ft) (sg : List (Nat × Nat)) (lc : List (Nat × Int64)) (cv cs : List (Nat × Nat × xe_F)) (x : Nat × Instr) (s s' : xe_X) : Prop :=
  xe_1 GT SC RF nL fg fp sg lc s.1 x.1 x.2 s.2.1 s.2.2.1 s.2.2.2 = some s' ∨ (s'.1 = s.1 ∧ s'.2.2 = s.2.2 ∧ ∃ js, s'.2.1 = xe_kp s.2.1 js) ∨ (x.1 = 3 ∧ (s.2.2.1.map fun v => v.category).sum ≤ 8 ∧ ((∃ j, x.2 = .invokevirtual j ∧ xe_cl cv j s s') ∨ (∃ j, x.2 = .invokestatic j ∧ xe_cl cs j s s') ∨ ∃ j n f, x.2 = .getfield j ∧ (j, n + 1000, f) ∈ cs ∧ n ≤ s.2.2.1.length ∧ ∃ v hp', f (s.2.2.1.take n) s.2.2.2 v hp' ∧ s' = (s.1 + 3, s.2.1, v.toList ++ s.2.2.1.drop n, hp')))
def xe_run (GT : List zf_G) (SC : List Nat) (RF : List (Nat × Nat × Nat)) (nL : Nat) (fg fp : zf_ft) (sg : List (Nat × Nat)) (lc : List (Nat × Int64)) (cv cs : List (Nat × Nat × xe_F)) (ins : List (Nat × Nat × Instr)) : Nat → xe_X → Option Value → xe_H → Prop
  | 0, _, _, _ => False
  | n + 1, s, v, hp' => ∃ x, xe_il s.1 ins = some x ∧ ((xe_r x.1 x.2 s.2.2.1 = some v ∧ s.2.2.2 = hp') ∨ ∃ s', xe_st GT SC RF nL fg fp sg lc cv cs x s s' ∧ xe_run GT SC RF nL fg fp sg lc cv cs ins n s' v hp')
def xe_po (D : va_G) (k : Nat → ClassId) (Sg : Nat → Option Nat) (GT : List zf_G) (SC : List Nat) (RF : List (Nat × Nat × Nat)) (θ : Nat → Nat) (ws : va_W) (v : Option Value) (hp' : xe_H) (A : Nat → Prop) : Option Value → State → Prop := fun u t => u = v.map (xe_m θ) ∧ zf_f2 (xe_v Sg θ) v.toList (v.map (xe_m θ)).toList ∧ ∃ ws', va_P D vwCl ws' t.heap ∧ va_K D vwCl (tyz k) t ∧ va_D A ws' ∧ zf_typ Sg k GT ws' ∧ xe_c Sg θ GT SC RF ws' hp' ∧ xe_I θ SC ws ws'
/-- what is said of the names: apart, and the constants' own -/
def xe_th (ad : Nat → Nat) (Sg : Nat → Option Nat) (θ : Nat → Nat) : Prop := (∀ a b, Sg (θ a) = some (xe_k a) → Sg (θ b) = some (xe_k b) → θ a = θ b → a = b) ∧ ∀ i, i < 24 → θ (200 + i) = ad i ∧ Sg (ad i) = some 128
def xe_Con (l : Launch) (y : MethodName) (wsY : List Cond) (rm : Room) (D : va_G) (k : Nat → ClassId) (ad : Nat → Nat) (Ex : (Nat → Option Nat) → va_W → State → Prop) (GT : List zf_G) (SC : List Nat) (RF : List (Nat × Nat × Nat)) (f : xe_F) : Prop :=
  ∀ (Sg : Nat → Option Nat) (ws : va_W) (θ : Nat → Nat) (us vs : List Value) (sz : Nat) (hp : xe_H) (v : Option Value) (hp' : xe_H), xe_th ad Sg θ → zf_typ Sg k GT ws → xe_c Sg θ GT SC RF ws hp → zf_f2 (xe_v Sg θ) us vs → f us hp v hp' →
    Met l y wsY rm (va_Pc vs.reverse (g_pr D k (Ex Sg ws) sz ws)) (zf_Q (xe_po D k Sg GT SC RF θ ws v hp' (va_A ws sz)) (va_A ws sz)) 0 0 (va_A ws sz)
section XG
variable {p : Program} {l : Launch} {e : Env} {R : Room} {s : State} {m : MethodId} {args : Array Value} {below : List Frame} {meth : Method} {c : Code} {cells slots : Nat} {Q : State → Prop} {cc : ByteArray} {D : va_G} {A : Nat → Prop} {H0 : Heap} {Sg : Nat → Option Nat} {k : Nat → ClassId} {GT : List zf_G} {SC : List Nat} {RF : List (Nat × Nat × Nat)} {θ : Nat → Nat} {nL : Nat} {fg fp : zf_ft} {sg : List (Nat × Nat)} {lc : List (Nat × Int64)} {cv cs : List (Nat × Nat × xe_F)} {ins : List (Nat × Nat × Instr)} {wz : va_W}
theorem xe_run_ok (G : xe_G p l e R s m args below meth c cells slots Q cc D A H0 Sg k θ fg fp sg lc)
    (hcv : ∀ j q, (j, q) ∈ cv → xe_CR p l e R s m args below meth c cells slots Q cc D A H0 Sg k GT SC RF θ nL (.invokevirtual j) q.1 q.2) (hcs : ∀ j q, (j, q) ∈ cs → xe_CR p l e R s m args below meth c cells slots Q cc D A H0 Sg k GT SC RF θ nL (xe_in j q.1).1 (xe_in j q.1).2 q.2)
    (hins : ∀ x ∈ ins, decode cc x.1 = .ok (x.2.2, x.2.1)) {v : Option Value} {hp' : xe_H}
    (hret : ∀ (ws : va_W) (H : Heap) (locs : List Loc) (ls : Array Slot) (pc : Nat) (i : Instr), (va_P D vwCl ws H ∧ va_D A ws ∧ va_S A H0 H locs ∧ zf_typ Sg k GT ws ∧ xe_I θ SC wz ws) → xe_c Sg θ GT SC RF ws hp' → zf_f2 (xe_v Sg θ) v.toList (v.map (xe_m θ)).toList → decode cc pc = .ok (i, 1) → zf_rv i (v.map (xe_m θ)) → W p l e R s m args below meth c H locs cells slots Q (F0 m pc ls (v.map (xe_m θ)).toList)) :
    ∀ (n : Nat) (x : xe_X), xe_run GT SC RF nL fg fp sg lc cv cs ins n x v hp' → ∀ (ws : va_W) (H : Heap) (locs : List Loc) (ls : Array Slot) (stR : List Value), (va_P D vwCl ws H ∧ va_D A ws ∧ va_S A H0 H locs ∧ zf_typ Sg k GT ws ∧ xe_I θ SC wz ws) → ((∃ lv, lv_has ls nL lv ∧ xe_los Sg θ x.2.1 lv) ∧ zf_f2 (xe_v Sg θ) x.2.2.1 stR ∧ xe_c Sg θ GT SC RF ws x.2.2.2) → W p l e R s m args below meth c H locs cells slots Q (F0 m x.1 ls stR) := by
  intro n
  induction n with
  | zero => intro x h; exact h.elim
  | succ n ih =>
    intro x h ws H locs ls stR hW hsat
    obtain ⟨y, hil, h⟩ := h
    have hdg : decode cc x.1 = .ok (y.2, y.1) := hins (x.1, y) (xe_il_ok hil)
    rcases h with ⟨hu, rfl⟩ | ⟨s', hs, hrun⟩
    · obtain ⟨-, hst, hcc⟩ := hsat
      unfold xe_r at hu
      split at hu
      · rename_i x0 e1 e2 e3
        cases hu
        rw [e2] at hst
        obtain ⟨_, st0, rfl, ⟨rfl, o0⟩, hs0⟩ := zf_f2_c hst
        cases xe_nil hs0
        rw [e1, Nat.eq_of_beq_eq_true e3] at hdg
        exact hret ws H locs ls _ _ hW hcc ⟨⟨rfl, o0⟩, trivial⟩ hdg (Or.inl ⟨rfl, _, rfl⟩)
      · rename_i g0 e1 e2 e3
        cases hu
        rw [e2] at hst
        obtain ⟨_, st0, rfl, ⟨rfl, o0⟩, hs0⟩ := zf_f2_c hst
        cases xe_nil hs0
        rw [e1, Nat.eq_of_beq_eq_true e3] at hdg
        exact hret ws H locs ls _ _ hW hcc ⟨⟨rfl, o0⟩, trivial⟩ hdg (Or.inr (Or.inl ⟨rfl, _, rfl⟩))
      · rename_i e1 e2 e3
        cases hu
        rw [e2] at hst
        cases xe_nil hst
        rw [e1, Nat.eq_of_beq_eq_true e3] at hdg
        exact hret ws H locs ls _ _ hW hcc trivial hdg (Or.inr (Or.inr ⟨rfl, rfl⟩))
      · cases hu
    · rcases hs with h1 | ⟨e1, e2, js, e4⟩ | ⟨e3, h8, hc⟩
      · exact xe_1_ok G hdg h1 (fun ws H locs ls stR hW hs => ih s' hrun ws H locs ls stR hW hs) ws H locs ls stR hW hsat
      · obtain ⟨⟨lv, hl, hlo⟩, hst, hcc⟩ := hsat
        rw [← e1]
        refine ih s' hrun ws H locs ls stR hW ⟨⟨lv, hl, fun j a h => hlo j a ?_⟩, by rw [e2]; exact hst, by rw [e2]; exact hcc⟩
        rw [e4] at h
        exact xe_kp_ok h
      · obtain ⟨⟨lv, hl, hlo⟩, hst, hcc⟩ := hsat
        rw [e3] at hdg
        rcases hc with ⟨j, e9, q, hq, rfl, hle, u, hp9, hu, rfl⟩ | ⟨j, e9, q, hq, rfl, hle, u, hp9, hu, rfl⟩ | ⟨j, n9, f9, e9, hq, hle, u, hp9, hu, rfl⟩
        · rw [e9] at hdg
          obtain ⟨x1, y1, rfl, hx1, hy1⟩ := xe_cut q.2.1 hst
          refine hcv q.1 q.2 hq H locs ws _ _ y1 x.1 ls x.2.2.2 u hp9 hW.1 hW.2.1 hW.2.2.1 hW.2.2.2.1 hcc hx1 (by rw [List.length_take]; omega) hu hdg hl.1 (xe_c8 hy1 h8) (fun ws' H1 locs1 ht' hc' hv' hP' hD' hS' hI' => ?_)
          exact ih _ hrun ws' H1 locs1 ls _ ⟨hP', hD', hS', ht', xe_I_tr hW.2.2.2.2 hI'⟩ ⟨⟨lv, hl, hlo⟩, zf_f2_app hv' hy1, hc'⟩
        · rw [e9] at hdg
          obtain ⟨x1, y1, rfl, hx1, hy1⟩ := xe_cut q.2.1 hst
          have hn8 : q.2.1 < 1000 := by
            have h9 := xe_l8 x.2.2.1
            omega
          have hin : xe_in q.1 q.2.1 = (.invokestatic q.1, q.2.1) := by
            unfold xe_in
            rw [zf_blt' hn8]
          have hC := hcs q.1 q.2 hq
          rw [hin] at hC
          refine hC H locs ws _ _ y1 x.1 ls x.2.2.2 u hp9 hW.1 hW.2.1 hW.2.2.1 hW.2.2.2.1 hcc hx1 (by rw [List.length_take]; omega) hu hdg hl.1 (xe_c8 hy1 h8) (fun ws' H1 locs1 ht' hc' hv' hP' hD' hS' hI' => ?_)
          exact ih _ hrun ws' H1 locs1 ls _ ⟨hP', hD', hS', ht', xe_I_tr hW.2.2.2.2 hI'⟩ ⟨⟨lv, hl, hlo⟩, zf_f2_app hv' hy1, hc'⟩
        · rw [e9] at hdg
          have hin : xe_in j (n9 + 1000) = (.getfield j, n9) := by
            unfold xe_in
            have hb : Nat.blt (n9 + 1000) 1000 = false := by
              cases hb : Nat.blt (n9 + 1000) 1000
              · rfl
              · exact absurd (zf_blt hb) (by omega)
            rw [hb]
            show (Instr.getfield j, n9 + 1000 - 1000) = _
            rw [Nat.add_sub_cancel]
          have hC := hcs j (n9 + 1000, f9) hq
          rw [hin] at hC
          obtain ⟨x1, y1, rfl, hx1, hy1⟩ := xe_cut n9 hst
          refine hC H locs ws _ _ y1 x.1 ls x.2.2.2 u hp9 hW.1 hW.2.1 hW.2.2.1 hW.2.2.2.1 hcc hx1 (by rw [List.length_take]; omega) hu hdg hl.1 (xe_c8 hy1 h8) (fun ws' H1 locs1 ht' hc' hv' hP' hD' hS' hI' => ?_)
          exact ih _ hrun ws' H1 locs1 ls _ ⟨hP', hD', hS', ht', xe_I_tr hW.2.2.2.2 hI'⟩ ⟨⟨lv, hl, hlo⟩, zf_f2_app hv' hy1, hc'⟩
end XG
def xe_rt (ret : Option FieldType) (v : Option Value) : Prop := match ret, v with
  | none, none => True
  | some .int, some (.int _) => True
  | some .boolean, some (.int x) => x = 0 ∨ x = 1
  | some (.object _), some (.ref _) => True
  | _, _ => False
theorem xe_rt_ref {ret : Option FieldType} {g : Nat} (h : xe_rt ret (some (.ref g))) : ∃ n, ret = some (.object n) := by
  cases ret with
  | none => exact h.elim
  | some ty => cases ty <;> first | exact ⟨_, rfl⟩ | exact h.elim
theorem xe_rt_no {ret : Option FieldType} (h : xe_rt ret none) : ret = none := by
  cases ret with
  | none => rfl
  | some ty => cases ty <;> exact h.elim
def xe_ag : Nat → List Value → List (Nat × Value)
  | _, [] => []
  | i, a :: t => (i, a) :: xe_ag (if a.category = 2 then i + 2 else i + 1) t
theorem xe_ag_ok {Sg : Nat → Option Nat} {θ : Nat → Nat} : ∀ {i : Nat} {us vs : List Value}, zf_f2 (xe_v Sg θ) us vs → zf_f2 (xe_l Sg θ) (xe_ag i us) (lv_args i vs)
  | _, [], [], _ => trivial
  | i, a :: x, v :: vs, h => by
    unfold xe_ag lv_args
    refine ⟨⟨rfl, h.1⟩, ?_⟩
    rw [h.1.1, xe_catm]
    exact xe_ag_ok h.2
  | _, [], _ :: _, h => h.elim
  | _, _ :: _, [], h => h.elim
def xe_Rl (l : Launch) (y : MethodName) (wsY : List Cond) (rm : Room) (cc : ByteArray) (nL : Nat) (D : va_G) (k : Nat → ClassId) (ad : Nat → Nat) (GT : List zf_G) (SC : List Nat) (RF : List (Nat × Nat × Nat)) (B0 : Nat) (fg fp : zf_ft) (sg : List (Nat × Nat)) (lc : List (Nat × Int64)) (cv cs : List (Nat × Nat × xe_F)) (Ex : (Nat → Option Nat) → va_W → State → Prop) : Prop :=
  ∀ (p : Program) (e : Env) (s : State) (m : MethodId) (args : Array Value) (below : List Frame) (meth : Method) (c : Code) (Q : State → Prop) (Sg : Nat → Option Nat) (w0 : va_W) (A : Nat → Prop) (θ : Nat → Nat), CallFix p m c cc nL s args wsY y.cls → va_K D vwCl (tyz k) s → Ex Sg w0 s → (∀ q, A q → B0 ≤ q) → (∀ q, s.heap.size ≤ q → A q) → xe_th ad Sg θ →
    (∀ x ∈ fg, zf_FG p l e rm s m args below meth c 0 0 Q cc D vwCl x) ∧ (∀ x ∈ fp, zf_FP p l e rm s m args below meth c 0 0 Q cc D vwCl A s.heap Sg x) ∧
    (∀ j n, (j, n) ∈ sg → ∀ (H : Heap) (locs : List Loc) (rest : List Value) (pc : Nat) (ls : Array Slot), va_S A s.heap H locs → decode cc pc = .ok (.getstatic j, 3) → (xe_ok Sg θ (.ref n) → W p l e rm s m args below meth c H locs 0 0 Q (F0 m (pc + 3) ls (.ref (θ n) :: rest))) → W p l e rm s m args below meth c H locs 0 0 Q (F0 m pc ls rest)) ∧
    (∀ j v, (j, v) ∈ lc → ∀ (H : Heap) (locs : List Loc) (rest : List Value) (pc : Nat) (ls : Array Slot), decode cc pc = .ok (.ldc2_w j, 3) → W p l e rm s m args below meth c H locs 0 0 Q (F0 m (pc + 3) ls (.long v :: rest)) → W p l e rm s m args below meth c H locs 0 0 Q (F0 m pc ls rest)) ∧
    (∀ j q, (j, q) ∈ cv → xe_CR p l e rm s m args below meth c 0 0 Q cc D A s.heap Sg k GT SC RF θ nL (.invokevirtual j) q.1 q.2) ∧ ∀ j q, (j, q) ∈ cs → xe_CR p l e rm s m args below meth c 0 0 Q cc D A s.heap Sg k GT SC RF θ nL (xe_in j q.1).1 (xe_in j q.1).2 q.2
section XM
variable {l : Launch} {cc : ByteArray} {nL B0 : Nat} {D : va_G} {k : Nat → ClassId} {ad : Nat → Nat} {y : MethodName} {wsY wsY' : List Cond} {rm : Room} {ret : Option FieldType} {GT : List zf_G} {SC : List Nat} {RF : List (Nat × Nat × Nat)} {f : xe_F} {fg fp : zf_ft} {sg : List (Nat × Nat)} {lc : List (Nat × Int64)} {cv cs : List (Nat × Nat × xe_F)} {ins : List (Nat × Nat × Instr)} {Ex : (Nat → Option Nat) → va_W → State → Prop}
theorem xe_mk (hy : plainName y.cls = true) (hw : wsY = Cond.code y cc nL ret :: wsY') (hEx : zf_Eo Ex B0) (hins : ins.all (fun x => decide (decode cc x.1 = .ok (x.2.2, x.2.1))) = true)
    (hf : ∀ us hp v hp', f us hp v hp' → (us.map fun v => v.category).sum ≤ nL ∧ xe_rt ret v ∧ ∃ n, xe_run GT SC RF nL fg fp sg lc cv cs ins n (0, xe_ag 0 us.reverse, [], hp) v hp')
    (hrules : xe_Rl l y wsY rm cc nL D k ad GT SC RF B0 fg fp sg lc cv cs Ex) : xe_Con l y wsY rm D k ad Ex GT SC RF f := by
  intro Sg ws θ us vs sz hp v hp' hth ht hcc hus hfv
  obtain ⟨hcat, hrt, n, hrun⟩ := hf us hp _ _ hfv
  refine Met.ofW (cc := cc) (maxL := nL) (ret := ret) hy hw ?_
  intro p e s m args below meth c s₁ B hml hv
  obtain ⟨rfl, hsz, hP, hK, hD0, hE⟩ := hv
  have hx := B.exec
  have hb := B.bytes
  have hr := B.returns
  have hts := atoms_spec (ws := wsY) B.pre
  have hown : s.vm.findClass y.cls = some m.cls := findClass_of_methodNamed B.named
  have hlocks := B.notSynchronized
  subst hsz
  have hD := hD0.self (sz := s.heap.size)
  have hAB := hEx.2.1 Sg ws s hE
  generalize hAe : va_A ws s.heap.size = A at hD hAB ⊢
  have hA : ∀ q : Nat, s.heap.size ≤ q → A q := fun q h => by rw [← hAe]; exact Or.inr h
  have hS : va_S A s.heap s.heap [] := va_S.rf
  have husr := zf_f2_rev hus
  have hc2 : (lg_sl vs.reverse).length ≤ nL := by
    rw [zf_lgl, xe_cs husr, List.map_reverse, List.sum_reverse]
    exact hcat
  have hl := lv_entry vs.reverse (n := nL) hc2
  rw [lg_entry_eq]
  obtain ⟨r1, r2, r3, r4, r5, r6⟩ := hrules p e s m vs.reverse.toArray below meth c (MQ below (zf_Q (xe_po D k Sg GT SC RF θ ws v hp' A) A) vs.reverse.toArray s 0 0 A) Sg ws A θ ⟨hx, hb, hml, hown, hts⟩ hK hE hAB hA hth
  refine xe_run_ok (H0 := s.heap) (A := A) ⟨hx, hb, hK, hth.1, r1, r2, r3, r4, fun H9 locs9 hS9 => hEx.2.2.2 Sg ws s H9 locs9 A hE hAB hS9⟩ r5 r6 (fun x hx' => of_decide_eq_true (List.all_eq_true.mp hins x hx')) ?_ n _ hrun ws s.heap [] _ [] ⟨hP, hD, hS, ht, xe_I_rf⟩ ⟨⟨_, hl, fun j a h => xe_lk_ok (xe_ag_ok husr) h⟩, trivial, hcc⟩
  intro ws' H locs ls pc i hW' hc' hv' hdg hrv
  have post : ∀ t : State, t.heap = H → s.WarmedH t.vm → zf_Q (xe_po D k Sg GT SC RF θ ws v hp' A) A vs.reverse.toArray s (.returned (v.map (xe_m θ))) t := fun t ht' hW => ⟨⟨_, rfl, rfl, hv', ws', by rw [ht']; exact hW'.1, va_K.moved hW.alike hK, hW'.2.1, hW'.2.2.2.1, hc', hW'.2.2.2.2⟩, hW'.2.2.1.F ht'⟩
  match v, hrt, hrv, post with
  | some (.int x), hrt, hrv, post =>
    have hi : i = .ireturn := by
      rcases hrv with h | ⟨-, a, h⟩ | ⟨-, h⟩
      · exact h.1
      · cases h
      · cases h
    subst hi
    have hn : ∃ ty, ret = some ty ∧ narrow ty (.int x) = .int x := by
      match ret, hrt with
      | some .int, _ => exact ⟨.int, rfl, rfl⟩
      | some .boolean, h =>
        refine ⟨.boolean, rfl, ?_⟩
        rcases h with rfl | rfl <;> rfl
    obtain ⟨ty, h1, h2⟩ := hn
    exact W.zret hx hb (hr.trans h1) h2 post hW'.2.2.1.2.2 hdg hlocks
  | some (.ref g), hrt, hrv, post =>
    have hi : i = .areturn := by
      rcases hrv with ⟨-, a, h⟩ | h | ⟨-, h⟩
      · cases h
      · exact h.1
      · cases h
    subst hi
    have hn : ∃ n, ret = some (.object n) := xe_rt_ref hrt
    obtain ⟨n, h1⟩ := hn
    exact W.aret hx hb (hr.trans h1) (Or.inl ⟨n, rfl⟩) (Or.inr ⟨_, rfl⟩) post hW'.2.2.1.2.2 hdg hlocks
  | none, hrt, hrv, post =>
    have hi : i = .return_ := by
      rcases hrv with ⟨-, a, h⟩ | ⟨-, a, h⟩ | h
      · cases h
      · cases h
      · exact h.1
    subst hi
    have hn : ret = none := xe_rt_no hrt
    exact W.vret hx hb (hr.trans hn) post hW'.2.2.1.2.2 hdg hlocks
end XM
section XO
variable {p : Program} {l : Launch} {e : Env} {R : Room} {s : State} {m : MethodId} {args : Array Value} {below : List Frame} {meth : Method} {c : Code} {cells slots : Nat} {Q : State → Prop}
variable {cc bytes : ByteArray} {nL maxL index n B0 : Nat} {D : va_G} {A : Nat → Prop} {k : Nat → ClassId} {ad : Nat → Nat} {own C : String} {y : MethodName} {wsY Ts : List Cond} {rm : Room} {ret : Option FieldType} {GT : List zf_G} {SC : List Nat} {RF : List (Nat × Nat × Nat)} {f : xe_F} {Sg : Nat → Option Nat} {θ : Nat → Nat} {w0 : va_W} {Ex : (Nat → Option Nat) → va_W → State → Prop}
theorem xe_crV (S : CallFix p m c cc nL s args Ts own) (hEx : zf_Eo Ex B0) (hE : Ex Sg w0 s) (hAB : ∀ q, A q → B0 ≤ q) (hA : ∀ q, s.heap.size ≤ q → A q) (hK : va_K D vwCl (tyz k) s) (hth : xe_th ad Sg θ)
    (hM : xe_Con l y wsY rm D k ad Ex GT SC RF f) (cw : CallW R s args own C index y bytes maxL ret wsY rm 0 0 n) (hf : cells + 0 ≤ R.cells ∧ slots + 0 ≤ R.slots) (ci : Nat) {q : vw_C} (hcl : vwCl[ci]? = some q) (hqC : q.1 = C) (g : Nat) (hkn : zf_knd GT g false ci = true) (hrec : ∀ us hp v hp', f us hp v hp' → ∃ ar, us = ar ++ [.ref g]) :
    xe_CR p l e R s m args below meth c cells slots Q cc D A s.heap Sg k GT SC RF θ nL (.invokevirtual index) (n + 1) f := by
  subst hqC
  intro H locs ws us vs rest pc ls hp v hp' hP hD hS ht hcc hus hn hfv hdg hls hcat kk
  obtain ⟨ar, rfl⟩ := hrec us hp _ _ hfv
  have hMet := hM Sg ws θ _ vs H.size hp v hp' hth ht hcc hus hfv
  obtain ⟨k1, k2, k3⟩ := zf_knd_ok hkn
  obtain ⟨As, rfl, hAs, hg⟩ : ∃ As : List Value, vs = As.reverse ++ [.ref (θ g)] ∧ As.length = n ∧ Sg (θ g) = some g := by
    obtain ⟨y1, y2, rfl, h1, h2⟩ := xe_cut ar.length hus
    rw [List.take_left] at h1
    rw [List.drop_left] at h2
    obtain ⟨_, z, rfl, ⟨rfl, o0⟩, h3⟩ := zf_f2_c h2
    cases xe_nil h3
    have hl1 := zf_f2_len h1
    rw [List.length_append, List.length_singleton] at hn
    refine ⟨y1.reverse, by rw [List.reverse_reverse]; rfl, by rw [List.length_reverse]; omega, ?_⟩
    have o0 : Sg (θ g) = some (xe_k g) := o0
    rw [o0]
    unfold xe_k
    rw [zf_blt' k3]
  obtain ⟨q0, en, p1, p2⟩ := ht _ _ hg k3
  obtain ⟨fs, rfl, -⟩ := zf_obj p2 k1 k2
  have hav : (As.reverse ++ [Value.ref (θ g)]).reverse = Value.ref (θ g) :: As := by simp
  rw [hav] at hMet
  have hrun := va_runV (rest := rest) (locs := locs) (e := e) (below := below) (meth := meth) (cells := cells) (slots := slots) S hMet cw ⟨zf_blind (hEx.1 Sg ws), va_recv hK hP hcl p1, zf_pass hEx hE hAB hK hP hD hS⟩ (g := F0 m pc ls (As.reverse ++ .ref (θ g) :: rest)) rfl hAs hls rfl (lv_room (rest := rest) (ls := ls) (pc := pc) (m := m) hcat) hdg hf
  rw [List.append_assoc]
  have hFc := va_free hD hS hA (List.range ws.length) (zf_whole ws)
  refine zf_callg hrun hS (fun q _ h => hFc q h) hFc (fun v' t H1 locs1 ht1 hvm hB hz hk1 hS1 => ?_)
  obtain ⟨rfl, z0, ws', z1, z2, z3, z4, z5, z6⟩ := hB
  rw [ht1] at z1
  obtain ⟨hP1, hD1⟩ := zf_back hP hD hS hA hk1 z1 z3
  exact kk ws' H1 locs1 z4 z5 z0 hP1 hD1 hS1 z6
theorem xe_crS (S : CallFix p m c cc nL s args Ts own) (hEx : zf_Eo Ex B0) (hE : Ex Sg w0 s) (hAB : ∀ q, A q → B0 ≤ q) (hA : ∀ q, s.heap.size ≤ q → A q) (hK : va_K D vwCl (tyz k) s) (hth : xe_th ad Sg θ)
    (hM : xe_Con l y wsY rm D k ad Ex GT SC RF f) (cw : CallB R s args own index y bytes maxL ret wsY rm 0 0 n ∧ (Cond.static y).before args s = true) (hf : cells + 0 ≤ R.cells ∧ slots + 0 ≤ R.slots) :
    xe_CR p l e R s m args below meth c cells slots Q cc D A s.heap Sg k GT SC RF θ nL (.invokestatic index) n f := by
  intro H locs ws us vs rest pc ls hp v hp' hP hD hS ht hcc hus hn hfv hdg hls hcat kk
  have hMet := hM Sg ws θ _ vs H.size hp v hp' hth ht hcc hus hfv
  have hl := zf_f2_len hus
  have hrun := va_runS (rest := rest) (locs := locs) (e := e) (below := below) (meth := meth) (cells := cells) (slots := slots) S hMet cw ⟨zf_blind (hEx.1 Sg ws), zf_pass hEx hE hAB hK hP hD hS⟩ (g := F0 m pc ls (vs ++ rest)) rfl (by rw [List.length_reverse]; omega) hls (by rw [List.reverse_reverse]) (lv_room (rest := rest) (ls := ls) (pc := pc) (m := m) hcat) hdg hf
  have hFc := va_free hD hS hA (List.range ws.length) (zf_whole ws)
  refine zf_callg hrun hS (fun q _ h => hFc q h) hFc (fun v' t H1 locs1 ht1 hvm hB hz hk1 hS1 => ?_)
  obtain ⟨rfl, z0, ws', z1, z2, z3, z4, z5, z6⟩ := hB
  rw [ht1] at z1
  obtain ⟨hP1, hD1⟩ := zf_back hP hD hS hA hk1 z1 z3
  exact kk ws' H1 locs1 z4 z5 z0 hP1 hD1 hS1 z6
end XO
theorem xe_a2 {P : Nat → Nat → Prop} {a b : Nat} {t : List (Nat × Nat)} (h : P a b) (ht : ∀ j n, (j, n) ∈ t → P j n) : ∀ j n, (j, n) ∈ (a, b) :: t → P j n := fun j n hm => by
  rcases List.mem_cons.mp hm with e | hm
  · cases e; exact h
  · exact ht j n hm
theorem xe_n2 {P : Nat → Nat → Prop} : ∀ j n, (j, n) ∈ ([] : List (Nat × Nat)) → P j n := fun j n hm => by cases hm
theorem xe_a3 {P : Nat → Int64 → Prop} {a : Nat} {b : Int64} {t : List (Nat × Int64)} (h : P a b) (ht : ∀ j n, (j, n) ∈ t → P j n) : ∀ j n, (j, n) ∈ (a, b) :: t → P j n := fun j n hm => by
  rcases List.mem_cons.mp hm with e | hm
  · cases e; exact h
  · exact ht j n hm
theorem xe_n3 {P : Nat → Int64 → Prop} : ∀ j n, (j, n) ∈ ([] : List (Nat × Int64)) → P j n := fun j n hm => by cases hm
theorem xe_a4 {P : Nat → (Nat × xe_F) → Prop} {a : Nat} {b : Nat × xe_F} {t : List (Nat × Nat × xe_F)} (h : P a b) (ht : ∀ j n, (j, n) ∈ t → P j n) : ∀ j n, (j, n) ∈ (a, b) :: t → P j n := fun j n hm => by
  rcases List.mem_cons.mp hm with e | hm
  · cases e; exact h
  · exact ht j n hm
theorem xe_n4 {P : Nat → (Nat × xe_F) → Prop} : ∀ j n, (j, n) ∈ ([] : List (Nat × Nat × xe_F)) → P j n := fun j n hm => by cases hm
/-- the kinds without their ints' bounds -/
def xGT : List zf_G := zGT.map (fun g => (g.1, g.2.1, g.2.2.map (fun q => (q.1, (match q.2 with
  | .inl _ => .inl (-2147483648, 2147483647)
  | P => P : zf_P)))))
/-! ===== stepping, in pictures: the last step is left as it stands ===== -/
def xe_n (GT : List zf_G) (SC : List Nat) (RF : List (Nat × Nat × Nat)) (nL : Nat) (fg fp : zf_ft) (sg : List (Nat × Nat)) (lc : List (Nat × Int64)) (ins : List (Nat × Nat × Instr)) : Nat → xe_X → Option xe_X
  | 0, s => match xe_il s.1 ins with
    | none => none
    | some x => xe_1 GT SC RF nL fg fp sg lc s.1 x.1 x.2 s.2.1 s.2.2.1 s.2.2.2
  | j + 1, s => match xe_il s.1 ins with
    | none => none
    | some x => match xe_1 GT SC RF nL fg fp sg lc s.1 x.1 x.2 s.2.1 s.2.2.1 s.2.2.2 with
      | some s' => xe_n GT SC RF nL fg fp sg lc ins j s'
      | none => none
section XP
variable {GT : List zf_G} {SC : List Nat} {RF : List (Nat × Nat × Nat)} {nL : Nat} {fg fp : zf_ft} {sg : List (Nat × Nat)} {lc : List (Nat × Int64)} {cv cs : List (Nat × Nat × xe_F)} {ins : List (Nat × Nat × Instr)} {v : Option Value} {hp' : xe_H}
theorem xe_go : ∀ (j : Nat) {s s' : xe_X}, xe_n GT SC RF nL fg fp sg lc ins j s = some s' → (∃ n, xe_run GT SC RF nL fg fp sg lc cv cs ins n s' v hp') → ∃ n, xe_run GT SC RF nL fg fp sg lc cv cs ins n s v hp'
  | 0, s, s', h, r => by
    unfold xe_n at h
    split at h
    · cases h
    · rename_i x hil
      obtain ⟨n, hn⟩ := r
      exact ⟨n + 1, x, hil, Or.inr ⟨s', Or.inl h, hn⟩⟩
  | j + 1, s, s', h, r => by
    unfold xe_n at h
    split at h
    · cases h
    · rename_i x hil
      split at h
      · rename_i s1 h1
        obtain ⟨n, hn⟩ := xe_go j h r
        exact ⟨n + 1, x, hil, Or.inr ⟨s1, Or.inl h1, hn⟩⟩
      · cases h
/-- a branch -/
theorem xe_bT (j : Nat) {s A B : xe_X} {b : Bool} (hb : b = true) (h : xe_n GT SC RF nL fg fp sg lc ins j s = some (bif b then A else B)) (r : ∃ n, xe_run GT SC RF nL fg fp sg lc cv cs ins n A v hp') : ∃ n, xe_run GT SC RF nL fg fp sg lc cv cs ins n s v hp' := by
  subst hb
  exact xe_go j h r
theorem xe_bF (j : Nat) {s A B : xe_X} {b : Bool} (hb : b = false) (h : xe_n GT SC RF nL fg fp sg lc ins j s = some (bif b then A else B)) (r : ∃ n, xe_run GT SC RF nL fg fp sg lc cv cs ins n B v hp') : ∃ n, xe_run GT SC RF nL fg fp sg lc cv cs ins n s v hp' := by
  subst hb
  exact xe_go j h r
/-- an array's place -/
theorem xe_ar (j : Nat) {s A : xe_X} {b : Bool} (hb : b = true) (h : xe_n GT SC RF nL fg fp sg lc ins j s = bif b then some A else none) (r : ∃ n, xe_run GT SC RF nL fg fp sg lc cv cs ins n A v hp') : ∃ n, xe_run GT SC RF nL fg fp sg lc cv cs ins n s v hp' := by
  subst hb
  exact xe_go j h r
theorem xe_end {s : xe_X} {x : Nat × Instr} (hil : xe_il s.1 ins = some x) (hr : xe_r x.1 x.2 s.2.2.1 = some v) (hh : s.2.2.2 = hp') : ∃ n, xe_run GT SC RF nL fg fp sg lc cv cs ins n s v hp' := ⟨1, x, hil, Or.inl ⟨hr, hh⟩⟩
theorem xe_vir {s : xe_X} {j n : Nat} {f : xe_F} (hil : xe_il s.1 ins = some (3, .invokevirtual j)) (h8 : (s.2.2.1.map fun v => v.category).sum ≤ 8) (hq : (j, n, f) ∈ cv) (hle : n ≤ s.2.2.1.length) {v1 : Option Value} {hp1 : xe_H} (hf : f (s.2.2.1.take n) s.2.2.2 v1 hp1) (r : ∃ n9, xe_run GT SC RF nL fg fp sg lc cv cs ins n9 (s.1 + 3, s.2.1, v1.toList ++ s.2.2.1.drop n, hp1) v hp') : ∃ n, xe_run GT SC RF nL fg fp sg lc cv cs ins n s v hp' := by
  obtain ⟨n9, hn⟩ := r
  exact ⟨n9 + 1, _, hil, Or.inr ⟨_, Or.inr (Or.inr ⟨rfl, h8, Or.inl ⟨j, rfl, (j, n, f), hq, rfl, hle, v1, hp1, hf, rfl⟩⟩), hn⟩⟩
theorem xe_sta {s : xe_X} {j n : Nat} {f : xe_F} (hil : xe_il s.1 ins = some (3, .invokestatic j)) (h8 : (s.2.2.1.map fun v => v.category).sum ≤ 8) (hq : (j, n, f) ∈ cs) (hle : n ≤ s.2.2.1.length) {v1 : Option Value} {hp1 : xe_H} (hf : f (s.2.2.1.take n) s.2.2.2 v1 hp1) (r : ∃ n9, xe_run GT SC RF nL fg fp sg lc cv cs ins n9 (s.1 + 3, s.2.1, v1.toList ++ s.2.2.1.drop n, hp1) v hp') : ∃ n, xe_run GT SC RF nL fg fp sg lc cv cs ins n s v hp' := by
  obtain ⟨n9, hn⟩ := r
  exact ⟨n9 + 1, _, hil, Or.inr ⟨_, Or.inr (Or.inr ⟨rfl, h8, Or.inr (Or.inl ⟨j, rfl, (j, n, f), hq, rfl, hle, v1, hp1, hf, rfl⟩)⟩), hn⟩⟩
theorem xe_kf {s : xe_X} {j n : Nat} {f : xe_F} (hil : xe_il s.1 ins = some (3, .getfield j)) (h8 : (s.2.2.1.map fun v => v.category).sum ≤ 8) (hq : (j, n + 1000, f) ∈ cs) (hle : n ≤ s.2.2.1.length) {v1 : Option Value} {hp1 : xe_H} (hf : f (s.2.2.1.take n) s.2.2.2 v1 hp1) (r : ∃ n9, xe_run GT SC RF nL fg fp sg lc cv cs ins n9 (s.1 + 3, s.2.1, v1.toList ++ s.2.2.1.drop n, hp1) v hp') : ∃ n, xe_run GT SC RF nL fg fp sg lc cv cs ins n s v hp' := by
  obtain ⟨n9, hn⟩ := r
  exact ⟨n9 + 1, _, hil, Or.inr ⟨_, Or.inr (Or.inr ⟨rfl, h8, Or.inr (Or.inr ⟨j, n, f, rfl, hq, hle, v1, hp1, hf, rfl⟩)⟩), hn⟩⟩
theorem xe_nrm (js : List Nat) {pc : Nat} {lo : List (Nat × Value)} {st : List Value} {hp : xe_H} {x : Nat × Instr} (hil : xe_il pc ins = some x) (r : ∃ n, xe_run GT SC RF nL fg fp sg lc cv cs ins n (pc, xe_kp lo js, st, hp) v hp') : ∃ n, xe_run GT SC RF nL fg fp sg lc cv cs ins n (pc, lo, st, hp) v hp' := by
  obtain ⟨n, hn⟩ := r
  exact ⟨n + 1, x, hil, Or.inr ⟨(pc, xe_kp lo js, st, hp), Or.inr (Or.inl ⟨rfl, rfl, js, rfl⟩), hn⟩⟩
end XP
