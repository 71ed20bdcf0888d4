/-! ===== pieces of a method by the checker, calls between them ===== -/
theorem Met_room {l : Launch} {y : MethodName} {ws : List Cond} {rm r2 : Room} {Pc : Array Value → State → Prop} {Qc : Array Value → State → Outcome → State → Prop} {mc ms : Nat} {free : Addr → Prop} (hM : Met l y ws rm Pc Qc mc ms free) (h1 : rm.frames ≤ r2.frames) (h2 : rm.cells ≤ r2.cells) (h3 : rm.slots ≤ r2.slots) (h4 : rm.locals ≤ r2.locals) : Met l y ws r2 Pc Qc mc ms free := by
  intro p e ha hc hk s m args below hf happ hP hK
  refine hM p e ha hc hk s m args below hf ?_ hP hK
  unfold Spec.appliesLoose at happ ⊢
  rw [hf] at happ ⊢
  simp only [Bool.and_eq_true] at happ ⊢
  refine ⟨⟨happ.1.1, ?_⟩, happ.2⟩
  have h : s.hasRoom e.platform r2 = true := happ.1.2
  show s.hasRoom e.platform rm = true
  unfold State.hasRoom at h ⊢
  simp only [Bool.and_eq_true, decide_eq_true_eq] at h ⊢
  obtain ⟨⟨⟨⟨a1, b1, b2, b3, b4, b5⟩, a3⟩, a4⟩, a5⟩ := h
  exact ⟨⟨⟨⟨by omega, by omega, by omega, by omega, by omega, b5⟩, by omega⟩, by omega⟩, a5⟩
theorem xe_room {l : Launch} {y : MethodName} {wsY : List Cond} {rm r2 : Room} {D : va_G} {k : Nat → ClassId} {ad : Nat → Nat} {Ex : (Nat → Option Nat) → va_W → State → Prop} {GT : List zf_G} {SC : List Nat} {RF : List (Nat × Nat × Nat)} {f : xe_F} (h : xe_Con l y wsY rm D k ad Ex GT SC RF f) (h1 : rm.frames ≤ r2.frames) (h2 : rm.cells ≤ r2.cells) (h3 : rm.slots ≤ r2.slots) (h4 : rm.locals ≤ r2.locals) : xe_Con l y wsY r2 D k ad Ex GT SC RF f :=
  fun Sg ws θ us vs sz hp v hp' a1 a2 a3 a4 a5 => Met_room (h Sg ws θ us vs sz hp v hp' a1 a2 a3 a4 a5) h1 h2 h3 h4
section ZP
variable {l : Launch} {cc : ByteArray} {nL B0 fuel : Nat} {D : va_G} {k : Nat → ClassId} {y : MethodName} {wsY : List Cond} {rm : Room} {M : zf_M} {Ms : List zf_M} {fg fp : zf_ft} {ins : List zf_X} {cuts : List zf_U} {Ex : (Nat → Option Nat) → va_W → State → Prop}
variable {p : Program} {e : Env} {s : State} {m : MethodId} {args : Array Value} {below : List Frame} {meth : Method} {c : Code} {Q : State → Prop} {Sg : Nat → Option Nat} {w0 ws : va_W} {A : Nat → Prop} {θ : Nat → Nat} {ρ : Nat → Int} {H : Heap} {locs : List Loc} {ls : Array Slot} {st : List Value} {pc : Nat} {σ : zf_S}
theorem zp_run (hEx : zf_Eo Ex B0) (hins : ins.all (fun x => decide (decode cc x.1 = .ok (x.2.2.1, x.2.1))) = true) (hrules : zf_Rl l y wsY rm cc nL D k zGT 37 B0 Ms fg fp ins Ex)
    (S : CallFix p m c cc nL s args wsY y.cls) (hK : va_K D vwCl (tyz k) s) (hE : Ex Sg w0 s) (hAB : ∀ q, A q → B0 ≤ q) (hA : ∀ q, s.heap.size ≤ q → A q) (hone : ∀ a g, Sg a = some g → g < 64 → a = θ g) (hsing : ∀ g, g < 37 → g < 64 → Sg (θ g) = some g)
    (h64 : Nat.ble 64 M.1.2.2.1 = true) (heff : M.2.1.all (fun q => zf_bt M.1.1.length q.2.1.1 && zf_bt M.1.1.length q.2.2.1) = true)
    (hrun : zf_run M.1.1.length M.1.2.2.1 37 nL zGT M Ms fg fp ins cuts none fuel pc σ = true)
    (hP : va_P D vwCl ws H) (hD : va_D A ws) (hS : va_S A s.heap H locs) (ht : zf_typ Sg k zGT ws) (hsat : zf_sat Sg ρ θ nL σ ls st ws)
    (hcut : ∀ u ∈ cuts, ∀ (ρ' : Nat → Int) (θ' : Nat → Nat) (ws' : va_W) (H : Heap) (locs : List Loc) (ls : Array Slot) (st : List Value), (∀ i, i < M.1.1.length → ρ' i = ρ i) → (∀ i, i < M.1.2.2.1 → θ' i = θ i) → va_P D vwCl ws' H → va_D A ws' → va_S A s.heap H locs → zf_typ Sg k zGT ws' → zf_fr Sg M.2.1 ρ ws ws' → zf_sat Sg ρ' θ' nL u.2.1 ls st ws' → W p l e rm s m args below meth c H locs 0 0 Q (F0 m u.1 ls st))
    (hret : ∀ (H : Heap) (locs : List Loc) (ws' : va_W) (ls : Array Slot) (pc : Nat) (i : Instr) (v : Option Value), va_P D vwCl ws' H → va_D A ws' → va_S A s.heap H locs → zf_post Sg k zGT ρ θ M ws v ws' → decode cc pc = .ok (i, 1) → zf_rv i v → W p l e rm s m args below meth c H locs 0 0 Q (F0 m pc ls v.toList)) :
    W p l e rm s m args below meth c H locs 0 0 Q (F0 m pc ls st) := by
  obtain ⟨r1, r2, r3⟩ := hrules p e s m args below meth c Q Sg w0 A θ S hK hE hAB hA hone hsing
  exact zf_run_ok (D := D) (k := k) (H0 := s.heap) (A := A) (Sg := Sg) (GT := zGT) (NS := 37) (nL := nL) (cl := vwCl) (M := M) (Ms := Ms) (fg := fg) (fp := fp) (ins := ins) (ws0 := ws) (ρe := ρ) (θe := θ) (om := none) (cuts := cuts) S.1 S.2.1 hK hone (Nat.le_of_ble_eq_true h64) hsing (fun H locs hS' => hEx.2.2.2 Sg w0 s H locs A hE hAB hS') r1 r2 (fun x hx' => of_decide_eq_true (List.all_eq_true.mp hins x hx')) r3 (fun H locs ws' ls pc i v a1 a2 a3 a4 a5 a6 => hret H locs ws' ls pc i v a1 a2 a3 a4 a5 a6) heff (n0 := M.1.1.length) (r0 := M.1.2.2.1) (ρ0 := ρ) (θ0 := θ) (Nat.le_refl _) (Nat.le_refl _) (fun _ _ => rfl) (fun _ _ => rfl) (fun x hx' => by cases hx') (fun u hu ρ' θ' ws' H locs ls st a1 a2 a3 a4 _ _ => hcut u hu ρ' θ' ws' H locs ls st a1 a2 a3.1 a3.2.1 a3.2.2.1 a3.2.2.2.1 a3.2.2.2.2 a4) fuel pc σ hrun ρ θ ws H locs ls st (fun _ _ => rfl) (fun _ _ => rfl) ⟨hP, hD, hS, ht, fun _ _ _ _ _ _ h => h⟩ hsat
theorem zp_rv {i : Instr} {v : Option Value} {ws' : va_W} (hty : zf_tyo none M = true) (h : zf_post Sg k zGT ρ θ M ws v ws') (hrv : zf_rv i v) : i = .return_ ∧ v = none := by
  obtain ⟨⟨o, ho, ρ1, θ1, -, -, -, -, -, h3⟩, -, -⟩ := h
  have hq := List.all_eq_true.mp hty o ho
  cases h0 : o.1 with
  | some q => rw [h0] at hq; cases hq
  | none =>
    rw [h0] at h3
    rcases hrv with ⟨-, a, rfl⟩ | ⟨-, a, rfl⟩ | h
    · exact h3.elim
    · exact h3.elim
    · exact h
theorem zp_rz {i : Instr} {v : Option Value} {ws' : va_W} (hty : zf_tyo (some .boolean) M = true) (h : zf_post Sg k zGT ρ θ M ws v ws') (hrv : zf_rv i v) : i = .ireturn ∧ ∃ x : Int32, v = some (.int x) ∧ (x = 0 ∨ x = 1) := by
  obtain ⟨⟨o, ho, ρ1, θ1, -, -, -, -, -, h3⟩, -, -⟩ := id h
  have hb : zf_bo M = true := hty
  have hq := List.all_eq_true.mp hb o ho
  rcases hrv with ⟨rfl, x, rfl⟩ | ⟨-, a, rfl⟩ | ⟨-, rfl⟩
  · obtain ⟨b1, b2⟩ := zf_bo_ok hb h
    exact ⟨rfl, x, rfl, zf_01 b1 b2⟩
  · exfalso
    cases h0 : o.1 with
    | none => rw [h0] at h3; exact h3.elim
    | some q =>
      rw [h0] at hq h3
      match q, hq, h3 with
      | .inl f, _, ⟨x, e, _⟩ => cases e
  · exfalso
    cases h0 : o.1 with
    | none => rw [h0] at hq; cases hq
    | some q => rw [h0] at h3; exact h3
theorem zp_call {R : Room} {cells slots maxL n index g ci : Nat} {bytes : ByteArray} {ret : Option FieldType} {own C : String} {Ts wsX : List Cond} {rmX : Room} {x : MethodName} {b : Nat} {As rest : List Value} {B2 : Option Value → State → Prop} {q : vw_C}
    (S : CallFix p m c cc nL s args Ts own) (hEx : zf_Eo Ex B0) (hE : Ex Sg w0 s) (hAB : ∀ q, A q → B0 ≤ q) (hA : ∀ q, s.heap.size ≤ q → A q) (hK : va_K D vwCl (tyz k) s)
    (hM : Met l x wsX rmX (va_Pc (.ref b :: As) (g_pr D k (Ex Sg ws) H.size ws)) (zf_Q B2 (va_A ws H.size)) 0 0 (va_A ws H.size)) (cw : CallW R s args own C index x bytes maxL ret wsX rmX 0 0 n) (hf : cells + 0 ≤ R.cells ∧ slots + 0 ≤ R.slots) (hcl : vwCl[ci]? = some q) (hqC : q.1 = C) (hkn : zf_knd zGT g false ci = true) (hgb : Sg b = some g) (hAs : As.length = n)
    (hP : va_P D vwCl ws H) (hD : va_D A ws) (hS : va_S A s.heap H locs) (ht : zf_typ Sg k zGT ws) (hls : ls.size = nL) (hcat : (rest.map fun v => v.category).sum ≤ 8) (hdg : decode cc pc = .ok (.invokevirtual index, 3))
    (kk : ∀ (v : Option Value) (t : State) (H1 : Heap) (locs1 : List Loc), t.heap = H1 → B2 v t → (∀ ws', va_P D vwCl ws' H1 → va_D (va_A ws H.size) ws' → va_D A ws') → va_S A s.heap H1 locs1 → W p l e R s m args below meth c H1 locs1 cells slots Q (F0 m (pc + 3) ls (v.toList ++ rest))) :
    W p l e R s m args below meth c H locs cells slots Q (F0 m pc ls (As.reverse ++ .ref b :: rest)) := by
  subst hqC
  obtain ⟨k1, k2, k3⟩ := zf_knd_ok hkn
  obtain ⟨q0, en, p1, p2⟩ := ht _ _ hgb k3
  obtain ⟨fs, rfl, -⟩ := zf_obj p2 k1 k2
  have hrun := va_runV (rest := rest) (locs := locs) (e := e) (below := below) (meth := meth) (cells := cells) (slots := slots) S hM cw ⟨zf_blind (hEx.1 Sg ws), va_recv hK hP hcl p1, zf_pass hEx hE hAB hK hP hD hS⟩ (g := F0 m pc ls (As.reverse ++ .ref b :: rest)) rfl hAs hls rfl (lv_room (rest := rest) (ls := ls) (pc := pc) (m := m) hcat) hdg hf
  have hFc := va_free hD hS hA (List.range ws.length) (zf_whole ws)
  refine zf_callg hrun hS (fun q _ h => hFc q h) hFc (fun v t H1 locs1 ht1 hvm hB hz hk1 hS1 => ?_)
  exact kk v t H1 locs1 ht1 hB (fun ws' z1 z3 => (zf_back hP hD hS hA hk1 z1 z3).2) hS1
/-- six longs are copied -/
theorem zp_cpl {R : Room} {cells slots index : Nat} {own : String} {nt nf : Nat} {rest : List Value} {x6 x0 y0 : Int32} (hx : p.tables.exec = Jvm.exec) (hb : c.code = cc) (hml : c.maxLocals = nL) (hK : va_K D vwCl (tyz k) s) (hown : s.vm.findClass own = some m.cls) (hlink : (Cond.methodLink own index arraycopyName).before args s = true) (hnat : (Cond.native arraycopyName).before args s = true) (hstat : (Cond.static arraycopyName).before args s = true) (hini : (Cond.initialized "java/lang/System").before args s = true) (hf : 1 ≤ R.frames) (hlo : 60 ≤ R.locals)
    (hnt : Sg nt = some 65) (hnf : Sg nf = some 65) (e6 : x6.toInt = 6) (e0 : x0.toInt = 0) (f0 : y0.toInt = 0) (hP : va_P D vwCl ws H) (hD : va_D A ws) (hS : va_S A s.heap H locs) (ht : zf_typ Sg k zGT ws) (hls : ls.size = nL) (hcat : (rest.map fun v => v.category).sum ≤ 8) (hdg : decode cc pc = .ok (.invokestatic index, 3))
    (kk : ∀ (ws' : va_W) (H1 : Heap) (locs1 : List Loc), va_P D vwCl ws' H1 → va_D A ws' → va_S A s.heap H1 locs1 → zf_typ Sg k zGT ws' → (∀ (i : Nat) (v : Value), i < 6 → zf_rd ws nf i v → zf_rd ws' nt i v) → (∀ (a i : Nat) (v : Value), a ≠ nt → zf_rd ws a i v → zf_rd ws' a i v) → W p l e R s m args below meth c H1 locs1 cells slots Q (F0 m (pc + 3) ls rest)) :
    W p l e R s m args below meth c H locs cells slots Q (F0 m pc ls (.int x6 :: .int x0 :: .ref nt :: .int y0 :: .ref nf :: rest)) := by
  obtain ⟨q0, en0, p1, p2⟩ := ht _ _ hnf (by decide)
  obtain ⟨q1, en1, r1, r2⟩ := ht _ _ hnt (by decide)
  obtain ⟨x, rfl⟩ := zf_arr p2 rfl rfl
  obtain ⟨y9, rfl⟩ := zf_arr r2 rfl rfl
  obtain ⟨f, rfl⟩ : ∃ f, x = .inr (.inl f) := by
    obtain ⟨v, hv1, hv2⟩ := p2.2 0 (.inr none) rfl
    rw [zf_getA (by decide)] at hv1
    cases hv1
    obtain ⟨z, hz⟩ := hv2
    obtain ⟨f, hf', -⟩ := zf_elL hz
    exact ⟨f, hf'⟩
  obtain ⟨g, rfl⟩ : ∃ f, y9 = .inr (.inl f) := by
    obtain ⟨v, hv1, hv2⟩ := r2.2 0 (.inr none) rfl
    rw [zf_getA (by decide)] at hv1
    cases hv1
    obtain ⟨z, hz⟩ := hv2
    obtain ⟨f, hf', -⟩ := zf_elL hz
    exact ⟨f, hf'⟩
  have z0 : (0 : Int32).toInt = 0 := by decide
  have nn : x6.toNatClampNeg = x6.toInt.toNat := rfl
  have nd : x0.toNatClampNeg = x0.toInt.toNat := rfl
  have ns : y0.toNatClampNeg = y0.toInt.toNat := rfl
  have hl6 : zf_len (zf_gi zGT 65).2.2 = 6 := rfl
  refine va_copyl (rest := rest) hx hb (by rw [hml, hls]) hown hlink hnat hstat hini hK hP hD hS q0 q1 1 1 p1 r1 rfl rfl rfl (fun h => by have := Int32.lt_iff_toInt_lt.mp h; omega) (fun h => by have := Int32.lt_iff_toInt_lt.mp h; omega) (fun h => by have := Int32.lt_iff_toInt_lt.mp h; omega) (by omega) (by omega) (fun _ _ => rfl) hf (Nat.le_trans (Nat.add_le_add_right hcat _) (Nat.le_trans (by decide +kernel) hlo)) hdg (fun H1 locs1 hP1 hD1 hS1 => ?_)
  have hlt : q1 < ws.length := (List.getElem?_eq_some_iff.mp r1).1
  have hval : ∀ i, i < 6 → va_cpy f g y0.toNatClampNeg x0.toNatClampNeg x6.toNatClampNeg i = f i := by
    intro i hi
    unfold va_cpy
    rw [if_pos (by omega), show y0.toNatClampNeg + (i - x0.toNatClampNeg) = i by omega]
  have hrest : ∀ (a i : Nat) (v : Value), a ≠ nt → zf_rd ws a i v → zf_rd (ws.set q1 (nt, .inl (k 1, zf_len (zf_gi zGT 65).2.2, .inr (.inl (va_cpy f g y0.toNatClampNeg x0.toNatClampNeg x6.toNatClampNeg))))) a i v := by
    rintro a i v ha ⟨q9, e9, s1, s2⟩
    have hne : q1 ≠ q9 := fun q => by
      subst q
      rw [r1] at s1
      cases s1
      exact ha rfl
    exact ⟨q9, e9, by rw [List.getElem?_set_ne hne]; exact s1, s2⟩
  refine kk _ H1 locs1 hP1 hD1 hS1 ?_ (fun i v hi hr => ?_) hrest
  · intro b g' hb' hlt'
    obtain ⟨q', en', s1, s2⟩ := ht b g' hb' hlt'
    by_cases hqq : q' = q1
    · subst hqq
      cases r1.symm.trans s1
      cases hnt.symm.trans hb'
      refine ⟨q', _, by rw [List.getElem?_set_self hlt], ⟨⟨_, rfl⟩, fun i pi hi => ?_⟩⟩
      have hil : i < zf_len (zf_gi zGT 65).2.2 := by
        by_cases hq : i < zf_len (zf_gi zGT 65).2.2
        · exact hq
        · obtain ⟨v, hv1, -⟩ := s2.2 i pi hi
          have hv1 : (if i < zf_len (zf_gi zGT 65).2.2 then some (zf_el (.inr (.inl g)) i) else none) = some v := hv1
          rw [if_neg hq] at hv1
          cases hv1
      refine ⟨_, zf_getA hil, ?_⟩
      have hv : zf_el (.inr (.inl (va_cpy f g y0.toNatClampNeg x0.toNatClampNeg x6.toNatClampNeg))) i = Value.long (f i) := congrArg Value.long (hval i (by omega))
      rw [hv]
      obtain ⟨v, hv1, hv2⟩ := p2.2 i pi hi
      rw [zf_getA hil] at hv1
      cases hv1
      exact hv2
    · exact ⟨q', en', by rw [List.getElem?_set_ne (fun h => hqq h.symm)]; exact s1, s2⟩
  · have hv : v = Value.long (f i) := by
      have h9 := zf_rd_fun hD hr ⟨q0, _, p1, zf_getA (by omega)⟩
      exact h9
    rw [hv]
    refine ⟨q1, _, List.getElem?_set_self hlt, ?_⟩
    rw [zf_getA (by omega)]
    exact congrArg (fun z => some (Value.long z)) (hval i hi)
end ZP
/-! ===== the class's sentence, by its levels ===== -/
def rv_r (j_z : Nat) : Room := { frames := 8 + 3 * j_z, cells := 0, slots := 0, locals := 200 + 90 * j_z }
theorem rv_fr : ∀ j_z : Nat, (∀ us hp v hp', (rv_F j_z).1 us hp v hp' → ∃ ar, us = ar ++ [.ref 76]) ∧ ∀ us hp v hp', (rv_F j_z).2.2 us hp v hp' → ∃ ar, us = ar ++ [.ref 76]
  | 0 => ⟨fun _ _ _ _ h => (False.elim h), fun _ _ _ _ h => (False.elim h)⟩
  | j_z + 1 => ⟨fr_X8_readOne, fr_X8_readCond⟩
theorem rv_C (l : Launch) (D : va_G) (k : Nat → ClassId) (B0 : Nat) (ad : Nat → Nat) (al sw : Nat) : ∀ j_z : Nat, xe_Con l yX8_readOne (zw yX8_readOne cX8_readOne 7 (some .boolean)) (rv_r j_z) D k ad (zEx B0 ad al sw) xGT xSC xRF (rv_F j_z).1 ∧ xe_Con l yX8_readCond (zw yX8_readCond cX8_readCond 5 (some .boolean)) (rv_r j_z) D k ad (zEx B0 ad al sw) xGT xSC xRF (rv_F j_z).2.2
  | 0 => ⟨fun _ _ _ _ _ _ _ _ _ _ _ _ _ h => (False.elim h), fun _ _ _ _ _ _ _ _ _ _ _ _ _ h => (False.elim h)⟩
  | j_z + 1 => by
    obtain ⟨h1, h2⟩ := rv_C l D k B0 ad al sw j_z
    have a1 := kx_X8_readOne l D k B0 ad al sw (8 + 3 * j_z) (200 + 90 * j_z) (by omega) (by omega) (rv_fr j_z).2 h2 (rv_fr j_z).1 h1
    have a2 := kx_X8_readAll l D k B0 ad al sw (8 + 3 * j_z + 1) (200 + 90 * j_z + 30) (by omega) (by omega) fr_X8_readOne a1
    have a3 := kx_X8_readCond l D k B0 ad al sw (8 + 3 * j_z + 1 + 1) (200 + 90 * j_z + 30 + 30) (by omega) (by omega) fr_X8_readAll a2
    exact ⟨xe_room a1 (show 8 + 3 * j_z + 1 ≤ 8 + 3 * (j_z + 1) by omega) (Nat.le_refl _) (Nat.le_refl _) (show 200 + 90 * j_z + 30 ≤ 200 + 90 * (j_z + 1) by omega), xe_room a3 (show 8 + 3 * j_z + 1 + 1 + 1 ≤ 8 + 3 * (j_z + 1) by omega) (Nat.le_refl _) (Nat.le_refl _) (show 200 + 90 * j_z + 30 + 30 + 30 ≤ 200 + 90 * (j_z + 1) by omega)⟩
theorem kx_X8_read9 (l : Launch) (D : va_G) (k : Nat → ClassId) (B0 : Nat) (ad : Nat → Nat) (al sw : Nat) : xe_Con l yX8_read (zw yX8_read cX8_read 3 (some .boolean)) ({ frames := 36, cells := 0, slots := 0, locals := 1040 }) D k ad (zEx B0 ad al sw) xGT xSC xRF (fx_X8_read (rv_F 9).2.2) := kx_X8_read l D k B0 ad al sw 35 1010 (by decide) (by decide) (rv_fr 9).2 (rv_C l D k B0 ad al sw 9).2
