/-! ===== steps that read or write cells ===== -/
def zf_Wd (D : va_G) (cl : List vw_C) (A : Nat → Prop) (H0 : Heap) (Sg : Nat → Option Nat) (k : Nat → ClassId) (GT : List zf_G) (eff : zf_F) (ρ0 : Nat → Int) (ws0 : va_W) (ws : va_W) (H : Heap) (locs : List Loc) : Prop :=
  va_P D cl ws H ∧ va_D A ws ∧ va_S A H0 H locs ∧ zf_typ Sg k GT ws ∧ zf_fr Sg eff ρ0 ws0 ws
abbrev zf_ft := List (Nat × Nat × Nat × zf_P)
def zf_fl (i : Nat) : zf_ft → Option (Nat × Nat × zf_P)
  | [] => none
  | q :: t => match Nat.beq q.1 i with
    | true => some q.2
    | false => zf_fl i t
theorem zf_fl_ok {i : Nat} {x : Nat × Nat × zf_P} : ∀ {t : zf_ft}, zf_fl i t = some x → (i, x) ∈ t
  | [], h => by simp [zf_fl] at h
  | q :: t, h => by
    unfold zf_fl at h
    split at h
    · rename_i hb
      cases h
      have := Nat.eq_of_beq_eq_true hb
      rw [← this]
      exact List.mem_cons_self
    · exact List.mem_cons_of_mem _ (zf_fl_ok h)
def zf_inb (σ : zf_S) (f : zf_L) (n : Nat) : Bool := zf_ge σ.1 σ.2.1 f && zf_ge σ.1 σ.2.1 (zf_sub (zf_con ((n : Int) - 1)) f)
def zf_knd (GT : List zf_G) (g : Nat) (b : Bool) (t : Nat) : Bool := (match (zf_gi GT g).1, b with | true, true => true | false, false => true | _, _ => false) && Nat.beq (zf_gi GT g).2.1 t && Nat.blt g 128
def zf_isI (a : zf_A) : Bool := match a with
  | .inl _ => true
  | _ => false
def zf_isL (a : zf_A) : Bool := match a with
  | .inr none => true
  | _ => false
def zf_isR (a : zf_A) : Bool := match a with
  | .inr (some _) => true
  | _ => false
/-- a load: what is laid on the stack must be of the sort ok -/
def zf_gl (n0 r0 : Nat) (GT : List zf_G) (ok : zf_A → Bool) (q : Nat) (σ : zf_S) (g r : Nat) (f : zf_L) : Option (List (Nat × zf_S)) := match zf_ld n0 r0 GT σ g r f with
  | some x => match ok x.1 with
    | true => some [(q, zf_stk x.2 (x.1 :: x.2.2.2.2.2.1))]
    | false => none
  | none => none
def zf_s2 (n0 r0 : Nat) (GT : List zf_G) (eff : zf_F) (fg fp : zf_ft) (pc len : Nat) (σ : zf_S) (i : Instr) : Option (List (Nat × zf_S)) := match i with
  | .getfield j => match Nat.beq len 3, zf_fl j fg, σ.2.2.2.2.1 with
    | true, some x, .inr (some q) :: t => match zf_knd GT q.1 false x.1 && Nat.blt x.2.1 (zf_len (zf_gi GT q.1).2.2) with
      | true => zf_gl n0 r0 GT (fun _ => true) (pc + 3) (zf_stk σ t) q.1 q.2 (zf_con (x.2.1 : Int))
      | false => none
    | _, _, _ => none
  | .putfield j => match Nat.beq len 3, zf_fl j fp, σ.2.2.2.2.1 with
    | true, some x, a :: .inr (some q) :: t => match zf_knd GT q.1 false x.1 && Nat.blt x.2.1 (zf_len (zf_gi GT q.1).2.2) && zf_fits σ a x.2.2 with
      | true => zf_go1 (pc + 3) (zf_st n0 GT eff (zf_stk σ t) q.1 q.2 (zf_con (x.2.1 : Int)) a)
      | false => none
    | _, _, _ => none
  | .iaload => match Nat.beq len 1, σ.2.2.2.2.1 with
    | true, .inl f :: .inr (some q) :: t => match zf_knd GT q.1 true 0 && zf_inb σ f (zf_len (zf_gi GT q.1).2.2) with
      | true => zf_gl n0 r0 GT zf_isI (pc + 1) (zf_stk σ t) q.1 q.2 f
      | false => none
    | _, _ => none
  | .laload => match Nat.beq len 1, σ.2.2.2.2.1 with
    | true, .inl f :: .inr (some q) :: t => match zf_knd GT q.1 true 1 && zf_inb σ f (zf_len (zf_gi GT q.1).2.2) with
      | true => zf_gl n0 r0 GT zf_isL (pc + 1) (zf_stk σ t) q.1 q.2 f
      | false => none
    | _, _ => none
  | .baload => match Nat.beq len 1, σ.2.2.2.2.1 with
    | true, .inl f :: .inr (some q) :: t => match (zf_knd GT q.1 true 2 || zf_knd GT q.1 true 3) && zf_inb σ f (zf_len (zf_gi GT q.1).2.2) with
      | true => zf_gl n0 r0 GT zf_isI (pc + 1) (zf_stk σ t) q.1 q.2 f
      | false => none
    | _, _ => none
  | .aaload => match Nat.beq len 1, σ.2.2.2.2.1 with
    | true, .inl f :: .inr (some q) :: t => match (zf_knd GT q.1 true 4 || zf_knd GT q.1 true 5 || zf_knd GT q.1 true 6) && zf_inb σ f (zf_len (zf_gi GT q.1).2.2) with
      | true => zf_gl n0 r0 GT zf_isR (pc + 1) (zf_stk σ t) q.1 q.2 f
      | false => none
    | _, _ => none
  | .iastore => match Nat.beq len 1, σ.2.2.2.2.1 with
    | true, .inl h :: .inl f :: .inr (some q) :: t => match zf_knd GT q.1 true 0 && zf_inb σ f (zf_len (zf_gi GT q.1).2.2) with
      | true => zf_go1 (pc + 1) (zf_st n0 GT eff (zf_stk σ t) q.1 q.2 f (.inl h))
      | false => none
    | _, _ => none
  | .lastore => match Nat.beq len 1, σ.2.2.2.2.1 with
    | true, .inr none :: .inl f :: .inr (some q) :: t => match zf_knd GT q.1 true 1 && zf_inb σ f (zf_len (zf_gi GT q.1).2.2) with
      | true => zf_go1 (pc + 1) (zf_st n0 GT eff (zf_stk σ t) q.1 q.2 f (.inr none))
      | false => none
    | _, _ => none
  | .bastore => match Nat.beq len 1, σ.2.2.2.2.1 with
    | true, .inl h :: .inl f :: .inr (some q) :: t => match ((zf_knd GT q.1 true 2 && zf_fits σ (.inl h) (.inl (0, 1))) || (zf_knd GT q.1 true 3 && zf_fits σ (.inl h) (.inl (-128, 127)))) && zf_inb σ f (zf_len (zf_gi GT q.1).2.2) with
      | true => zf_go1 (pc + 1) (zf_st n0 GT eff (zf_stk σ t) q.1 q.2 f (.inl h))
      | false => none
    | _, _ => none
  | .aastore => match Nat.beq len 1, σ.2.2.2.2.1 with
    | true, .inr (some d) :: .inl f :: .inr (some q) :: t => match zf_knd GT q.1 true 6 && Nat.beq d.1 128 && zf_inb σ f (zf_len (zf_gi GT q.1).2.2) with
      | true => zf_go1 (pc + 1) (zf_st n0 GT eff (zf_stk σ t) q.1 q.2 f (.inr (some d)))
      | false => none
    | _, _ => none
  | .arraylength => match Nat.beq len 1, σ.2.2.2.2.1 with
    | true, .inr (some q) :: t => match (zf_gi GT q.1).1, Nat.ble (zf_gi GT q.1).2.1 6 && Nat.blt (zf_len (zf_gi GT q.1).2.2) 100000 && Nat.blt q.1 128 with
      | true, true => some [(pc + 1, zf_stk σ (.inl (zf_con (zf_len (zf_gi GT q.1).2.2 : Int)) :: t))]
      | _, _ => none
    | _, _ => none
  | _ => none
section ZX
variable {Sg : Nat → Option Nat} {k : Nat → ClassId} {GT : List zf_G} {A : Nat → Prop} {ρ ρ0 : Nat → Int} {θ θ0 : Nat → Nat} {nL n0 r0 : Nat} {σ σ' : zf_S} {eff : zf_F} {ws0 : va_W} {H0 : Heap} {D : va_G} {cl : List vw_C} {tys : List (ClassId × FieldType)}
variable {p : Program} {l : Launch} {e : Env} {R : Room} {s : State} {m : MethodId} {args : Array Value} {below : List Frame} {meth : Method} {c : Code} {cells slots : Nat} {Q : State → Prop} {cc : ByteArray} {pc len : Nat}
/-- a field is read, a field is written: what is said of an index -/
def zf_FG (p : Program) (l : Launch) (e : Env) (R : Room) (s : State) (m : MethodId) (args : Array Value) (below : List Frame) (meth : Method) (c : Code) (cells slots : Nat) (Q : State → Prop) (cc : ByteArray) (D : va_G) (cl : List vw_C) (x : Nat × Nat × Nat × zf_P) : Prop :=
  ∀ (H : Heap) (locs : List Loc) (ws : va_W) (a q0 : Nat) (fs : List Value) (v : Value) (rest : List Value) (pc : Nat) (ls : Array Slot), va_P D cl ws H → ws[q0]? = some (a, .inr (x.2.1, fs)) → fs[x.2.2.1]? = some v → decode cc pc = .ok (.getfield x.1, 3) →
    W p l e R s m args below meth c H locs cells slots Q (F0 m (pc + 3) ls (v :: rest)) → W p l e R s m args below meth c H locs cells slots Q (F0 m pc ls (.ref a :: rest))
def zf_FP (p : Program) (l : Launch) (e : Env) (R : Room) (s : State) (m : MethodId) (args : Array Value) (below : List Frame) (meth : Method) (c : Code) (cells slots : Nat) (Q : State → Prop) (cc : ByteArray) (D : va_G) (cl : List vw_C) (A : Nat → Prop) (H0 : Heap) (Sg : Nat → Option Nat) (x : Nat × Nat × Nat × zf_P) : Prop :=
  ∀ (H : Heap) (locs : List Loc) (ws : va_W) (a q0 : Nat) (fs : List Value) (v : Value) (rest : List Value) (pc : Nat) (ls : Array Slot), va_P D cl ws H → va_D A ws → va_S A H0 H locs → ws[q0]? = some (a, .inr (x.2.1, fs)) → x.2.2.1 < fs.length → zf_pok Sg x.2.2.2 v → decode cc pc = .ok (.putfield x.1, 3) →
    (∀ (H1 : Heap) (locs1 : List Loc), va_P D cl (ws.set q0 (a, .inr (x.2.1, fs.set x.2.2.1 v))) H1 → va_D A (ws.set q0 (a, .inr (x.2.1, fs.set x.2.2.1 v))) → va_S A H0 H1 locs1 → W p l e R s m args below meth c H1 locs1 cells slots Q (F0 m (pc + 3) ls rest)) →
    W p l e R s m args below meth c H locs cells slots Q (F0 m pc ls (v :: .ref a :: rest))
theorem zi_in {i : Int32} {n : Nat} (h1 : 0 ≤ i.toInt) (h2 : i.toInt < n) : vp_in i n ∧ i.toNatClampNeg = i.toInt.toNat := by
  have e : i.toNatClampNeg = i.toInt.toNat := rfl
  refine ⟨?_, e⟩
  rintro (h | h)
  · have := Int32.lt_iff_toInt_lt.mp h
    rw [show (0 : Int32).toInt = 0 by decide] at this
    omega
  · rw [e] at h; omega
theorem zf_inb_ok {f : zf_L} {n : Nat} (hE : zf_okE σ.1 ρ) (hF : zf_okF σ.2.1 ρ) (h : zf_inb σ f n = true) : 0 ≤ zf_v ρ f ∧ zf_v ρ f < n := by
  unfold zf_inb at h
  rw [Bool.and_eq_true] at h
  have h1 := zf_ge_of hE hF h.1
  have h2 := zf_ge_of hE hF h.2
  rw [zf_v_sub, zf_v_con] at h2
  omega
theorem zf_knd_ok {g : Nat} {b : Bool} {t : Nat} (h : zf_knd GT g b t = true) : (zf_gi GT g).1 = b ∧ (zf_gi GT g).2.1 = t ∧ g < 128 := by
  unfold zf_knd at h
  rw [Bool.and_eq_true, Bool.and_eq_true] at h
  refine ⟨?_, Nat.eq_of_beq_eq_true h.1.2, zf_blt h.2⟩
  have h1 := h.1.1
  cases hb : (zf_gi GT g).1 <;> cases b <;> simp [hb] at h1 ⊢
theorem zf_arr {g : zf_G} {t : Nat} {e : va_E} (h : zf_ent Sg k g e) (hk1 : g.1 = true) (hk2 : g.2.1 = t) : ∃ x, e = .inl (k t, zf_len g.2.2, x) := by
  have h1 := h.1
  rw [hk1] at h1
  obtain ⟨x, e1⟩ := h1
  exact ⟨x, by rw [← hk2]; exact e1⟩
theorem zf_obj {g : zf_G} {t : Nat} {e : va_E} (h : zf_ent Sg k g e) (hk1 : g.1 = false) (hk2 : g.2.1 = t) : ∃ fs : List Value, e = .inr (t, fs) ∧ fs.length = zf_len g.2.2 := by
  have h1 := h.1
  rw [hk1] at h1
  obtain ⟨fs, e1, e2⟩ := h1
  exact ⟨fs, by rw [← hk2]; exact e1, e2⟩
theorem zf_elI {x : (Nat → Int32) ⊕ (Nat → Int64) ⊕ (Nat → UInt32) ⊕ (Nat → UInt64) ⊕ (Nat → Option Nat)} {i : Nat} {y : Int32} (h : zf_el x i = .int y) : ∃ f, x = .inl f ∧ f i = y := by
  match x, h with
  | .inl f, h => exact ⟨f, rfl, by injection h⟩
  | .inr (.inr (.inr (.inr f))), h =>
    have h : va_rf (f i) = .int y := h
    unfold va_rf at h
    split at h <;> cases h
theorem zf_elL {x : (Nat → Int32) ⊕ (Nat → Int64) ⊕ (Nat → UInt32) ⊕ (Nat → UInt64) ⊕ (Nat → Option Nat)} {i : Nat} {y : Int64} (h : zf_el x i = .long y) : ∃ f, x = .inr (.inl f) ∧ f i = y := by
  match x, h with
  | .inr (.inl f), h => exact ⟨f, rfl, by injection h⟩
  | .inr (.inr (.inr (.inr f))), h =>
    have h : va_rf (f i) = .long y := h
    unfold va_rf at h
    split at h <;> cases h
theorem zf_elR {x : (Nat → Int32) ⊕ (Nat → Int64) ⊕ (Nat → UInt32) ⊕ (Nat → UInt64) ⊕ (Nat → Option Nat)} {i : Nat} {y : Nat} (h : zf_el x i = .ref y) : ∃ f, x = .inr (.inr (.inr (.inr f))) ∧ f i = some y := by
  match x, h with
  | .inr (.inr (.inr (.inr f))), h =>
    have h : va_rf (f i) = .ref y := h
    unfold va_rf at h
    split at h
    · cases h
    · rename_i a ha
      cases h
      exact ⟨f, rfl, ha⟩
theorem zf_getA {cA : ClassId} {n : Nat} {x : (Nat → Int32) ⊕ (Nat → Int64) ⊕ (Nat → UInt32) ⊕ (Nat → UInt64) ⊕ (Nat → Option Nat)} {i : Nat} (hi : i < n) : zf_get (.inl (cA, n, x)) i = some (zf_el x i) := if_pos hi
theorem zf_sortI {cA : ClassId} {n i : Nat} {x : (Nat → Int32) ⊕ (Nat → Int64) ⊕ (Nat → UInt32) ⊕ (Nat → UInt64) ⊕ (Nat → Option Nat)} (hi : i < n) {w : Value} (m1 : zf_get (.inl (cA, n, x)) i = some w) {pp : zf_P} (m2 : zf_pok Sg pp w) {f : zf_L} (m3 : zf_fits σ (.inl f) pp = true) : ∃ f0, x = .inl f0 := by
  rw [zf_getA hi] at m1
  cases m1
  match pp, m2, m3 with
  | .inl q, ⟨y, e1, _⟩, _ => obtain ⟨f0, h, -⟩ := zf_elI e1; exact ⟨f0, h⟩
  | .inr none, _, h => cases h
  | .inr (some g), _, h => cases h
theorem zf_sortL {cA : ClassId} {n i : Nat} {x : (Nat → Int32) ⊕ (Nat → Int64) ⊕ (Nat → UInt32) ⊕ (Nat → UInt64) ⊕ (Nat → Option Nat)} (hi : i < n) {w : Value} (m1 : zf_get (.inl (cA, n, x)) i = some w) {pp : zf_P} (m2 : zf_pok Sg pp w) (m3 : zf_fits σ (.inr none) pp = true) : ∃ f0, x = .inr (.inl f0) := by
  rw [zf_getA hi] at m1
  cases m1
  match pp, m2, m3 with
  | .inl q, _, h => cases h
  | .inr none, ⟨y, e1⟩, _ => obtain ⟨f0, h, -⟩ := zf_elL e1; exact ⟨f0, h⟩
  | .inr (some g), _, h => cases h
theorem zf_sortR {cA : ClassId} {n i : Nat} {x : (Nat → Int32) ⊕ (Nat → Int64) ⊕ (Nat → UInt32) ⊕ (Nat → UInt64) ⊕ (Nat → Option Nat)} (hi : i < n) {w : Value} (m1 : zf_get (.inl (cA, n, x)) i = some w) {pp : zf_P} (m2 : zf_pok Sg pp w) {d : Nat × Nat} (m3 : zf_fits σ (.inr (some d)) pp = true) : ∃ f0, x = .inr (.inr (.inr (.inr f0))) := by
  rw [zf_getA hi] at m1
  cases m1
  match pp, m2, m3 with
  | .inl q, _, h => cases h
  | .inr none, _, h => cases h
  | .inr (some g), ⟨y, e1, _⟩, _ => obtain ⟨f0, h, -⟩ := zf_elR e1; exact ⟨f0, h⟩
/-- a load, where a value of the right sort goes on -/
theorem zf_gl_ok {ok : zf_A → Bool} {q : Nat} {g r : Nat} (hgl : g < 128) {f : zf_L} {succs : List (Nat × zf_S)} (hs : zf_gl n0 r0 GT ok q σ g r f = some succs) {Wd : va_W → Heap → List Loc → Prop} {Wf : Nat → Heap → List Loc → Array Slot → List Value → Prop}
    (hk : ∀ x ∈ succs, zf_K Sg n0 r0 nL ρ0 θ0 Wd Wf x.1 x.2) {ws : va_W} {H : Heap} {locs : List Loc} {ls : Array Slot} {st : List Value} (hρ : ∀ i, i < n0 → ρ i = ρ0 i) (hθ : ∀ i, i < r0 → θ i = θ0 i) (hW : Wd ws H locs) (hD : va_D A ws) (hone : ∀ a g, Sg a = some g → g < 64 → a = θ0 g) (hr0 : 64 ≤ r0)
    (h : zf_sat Sg ρ θ nL σ ls st ws) (hg : Sg (θ r) = some g) {q0 : Nat} {e : va_E} (hq : ws[q0]? = some (θ r, e)) (he : zf_ent Sg k (zf_gi GT g) e) (h0 : 0 ≤ zf_v ρ f) (hi : (zf_v ρ f).toNat < zf_len (zf_gi GT g).2.2) {v : Value} (hv : zf_get e (zf_v ρ f).toNat = some v) :
    Wf q H locs ls (v :: st) ∧ ∃ a ρ' θ', ok a = true ∧ zf_vok Sg ρ' θ' a v := by
  unfold zf_gl at hs
  split at hs
  · rename_i x hx
    split at hs
    · rename_i ho
      cases hs
      obtain ⟨ρ', θ', k1, k2, k3, k4⟩ := zf_ld_ok (by omega) hD hone hr0 hθ h (a := x.1) (σ' := x.2) hx hg hq he h0 hi hv
      exact ⟨hk _ List.mem_cons_self ρ' θ' ws H locs ls _ (fun i hi => (k1 i hi).trans (hρ i hi)) (fun i hi => (k2 i hi).trans (hθ i hi)) hW (zf_stk_ok k3 ⟨k4, k3.2.2.2.1⟩), x.1, ρ', θ', ho, k4⟩
    · cases hs
  · cases hs
theorem zf_go2_ok {g r : Nat} (hgl : g < 128) {f : zf_L} {a : zf_A} {q : Nat} {succs : List (Nat × zf_S)} (hs : zf_go1 q (zf_st n0 GT eff σ g r f a) = some succs) {Wf : Nat → Heap → List Loc → Array Slot → List Value → Prop} (hk : ∀ x ∈ succs, zf_K Sg n0 r0 nL ρ0 θ0 (zf_Wd D cl A H0 Sg k GT eff ρ0 ws0) Wf x.1 x.2)
    {ws : va_W} {ls : Array Slot} {st : List Value} (hρ : ∀ i, i < n0 → ρ i = ρ0 i) (hθ : ∀ i, i < r0 → θ i = θ0 i) (hD : va_D A ws) (ht : zf_typ Sg k GT ws) (hfr : zf_fr Sg eff ρ0 ws0 ws) (h : zf_sat Sg ρ θ nL σ ls st ws) (hg : Sg (θ r) = some g)
    {q0 : Nat} {e e' : va_E} (hq : ws[q0]? = some (θ r, e)) (h0 : 0 ≤ zf_v ρ f) {v : Value} (hv : zf_vok Sg ρ θ a v) (hl : zf_like e e' (zf_v ρ f).toNat v) {H1 : Heap} {locs1 : List Loc} (hP1 : va_P D cl (ws.set q0 (θ r, e')) H1) (hD1 : va_D A (ws.set q0 (θ r, e'))) (hS1 : va_S A H0 H1 locs1) : Wf q H1 locs1 ls st := by
  unfold zf_go1 at hs
  split at hs
  · rename_i σ' hst
    cases hs
    obtain ⟨t1, t2, t3⟩ := zf_st_ok (by omega) hρ hD ht hfr h hst hg hq h0 hv hl
    exact hk _ List.mem_cons_self ρ θ _ H1 locs1 ls st hρ hθ ⟨hP1, hD1, hS1, t1, t2⟩ t3
  · cases hs
/-- the sort of what stood in a cell that may be written so -/
theorem zf_st_sort {g r : Nat} {f : zf_L} {a : zf_A} {o : zf_S} (hs : zf_st n0 GT eff σ g r f a = some o) (hE : zf_okE σ.1 ρ) (h0 : 0 ≤ zf_v ρ f) {e : va_E} (he : zf_ent Sg k (zf_gi GT g) e) (hi : (zf_v ρ f).toNat < zf_len (zf_gi GT g).2.2) : ∃ pp v, zf_get e (zf_v ρ f).toNat = some v ∧ zf_pok Sg pp v ∧ zf_fits σ a pp = true := by
  have b1 := zf_lo_le hE f
  have b2 := zf_le_hi hE f
  unfold zf_st at hs
  split at hs
  · rename_i hb
    rw [Bool.and_eq_true, List.all_eq_true] at hb
    obtain ⟨pp, v, m1, m2, m3⟩ := zf_ent_get he hi (lo := zf_lo σ.1 f) (hi' := zf_hi σ.1 f) (by omega) (by omega)
    exact ⟨pp, v, m2, m3, hb.1 pp m1⟩
  · cases hs
theorem zf_go1_some {q : Nat} {o : Option zf_S} {succs : List (Nat × zf_S)} (hs : zf_go1 q o = some succs) : ∃ x, o = some x := by
  unfold zf_go1 at hs
  split at hs
  · exact ⟨_, rfl⟩
  · cases hs
theorem zf_narB {x : Int32} (h1 : -128 ≤ x.toInt) (h2 : x.toInt ≤ 127) : vp_nar .byte x = x := by
  show x.toInt8.toInt32 = x
  apply Int32.toInt_inj.mp
  rw [Int8.toInt_toInt32, Int32.toInt_toInt8, Int.bmod_def]
  omega
theorem zf_narZ {x : Int32} (h1 : 0 ≤ x.toInt) (h2 : x.toInt ≤ 1) : vp_nar .boolean x = x := by
  have : x = 0 ∨ x = 1 := by
    rcases (by omega : x.toInt = 0 ∨ x.toInt = 1) with h | h
    · exact Or.inl (Int32.toInt_inj.mp (h.trans (by decide)))
    · exact Or.inr (Int32.toInt_inj.mp (h.trans (by decide)))
  rcases this with rfl | rfl <;> rfl
def zf_tys (k : Nat → ClassId) : List (ClassId × FieldType) := [(k 0, .int), (k 1, .long), (k 2, .boolean), (k 3, .byte), (k 4, .object "RungMoney$Town"), (k 5, .object "RungMoney$Sentence"), (k 6, .object "RungMoney$Key")]
theorem zf_likeI {cA : ClassId} {n i : Nat} {f : Nat → Int32} {x : Int32} (hi : i < n) : zf_like (.inl (cA, n, .inl f)) (.inl (cA, n, .inl (upd f i x))) i (.int x) := by
  refine ⟨?_, fun j hj => ?_, Or.inr ⟨cA, n, _, _, rfl, rfl⟩⟩
  · rw [zf_getA hi]; show some (Value.int (upd f i x i)) = _; simp [upd]
  · show (if j < n then some (Value.int (upd f i x j)) else none) = if j < n then some (Value.int (f j)) else none
    simp [upd, hj]
theorem zf_likeL {cA : ClassId} {n i : Nat} {f : Nat → Int64} {x : Int64} (hi : i < n) : zf_like (.inl (cA, n, .inr (.inl f))) (.inl (cA, n, .inr (.inl (vp_updL f i x)))) i (.long x) := by
  refine ⟨?_, fun j hj => ?_, Or.inr ⟨cA, n, _, _, rfl, rfl⟩⟩
  · rw [zf_getA hi]; show some (Value.long (vp_updL f i x i)) = _; simp [vp_updL]
  · show (if j < n then some (Value.long (vp_updL f i x j)) else none) = if j < n then some (Value.long (f j)) else none
    simp [vp_updL, hj]
theorem zf_likeR {cA : ClassId} {n i : Nat} {f : Nat → Option Nat} {x : Nat} (hi : i < n) : zf_like (.inl (cA, n, .inr (.inr (.inr (.inr f))))) (.inl (cA, n, .inr (.inr (.inr (.inr (va_up f i (some x))))))) i (.ref x) := by
  refine ⟨?_, fun j hj => ?_, Or.inr ⟨cA, n, _, _, rfl, rfl⟩⟩
  · rw [zf_getA hi]; show some (va_rf (va_up f i (some x) i)) = _; rw [va_up_self]; rfl
  · show (if j < n then some (va_rf (va_up f i (some x) j)) else none) = if j < n then some (va_rf (f j)) else none
    rw [va_up_ne f (some x) hj]
theorem zf_likeO {ci : Nat} {fs : List Value} {i : Nat} {v : Value} (hi : i < fs.length) : zf_like (.inr (ci, fs)) (.inr (ci, fs.set i v)) i v := by
  refine ⟨?_, fun j hj => ?_, Or.inl ⟨ci, fs, _, rfl, rfl, List.length_set⟩⟩
  · show (fs.set i v)[i]? = _; exact List.getElem?_set_self hi
  · show (fs.set i v)[j]? = fs[j]?; exact List.getElem?_set_ne (fun h => hj h.symm)
set_option maxHeartbeats 4000000 in
theorem zf_s2_ok (hx : p.tables.exec = Jvm.exec) (hb : c.code = cc) (hK : va_K D cl (zf_tys k) s) (hone : ∀ a g, Sg a = some g → g < 64 → a = θ0 g) (hr0 : 64 ≤ r0) {fg fp : zf_ft}
    (hany : ∀ (H : Heap) (locs : List Loc), va_S A H0 H locs → ∀ a, Sg a = some 128 → va_Any "RungMoney$Key" s H a)
    (hfg : ∀ x ∈ fg, zf_FG p l e R s m args below meth c cells slots Q cc D cl x) (hfp : ∀ x ∈ fp, zf_FP p l e R s m args below meth c cells slots Q cc D cl A H0 Sg x)
    {i : Instr} {succs : List (Nat × zf_S)} (hdg : decode cc pc = .ok (i, len)) (hs : zf_s2 n0 r0 GT eff fg fp pc len σ i = some succs)
    (hk : ∀ q ∈ succs, zf_K Sg n0 r0 nL ρ0 θ0 (zf_Wd D cl A H0 Sg k GT eff ρ0 ws0) (zf_W p l e R s m args below meth c cells slots Q) q.1 q.2) : zf_K Sg n0 r0 nL ρ0 θ0 (zf_Wd D cl A H0 Sg k GT eff ρ0 ws0) (zf_W p l e R s m args below meth c cells slots Q) pc σ := by
  intro ρ θ ws H locs ls st hρ hθ hW h
  obtain ⟨hP, hD, hS, ht, hfr⟩ := id hW
  obtain ⟨q1, q2, -, hst, hh⟩ := id h
  unfold zf_s2 at hs
  split at hs
  · -- getfield
    rename_i j
    split at hs
    · rename_i x q t hc hf hq
      have e1 : len = 3 := Nat.eq_of_beq_eq_true hc
      subst e1
      split at hs
      · rename_i hkn
        rw [Bool.and_eq_true] at hkn
        obtain ⟨k1, k2, k3⟩ := zf_knd_ok hkn.1
        rw [hq] at hst
        obtain ⟨v, st', rfl, hv, hs1⟩ := zf_f2_c hst
        obtain ⟨rfl, hg⟩ := hv
        obtain ⟨q0, en, p1, p2⟩ := ht _ _ hg k3
        obtain ⟨fs, rfl, hlen⟩ := zf_obj p2 k1 k2
        have hlt : x.2.1 < fs.length := by rw [hlen]; exact zf_blt hkn.2
        have ev : (zf_v ρ (zf_con (x.2.1 : Int))).toNat = x.2.1 := by rw [zf_v_con]; omega
        have hgv : zf_get (.inr (x.1, fs)) x.2.1 = some fs[x.2.1] := List.getElem?_eq_getElem hlt
        obtain ⟨w, -⟩ := zf_gl_ok k3 hs hk hρ hθ hW hD hone hr0 (zf_stk_ok h hs1) hg p1 p2 (by rw [zf_v_con]; omega) (by rw [ev]; exact zf_blt hkn.2) (by rw [ev]; exact hgv)
        exact hfg _ (zf_fl_ok hf) H locs ws _ q0 fs _ _ pc ls hP p1 (List.getElem?_eq_getElem hlt) hdg w
      · cases hs
    · cases hs
  · -- putfield
    rename_i j
    split at hs
    · rename_i x a q t hc hf hq
      have e1 : len = 3 := Nat.eq_of_beq_eq_true hc
      subst e1
      split at hs
      · rename_i hkn
        rw [Bool.and_eq_true, Bool.and_eq_true] at hkn
        obtain ⟨k1, k2, k3⟩ := zf_knd_ok hkn.1.1
        rw [hq] at hst
        obtain ⟨v, st', rfl, hv, hs1⟩ := zf_f2_c hst
        obtain ⟨w, st', rfl, hw, hs2⟩ := zf_f2_c hs1
        obtain ⟨rfl, hg⟩ := hw
        obtain ⟨q0, en, p1, p2⟩ := ht _ _ hg k3
        obtain ⟨fs, rfl, hlen⟩ := zf_obj p2 k1 k2
        have hlt : x.2.1 < fs.length := by rw [hlen]; exact zf_blt hkn.1.2
        have ev : (zf_v ρ (zf_con (x.2.1 : Int))).toNat = x.2.1 := by rw [zf_v_con]; omega
        refine hfp _ (zf_fl_ok hf) H locs ws _ q0 fs v _ pc ls hP hD hS p1 hlt (zf_fits_ok q1 q2 hkn.2 hv) hdg (fun H1 locs1 hP1 hD1 hS1 => ?_)
        exact zf_go2_ok k3 hs hk hρ hθ hD ht hfr (zf_stk_ok h hs2) hg p1 (by rw [zf_v_con]; omega) hv (by rw [ev]; exact zf_likeO hlt) hP1 hD1 hS1
      · cases hs
    · cases hs
  · -- iaload
    split at hs
    · rename_i f q t hc hq
      have e1 : len = 1 := Nat.eq_of_beq_eq_true hc
      subst e1
      split at hs
      · rename_i hkn
        rw [Bool.and_eq_true] at hkn
        obtain ⟨k1, k2, k3⟩ := zf_knd_ok hkn.1
        rw [hq] at hst
        obtain ⟨v, st', rfl, hv, hs1⟩ := zf_f2_c hst
        obtain ⟨i, rfl, ei⟩ := hv
        obtain ⟨v, st', rfl, hv, hs2⟩ := zf_f2_c hs1
        obtain ⟨rfl, hg⟩ := hv
        obtain ⟨i1, i2⟩ := zf_inb_ok q1 q2 hkn.2
        obtain ⟨n1, n2⟩ := zi_in (i := i) (by omega) (by rw [ei]; exact i2)
        have n3 : (zf_v ρ f).toNat = i.toNatClampNeg := by rw [n2, ei]
        have hlt : (zf_v ρ f).toNat < zf_len (zf_gi GT q.1).2.2 := by omega
        obtain ⟨q0, en, p1, p2⟩ := ht _ _ hg k3
        obtain ⟨x, rfl⟩ := zf_arr p2 k1 k2
        obtain ⟨w, a, ρ', θ', w1, w2⟩ := zf_gl_ok k3 hs hk hρ hθ hW hD hone hr0 (zf_stk_ok h hs2) hg p1 p2 i1 hlt (zf_getA hlt)
        unfold zf_isI at w1
        split at w1
        · obtain ⟨y, e2, -⟩ := w2
          obtain ⟨f0, rfl, -⟩ := zf_elI e2
          refine va_iald hx hb hK hP q0 0 p1 rfl n1 hdg ?_
          rw [← n3]
          exact w
        · cases w1
      · cases hs
    · cases hs
  · -- laload
    split at hs
    · rename_i f q t hc hq
      have e1 : len = 1 := Nat.eq_of_beq_eq_true hc
      subst e1
      split at hs
      · rename_i hkn
        rw [Bool.and_eq_true] at hkn
        obtain ⟨k1, k2, k3⟩ := zf_knd_ok hkn.1
        rw [hq] at hst
        obtain ⟨v, st', rfl, hv, hs1⟩ := zf_f2_c hst
        obtain ⟨i, rfl, ei⟩ := hv
        obtain ⟨v, st', rfl, hv, hs2⟩ := zf_f2_c hs1
        obtain ⟨rfl, hg⟩ := hv
        obtain ⟨i1, i2⟩ := zf_inb_ok q1 q2 hkn.2
        obtain ⟨n1, n2⟩ := zi_in (i := i) (by omega) (by rw [ei]; exact i2)
        have n3 : (zf_v ρ f).toNat = i.toNatClampNeg := by rw [n2, ei]
        have hlt : (zf_v ρ f).toNat < zf_len (zf_gi GT q.1).2.2 := by omega
        obtain ⟨q0, en, p1, p2⟩ := ht _ _ hg k3
        obtain ⟨x, rfl⟩ := zf_arr p2 k1 k2
        obtain ⟨w, a, ρ', θ', w1, w2⟩ := zf_gl_ok k3 hs hk hρ hθ hW hD hone hr0 (zf_stk_ok h hs2) hg p1 p2 i1 hlt (zf_getA hlt)
        unfold zf_isL at w1
        split at w1
        · obtain ⟨y, e2⟩ := w2
          obtain ⟨f0, rfl, -⟩ := zf_elL e2
          refine va_lald hx hb hK hP q0 1 p1 rfl n1 hdg ?_
          rw [← n3]
          exact w
        · cases w1
      · cases hs
    · cases hs
  · -- baload
    split at hs
    · rename_i f q t hc hq
      have e1 : len = 1 := Nat.eq_of_beq_eq_true hc
      subst e1
      split at hs
      · rename_i hkn
        rw [Bool.and_eq_true] at hkn
        rw [hq] at hst
        obtain ⟨v, st', rfl, hv, hs1⟩ := zf_f2_c hst
        obtain ⟨i, rfl, ei⟩ := hv
        obtain ⟨v, st', rfl, hv, hs2⟩ := zf_f2_c hs1
        obtain ⟨rfl, hg⟩ := hv
        obtain ⟨i1, i2⟩ := zf_inb_ok q1 q2 hkn.2
        obtain ⟨n1, n2⟩ := zi_in (i := i) (by omega) (by rw [ei]; exact i2)
        have n3 : (zf_v ρ f).toNat = i.toNatClampNeg := by rw [n2, ei]
        have hlt : (zf_v ρ f).toNat < zf_len (zf_gi GT q.1).2.2 := by omega
        rw [Bool.or_eq_true] at hkn
        rcases hkn.1 with hkn1 | hkn1
        · obtain ⟨k1, k2, k3⟩ := zf_knd_ok hkn1
          obtain ⟨q0, en, p1, p2⟩ := ht _ _ hg k3
          obtain ⟨x, rfl⟩ := zf_arr p2 k1 k2
          obtain ⟨w, a, ρ', θ', w1, w2⟩ := zf_gl_ok k3 hs hk hρ hθ hW hD hone hr0 (zf_stk_ok h hs2) hg p1 p2 i1 hlt (zf_getA hlt)
          unfold zf_isI at w1
          split at w1
          · obtain ⟨y, e2, -⟩ := w2
            obtain ⟨f0, rfl, -⟩ := zf_elI e2
            refine va_zald hx hb hK hP q0 2 p1 rfl n1 hdg ?_
            rw [← n3]
            exact w
          · cases w1
        · obtain ⟨k1, k2, k3⟩ := zf_knd_ok hkn1
          obtain ⟨q0, en, p1, p2⟩ := ht _ _ hg k3
          obtain ⟨x, rfl⟩ := zf_arr p2 k1 k2
          obtain ⟨w, a, ρ', θ', w1, w2⟩ := zf_gl_ok k3 hs hk hρ hθ hW hD hone hr0 (zf_stk_ok h hs2) hg p1 p2 i1 hlt (zf_getA hlt)
          unfold zf_isI at w1
          split at w1
          · obtain ⟨y, e2, -⟩ := w2
            obtain ⟨f0, rfl, -⟩ := zf_elI e2
            refine va_bald hx hb hK hP q0 3 p1 rfl n1 hdg ?_
            rw [← n3]
            exact w
          · cases w1
      · cases hs
    · cases hs
  · -- aaload
    split at hs
    · rename_i f q t hc hq
      have e1 : len = 1 := Nat.eq_of_beq_eq_true hc
      subst e1
      split at hs
      · rename_i hkn
        rw [Bool.and_eq_true] at hkn
        rw [hq] at hst
        obtain ⟨v, st', rfl, hv, hs1⟩ := zf_f2_c hst
        obtain ⟨i, rfl, ei⟩ := hv
        obtain ⟨v, st', rfl, hv, hs2⟩ := zf_f2_c hs1
        obtain ⟨rfl, hg⟩ := hv
        obtain ⟨i1, i2⟩ := zf_inb_ok q1 q2 hkn.2
        obtain ⟨n1, n2⟩ := zi_in (i := i) (by omega) (by rw [ei]; exact i2)
        have n3 : (zf_v ρ f).toNat = i.toNatClampNeg := by rw [n2, ei]
        have hlt : (zf_v ρ f).toNat < zf_len (zf_gi GT q.1).2.2 := by omega
        rw [Bool.or_eq_true, Bool.or_eq_true] at hkn
        have three : ∃ (t0 : Nat) (C : String), (zf_gi GT q.1).1 = true ∧ (zf_gi GT q.1).2.1 = t0 ∧ q.1 < 128 ∧ (zf_tys k)[t0]? = some (k t0, .object C) := by
          rcases hkn.1 with (hkn1 | hkn1) | hkn1
          · obtain ⟨k1, k2, k3⟩ := zf_knd_ok hkn1; exact ⟨4, _, k1, k2, k3, rfl⟩
          · obtain ⟨k1, k2, k3⟩ := zf_knd_ok hkn1; exact ⟨5, _, k1, k2, k3, rfl⟩
          · obtain ⟨k1, k2, k3⟩ := zf_knd_ok hkn1; exact ⟨6, _, k1, k2, k3, rfl⟩
        obtain ⟨t0, C, k1, k2, k3, k4⟩ := three
        obtain ⟨q0, en, p1, p2⟩ := ht _ _ hg k3
        obtain ⟨x, rfl⟩ := zf_arr p2 k1 k2
        obtain ⟨w, a, ρ', θ', w1, w2⟩ := zf_gl_ok k3 hs hk hρ hθ hW hD hone hr0 (zf_stk_ok h hs2) hg p1 p2 i1 hlt (zf_getA hlt)
        unfold zf_isR at w1
        split at w1
        · obtain ⟨e2, -⟩ := w2
          obtain ⟨f0, rfl, -⟩ := zf_elR e2
          refine va_aldq hx hb hK hP q0 t0 p1 k4 n1 hdg ?_
          rw [← n3]
          exact w
        · cases w1
      · cases hs
    · cases hs
  · -- iastore
    split at hs
    · rename_i hh f q t hc hq
      have e1 : len = 1 := Nat.eq_of_beq_eq_true hc
      subst e1
      split at hs
      · rename_i hkn
        rw [Bool.and_eq_true] at hkn
        rw [hq] at hst
        obtain ⟨v0, st', rfl, hv0, hs0⟩ := zf_f2_c hst
        obtain ⟨y, rfl, ey⟩ := id hv0
        obtain ⟨v, st', rfl, hv, hs1⟩ := zf_f2_c hs0
        obtain ⟨i, rfl, ei⟩ := hv
        obtain ⟨v, st', rfl, hv, hs2⟩ := zf_f2_c hs1
        obtain ⟨rfl, hg⟩ := hv
        obtain ⟨i1, i2⟩ := zf_inb_ok q1 q2 hkn.2
        obtain ⟨n1, n2⟩ := zi_in (i := i) (by omega) (by rw [ei]; exact i2)
        have n3 : (zf_v ρ f).toNat = i.toNatClampNeg := by rw [n2, ei]
        have hlt : (zf_v ρ f).toNat < zf_len (zf_gi GT q.1).2.2 := by omega
        obtain ⟨so, hso⟩ := zf_go1_some hs
        obtain ⟨k1, k2, k3⟩ := zf_knd_ok hkn.1
        obtain ⟨q0, en, p1, p2⟩ := ht _ _ hg k3
        obtain ⟨x, rfl⟩ := zf_arr p2 k1 k2
        obtain ⟨pp, w, m1, m2, m3⟩ := zf_st_sort hso q1 i1 p2 hlt
        obtain ⟨f0, rfl⟩ := zf_sortI hlt m1 m2 m3
        refine va_iast hx hb hK hP hD hS q0 0 p1 rfl n1 hdg (fun H1 locs1 hP1 hD1 hS1 => ?_)
        exact zf_go2_ok k3 hs hk hρ hθ hD ht hfr (zf_stk_ok h hs2) hg p1 i1 hv0 (by rw [n3]; exact zf_likeI (by omega)) hP1 hD1 hS1
      · cases hs
    · cases hs
  · -- lastore
    split at hs
    · rename_i  f q t hc hq
      have e1 : len = 1 := Nat.eq_of_beq_eq_true hc
      subst e1
      split at hs
      · rename_i hkn
        rw [Bool.and_eq_true] at hkn
        rw [hq] at hst
        obtain ⟨v0, st', rfl, hv0, hs0⟩ := zf_f2_c hst
        obtain ⟨y, rfl⟩ := id hv0
        obtain ⟨v, st', rfl, hv, hs1⟩ := zf_f2_c hs0
        obtain ⟨i, rfl, ei⟩ := hv
        obtain ⟨v, st', rfl, hv, hs2⟩ := zf_f2_c hs1
        obtain ⟨rfl, hg⟩ := hv
        obtain ⟨i1, i2⟩ := zf_inb_ok q1 q2 hkn.2
        obtain ⟨n1, n2⟩ := zi_in (i := i) (by omega) (by rw [ei]; exact i2)
        have n3 : (zf_v ρ f).toNat = i.toNatClampNeg := by rw [n2, ei]
        have hlt : (zf_v ρ f).toNat < zf_len (zf_gi GT q.1).2.2 := by omega
        obtain ⟨so, hso⟩ := zf_go1_some hs
        obtain ⟨k1, k2, k3⟩ := zf_knd_ok hkn.1
        obtain ⟨q0, en, p1, p2⟩ := ht _ _ hg k3
        obtain ⟨x, rfl⟩ := zf_arr p2 k1 k2
        obtain ⟨pp, w, m1, m2, m3⟩ := zf_st_sort hso q1 i1 p2 hlt
        obtain ⟨f0, rfl⟩ := zf_sortL hlt m1 m2 m3
        refine va_last hx hb hK hP hD hS q0 1 p1 rfl n1 hdg (fun H1 locs1 hP1 hD1 hS1 => ?_)
        exact zf_go2_ok k3 hs hk hρ hθ hD ht hfr (zf_stk_ok h hs2) hg p1 i1 hv0 (by rw [n3]; exact zf_likeL (by omega)) hP1 hD1 hS1
      · cases hs
    · cases hs
  · -- bastore
    split at hs
    · rename_i hh f q t hc hq
      have e1 : len = 1 := Nat.eq_of_beq_eq_true hc
      subst e1
      split at hs
      · rename_i hkn
        rw [Bool.and_eq_true] at hkn
        rw [hq] at hst
        obtain ⟨v0, st', rfl, hv0, hs0⟩ := zf_f2_c hst
        obtain ⟨y, rfl, ey⟩ := id hv0
        obtain ⟨v, st', rfl, hv, hs1⟩ := zf_f2_c hs0
        obtain ⟨i, rfl, ei⟩ := hv
        obtain ⟨v, st', rfl, hv, hs2⟩ := zf_f2_c hs1
        obtain ⟨rfl, hg⟩ := hv
        obtain ⟨i1, i2⟩ := zf_inb_ok q1 q2 hkn.2
        obtain ⟨n1, n2⟩ := zi_in (i := i) (by omega) (by rw [ei]; exact i2)
        have n3 : (zf_v ρ f).toNat = i.toNatClampNeg := by rw [n2, ei]
        have hlt : (zf_v ρ f).toNat < zf_len (zf_gi GT q.1).2.2 := by omega
        obtain ⟨so, hso⟩ := zf_go1_some hs
        rw [Bool.or_eq_true, Bool.and_eq_true, Bool.and_eq_true] at hkn
        rcases hkn.1 with ⟨hkn1, hkn2⟩ | ⟨hkn1, hkn2⟩
        · obtain ⟨k1, k2, k3⟩ := zf_knd_ok hkn1
          obtain ⟨q0, en, p1, p2⟩ := ht _ _ hg k3
          obtain ⟨x, rfl⟩ := zf_arr p2 k1 k2
          obtain ⟨pp, w, m1, m2, m3⟩ := zf_st_sort hso q1 i1 p2 hlt
          obtain ⟨f0, rfl⟩ := zf_sortI hlt m1 m2 m3
          obtain ⟨y', ey1, ey2, ey3⟩ := zf_fits_ok (p := .inl (0, 1)) q1 q2 hkn2 hv0
          cases ey1
          have en := zf_narZ ey2 ey3
          refine va_zast hx hb hK hP hD hS q0 2 p1 rfl n1 hdg (fun H1 locs1 hP1 hD1 hS1 => ?_)
          rw [en] at hP1 hD1
          exact zf_go2_ok k3 hs hk hρ hθ hD ht hfr (zf_stk_ok h hs2) hg p1 i1 hv0 (by rw [n3]; exact zf_likeI (by omega)) hP1 hD1 hS1
        · obtain ⟨k1, k2, k3⟩ := zf_knd_ok hkn1
          obtain ⟨q0, en, p1, p2⟩ := ht _ _ hg k3
          obtain ⟨x, rfl⟩ := zf_arr p2 k1 k2
          obtain ⟨pp, w, m1, m2, m3⟩ := zf_st_sort hso q1 i1 p2 hlt
          obtain ⟨f0, rfl⟩ := zf_sortI hlt m1 m2 m3
          obtain ⟨y', ey1, ey2, ey3⟩ := zf_fits_ok (p := .inl (-128, 127)) q1 q2 hkn2 hv0
          cases ey1
          have en := zf_narB ey2 ey3
          refine va_bast hx hb hK hP hD hS q0 3 p1 rfl n1 hdg (fun H1 locs1 hP1 hD1 hS1 => ?_)
          rw [en] at hP1 hD1
          exact zf_go2_ok k3 hs hk hρ hθ hD ht hfr (zf_stk_ok h hs2) hg p1 i1 hv0 (by rw [n3]; exact zf_likeI (by omega)) hP1 hD1 hS1
      · cases hs
    · cases hs
  · -- aastore
    split at hs
    · rename_i d f q t hc hq
      have e1 : len = 1 := Nat.eq_of_beq_eq_true hc
      subst e1
      split at hs
      · rename_i hkn
        rw [Bool.and_eq_true] at hkn
        rw [hq] at hst
        obtain ⟨v0, st', rfl, hv0, hs0⟩ := zf_f2_c hst
        obtain ⟨rfl, ey⟩ := id hv0
        obtain ⟨v, st', rfl, hv, hs1⟩ := zf_f2_c hs0
        obtain ⟨i, rfl, ei⟩ := hv
        obtain ⟨v, st', rfl, hv, hs2⟩ := zf_f2_c hs1
        obtain ⟨rfl, hg⟩ := hv
        obtain ⟨i1, i2⟩ := zf_inb_ok q1 q2 hkn.2
        obtain ⟨n1, n2⟩ := zi_in (i := i) (by omega) (by rw [ei]; exact i2)
        have n3 : (zf_v ρ f).toNat = i.toNatClampNeg := by rw [n2, ei]
        have hlt : (zf_v ρ f).toNat < zf_len (zf_gi GT q.1).2.2 := by omega
        obtain ⟨so, hso⟩ := zf_go1_some hs
        rw [Bool.and_eq_true] at hkn
        obtain ⟨k1, k2, k3⟩ := zf_knd_ok hkn.1.1
        obtain ⟨q0, en, p1, p2⟩ := ht _ _ hg k3
        obtain ⟨x, rfl⟩ := zf_arr p2 k1 k2
        obtain ⟨pp, w, m1, m2, m3⟩ := zf_st_sort hso q1 i1 p2 hlt
        obtain ⟨f0, rfl⟩ := zf_sortR hlt m1 m2 m3
        have e128 : Sg (θ d.2) = some 128 := by rw [ey, Nat.eq_of_beq_eq_true hkn.1.2]
        refine va_astqM hx hb hK hP hD hS q0 6 p1 rfl (hany H locs hS _ e128) n1 hdg (fun H1 locs1 hP1 hD1 hS1 => ?_)
        exact zf_go2_ok k3 hs hk hρ hθ hD ht hfr (zf_stk_ok h hs2) hg p1 i1 hv0 (by rw [n3]; exact zf_likeR (by omega)) hP1 hD1 hS1
      · cases hs
    · cases hs
  · -- arraylength
    split at hs
    · rename_i q t hc hq
      have e1 : len = 1 := Nat.eq_of_beq_eq_true hc
      subst e1
      split at hs
      · rename_i k1 hkn
        rw [Bool.and_eq_true, Bool.and_eq_true] at hkn
        cases hs
        rw [hq] at hst
        obtain ⟨v, st', rfl, hv, hs1⟩ := zf_f2_c hst
        obtain ⟨rfl, hg⟩ := hv
        obtain ⟨q0, en, p1, p2⟩ := ht _ _ hg (zf_blt hkn.2)
        obtain ⟨x, rfl⟩ := zf_arr p2 k1 rfl
        have hle := Nat.le_of_ble_eq_true hkn.1.1
        have hlt := zf_blt hkn.1.2
        obtain ⟨ty, hty⟩ : ∃ ty, (zf_tys k)[(zf_gi GT q.1).2.1]? = some (k (zf_gi GT q.1).2.1, ty) := by
          generalize (zf_gi GT q.1).2.1 = t0 at hle
          match t0, hle with
          | 0, _ => exact ⟨_, rfl⟩
          | 1, _ => exact ⟨_, rfl⟩
          | 2, _ => exact ⟨_, rfl⟩
          | 3, _ => exact ⟨_, rfl⟩
          | 4, _ => exact ⟨_, rfl⟩
          | 5, _ => exact ⟨_, rfl⟩
          | 6, _ => exact ⟨_, rfl⟩
          | n + 7, h => omega
        refine va_alen hx hb hK hP q0 _ p1 hty rfl hdg ?_
        refine hk _ List.mem_cons_self ρ θ ws H locs ls _ hρ hθ hW (zf_stk_ok h ⟨⟨_, rfl, ?_⟩, hs1⟩)
        rw [zf_v_con]
        exact Int32.toInt_ofNat_of_lt (by omega)
      · cases hs
    · cases hs
  · cases hs
end ZX
