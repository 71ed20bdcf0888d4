/-! ===== other shapes: products, masks, fields; contracts out of contracts ===== -/
section ZHC
variable {p : Program} {l : Launch} {e : Env} {R : Room} {s : State} {m : MethodId} {args : Array Value} {below : List Frame} {meth : Method} {c : Code} {cells slots : Nat} {Q : State → Prop} {cc : ByteArray} {D : va_G} {cl : List vw_C} {A : Nat → Prop} {H0 : Heap} {Sg : Nat → Option Nat} {k : Nat → ClassId} {θ0 : Nat → Nat} {nL : Nat}
/-- two numbers make one -/
def zr_BR (op : Int32 → Int32 → Int32) (a b : zf_L) (M : zf_M) : Prop := ∀ (ρ : Nat → Int) (F : Nat → Nat → Int32) (x y : Int32), x.toInt = zf_v ρ a → y.toInt = zf_v ρ b → zf_okE M.1.1 ρ → zf_okF M.1.2.1 ρ →
  ∃ o ∈ M.2.2, ∃ ρ1 : Nat → Int, (∀ i, i < M.1.1.length → ρ1 i = ρ i) ∧ zf_okE o.2.1 ρ1 ∧ zf_okF o.2.2.1 ρ1 ∧ (∀ h ∈ o.2.2.2.2.2.2, zq_h F ρ1 h) ∧ ∃ f, o.1 = some (.inl f) ∧ (op x y).toInt = zf_v ρ1 f
theorem zr_bin_post {M : zf_M} {ρ : Nat → Int} {θ : Nat → Nat} {ws : va_W} (hone : ∀ a g, Sg a = some g → g < 64 → a = θ0 g) (hsing : ∀ g, g < 37 → g < 64 → Sg (θ0 g) = some g) (ht : zf_typ Sg k zGT ws) (hθ : ∀ i, i < 64 → θ i = θ0 i) (e1 : zf_okE M.1.1 ρ) (e2 : zf_okF M.1.2.1 ρ) {op : Int32 → Int32 → Int32} {a b : zf_L} (hchk : M.2.2.all zr_out = true) (hr : zr_BR op a b M) {x y : Int32} (ex : x.toInt = zf_v ρ a) (ey : y.toInt = zf_v ρ b) : zf_post Sg k zGT ρ θ M ws (some (.int (op x y))) ws := by
  obtain ⟨F, hc, htp⟩ := zq_ex hsing ht
  obtain ⟨o, ho, ρ1, o0, o1, o2, o3, f, o4, o5⟩ := hr ρ F x y ex ey e1 e2
  rw [List.all_eq_true] at hchk
  have hO := hchk o ho
  unfold zr_out at hO
  rw [Bool.and_eq_true, List.all_eq_true] at hO
  refine ⟨⟨o, ho, ρ1, θ, o0, fun _ _ => rfl, o1, o2, fun h hh => zq_of hone hsing hθ hc o1 o2 (hO.2 h hh) (o3 h hh), ?_⟩, ht, fun _ _ _ _ _ _ h => h⟩
  rw [o4]
  exact ⟨_, rfl, o5⟩
theorem zf_crMU (hx : p.tables.exec = Jvm.exec) (hb : c.code = cc) (hone : ∀ a g, Sg a = some g → g < 64 → a = θ0 g) (hsing : ∀ g, g < 37 → g < 64 → Sg (θ0 g) = some g) {a b : zf_L} {M : zf_M} (hst : M.1.2.2.2.2.1 = [.inl b, .inl a]) (hchk : M.2.2.all zr_out = true) (hr : zr_BR (fun x y => x * y) a b M) :
    zf_CR p l e R s m args below meth c cells slots Q cc D cl A H0 Sg k zGT θ0 nL .imul 1 M := by
  intro H locs ws ρ θ vs rest pc ls hP hD hS ht hθ hpre hdg hls hcat kk
  obtain ⟨e1, e2, e3, -⟩ := hpre
  rw [hst] at e3
  obtain ⟨w, vs, rfl, ⟨y, rfl, ey⟩, e4⟩ := zf_f2_c e3
  obtain ⟨w, vs, rfl, ⟨x, rfl, ex⟩, e5⟩ := zf_f2_c e4
  cases zf_nil e5
  exact lv_imul hx hb hdg (kk (some (.int (x * y))) ws H locs (zr_bin_post hone hsing ht hθ e1 e2 hchk hr ex ey) hP hD hS)
theorem zf_crAN (hx : p.tables.exec = Jvm.exec) (hb : c.code = cc) (hone : ∀ a g, Sg a = some g → g < 64 → a = θ0 g) (hsing : ∀ g, g < 37 → g < 64 → Sg (θ0 g) = some g) {a b : zf_L} {M : zf_M} (hst : M.1.2.2.2.2.1 = [.inl b, .inl a]) (hchk : M.2.2.all zr_out = true) (hr : zr_BR (fun x y => x &&& y) a b M) :
    zf_CR p l e R s m args below meth c cells slots Q cc D cl A H0 Sg k zGT θ0 nL .iand 1 M := by
  intro H locs ws ρ θ vs rest pc ls hP hD hS ht hθ hpre hdg hls hcat kk
  obtain ⟨e1, e2, e3, -⟩ := hpre
  rw [hst] at e3
  obtain ⟨w, vs, rfl, ⟨y, rfl, ey⟩, e4⟩ := zf_f2_c e3
  obtain ⟨w, vs, rfl, ⟨x, rfl, ex⟩, e5⟩ := zf_f2_c e4
  cases zf_nil e5
  exact lv_iand hx hb hdg (kk (some (.int (x &&& y))) ws H locs (zr_bin_post hone hsing ht hθ e1 e2 hchk hr ex ey) hP hD hS)
/-- a field of an object of which there is one -/
def zr_gf (g ci sl : Nat) (M : zf_M) : Bool := zf_knd zGT g false ci && zq_ic g sl && zr_in M && M.2.2.all zr_out
def zr_FR (g sl : Nat) (M : zf_M) : Prop := ∀ (ρ : Nat → Int) (F : Nat → Nat → Int32), zf_okE M.1.1 ρ → zf_okF M.1.2.1 ρ → (∀ h ∈ M.1.2.2.2.2.2, zq_h F ρ h) → zq_tp F →
  ∃ o ∈ M.2.2, ∃ ρ1 : Nat → Int, (∀ i, i < M.1.1.length → ρ1 i = ρ i) ∧ zf_okE o.2.1 ρ1 ∧ zf_okF o.2.2.1 ρ1 ∧ (∀ h ∈ o.2.2.2.2.2.2, zq_h F ρ1 h) ∧ ∃ f, o.1 = some (.inl f) ∧ (F g sl).toInt = zf_v ρ1 f
theorem zf_crGF (hone : ∀ a g, Sg a = some g → g < 64 → a = θ0 g) (hsing : ∀ g, g < 37 → g < 64 → Sg (θ0 g) = some g) {g ci sl idx : Nat} {pp : zf_P} (hfg : zf_FG p l e R s m args below meth c cells slots Q cc D cl (idx, ci, sl, pp)) {M : zf_M} (hst : M.1.2.2.2.2.1 = [.inr (some (g, g))]) (hchk : zr_gf g ci sl M = true) (hr : zr_FR g sl M) :
    zf_CR p l e R s m args below meth c cells slots Q cc D cl A H0 Sg k zGT θ0 nL (.getfield idx) 3 M := by
  intro H locs ws ρ θ vs rest pc ls hP hD hS ht hθ hpre hdg hls hcat kk
  obtain ⟨e1, e2, e3, e4⟩ := hpre
  rw [hst] at e3
  obtain ⟨w, vs, rfl, ⟨rfl, hg⟩, e6⟩ := zf_f2_c e3
  cases zf_nil e6
  unfold zr_gf at hchk
  simp only [Bool.and_eq_true, List.all_eq_true] at hchk
  obtain ⟨⟨⟨c1, c2⟩, c5⟩, c6⟩ := hchk
  obtain ⟨k1, k2, k3⟩ := zf_knd_ok c1
  have hlt37 := zq_ic_lt c2
  unfold zr_in at c5
  rw [Bool.and_eq_true, List.all_eq_true] at c5
  obtain ⟨F, hc, htp⟩ := zq_ex hsing ht
  obtain ⟨o, ho, ρ1, o0, o1, o2, o3, f, o4, o5⟩ := hr ρ F e1 e2 (fun h hh => zq_to hD hsing hθ hc e1 e2 (c5.2 h hh) (e4 h hh)) htp
  have hO := c6 o ho
  unfold zr_out at hO
  rw [Bool.and_eq_true, List.all_eq_true] at hO
  have hg : Sg (θ g) = some g := hg
  have hθg : θ g = θ0 g := hθ g (by omega)
  obtain ⟨q0, en, p1, p2⟩ := ht _ _ hg k3
  obtain ⟨fs, rfl, hlen⟩ := zf_obj p2 k1 k2
  have hrd := hc g sl c2
  rw [← hθg] at hrd
  obtain ⟨q1, e0, r1, r2⟩ := hrd
  have hq := hD.1 q0 q1 _ _ p1 r1 rfl
  subst hq
  cases p1.symm.trans r1
  have r2 : fs[sl]? = some (.int (F g sl)) := r2
  refine hfg H locs ws (θ g) q0 fs (.int (F g sl)) rest pc ls hP p1 r2 hdg ?_
  refine kk (some (.int (F g sl))) ws H locs ⟨⟨o, ho, ρ1, θ, o0, fun _ _ => rfl, o1, o2, fun h hh => zq_of hone hsing hθ hc o1 o2 (hO.2 h hh) (o3 h hh), ?_⟩, ht, fun _ _ _ _ _ _ h => h⟩ hP hD hS
  rw [o4]
  exact ⟨_, rfl, o5⟩
end ZHC
/-- a contract out of a contract -/
theorem zf_cons {l : Launch} {y : MethodName} {wsY : List Cond} {rm : Room} {D : va_G} {k : Nat → ClassId} {Ex : (Nat → Option Nat) → va_W → State → Prop} {GT : List zf_G} {NS : Nat} {M M' : zf_M} (hM : zf_Con l y wsY rm D k Ex GT NS M)
    (h : ∀ (Sg : Nat → Option Nat) (ws : va_W) (ρ : Nat → Int) (θ : Nat → Nat) (vs : List Value), (∀ a g, Sg a = some g → g < 64 → a = θ g) → (∀ g, g < NS → g < 64 → Sg (θ g) = some g) → zf_typ Sg k GT ws → zf_pre Sg ρ θ M' vs ws → zf_pre Sg ρ θ M vs ws ∧ ∀ (v : Option Value) (ws' : va_W) (A : Nat → Prop), va_D A ws' → zf_post Sg k GT ρ θ M ws v ws' → zf_post Sg k GT ρ θ M' ws v ws') : zf_Con l y wsY rm D k Ex GT NS M' := by
  intro Sg ws ρ θ vs sz hone hsing ht hpre
  obtain ⟨h1, h2⟩ := h Sg ws ρ θ vs hone hsing ht hpre
  have hm := hM Sg ws ρ θ vs sz hone hsing ht h1
  refine MetFree.mono hm (fun _ _ h => h) (fun _ _ _ _ _ h => h) ?_
  rintro a st o t - ⟨⟨⟨v, rfl, ws', z1, z2, z3, z4⟩, z5⟩, z6⟩
  exact ⟨⟨⟨v, rfl, ws', z1, z2, z3, h2 v ws' _ z3 z4⟩, z5⟩, z6⟩
