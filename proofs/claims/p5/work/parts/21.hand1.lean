/-! ===== three shapes of rules by hand: a store, a load, a constant ===== -/
def zr_in (M : zf_M) : Bool := Nat.beq M.1.2.2.1 64 && M.1.2.2.2.2.2.all (zr_h M.1.1 M.1.2.1)
def zr_out (o : zf_O) : Bool := Nat.beq o.2.2.2.1 64 && o.2.2.2.2.2.2.all (zr_h o.2.1 o.2.2.1)
def zr_st (g : Nat) (x : zf_L) (M : zf_M) : Bool := zf_knd zGT g true 0 && zq_int g && zf_ge M.1.1 M.1.2.1 x && zf_ge M.1.1 M.1.2.1 (zf_sub (zf_con ((zf_len (zq_sg g) : Int) - 1)) x) && zr_in M && M.2.2.all (fun o => zr_out o && o.1.isNone)
def zr_SR (g : Nat) (x v : zf_L) (M : zf_M) : Prop := ∀ (ρ : Nat → Int) (F : Nat → Nat → Int32) (y : Int32), y.toInt = zf_v ρ v → zf_okE M.1.1 ρ → zf_okF M.1.2.1 ρ → (∀ h ∈ M.1.2.2.2.2.2, zq_h F ρ h) → zq_tp F →
  (∀ q, zf_sp (zq_sg g) (zf_v ρ x).toNat = some (.inl q) → q.1 ≤ y.toInt ∧ y.toInt ≤ q.2) ∧ ∃ o ∈ M.2.2, zf_okE o.2.1 ρ ∧ zf_okF o.2.2.1 ρ ∧ ∀ h ∈ o.2.2.2.2.2.2, zq_h (zq_up F g (zf_v ρ x).toNat y) ρ h
section ZHB
variable {p : Program} {l : Launch} {e : Env} {R : Room} {s : State} {m : MethodId} {args : Array Value} {below : List Frame} {meth : Method} {c : Code} {cells slots : Nat} {Q : State → Prop} {cc : ByteArray} {D : va_G} {cl : List vw_C} {A : Nat → Prop} {H0 : Heap} {Sg : Nat → Option Nat} {k : Nat → ClassId} {θ0 : Nat → Nat} {nL : Nat}
theorem zf_crST (hx : p.tables.exec = Jvm.exec) (hb : c.code = cc) (hK : va_K D cl (zf_tys k) s) (hone : ∀ a g, Sg a = some g → g < 64 → a = θ0 g) (hsing : ∀ g, g < 37 → g < 64 → Sg (θ0 g) = some g) {g : Nat} {x v : zf_L} {M : zf_M} (hst : M.1.2.2.2.2.1 = [.inl v, .inl x, .inr (some (g, g))]) (heff : M.2.1 = [(g, x, x)]) (hchk : zr_st g x M = true) (hr : zr_SR g x v M) :
    zf_CR p l e R s m args below meth c cells slots Q cc D cl A H0 Sg k zGT θ0 nL .iastore 1 M := by
  intro H locs ws ρ θ vs rest pc ls hP hD hS ht hθ hpre hdg hls hcat kk
  obtain ⟨e1, e2, e3, e4⟩ := hpre
  rw [hst] at e3
  obtain ⟨w, vs, rfl, ⟨y, rfl, ey⟩, e7⟩ := zf_f2_c e3
  obtain ⟨w, vs, rfl, ⟨i, rfl, ei⟩, e5⟩ := zf_f2_c e7
  obtain ⟨w, vs, rfl, ⟨rfl, hg⟩, e6⟩ := zf_f2_c e5
  cases zf_nil e6
  unfold zr_st at hchk
  simp only [Bool.and_eq_true, List.all_eq_true] at hchk
  obtain ⟨⟨⟨⟨⟨c1, c2⟩, c3⟩, c4⟩, c5⟩, c6⟩ := hchk
  obtain ⟨k1, k2, k3⟩ := zf_knd_ok c1
  have hlt37 : g < 37 := by
    unfold zq_int at c2
    rw [Bool.and_eq_true] at c2
    exact zf_blt c2.1
  have c3 := zf_ge_of e1 e2 c3
  have c4 := zf_ge_of e1 e2 c4
  rw [zf_v_sub, zf_v_con] at c4
  unfold zr_in at c5
  rw [Bool.and_eq_true, List.all_eq_true] at c5
  obtain ⟨F, hc, htp⟩ := zq_ex hsing ht
  obtain ⟨hfit, o, ho, o1, o2, o3⟩ := hr ρ F y ey e1 e2 (fun h hh => zq_to hD hsing hθ hc e1 e2 (c5.2 h hh) (e4 h hh)) htp
  have hO := c6 o ho
  unfold zr_out at hO
  have hθg : θ g = θ0 g := hθ g (by omega)
  have hg : Sg (θ g) = some g := hg
  have hlen : (zf_v ρ x).toNat < zf_len (zf_gi zGT g).2.2 := by
    have : zf_len (zq_sg g) = zf_len (zf_gi zGT g).2.2 := rfl
    omega
  obtain ⟨n1, n2⟩ := zi_in (i := i) (n := zf_len (zf_gi zGT g).2.2) (by omega) (by omega)
  have n3 : (zf_v ρ x).toNat = i.toNatClampNeg := by rw [n2, ei]
  obtain ⟨q0, en, p1, p2⟩ := ht _ _ hg k3
  obtain ⟨x0, rfl⟩ := zf_arr p2 k1 k2
  obtain ⟨f0, rfl⟩ : ∃ f, x0 = .inl f := by
    obtain ⟨pp, hpp⟩ := zf_sp_some hlen
    have hi := c2
    unfold zq_int at hi
    rw [Bool.and_eq_true] at hi
    have h1 := zq_sp_all hi.2 hpp
    obtain ⟨w, b1, b2⟩ := p2.2 _ pp hpp
    rw [zf_getA hlen] at b1
    cases b1
    unfold zq_isI at h1
    split at h1
    · obtain ⟨z, hz, -⟩ := b2
      obtain ⟨f, hf, -⟩ := zf_elI hz
      exact ⟨f, hf⟩
    · cases h1
  have hl : zf_like (.inl (k 0, zf_len (zf_gi zGT g).2.2, .inl f0)) (.inl (k 0, zf_len (zf_gi zGT g).2.2, .inl (upd f0 i.toNatClampNeg y))) (zf_v ρ x).toNat (.int y) := by
    rw [n3]; exact zf_likeI (by omega)
  refine va_iast hx hb hK hP hD hS q0 0 p1 rfl n1 hdg (fun H1 locs1 hP1 hD1 hS1 => ?_)
  refine kk none _ H1 locs1 ⟨⟨o, ho, ρ, θ, fun _ _ => rfl, fun _ _ => rfl, o1, o2, ?_, ?_⟩, ?_, ?_⟩ hP1 hD1 hS1
  · have hc' : zq_cn θ0 (ws.set q0 (θ g, .inl (k 0, zf_len (zf_gi zGT g).2.2, .inl (upd f0 i.toNatClampNeg y)))) (zq_up F g (zf_v ρ x).toNat y) := by
      intro g' j hgj
      by_cases hq : g' = g ∧ j = (zf_v ρ x).toNat
      · obtain ⟨rfl, rfl⟩ := hq
        rw [zq_up_s, ← hθg]
        exact zf_rd_new p1 hl
      · rw [zq_up_n hq]
        refine zf_rd_set p1 hl (hc g' j hgj) ?_
        intro ha hj
        have hlt := zq_ic_lt hgj
        have h1 := hsing g' hlt (by omega)
        rw [ha] at h1
        exact hq ⟨Option.some.inj (h1.symm.trans hg), hj⟩
    exact fun h hh => zq_of hone hsing hθ hc' o1 o2 (by
      have hO1 := hO.1
      rw [Bool.and_eq_true, List.all_eq_true] at hO1
      exact hO1.2 h hh) (o3 h hh)
  · have hn : o.1 = none := by
      have h2 := hO.2
      cases hq : o.1 with
      | none => rfl
      | some a => rw [hq] at h2; cases h2
    rw [hn]
    trivial
  · exact zf_typ_set ht hg p1 hl (fun pp hp => by
      have hi := c2
      unfold zq_int at hi
      rw [Bool.and_eq_true] at hi
      have h1 := zq_sp_all hi.2 hp
      unfold zq_isI at h1
      split at h1
      · rename_i q
        obtain ⟨b1, b2⟩ := hfit q hp
        exact ⟨y, rfl, b1, b2⟩
      · cases h1) hD
  · intro b g' j w hb' hn hrd
    refine zf_rd_set p1 hl hrd ?_
    rintro rfl rfl
    cases hg.symm.trans hb'
    refine hn ?_
    rw [heff]
    exact ⟨(g, x, x), List.mem_cons_self, rfl, by dsimp only; omega, by dsimp only; omega⟩
/-- a load -/
def zr_ld (g : Nat) (x : zf_L) (M : zf_M) : Bool := zf_knd zGT g true 0 && zq_int g && zf_ge M.1.1 M.1.2.1 x && zf_ge M.1.1 M.1.2.1 (zf_sub (zf_con ((zf_len (zq_sg g) : Int) - 1)) x) && zr_in M && M.2.2.all zr_out
def zr_LR (g : Nat) (x : zf_L) (M : zf_M) : Prop := ∀ (ρ : Nat → Int) (F : Nat → Nat → Int32), zf_okE M.1.1 ρ → zf_okF M.1.2.1 ρ → (∀ h ∈ M.1.2.2.2.2.2, zq_h F ρ h) → zq_tp F →
  ∃ o ∈ M.2.2, ∃ ρ1 : Nat → Int, (∀ i, i < M.1.1.length → ρ1 i = ρ i) ∧ zf_okE o.2.1 ρ1 ∧ zf_okF o.2.2.1 ρ1 ∧ (∀ h ∈ o.2.2.2.2.2.2, zq_h F ρ1 h) ∧ ∃ f, o.1 = some (.inl f) ∧ (F g (zf_v ρ x).toNat).toInt = zf_v ρ1 f
theorem zf_crLD (hx : p.tables.exec = Jvm.exec) (hb : c.code = cc) (hK : va_K D cl (zf_tys k) s) (hone : ∀ a g, Sg a = some g → g < 64 → a = θ0 g) (hsing : ∀ g, g < 37 → g < 64 → Sg (θ0 g) = some g) {g : Nat} {x : zf_L} {M : zf_M} (hst : M.1.2.2.2.2.1 = [.inl x, .inr (some (g, g))]) (hchk : zr_ld g x M = true) (hr : zr_LR g x M) :
    zf_CR p l e R s m args below meth c cells slots Q cc D cl A H0 Sg k zGT θ0 nL .iaload 1 M := by
  intro H locs ws ρ θ vs rest pc ls hP hD hS ht hθ hpre hdg hls hcat kk
  obtain ⟨e1, e2, e3, e4⟩ := hpre
  rw [hst] at e3
  obtain ⟨w, vs, rfl, ⟨i, rfl, ei⟩, e5⟩ := zf_f2_c e3
  obtain ⟨w, vs, rfl, ⟨rfl, hg⟩, e6⟩ := zf_f2_c e5
  cases zf_nil e6
  unfold zr_ld at hchk
  simp only [Bool.and_eq_true, List.all_eq_true] at hchk
  obtain ⟨⟨⟨⟨⟨c1, c2⟩, c3⟩, c4⟩, c5⟩, c6⟩ := hchk
  obtain ⟨k1, k2, k3⟩ := zf_knd_ok c1
  have hlt37 : g < 37 := by
    unfold zq_int at c2
    rw [Bool.and_eq_true] at c2
    exact zf_blt c2.1
  have c3 := zf_ge_of e1 e2 c3
  have c4 := zf_ge_of e1 e2 c4
  rw [zf_v_sub, zf_v_con] at c4
  unfold zr_in at c5
  rw [Bool.and_eq_true, List.all_eq_true] at c5
  obtain ⟨F, hc, htp⟩ := zq_ex hsing ht
  obtain ⟨o, ho, ρ1, o0, o1, o2, o3, f, o4, o5⟩ := hr ρ F e1 e2 (fun h hh => zq_to hD hsing hθ hc e1 e2 (c5.2 h hh) (e4 h hh)) htp
  have hO := c6 o ho
  unfold zr_out at hO
  rw [Bool.and_eq_true, List.all_eq_true] at hO
  have hθg : θ g = θ0 g := hθ g (by omega)
  have hg : Sg (θ g) = some g := hg
  have hlen : (zf_v ρ x).toNat < zf_len (zf_gi zGT g).2.2 := by
    have : zf_len (zq_sg g) = zf_len (zf_gi zGT g).2.2 := rfl
    omega
  obtain ⟨n1, n2⟩ := zi_in (i := i) (n := zf_len (zf_gi zGT g).2.2) (by omega) (by omega)
  have n3 : (zf_v ρ x).toNat = i.toNatClampNeg := by rw [n2, ei]
  obtain ⟨q0, en, p1, p2⟩ := ht _ _ hg k3
  obtain ⟨x0, rfl⟩ := zf_arr p2 k1 k2
  have hrd := hc g (zf_v ρ x).toNat (zq_int_ic c2 (by unfold zq_sg; exact hlen))
  rw [← hθg] at hrd
  have hrd2 : zf_rd ws (θ g) (zf_v ρ x).toNat (zf_el x0 (zf_v ρ x).toNat) := ⟨q0, _, p1, zf_getA hlen⟩
  have hel := zf_rd_fun hD hrd2 hrd
  obtain ⟨f0, rfl, hf0⟩ := zf_elI hel
  refine va_iald hx hb hK hP q0 0 p1 rfl n1 hdg ?_
  rw [← n3, hf0]
  refine kk (some (.int (F g (zf_v ρ x).toNat))) ws H locs ⟨⟨o, ho, ρ1, θ, o0, fun _ _ => rfl, o1, o2, fun h hh => zq_of hone hsing hθ hc o1 o2 (hO.2 h hh) (o3 h hh), ?_⟩, ht, fun _ _ _ _ _ _ h => h⟩ hP hD hS
  rw [o4]
  exact ⟨_, rfl, o5⟩
/-- a constant; what is known turns -/
def zr_kc (n : Int) (M : zf_M) : Bool := zr_in M && M.2.2.all (fun o => zr_out o && zf_eq (match o.1 with | some (.inl f) => f | _ => ([(0, 1)], 0)) (zf_con n))
def zr_KR (M : zf_M) : Prop := ∀ (ρ : Nat → Int) (F : Nat → Nat → Int32), zf_okE M.1.1 ρ → zf_okF M.1.2.1 ρ → (∀ h ∈ M.1.2.2.2.2.2, zq_h F ρ h) → zq_tp F →
  ∃ o ∈ M.2.2, zf_okE o.2.1 ρ ∧ zf_okF o.2.2.1 ρ ∧ ∀ h ∈ o.2.2.2.2.2.2, zq_h F ρ h
theorem zr_kc_post {M : zf_M} {ρ : Nat → Int} {θ : Nat → Nat} {ws : va_W} {vs : List Value} (hone : ∀ a g, Sg a = some g → g < 64 → a = θ0 g) (hsing : ∀ g, g < 37 → g < 64 → Sg (θ0 g) = some g) (hD : va_D A ws) (ht : zf_typ Sg k zGT ws) (hθ : ∀ i, i < 64 → θ i = θ0 i) (hpre : zf_pre Sg ρ θ M vs ws) {n : Int} (hchk : zr_kc n M = true) (hr : zr_KR M) {z : Int32} (hz : z.toInt = n) : zf_post Sg k zGT ρ θ M ws (some (.int z)) ws := by
  obtain ⟨e1, e2, -, e4⟩ := hpre
  unfold zr_kc at hchk
  rw [Bool.and_eq_true, List.all_eq_true] at hchk
  have c5 := hchk.1
  unfold zr_in at c5
  rw [Bool.and_eq_true, List.all_eq_true] at c5
  obtain ⟨F, hc, htp⟩ := zq_ex hsing ht
  obtain ⟨o, ho, o1, o2, o3⟩ := hr ρ F e1 e2 (fun h hh => zq_to hD hsing hθ hc e1 e2 (c5.2 h hh) (e4 h hh)) htp
  have hO := hchk.2 o ho
  rw [Bool.and_eq_true] at hO
  have hO1 := hO.1
  unfold zr_out at hO1
  rw [Bool.and_eq_true, List.all_eq_true] at hO1
  refine ⟨⟨o, ho, ρ, θ, fun _ _ => rfl, fun _ _ => rfl, o1, o2, fun h hh => zq_of hone hsing hθ hc o1 o2 (hO1.2 h hh) (o3 h hh), ?_⟩, ht, fun _ _ _ _ _ _ h => h⟩
  have h2 := zf_eq_eq hO.2
  cases hq : o.1 with
  | none => rw [hq] at h2; cases h2
  | some a =>
    rw [hq] at h2
    match a, h2 with
    | .inl f, h2 =>
      have h2 : f = zf_con n := h2
      rw [h2]
      exact ⟨z, rfl, by rw [zf_v_con]; exact hz⟩
    | .inr none, h2 => cases h2
    | .inr (some q), h2 => cases h2
theorem zf_crIC (hx : p.tables.exec = Jvm.exec) (hb : c.code = cc) (hone : ∀ a g, Sg a = some g → g < 64 → a = θ0 g) (hsing : ∀ g, g < 37 → g < 64 → Sg (θ0 g) = some g) {n : Int} (h1 : -1 ≤ n) (h2 : n ≤ 5) {M : zf_M} (hst : M.1.2.2.2.2.1 = []) (hchk : zr_kc n M = true) (hr : zr_KR M) :
    zf_CR p l e R s m args below meth c cells slots Q cc D cl A H0 Sg k zGT θ0 nL (.iconst n) 1 M := by
  intro H locs ws ρ θ vs rest pc ls hP hD hS ht hθ hpre hdg hls hcat kk
  have e3 := hpre.2.2.1
  rw [hst] at e3
  cases zf_nil e3
  exact lv_iconst hx hb hdg rfl (kk (some (.int _)) ws H locs (zr_kc_post hone hsing hD ht hθ hpre hchk hr (zi_con1 h1 h2)) hP hD hS)
theorem zf_crBP (hx : p.tables.exec = Jvm.exec) (hb : c.code = cc) (hone : ∀ a g, Sg a = some g → g < 64 → a = θ0 g) (hsing : ∀ g, g < 37 → g < 64 → Sg (θ0 g) = some g) {n : Int} (h1 : -128 ≤ n) (h2 : n ≤ 127) {M : zf_M} (hst : M.1.2.2.2.2.1 = []) (hchk : zr_kc n M = true) (hr : zr_KR M) :
    zf_CR p l e R s m args below meth c cells slots Q cc D cl A H0 Sg k zGT θ0 nL (.bipush n) 2 M := by
  intro H locs ws ρ θ vs rest pc ls hP hD hS ht hθ hpre hdg hls hcat kk
  have e3 := hpre.2.2.1
  rw [hst] at e3
  cases zf_nil e3
  exact lv_bipush hx hb hdg rfl (kk (some (.int _)) ws H locs (zr_kc_post hone hsing hD ht hθ hpre hchk hr (zi_con8 h1 h2)) hP hD hS)
end ZHB
