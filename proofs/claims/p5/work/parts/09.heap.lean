/-! ===== reading and writing cells ===== -/
def zf_ov (lo hi : Int) : Nat → List (Nat × zf_P) → List zf_P
  | _, [] => []
  | s, q :: t => match zf_le (s : Int) hi && zf_le (lo + 1) (q.1 : Int) with
    | true => q.2 :: zf_ov lo hi q.1 t
    | false => zf_ov lo hi q.1 t
theorem zf_ov_ok {lo hi : Int} {i : Nat} {p : zf_P} (h1 : lo ≤ (i : Int)) (h2 : (i : Int) ≤ hi) : ∀ {t : List (Nat × zf_P)} {s : Nat}, s ≤ i → zf_sp t i = some p → p ∈ zf_ov lo hi s t
  | [], _, _, h => by simp [zf_sp] at h
  | q :: t, s, hs, h => by
    unfold zf_sp at h
    unfold zf_ov
    split at h
    · rename_i hb
      cases h
      have hb : i < q.1 := zf_blt hb
      have e : (zf_le (s : Int) hi && zf_le (lo + 1) (q.1 : Int)) = true := by
        rw [Bool.and_eq_true, zf_le_iff, zf_le_iff]; omega
      rw [e]
      exact List.mem_cons_self
    · rename_i hb
      have hb : q.1 ≤ i := by
        have : ¬ i < q.1 := by intro hlt; rw [zf_blt' hlt] at hb; cases hb
        omega
      have := zf_ov_ok h1 h2 (s := q.1) hb h
      split
      · exact List.mem_cons_of_mem _ this
      · exact this
theorem zf_sp_some {i : Nat} : ∀ {t : List (Nat × zf_P)}, i < zf_len t → ∃ p, zf_sp t i = some p
  | [], h => by simp [zf_len] at h
  | [q], h => by
    have h : i < q.1 := h
    exact ⟨q.2, by unfold zf_sp; rw [show Nat.blt i q.1 = true from zf_blt' h]⟩
  | q :: r :: t, h => by
    have h : i < zf_len (r :: t) := h
    unfold zf_sp
    split
    · exact ⟨_, rfl⟩
    · exact zf_sp_some h
def zf_j2 (p q : zf_P) : Option zf_P := match p, q with
  | .inl a, .inl b => some (.inl ((match zf_le a.1 b.1 with | true => a.1 | false => b.1), (match zf_le a.2 b.2 with | true => b.2 | false => a.2)))
  | .inr none, .inr none => some (.inr none)
  | .inr (some g), .inr (some h) => match Nat.beq g h with
    | true => some (.inr (some g))
    | false => none
  | _, _ => none
theorem zf_j2_ok {Sg : Nat → Option Nat} {p q r : zf_P} {v : Value} (h : zf_j2 p q = some r) : (zf_pok Sg p v → zf_pok Sg r v) ∧ (zf_pok Sg q v → zf_pok Sg r v) := by
  unfold zf_j2 at h
  split at h
  · rename_i a b
    cases h
    refine ⟨fun ⟨x, e1, e2, e3⟩ => ⟨x, e1, ?_, ?_⟩, fun ⟨x, e1, e2, e3⟩ => ⟨x, e1, ?_, ?_⟩⟩
    · dsimp only; split
      · exact e2
      · rename_i hb
        have : ¬ a.1 ≤ b.1 := fun q => by rw [← zf_le_iff, hb] at q; cases q
        omega
    · dsimp only; split
      · rename_i hb
        rw [zf_le_iff] at hb; omega
      · exact e3
    · dsimp only; split
      · rename_i hb
        rw [zf_le_iff] at hb; omega
      · exact e2
    · dsimp only; split
      · exact e3
      · rename_i hb
        have : ¬ a.2 ≤ b.2 := fun q => by rw [← zf_le_iff, hb] at q; cases q
        omega
  · cases h; exact ⟨id, id⟩
  · split at h
    · rename_i hb
      cases h
      have e := Nat.eq_of_beq_eq_true hb
      subst e
      exact ⟨id, id⟩
    · cases h
  · cases h
def zf_jl : List zf_P → Option zf_P
  | [] => none
  | [p] => some p
  | p :: t => match zf_jl t with
    | some q => zf_j2 p q
    | none => none
theorem zf_jl_ok {Sg : Nat → Option Nat} {p : zf_P} {v : Value} (hv : zf_pok Sg p v) : ∀ {t : List zf_P} {r : zf_P}, zf_jl t = some r → p ∈ t → zf_pok Sg r v
  | [], _, h, _ => by simp [zf_jl] at h
  | [q], r, h, hm => by
    cases h
    rw [List.mem_singleton] at hm
    subst hm
    exact hv
  | q :: s :: t, r, h, hm => by
    have h : (match zf_jl (s :: t) with
      | some u => zf_j2 q u
      | none => none) = some r := h
    split at h
    · rename_i u hu
      rcases List.mem_cons.mp hm with rfl | hm
      · exact (zf_j2_ok h).1 hv
      · exact (zf_j2_ok h).2 (zf_jl_ok hv hu hm)
    · cases h
def zf_hk (g r : Nat) (f : zf_L) : List zf_H → Option zf_A
  | [] => none
  | h :: t => match Nat.beq h.1 g && Nat.beq h.2.1 r && zf_eq h.2.2.1 f with
    | true => some h.2.2.2
    | false => zf_hk g r f t
theorem zf_hk_ok {g r : Nat} {f : zf_L} {a : zf_A} : ∀ {t : List zf_H}, zf_hk g r f t = some a → (g, r, f, a) ∈ t
  | [], h => by simp [zf_hk] at h
  | h :: t, q => by
    unfold zf_hk at q
    split at q
    · rename_i hb
      rw [Bool.and_eq_true, Bool.and_eq_true] at hb
      cases q
      have e0 := Nat.eq_of_beq_eq_true hb.1.1
      have e1 := Nat.eq_of_beq_eq_true hb.1.2
      have e2 := zf_eq_eq hb.2
      rw [← e0, ← e1, ← e2]
      exact List.mem_cons_self
    · exact List.mem_cons_of_mem _ (zf_hk_ok q)
theorem zf_rd_fun {A : Nat → Prop} {ws : va_W} (hD : va_D A ws) {a i : Nat} {v w : Value} (h1 : zf_rd ws a i v) (h2 : zf_rd ws a i w) : v = w := by
  obtain ⟨q, e, p1, p2⟩ := h1
  obtain ⟨q', e', p1', p2'⟩ := h2
  have := hD.1 q q' _ _ p1 p1' rfl
  subst this
  cases p1.symm.trans p1'
  exact Option.some.inj (p2.symm.trans p2')
def zf_hfs (σ : zf_S) (hf : List zf_H) : zf_S := (σ.1, σ.2.1, σ.2.2.1, σ.2.2.2.1, σ.2.2.2.2.1, hf)
/-- what stands in a cell: known, or new within its kind's bounds -/
def zf_ld (n0 r0 : Nat) (GT : List zf_G) (σ : zf_S) (g r : Nat) (f : zf_L) : Option (zf_A × zf_S) := match zf_hk g r f σ.2.2.2.2.2 with
  | some a => some (a, σ)
  | none => match zf_jl (zf_ov (zf_lo σ.1 f) (zf_hi σ.1 f) 0 (zf_gi GT g).2.2), zf_bt σ.1.length f.1 && Nat.blt r σ.2.2.1 with
    | some (.inl q), true => match zf_new n0 σ q.1 q.2 [] with
      | some σ' => some (.inl (zf_sym σ.1.length), zf_hfs σ' ((g, r, f, .inl (zf_sym σ.1.length)) :: σ'.2.2.2.2.2))
      | none => none
    | some (.inr none), _ => some (.inr none, σ)
    | some (.inr (some d)), true => match Nat.blt d 64 with
      | true => some (.inr (some (d, d)), σ)
      | false => match zf_nwr r0 σ with
        | some σ' => some (.inr (some (d, σ.2.2.1)), zf_hfs σ' ((g, r, f, .inr (some (d, σ.2.2.1))) :: σ'.2.2.2.2.2))
        | none => none
    | _, _ => none
section ZH
variable {Sg : Nat → Option Nat} {k : Nat → ClassId} {GT : List zf_G} {A : Nat → Prop} {ρ ρ0 : Nat → Int} {θ θ0 : Nat → Nat} {nL n0 r0 : Nat} {σ σ' : zf_S} {ls : Array Slot} {st : List Value} {ws : va_W}
theorem zf_ent_get {g : zf_G} {e : va_E} (h : zf_ent Sg k g e) {i : Nat} (hi : i < zf_len g.2.2) {lo hi' : Int} (h1 : lo ≤ (i : Int)) (h2 : (i : Int) ≤ hi') : ∃ p v, p ∈ zf_ov lo hi' 0 g.2.2 ∧ zf_get e i = some v ∧ zf_pok Sg p v := by
  obtain ⟨p, hp⟩ := zf_sp_some hi
  obtain ⟨v, e1, e2⟩ := h.2 i p hp
  exact ⟨p, v, zf_ov_ok h1 h2 (Nat.zero_le i) hp, e1, e2⟩
theorem zf_ld_ok {g r : Nat} (hgl : g < 1000) (hD : va_D A ws) (hone : ∀ a g, Sg a = some g → g < 64 → a = θ0 g) (hr0 : 64 ≤ r0) (hθ : ∀ i, i < r0 → θ i = θ0 i) (h : zf_sat Sg ρ θ nL σ ls st ws) {f : zf_L} {a : zf_A} (hl : zf_ld n0 r0 GT σ g r f = some (a, σ')) (hg : Sg (θ r) = some g)
    {q : Nat} {e : va_E} (hq : ws[q]? = some (θ r, e)) (he : zf_ent Sg k (zf_gi GT g) e) (h0 : 0 ≤ zf_v ρ f) (hi : (zf_v ρ f).toNat < zf_len (zf_gi GT g).2.2) {v : Value} (hv : zf_get e (zf_v ρ f).toNat = some v) :
    ∃ (ρ' : Nat → Int) (θ' : Nat → Nat), (∀ i, i < n0 → ρ' i = ρ i) ∧ (∀ i, i < r0 → θ' i = θ i) ∧ zf_sat Sg ρ' θ' nL σ' ls st ws ∧ zf_vok Sg ρ' θ' a v := by
  have hrd : zf_rd ws (θ r) (zf_v ρ f).toNat v := ⟨q, e, hq, hv⟩
  have b1 := zf_lo_le h.1 f
  have b2 := zf_le_hi h.1 f
  unfold zf_ld at hl
  split at hl
  · rename_i a' ha
    cases hl
    have hm := zf_hk_ok ha
    obtain ⟨-, -, w, w1, w2⟩ := (zf_hokT hgl).mp (h.2.2.2.2 _ hm)
    have := zf_rd_fun hD hrd w1
    subst this
    exact ⟨ρ, θ, fun _ _ => rfl, fun _ _ => rfl, h, w2⟩
  · obtain ⟨p, w, m1, m2, m3⟩ := zf_ent_get he hi (lo := zf_lo σ.1 f) (hi' := zf_hi σ.1 f) (by omega) (by omega)
    cases Option.some.inj (m2.symm.trans hv)
    split at hl
    · rename_i iv hj hb
      rw [Bool.and_eq_true] at hb
      obtain ⟨x, rfl, x1, x2⟩ := zf_jl_ok m3 hj m1
      split at hl
      · rename_i s1 hn
        cases hl
        obtain ⟨n1, n2⟩ := zf_new_ok hn h ⟨x1, x2⟩ (fun g hg => by cases hg)
        have ev : zf_v (zf_up ρ σ.1.length x.toInt) f = zf_v ρ f := zf_up_v hb.1
        have es : zf_v (zf_up ρ σ.1.length x.toInt) (zf_sym σ.1.length) = x.toInt := by rw [zf_v_sym, zf_up_n]
        refine ⟨_, θ, n2, fun _ _ => rfl, ⟨n1.1, n1.2.1, n1.2.2.1, n1.2.2.2.1, ?_⟩, ⟨x, rfl, es.symm⟩⟩
        intro y hy
        rcases List.mem_cons.mp hy with rfl | hy
        · refine (zf_hokT hgl).mpr ⟨hg, by dsimp only; rw [ev]; exact h0, .int x, ?_, ⟨x, rfl, es.symm⟩⟩
          dsimp only; rw [ev]; exact hrd
        · exact n1.2.2.2.2 y hy
      · cases hl
    · rename_i hj
      cases hl
      exact ⟨ρ, θ, fun _ _ => rfl, fun _ _ => rfl, h, zf_jl_ok m3 hj m1⟩
    · rename_i d hj hb
      rw [Bool.and_eq_true] at hb
      obtain ⟨x, rfl, x1⟩ := zf_jl_ok m3 hj m1
      split at hl
      · rename_i hd
        cases hl
        have hd : d < 64 := zf_blt hd
        have e1 := hone x d x1 hd
        have e2 := hθ d (by omega)
        exact ⟨ρ, θ, fun _ _ => rfl, fun _ _ => rfl, h, by rw [e2, ← e1], by dsimp only; rw [e2, ← e1]; exact x1⟩
      · split at hl
        · rename_i s1 hn
          cases hl
          obtain ⟨n1, n2, n3⟩ := zf_nwr_ok hn h x
          have hr : r < σ.2.2.1 := zf_blt hb.2
          have er : zf_upr θ σ.2.2.1 x r = θ r := if_neg (Nat.ne_of_lt hr)
          have hok : zf_vok Sg ρ (zf_upr θ σ.2.2.1 x) (.inr (some (d, σ.2.2.1))) (.ref x) := ⟨by dsimp only; rw [n3], by dsimp only; rw [n3]; exact x1⟩
          refine ⟨ρ, _, fun _ _ => rfl, n2, ⟨n1.1, n1.2.1, n1.2.2.1, n1.2.2.2.1, ?_⟩, hok⟩
          intro y hy
          rcases List.mem_cons.mp hy with rfl | hy
          · exact (zf_hokT hgl).mpr ⟨by dsimp only; rw [er]; exact hg, h0, .ref x, by dsimp only; rw [er]; exact hrd, hok⟩
          · exact n1.2.2.2.2 y hy
        · cases hl
    · cases hl
/-- the place may be written, by what is said ahead -/
abbrev zf_F := List (Nat × zf_L × zf_L)
def zf_ine (eff : zf_F) (ρ0 : Nat → Int) (g i : Nat) : Prop := ∃ q ∈ eff, q.1 = g ∧ zf_v ρ0 q.2.1 ≤ (i : Int) ∧ (i : Int) ≤ zf_v ρ0 q.2.2
def zf_fr (Sg : Nat → Option Nat) (eff : zf_F) (ρ0 : Nat → Int) (ws0 ws : va_W) : Prop := ∀ a g i v, Sg a = some g → ¬ zf_ine eff ρ0 g i → zf_rd ws0 a i v → zf_rd ws a i v
def zf_eok (n0 : Nat) (σ : zf_S) (eff : zf_F) (g : Nat) (f : zf_L) : Bool := eff.any (fun q => Nat.beq q.1 g && zf_bt n0 q.2.1.1 && zf_bt n0 q.2.2.1 && zf_ge σ.1 σ.2.1 (zf_sub f q.2.1) && zf_ge σ.1 σ.2.1 (zf_sub q.2.2 f))
theorem zf_eok_ok {eff : zf_F} {g : Nat} {f : zf_L} (hρ : ∀ i, i < n0 → ρ i = ρ0 i) (hE : zf_okE σ.1 ρ) (hF : zf_okF σ.2.1 ρ) (h0 : 0 ≤ zf_v ρ f) (h : zf_eok n0 σ eff g f = true) : zf_ine eff ρ0 g (zf_v ρ f).toNat := by
  unfold zf_eok at h
  rw [List.any_eq_true] at h
  obtain ⟨q, hq, h⟩ := h
  simp only [Bool.and_eq_true] at h
  obtain ⟨⟨⟨⟨e1, e2⟩, e3⟩, e4⟩, e5⟩ := h
  have e4 := zf_ge_of hE hF e4
  have e5 := zf_ge_of hE hF e5
  rw [zf_v_sub] at e4 e5
  have r1 := zf_bt_v hρ (f := q.2.1) e2
  have r2 := zf_bt_v hρ (f := q.2.2) e3
  exact ⟨q, hq, Nat.eq_of_beq_eq_true e1, by omega, by omega⟩
def zf_fits (σ : zf_S) (a : zf_A) (p : zf_P) : Bool := match p, a with
  | .inl q, .inl h => zf_ge σ.1 σ.2.1 (zf_sub h (zf_con q.1)) && zf_ge σ.1 σ.2.1 (zf_sub (zf_con q.2) h)
  | .inr none, .inr none => true
  | .inr (some g), .inr (some q) => Nat.beq g q.1
  | _, _ => false
theorem zf_fits_ok {a : zf_A} {p : zf_P} {v : Value} (hE : zf_okE σ.1 ρ) (hF : zf_okF σ.2.1 ρ) (h : zf_fits σ a p = true) (hv : zf_vok Sg ρ θ a v) : zf_pok Sg p v := by
  unfold zf_fits at h
  split at h
  · rw [Bool.and_eq_true] at h
    obtain ⟨x, e1, e2⟩ := hv
    have h1 := zf_ge_of hE hF h.1
    have h2 := zf_ge_of hE hF h.2
    rw [zf_v_sub, zf_v_con] at h1 h2
    exact ⟨x, e1, by omega, by omega⟩
  · exact hv
  · have e := Nat.eq_of_beq_eq_true h
    exact ⟨_, hv.1, by rw [e]; exact hv.2⟩
  · cases h
/-- a fact stays where only the place f of kind g is written -/
def zf_kl1 (E : zf_E) (Fs : List zf_L) (g : Nat) (f : zf_L) (h : zf_H) : Bool := match Nat.blt h.1 1000 with
  | true => !(Nat.beq h.1 g) || zf_ge E Fs (zf_add (zf_sub h.2.2.1 f) (zf_con (-1))) || zf_ge E Fs (zf_add (zf_sub f h.2.2.1) (zf_con (-1)))
  | false => (zf_sup (h.1 - 1000)).all (fun q => !(Nat.beq q.1 g) || zf_ge E Fs (zf_add (zf_sub (zf_sb [h.2.2.1, zf_a2 h.2.2.2] q.2.1) f) (zf_con (-1))) || zf_ge E Fs (zf_add (zf_sub f (zf_sb [h.2.2.1, zf_a2 h.2.2.2] q.2.2)) (zf_con (-1))))
def zf_kil (σ : zf_S) (g : Nat) (f : zf_L) : List zf_H := σ.2.2.2.2.2.filter (zf_kl1 σ.1 σ.2.1 g f)
def zf_st (n0 : Nat) (GT : List zf_G) (eff : zf_F) (σ : zf_S) (g r : Nat) (f : zf_L) (a : zf_A) : Option zf_S := match (zf_ov (zf_lo σ.1 f) (zf_hi σ.1 f) 0 (zf_gi GT g).2.2).all (zf_fits σ a) && zf_eok n0 σ eff g f with
  | true => some (zf_hfs σ ((g, r, f, a) :: zf_kil σ g f))
  | false => none
/-- an entry with another value at one place -/
def zf_like (e e' : va_E) (i : Nat) (v : Value) : Prop := zf_get e' i = some v ∧ (∀ j, j ≠ i → zf_get e' j = zf_get e j) ∧ ((∃ c fs fs', e = .inr (c, fs) ∧ e' = .inr (c, fs') ∧ fs'.length = fs.length) ∨ ∃ cA n x x', e = .inl (cA, n, x) ∧ e' = .inl (cA, n, x'))
theorem zf_like_ent {g : zf_G} {e e' : va_E} {i : Nat} {v : Value} (hl : zf_like e e' i v) (he : zf_ent Sg k g e) (hp : ∀ p, zf_sp g.2.2 i = some p → zf_pok Sg p v) : zf_ent Sg k g e' := by
  obtain ⟨l1, l2, l3⟩ := hl
  refine ⟨?_, fun j p hj => ?_⟩
  · have h1 := he.1
    split at h1
    · obtain ⟨fs, e1, e2⟩ := h1
      rcases l3 with ⟨c, fs1, fs2, a1, a2, a3⟩ | ⟨cA, n, x, x', a1, a2⟩
      · cases e1.symm.trans a1
        exact ⟨fs2, a2, a3.trans e2⟩
      · cases e1.symm.trans a1
    · obtain ⟨x, e1⟩ := h1
      rcases l3 with ⟨c, fs1, fs2, a1, a2, a3⟩ | ⟨cA, n, x1, x', a1, a2⟩
      · cases e1.symm.trans a1
      · cases e1.symm.trans a1
        exact ⟨x', a2⟩
  · by_cases hji : j = i
    · subst hji
      exact ⟨v, l1, hp p hj⟩
    · rw [l2 j hji]
      exact he.2 j p hj
theorem zf_rd_set {q : Nat} {a : Nat} {e e' : va_E} (hq : ws[q]? = some (a, e)) {i : Nat} {v : Value} (hl : zf_like e e' i v) {b j : Nat} {w : Value} (h : zf_rd ws b j w) (hne : b = a → j ≠ i) : zf_rd (ws.set q (a, e')) b j w := by
  obtain ⟨q', e0, p1, p2⟩ := h
  have hlt : q < ws.length := (List.getElem?_eq_some_iff.mp hq).1
  by_cases hqq : q' = q
  · subst hqq
    cases hq.symm.trans p1
    exact ⟨q', e', by rw [List.getElem?_set_self hlt], by rw [hl.2.1 j (hne rfl)]; exact p2⟩
  · exact ⟨q', e0, by rw [List.getElem?_set_ne (fun h => hqq h.symm)]; exact p1, p2⟩
theorem zf_rd_new {q : Nat} {a : Nat} {e e' : va_E} (hq : ws[q]? = some (a, e)) {i : Nat} {v : Value} (hl : zf_like e e' i v) : zf_rd (ws.set q (a, e')) a i v :=
  ⟨q, e', by rw [List.getElem?_set_self (List.getElem?_eq_some_iff.mp hq).1], hl.1⟩
theorem zf_typ_set {q : Nat} {a g : Nat} {e e' : va_E} (ht : zf_typ Sg k GT ws) (hg : Sg a = some g) (hq : ws[q]? = some (a, e)) {i : Nat} {v : Value} (hl : zf_like e e' i v) (hp : ∀ p, zf_sp (zf_gi GT g).2.2 i = some p → zf_pok Sg p v) (hD : va_D A ws) : zf_typ Sg k GT (ws.set q (a, e')) := by
  intro b g' hb hlt
  obtain ⟨q', e0, p1, p2⟩ := ht b g' hb hlt
  by_cases hqq : q' = q
  · subst hqq
    cases hq.symm.trans p1
    cases hg.symm.trans hb
    exact ⟨q', e', by rw [List.getElem?_set_self (List.getElem?_eq_some_iff.mp hq).1], zf_like_ent hl p2 hp⟩
  · exact ⟨q', e0, by rw [List.getElem?_set_ne (fun h => hqq h.symm)]; exact p1, p2⟩
/-- a ghost fact's places by its two numbers; what they speak of has unknowns 0 and 1 alone -/
theorem zf_sb_ab (ρ : Nat → Int) (f g : zf_L) {x : zf_L} (hx : zf_bt 2 x.1 = true) : zf_v ρ (zf_sb [f, g] x) = zf_v (zf_ab (zf_v ρ f) (zf_v ρ g)) x := by
  rw [zf_v_sb]
  refine zf_bt_v (fun i hi => ?_) hx
  match i, hi with
  | 0, _ => rfl
  | 1, _ => rfl
theorem zf_st_ok {g r : Nat} (hgl : g < 1000) {eff : zf_F} {ws0 : va_W} (hρ : ∀ i, i < n0 → ρ i = ρ0 i) (hD : va_D A ws) (ht : zf_typ Sg k GT ws) (hfr : zf_fr Sg eff ρ0 ws0 ws) (h : zf_sat Sg ρ θ nL σ ls st ws) {f : zf_L} {a : zf_A} (hs : zf_st n0 GT eff σ g r f a = some σ') (hg : Sg (θ r) = some g)
    {q : Nat} {e e' : va_E} (hq : ws[q]? = some (θ r, e)) (h0 : 0 ≤ zf_v ρ f) {v : Value} (hv : zf_vok Sg ρ θ a v) (hl : zf_like e e' (zf_v ρ f).toNat v) :
    zf_typ Sg k GT (ws.set q (θ r, e')) ∧ zf_fr Sg eff ρ0 ws0 (ws.set q (θ r, e')) ∧ zf_sat Sg ρ θ nL σ' ls st (ws.set q (θ r, e')) := by
  have b1 := zf_lo_le h.1 f
  have b2 := zf_le_hi h.1 f
  unfold zf_st at hs
  split at hs
  · rename_i hb
    rw [Bool.and_eq_true, List.all_eq_true] at hb
    cases hs
    have hine := zf_eok_ok hρ h.1 h.2.1 h0 hb.2
    refine ⟨zf_typ_set ht hg hq hl (fun p hp => zf_fits_ok h.1 h.2.1 (hb.1 p (zf_ov_ok (by omega) (by omega) (Nat.zero_le _) hp)) hv) hD, ?_, ⟨h.1, h.2.1, h.2.2.1, h.2.2.2.1, ?_⟩⟩
    · intro b g' j w hb' hn hr
      refine zf_rd_set hq hl (hfr b g' j w hb' hn hr) ?_
      rintro rfl rfl
      cases hg.symm.trans hb'
      exact hn hine
    · intro y hy
      rcases List.mem_cons.mp hy with rfl | hy
      · exact (zf_hokT hgl).mpr ⟨hg, h0, v, zf_rd_new hq hl, hv⟩
      · obtain ⟨hy, hc⟩ := List.mem_filter.mp hy
        unfold zf_kl1 at hc
        by_cases hyl : y.1 < 1000
        · rw [zf_blt' hyl] at hc
          dsimp only at hc
          obtain ⟨y1, y2, w, y3, y4⟩ := (zf_hokT hyl).mp (h.2.2.2.2 y hy)
          refine (zf_hokT hyl).mpr ⟨y1, y2, w, zf_rd_set hq hl y3 ?_, y4⟩
          intro e1 e2
          rw [Bool.or_eq_true, Bool.or_eq_true] at hc
          rcases hc with (hc | hc) | hc
          · rw [e1] at y1
            cases hg.symm.trans y1
            simp at hc
          · have := zf_ge_of h.1 h.2.1 hc
            rw [zf_v_add, zf_v_sub, zf_v_con] at this
            omega
          · have := zf_ge_of h.1 h.2.1 hc
            rw [zf_v_add, zf_v_sub, zf_v_con] at this
            omega
        · rw [zf_nblt hyl] at hc
          dsimp only at hc
          rw [List.all_eq_true] at hc
          refine (zf_hokF hyl).mpr (zf_pi_tr ((zf_hokF hyl).mp (h.2.2.2.2 y hy)) ?_)
          intro q1 hq1 x hx i i1 i2 w hw
          refine zf_rd_set hq hl hw ?_
          rintro rfl rfl
          cases hg.symm.trans hx
          have hc := hc q1 hq1
          obtain ⟨b3, b4⟩ := zf_sup_b hq1
          rw [← zf_sb_ab _ _ _ b3] at i1
          rw [← zf_sb_ab _ _ _ b4] at i2
          rw [Bool.or_eq_true, Bool.or_eq_true] at hc
          rcases hc with (hc | hc) | hc
          · simp at hc
          · have := zf_ge_of h.1 h.2.1 hc
            rw [zf_v_add, zf_v_sub, zf_v_con] at this
            omega
          · have := zf_ge_of h.1 h.2.1 hc
            rw [zf_v_add, zf_v_sub, zf_v_con] at this
            omega
  · cases hs
end ZH
