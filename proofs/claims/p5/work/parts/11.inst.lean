/-! ===== one state is told by another ===== -/
def zf_rn (R : List Nat) (r : Nat) : Nat := match Nat.blt r 64 with
  | true => r
  | false => R.getD (r - 64) 0
def zf_ma (S : List zf_L) (R : List Nat) (a : zf_A) : zf_A := match a with
  | .inl f => .inl (zf_sb S f)
  | .inr none => .inr none
  | .inr (some q) => .inr (some (q.1, zf_rn R q.2))
/-- a' under S, R is a -/
def zf_mt (σ : zf_S) (S : List zf_L) (R : List Nat) (a' a : zf_A) : Bool := match a', a with
  | .inl f', .inl f => zf_ge σ.1 σ.2.1 (zf_sub (zf_sb S f') f) && zf_ge σ.1 σ.2.1 (zf_sub f (zf_sb S f'))
  | .inr none, .inr none => true
  | .inr (some q'), .inr (some q) => Nat.beq q'.1 q.1 && Nat.beq (zf_rn R q'.2) q.2
  | _, _ => false
def zf_mst (σ : zf_S) (S : List zf_L) (R : List Nat) : List zf_A → List zf_A → Bool
  | [], [] => true
  | a' :: t', a :: t => zf_mt σ S R a' a && zf_mst σ S R t' t
  | _, _ => false
def zf_mlo (σ : zf_S) (S : List zf_L) (R : List Nat) (q : Nat × zf_A) : Bool := match zf_lk σ.2.2.2.1 q.1 with
  | some a => zf_mt σ S R q.2 a
  | none => false
def zf_mhf (σ : zf_S) (S : List zf_L) (R : List Nat) (h : zf_H) : Bool := match zf_hk h.1 (zf_rn R h.2.1) (zf_sb S h.2.2.1) σ.2.2.2.2.2 with
  | some x => zf_mt σ S R h.2.2.2 x
  | none => false
/-- bounds of a list of unknowns, from number i on -/
def zf_mE (σ : zf_S) : List zf_L → zf_E → Bool
  | _, [] => true
  | f :: S, q :: E => zf_ge σ.1 σ.2.1 (zf_sub f (zf_con q.1)) && zf_ge σ.1 σ.2.1 (zf_sub (zf_con q.2) f) && zf_mE σ S E
  | [], _ :: _ => false
/-- all but what stands on the stack -/
def zf_mch (σ τ : zf_S) (S : List zf_L) (R : List Nat) : Bool := Nat.beq S.length τ.1.length && zf_mE σ S τ.1 && τ.2.1.all (fun f => zf_ge σ.1 σ.2.1 (zf_sb S f)) && τ.2.2.2.1.all (zf_mlo σ S R) && τ.2.2.2.2.2.all (zf_mhf σ S R)
section ZI
variable {Sg : Nat → Option Nat} {ρ : Nat → Int} {θ : Nat → Nat} {nL : Nat} {σ τ : zf_S} {ls : Array Slot} {st : List Value} {ws : va_W} {S : List zf_L} {R : List Nat}
/-- the unknowns of the other state, by S and R -/
def zf_ρS (ρ : Nat → Int) (S : List zf_L) : Nat → Int := fun i => zf_v ρ (S.getD i ([], 0))
def zf_θR (θ : Nat → Nat) (R : List Nat) : Nat → Nat := fun r => θ (zf_rn R r)
theorem zf_mt_ok {a' a : zf_A} {v : Value} (hE : zf_okE σ.1 ρ) (hF : zf_okF σ.2.1 ρ) (h : zf_mt σ S R a' a = true) (hv : zf_vok Sg ρ θ a v) : zf_vok Sg (zf_ρS ρ S) (zf_θR θ R) a' v := by
  unfold zf_mt at h
  split at h
  · rw [Bool.and_eq_true] at h
    obtain ⟨x, e1, e2⟩ := hv
    have h1 := zf_ge_of hE hF h.1
    have h2 := zf_ge_of hE hF h.2
    rw [zf_v_sub, zf_v_sb] at h1 h2
    exact ⟨x, e1, by show _ = zf_v (fun i => zf_v ρ (S.getD i ([], 0))) _; omega⟩
  · exact hv
  · rw [Bool.and_eq_true] at h
    have e1 := Nat.eq_of_beq_eq_true h.1
    have e2 := Nat.eq_of_beq_eq_true h.2
    obtain ⟨e3, e4⟩ := hv
    exact ⟨by show _ = Value.ref (θ (zf_rn R _)); rw [e2]; exact e3, by show Sg (θ (zf_rn R _)) = _; rw [e2, e1]; exact e4⟩
  · cases h
theorem zf_mst_ok (hE : zf_okE σ.1 ρ) (hF : zf_okF σ.2.1 ρ) : ∀ {x' x : List zf_A} {vs : List Value}, zf_mst σ S R x' x = true → zf_f2 (zf_vok Sg ρ θ) x vs → zf_f2 (zf_vok Sg (zf_ρS ρ S) (zf_θR θ R)) x' vs
  | [], [], [], _, _ => trivial
  | a' :: t', a :: t, v :: vs, h, q => by
    unfold zf_mst at h
    rw [Bool.and_eq_true] at h
    exact ⟨zf_mt_ok hE hF h.1 q.1, zf_mst_ok hE hF h.2 q.2⟩
  | [], [], _ :: _, _, q => q.elim
  | _ :: _, _ :: _, [], _, q => q.elim
  | [], _ :: _, _, h, _ => by simp [zf_mst] at h
  | _ :: _, [], _, h, _ => by simp [zf_mst] at h
theorem zf_mt_a2 {a' a : zf_A} (hE : zf_okE σ.1 ρ) (hF : zf_okF σ.2.1 ρ) (h : zf_mt σ S R a' a = true) : zf_v (zf_ρS ρ S) (zf_a2 a') = zf_v ρ (zf_a2 a) := by
  unfold zf_mt at h
  split at h
  · rw [Bool.and_eq_true] at h
    have h1 := zf_ge_of hE hF h.1
    have h2 := zf_ge_of hE hF h.2
    rw [zf_v_sub, zf_v_sb] at h1 h2
    show zf_v (fun i => zf_v ρ (S.getD i ([], 0))) _ = _
    dsimp only [zf_a2]
    omega
  · rfl
  · rfl
  · cases h
theorem zf_mE_ok (hE : zf_okE σ.1 ρ) (hF : zf_okF σ.2.1 ρ) : ∀ {S : List zf_L} {E : zf_E}, S.length = E.length → zf_mE σ S E = true → zf_okE E (zf_ρS ρ S)
  | [], [], _, _ => fun x => by
    have e1 : zf_at [] x = (-2147483648, 2147483647) := by cases x <;> rfl
    have e2 : zf_ρS ρ [] x = 0 := by
      show zf_v ρ (([] : List zf_L).getD x ([], 0)) = 0
      rw [List.getD_nil]
      rfl
    rw [e1, e2]
    exact ⟨by decide, by decide⟩
  | f :: S, q :: E, hl, h => fun x => by
    unfold zf_mE at h
    rw [Bool.and_eq_true, Bool.and_eq_true] at h
    cases x with
    | zero =>
      have h1 := zf_ge_of hE hF h.1.1
      have h2 := zf_ge_of hE hF h.1.2
      rw [zf_v_sub, zf_v_con] at h1 h2
      show q.1 ≤ zf_v ρ f ∧ zf_v ρ f ≤ q.2
      omega
    | succ x => exact zf_mE_ok hE hF (by simpa using hl) h.2 x
  | [], _ :: _, hl, _ => by simp at hl
  | _ :: _, [], hl, _ => by simp at hl
theorem zf_mch_ok (h : zf_sat Sg ρ θ nL σ ls st ws) (hm : zf_mch σ τ S R = true) {sa : List zf_A} {st' : List Value} (hst : zf_f2 (zf_vok Sg (zf_ρS ρ S) (zf_θR θ R)) sa st') : zf_sat Sg (zf_ρS ρ S) (zf_θR θ R) nL (zf_stk τ sa) ls st' ws := by
  obtain ⟨q1, q2, ⟨lv, hl, hlo⟩, -, hh⟩ := h
  unfold zf_mch at hm
  simp only [Bool.and_eq_true, List.all_eq_true] at hm
  obtain ⟨⟨⟨⟨m1, m2⟩, m3⟩, m4⟩, m5⟩ := hm
  refine ⟨zf_mE_ok q1 q2 (Nat.eq_of_beq_eq_true m1) m2, ?_, ?_, hst, ?_⟩
  · intro f hf
    have := zf_ge_of q1 q2 (m3 f hf)
    rw [zf_v_sb] at this
    exact this
  · show ∃ lv, lv_has ls nL lv ∧ zf_f2 (zf_lok Sg (zf_ρS ρ S) (zf_θR θ R)) τ.2.2.2.1 lv
    generalize τ.2.2.2.1 = lo at m4
    suffices hx : ∃ lv', zf_f2 (zf_lok Sg (zf_ρS ρ S) (zf_θR θ R)) lo lv' ∧ ∀ q ∈ lv', ls[q.1]? = some (.val q.2) by
      obtain ⟨lv', x1, x2⟩ := hx
      exact ⟨lv', ⟨hl.1, hl.2.1, x2⟩, x1⟩
    induction lo with
    | nil => exact ⟨[], trivial, fun q hq => by cases hq⟩
    | cons a t ih =>
      obtain ⟨lv', x1, x2⟩ := ih (fun x hx => m4 x (List.mem_cons_of_mem _ hx))
      have ha := m4 a List.mem_cons_self
      unfold zf_mlo at ha
      split at ha
      · rename_i b hb
        obtain ⟨v, y1, y2⟩ := zf_lk_ok hlo hb
        refine ⟨(a.1, v) :: lv', ⟨⟨rfl, zf_mt_ok q1 q2 ha y2⟩, x1⟩, ?_⟩
        intro q hq
        rcases List.mem_cons.mp hq with rfl | hq
        · exact hl.2.2 _ y1
        · exact x2 q hq
      · cases ha
  · intro y hy
    have hy := m5 y hy
    unfold zf_mhf at hy
    split at hy
    · rename_i x hx
      have hm := hh _ (zf_hk_ok hx)
      by_cases hyl : y.1 < 1000
      · obtain ⟨z1, z2, v, z3, z4⟩ := (zf_hokT (h := (y.1, _, _, x)) hyl).mp hm
        rw [zf_v_sb] at z2 z3
        exact (zf_hokT hyl).mpr ⟨z1, z2, v, z3, zf_mt_ok q1 q2 hy z4⟩
      · have z := (zf_hokF (h := (y.1, _, _, x)) hyl).mp hm
        rw [zf_v_sb] at z
        refine (zf_hokF hyl).mpr ?_
        rw [zf_mt_a2 q1 q2 hy]
        exact z
    · cases hy
end ZI
/-! ===== to find S and R ===== -/
abbrev zf_B := List (Option zf_L) × List (Option Nat)
def zf_b1 (B : zf_B) (a' a : zf_A) : zf_B := match a', a with
  | .inl f', .inl f => match f'.1 with
    | [q] => match zf_z (q.2 - 1), B.1[q.1]? with
      | true, some none => (B.1.set q.1 (some (zf_sub f (zf_con f'.2))), B.2)
      | _, _ => B
    | _ => B
  | .inr (some q'), .inr (some q) => match Nat.blt q'.2 64, B.2[q'.2 - 64]? with
    | false, some none => (B.1, B.2.set (q'.2 - 64) (some q.2))
    | _, _ => B
  | _, _ => B
def zf_bS (B : zf_B) : List zf_L := B.1.map (fun o => o.getD ([], 0))
def zf_bR (B : zf_B) : List Nat := B.2.map (fun o => o.getD 0)
def zf_bst (B : zf_B) : List zf_A → List zf_A → zf_B
  | a' :: t', a :: t => zf_bst (zf_b1 B a' a) t' t
  | _, _ => B
def zf_blo (σ : zf_S) (B : zf_B) : List (Nat × zf_A) → zf_B
  | [] => B
  | q :: t => match zf_lk σ.2.2.2.1 q.1 with
    | some a => zf_blo σ (zf_b1 B q.2 a) t
    | none => B
/-- a reference's kind is known -/
def zf_ika (g r : Nat) (a : zf_A) : Bool := match a with
  | .inr (some q) => Nat.beq q.1 g && Nat.beq q.2 r
  | _ => false
def zf_ikn (NS : Nat) (σ : zf_S) (g r : Nat) : Bool := (Nat.beq g r && Nat.blt g NS && Nat.blt g 64) || σ.2.2.2.1.any (fun q => zf_ika g r q.2) || σ.2.2.2.2.1.any (zf_ika g r) || σ.2.2.2.2.2.any (fun h => Nat.blt h.1 1000 && zf_ika g r h.2.2.2)
/-- the cells that are told: those that aren't known are read anew -/
def zf_bhf (n0 r0 NS : Nat) (GT : List zf_G) : zf_S → zf_B → List zf_H → zf_S × zf_B
  | σ, B, [] => (σ, B)
  | σ, B, h :: t => match zf_hk h.1 (zf_rn (zf_bR B) h.2.1) (zf_sb (zf_bS B) h.2.2.1) σ.2.2.2.2.2 with
    | some x => zf_bhf n0 r0 NS GT σ (zf_b1 B h.2.2.2 x) t
    | none => match Nat.blt h.1 128 && zf_ikn NS σ h.1 (zf_rn (zf_bR B) h.2.1) && zf_ge σ.1 σ.2.1 (zf_sb (zf_bS B) h.2.2.1) && zf_ge σ.1 σ.2.1 (zf_sub (zf_con ((zf_len (zf_gi GT h.1).2.2 : Int) - 1)) (zf_sb (zf_bS B) h.2.2.1)) with
      | true => match zf_ld n0 r0 GT σ h.1 (zf_rn (zf_bR B) h.2.1) (zf_sb (zf_bS B) h.2.2.1) with
        | some x => zf_bhf n0 r0 NS GT x.2 (zf_b1 B h.2.2.2 x.1) t
        | none => (σ, B)
      | false => (σ, B)
def zf_idn : Nat → List (Option zf_L)
  | 0 => []
  | n + 1 => zf_idn n ++ [some (zf_sym n)]
def zf_idr : Nat → List (Option Nat)
  | 0 => []
  | n + 1 => zf_idr n ++ [some (64 + n)]
/-- the first unknowns (ne) and names (re) stand for themselves -/
def zf_b0 (ne re : Nat) (τ : zf_S) : zf_B := (zf_idn ne ++ List.replicate (τ.1.length - ne) none, zf_idr (re - 64) ++ List.replicate (τ.2.2.1 - re) none)
section ZJ
variable {Sg : Nat → Option Nat} {k : Nat → ClassId} {GT : List zf_G} {A : Nat → Prop} {θ0 : Nat → Nat} {nL n0 r0 NS : Nat} {ls : Array Slot} {st : List Value} {ws : va_W}
theorem zf_ika_ok {ρ : Nat → Int} {θ : Nat → Nat} {g r : Nat} {a : zf_A} {v : Value} (h : zf_ika g r a = true) (hv : zf_vok Sg ρ θ a v) : Sg (θ r) = some g := by
  unfold zf_ika at h
  split at h
  · rw [Bool.and_eq_true] at h
    have e1 := Nat.eq_of_beq_eq_true h.1
    have e2 := Nat.eq_of_beq_eq_true h.2
    rw [← e1, ← e2]
    exact hv.2
  · cases h
theorem zf_f2_mem {α β : Type} {R : α → β → Prop} {a : α} : ∀ {x : List α} {y : List β}, zf_f2 R x y → a ∈ x → ∃ b, R a b
  | [], _, _, h => by cases h
  | c :: x, [], p, _ => p.elim
  | c :: x, b :: y, p, h => by
    rcases List.mem_cons.mp h with rfl | h
    · exact ⟨b, p.1⟩
    · exact zf_f2_mem p.2 h
theorem zf_ikn_ok (hr0 : 64 ≤ r0) (hsing : ∀ g, g < NS → g < 64 → Sg (θ0 g) = some g) {ρ : Nat → Int} {θ : Nat → Nat} (hθ : ∀ i, i < r0 → θ i = θ0 i) {σ : zf_S} (h : zf_sat Sg ρ θ nL σ ls st ws) {g r : Nat} (hk : zf_ikn NS σ g r = true) : Sg (θ r) = some g := by
  unfold zf_ikn at hk
  simp only [Bool.or_eq_true, Bool.and_eq_true, List.any_eq_true] at hk
  obtain ⟨q1, q2, ⟨lv, hl, hlo⟩, hst, hh⟩ := h
  rcases hk with ((⟨⟨e1, e2⟩, e3⟩ | ⟨q, hq, e⟩) | ⟨q, hq, e⟩) | ⟨q, hq, el, e⟩
  · have e1 := Nat.eq_of_beq_eq_true e1
    subst e1
    have e3 := zf_blt e3
    rw [hθ g (by omega)]
    exact hsing g (zf_blt e2) e3
  · obtain ⟨b, hb⟩ := zf_f2_mem hlo hq
    exact zf_ika_ok e hb.2
  · obtain ⟨b, hb⟩ := zf_f2_mem hst hq
    exact zf_ika_ok e hb
  · obtain ⟨-, -, v, -, hv⟩ := (zf_hokT (zf_blt el)).mp (hh q hq)
    exact zf_ika_ok e hv
theorem zf_bhf_ok (hD : va_D A ws) (ht : zf_typ Sg k GT ws) (hone : ∀ a g, Sg a = some g → g < 64 → a = θ0 g) (hr0 : 64 ≤ r0) (hsing : ∀ g, g < NS → g < 64 → Sg (θ0 g) = some g) : ∀ {hs : List zf_H} {σ σ' : zf_S} {B B' : zf_B} {ρ : Nat → Int} {θ : Nat → Nat}, (∀ i, i < r0 → θ i = θ0 i) → zf_sat Sg ρ θ nL σ ls st ws → zf_bhf n0 r0 NS GT σ B hs = (σ', B') →
    ∃ (ρ' : Nat → Int) (θ' : Nat → Nat), (∀ i, i < n0 → ρ' i = ρ i) ∧ (∀ i, i < r0 → θ' i = θ i) ∧ zf_sat Sg ρ' θ' nL σ' ls st ws
  | [], σ, σ', B, B', ρ, θ, hθ, h, e => by
    cases e
    exact ⟨ρ, θ, fun _ _ => rfl, fun _ _ => rfl, h⟩
  | y :: t, σ, σ', B, B', ρ, θ, hθ, h, e => by
    unfold zf_bhf at e
    split at e
    · exact zf_bhf_ok hD ht hone hr0 hsing hθ h e
    · split at e
      · rename_i hc
        simp only [Bool.and_eq_true] at hc
        obtain ⟨⟨⟨c1, c2⟩, c3⟩, c4⟩ := hc
        split at e
        · rename_i x hx
          have hg := zf_ikn_ok hr0 hsing hθ h c2
          obtain ⟨q0, en, p1, p2⟩ := ht _ _ hg (zf_blt c1)
          have c3 := zf_ge_of h.1 h.2.1 c3
          have c4 := zf_ge_of h.1 h.2.1 c4
          rw [zf_v_sub, zf_v_con] at c4
          have hlt : (zf_v ρ (zf_sb (zf_bS B) y.2.2.1)).toNat < zf_len (zf_gi GT y.1).2.2 := by omega
          obtain ⟨pp, v, -, g1, g2⟩ := zf_ent_get p2 hlt (lo := ((zf_v ρ (zf_sb (zf_bS B) y.2.2.1)).toNat : Int)) (hi' := ((zf_v ρ (zf_sb (zf_bS B) y.2.2.1)).toNat : Int)) (Int.le_refl _) (Int.le_refl _)
          obtain ⟨ρ1, θ1, k1, k2, k3, -⟩ := zf_ld_ok (by have := zf_blt c1; omega) hD hone hr0 hθ h (a := x.1) (σ' := x.2) hx hg p1 p2 c3 hlt g1
          obtain ⟨ρ2, θ2, j1, j2, j3⟩ := zf_bhf_ok hD ht hone hr0 hsing (fun i hi => (k2 i hi).trans (hθ i hi)) k3 e
          exact ⟨ρ2, θ2, fun i hi => (j1 i hi).trans (k1 i hi), fun i hi => (j2 i hi).trans (k2 i hi), j3⟩
        · cases e
          exact ⟨ρ, θ, fun _ _ => rfl, fun _ _ => rfl, h⟩
      · cases e
        exact ⟨ρ, θ, fun _ _ => rfl, fun _ _ => rfl, h⟩
end ZJ
