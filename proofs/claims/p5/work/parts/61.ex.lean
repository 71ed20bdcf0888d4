/-! ===== a machine of plain values: cells by the names of their kinds, the picture two functions ===== -/
abbrev xe_H := (Nat → Nat → Int32) × (Nat → Nat → Int64)
abbrev xe_F := List Value → xe_H → Option Value → xe_H → Prop
abbrev xe_X := Nat × List (Nat × Value) × List Value × xe_H
/-- the kind of a name: below 128 its own; else a constant's -/
def xe_k (g : Nat) : Nat := match Nat.blt g 128 with
  | true => g
  | false => 128
def xe_m (θ : Nat → Nat) (v : Value) : Value := match v with
  | .ref g => .ref (θ g)
  | v => v
def xe_ok (Sg : Nat → Option Nat) (θ : Nat → Nat) (v : Value) : Prop := match v with
  | .int _ => True
  | .long _ => True
  | .ref g => Sg (θ g) = some (xe_k g)
  | _ => False
def xe_v (Sg : Nat → Option Nat) (θ : Nat → Nat) (u v : Value) : Prop := v = xe_m θ u ∧ xe_ok Sg θ u
def xe_l (Sg : Nat → Option Nat) (θ : Nat → Nat) (q r : Nat × Value) : Prop := q.1 = r.1 ∧ xe_v Sg θ q.2 r.2
def xe_el (g : Nat) : List Nat → Bool
  | [] => false
  | a :: t => match Nat.beq a g with
    | true => true
    | false => xe_el g t
def xe_el3 (g i : Nat) : List (Nat × Nat × Nat) → Option Nat
  | [] => none
  | a :: t => match Nat.beq a.1 g && Nat.beq a.2.1 i with
    | true => some a.2.2
    | false => xe_el3 g i t
theorem xe_el3_ok {g i h : Nat} : ∀ {t : List (Nat × Nat × Nat)}, xe_el3 g i t = some h → (g, i, h) ∈ t
  | [], q => by simp [xe_el3] at q
  | a :: t, q => by
    unfold xe_el3 at q
    split at q
    · rename_i hb
      rw [Bool.and_eq_true] at hb
      cases q
      rw [← Nat.eq_of_beq_eq_true hb.1, ← Nat.eq_of_beq_eq_true hb.2]
      exact List.mem_cons_self
    · exact List.mem_cons_of_mem _ (xe_el3_ok q)
/-- what stands at a place, by its sort -/
def xe_at (ws : va_W) (θ : Nat → Nat) (hp : xe_H) (g i : Nat) (P : zf_P) : Prop := match P with
  | .inl _ => zf_rd ws (θ g) i (.int (hp.1 g i))
  | .inr none => zf_rd ws (θ g) i (.long (hp.2 g i))
  | .inr (some _) => True
/-- what the picture tells of the world: of the kinds in SC their ints and longs, of RF's fields whom they name -/
def xe_c (Sg : Nat → Option Nat) (θ : Nat → Nat) (GT : List zf_G) (SC : List Nat) (RF : List (Nat × Nat × Nat)) (ws : va_W) (hp : xe_H) : Prop :=
  (∀ g, xe_el g SC = true → g < 128 ∧ Sg (θ g) = some g ∧ ∀ i P, zf_sp (zf_gi GT g).2.2 i = some P → xe_at ws θ hp g i P) ∧
  ∀ q ∈ RF, Sg (θ q.1) = some q.1 ∧ q.2.2 < 128 ∧ Sg (θ q.2.2) = some q.2.2 ∧ zf_rd ws (θ q.1) q.2.1 (.ref (θ q.2.2)) ∧ ∃ h, zf_sp (zf_gi GT q.1).2.2 q.2.1 = some (.inr (some h))
def xe_lk : List (Nat × Value) → Nat → Option Value
  | [], _ => none
  | q :: t, j => match Nat.beq q.1 j with
    | true => some q.2
    | false => xe_lk t j
def xe_al {α : Type} (j : Nat) : List (Nat × α) → Option α
  | [] => none
  | q :: t => match Nat.beq q.1 j with
    | true => some q.2
    | false => xe_al j t
theorem xe_al_ok {α : Type} {j : Nat} {a : α} : ∀ {x : List (Nat × α)}, xe_al j x = some a → (j, a) ∈ x
  | [], h => by simp [xe_al] at h
  | q :: t, h => by
    unfold xe_al at h
    split at h
    · rename_i hb
      cases h
      rw [← Nat.eq_of_beq_eq_true hb]
      exact List.mem_cons_self
    · exact List.mem_cons_of_mem _ (xe_al_ok h)
def xe_sto : List (Nat × Value) → Nat → Value → List (Nat × Value)
  | [], j, v => [(j, v)]
  | q :: t, j, v => match Nat.beq q.1 j with
    | true => (j, v) :: t
    | false => q :: xe_sto t j v
/-- no long lies over the place below -/
def xe_nl (lo : List (Nat × Value)) (j : Nat) : Bool := match j with
  | 0 => true
  | i + 1 => match xe_lk lo i with
    | some (.long _) => false
    | _ => true
/-- some of the locals, in an order -/
def xe_kp (lo : List (Nat × Value)) : List Nat → List (Nat × Value)
  | [] => []
  | j :: t => match xe_lk lo j with
    | some v => (j, v) :: xe_kp lo t
    | none => xe_kp lo t
theorem xe_kp_ok {lo : List (Nat × Value)} {j : Nat} {a : Value} : ∀ {js : List Nat}, xe_lk (xe_kp lo js) j = some a → xe_lk lo j = some a
  | [], h => by simp [xe_kp, xe_lk] at h
  | i :: t, h => by
    unfold xe_kp at h
    split at h
    · rename_i v hv
      unfold xe_lk at h
      split at h
      · rename_i hb
        cases h
        rw [← Nat.eq_of_beq_eq_true hb]
        exact hv
      · exact xe_kp_ok h
    · exact xe_kp_ok h
def xu (I : Nat → Nat → Int32) (g i : Nat) (x : Int32) : Nat → Nat → Int32 := fun g' i' => bif Nat.beq g' g && Nat.beq i' i then x else I g' i'
def xul (L : Nat → Nat → Int64) (g i : Nat) (x : Int64) : Nat → Nat → Int64 := fun g' i' => bif Nat.beq g' g && Nat.beq i' i then x else L g' i'
def xe_cmp (c : ClassFile.Cond) (x y : Int32) : Bool := match c with
  | .eq => decide (x = y)
  | .ne => decide (¬ x = y)
  | .lt => decide (x < y)
  | .ge => decide (y ≤ x)
  | .gt => decide (y < x)
  | .le => decide (x ≤ y)
/-- an index lies within -/
def xe_ib (i : Int32) (n : Nat) : Bool := decide (0 ≤ i.toInt) && decide (i.toInt < n)
def xe_by (x : Int32) : Bool := decide (-128 ≤ x.toInt) && decide (x.toInt ≤ 127)
def xe_bz (x : Int32) : Bool := decide (0 ≤ x.toInt) && decide (x.toInt ≤ 1)
def xe_c1 (v : Value) : Bool := match v with
  | .int _ => true
  | .ref _ => true
  | _ => false
def xe_fu (q : Int × Int) : Bool := decide (q.1 = -2147483648) && decide (q.2 = 2147483647)
/-- what a field of sort P takes -/
def xe_fit (P : zf_P) (v : Value) : Bool := match P, v with
  | .inl q, .int x => xe_fu q || (decide (q.1 ≤ x.toInt) && decide (x.toInt ≤ q.2))
  | .inr none, .long _ => true
  | _, _ => false
def xe_put (hp : xe_H) (g i : Nat) (v : Value) : xe_H := match v with
  | .int x => (xu hp.1 g i x, hp.2)
  | .long x => (hp.1, xul hp.2 g i x)
  | _ => hp
/-- an array whose places are all of one sort -/
def xe_aI (l : List (Nat × zf_P)) : Bool := l.all (fun q => match q.2 with
  | .inl _ => true
  | _ => false)
def xe_aF (l : List (Nat × zf_P)) : Bool := l.all (fun q => match q.2 with
  | .inl r => xe_fu r
  | _ => false)
def xe_aL (l : List (Nat × zf_P)) : Bool := l.all (fun q => match q.2 with
  | .inr none => true
  | _ => false)
def xe_aB (l : List (Nat × zf_P)) : Bool := l.all (fun q => match q.2 with
  | .inl r => xe_fu r || (decide (r.1 ≤ -128) && decide (127 ≤ r.2))
  | _ => false)
theorem xe_sp_in {i : Nat} {P : zf_P} : ∀ {l : List (Nat × zf_P)}, zf_sp l i = some P → ∃ q ∈ l, q.2 = P
  | [], h => by simp [zf_sp] at h
  | q :: t, h => by
    unfold zf_sp at h
    split at h
    · cases h; exact ⟨q, List.mem_cons_self, rfl⟩
    · obtain ⟨r, h1, h2⟩ := xe_sp_in h
      exact ⟨r, List.mem_cons_of_mem _ h1, h2⟩
theorem xe_sp_some {i : Nat} : ∀ {l : List (Nat × zf_P)}, i < zf_len l → ∃ P, zf_sp l i = some P
  | [], h => by simp [zf_len] at h
  | [q], h => by
    unfold zf_len at h
    unfold zf_sp
    rw [zf_blt' h]
    exact ⟨_, rfl⟩
  | q :: r :: t, h => by
    unfold zf_sp
    split
    · exact ⟨_, rfl⟩
    · exact xe_sp_some (l := r :: t) h
section XE
variable {Sg : Nat → Option Nat} {θ : Nat → Nat} {ws : va_W} {hp : xe_H} {k : Nat → ClassId} {GT : List zf_G} {SC : List Nat} {RF : List (Nat × Nat × Nat)} {A : Nat → Prop}
theorem xe_c1_ok {v : Value} (h : xe_c1 v = true) : (xe_m θ v).category = 1 := by
  match v, h with
  | .int x, _ => rfl
  | .ref x, _ => rfl
theorem xe_catm (θ : Nat → Nat) (v : Value) : (xe_m θ v).category = v.category := by
  cases v <;> rfl
theorem xe_lk_ok {j : Nat} {a : Value} : ∀ {lo lv : List (Nat × Value)}, zf_f2 (xe_l Sg θ) lo lv → xe_lk lo j = some a → (j, xe_m θ a) ∈ lv ∧ xe_ok Sg θ a
  | [], _, _, h => by simp [xe_lk] at h
  | q :: t, [], p, _ => p.elim
  | q :: t, r :: lv, p, h => by
    unfold xe_lk at h
    split at h
    · rename_i hb
      cases h
      have e : q.1 = j := Nat.eq_of_beq_eq_true hb
      refine ⟨?_, p.1.2.2⟩
      rw [← e, p.1.1, ← p.1.2.1]
      exact List.mem_cons_self
    · obtain ⟨h1, h2⟩ := xe_lk_ok p.2 h
      exact ⟨List.mem_cons_of_mem _ h1, h2⟩
theorem xe_lk_sto {j j' : Nat} {v : Value} : ∀ {lo : List (Nat × Value)}, xe_lk (xe_sto lo j v) j' = if j' = j then some v else xe_lk lo j'
  | [] => by
    unfold xe_sto xe_lk
    split
    · rename_i hb
      rw [if_pos (Nat.eq_of_beq_eq_true hb).symm]
    · rename_i hb
      rw [if_neg (fun e => by rw [e, Nat.beq_refl] at hb; cases hb)]
      rfl
  | q :: t => by
    unfold xe_sto
    split
    · rename_i hb
      have e := Nat.eq_of_beq_eq_true hb
      unfold xe_lk
      dsimp only
      rw [e]
      by_cases h : j' = j
      · rw [h, Nat.beq_refl, if_pos rfl]
      · have hb2 : Nat.beq j j' = false := by
          cases hb3 : Nat.beq j j'
          · rfl
          · exact absurd (Nat.eq_of_beq_eq_true hb3).symm h
        rw [hb2, if_neg h]
    · rename_i hb
      unfold xe_lk
      rw [xe_lk_sto (lo := t)]
      split
      · rename_i hb2
        rw [if_neg (fun e => by rw [e] at hb2; rw [hb2] at hb; cases hb)]
      · rfl
def xe_los (Sg : Nat → Option Nat) (θ : Nat → Nat) (lo lv : List (Nat × Value)) : Prop := ∀ j a, xe_lk lo j = some a → (j, xe_m θ a) ∈ lv ∧ xe_ok Sg θ a
theorem xe_sto_ok {lo lv : List (Nat × Value)} {j : Nat} {a : Value} (h : xe_los Sg θ lo lv) (hn : xe_nl lo j = true) (hv : xe_ok Sg θ a) :
    xe_los Sg θ (xe_sto lo j a) ((j, xe_m θ a) :: lv.filter (fun q => !(q.1 == j) && !(q.1 + 1 == j && q.2.category == 2))) := by
  intro j' b hb
  rw [xe_lk_sto] at hb
  by_cases e : j' = j
  · rw [if_pos e] at hb
    cases hb
    rw [e]
    exact ⟨List.mem_cons_self, hv⟩
  · rw [if_neg e] at hb
    obtain ⟨h1, h2⟩ := h j' b hb
    refine ⟨List.mem_cons_of_mem _ (List.mem_filter.mpr ⟨h1, ?_⟩), h2⟩
    have e1 : (j' == j) = false := by rw [beq_eq_false_iff_ne]; exact e
    have e2 : (j' + 1 == j && (xe_m θ b).category == 2) = false := by
      by_cases e3 : j' + 1 = j
      · subst e3
        unfold xe_nl at hn
        dsimp only at hn
        rw [hb] at hn
        rw [xe_catm]
        match b, h2, hn with
        | .int _, _, _ => simp [Value.category]
        | .ref _, _, _ => simp [Value.category]
        | .long _, _, hn => cases hn
      · have : (j' + 1 == j) = false := by rw [beq_eq_false_iff_ne]; exact e3
        rw [this]; rfl
    show (!(j' == j) && !(j' + 1 == j && (xe_m θ b).category == 2)) = true
    rw [e1, e2]
    rfl
theorem xe_rd {q0 ci i : Nat} {a : Nat} {fs : List Value} {v : Value} (hD : va_D A ws) (h : zf_rd ws a i v) (hq : ws[q0]? = some (a, .inr (ci, fs))) : fs[i]? = some v := by
  obtain ⟨q', e', p1, p2⟩ := h
  have e0 := hD.1 q' q0 _ _ p1 hq rfl
  subst e0
  cases p1.symm.trans hq
  exact p2
theorem xe_rdA {q0 : Nat} {a i n : Nat} {cA : ClassId} {x : (Nat → Int32) ⊕ (Nat → Int64) ⊕ (Nat → UInt32) ⊕ (Nat → UInt64) ⊕ (Nat → Option Nat)} {v : Value} (hD : va_D A ws) (h : zf_rd ws a i v) (hq : ws[q0]? = some (a, .inl (cA, n, x))) : i < n ∧ zf_el x i = v := by
  obtain ⟨q', e', p1, p2⟩ := h
  have e0 := hD.1 q' q0 _ _ p1 hq rfl
  subst e0
  cases p1.symm.trans hq
  unfold zf_get at p2
  dsimp only at p2
  split at p2
  · rename_i hlt
    exact ⟨hlt, Option.some.inj p2⟩
  · cases p2
theorem xe_rg {q : Int × Int} {x : Int32} (h : (xe_fu q || (decide (q.1 ≤ x.toInt) && decide (x.toInt ≤ q.2))) = true) : q.1 ≤ x.toInt ∧ x.toInt ≤ q.2 := by
  rw [Bool.or_eq_true] at h
  rcases h with h | h
  · unfold xe_fu at h
    simp only [Bool.and_eq_true, decide_eq_true_eq] at h
    rw [h.1, h.2]
    exact ⟨zi_lo x, zi_hi x⟩
  · simp only [Bool.and_eq_true, decide_eq_true_eq] at h
    exact h
theorem xe_fit_ok {P : zf_P} {v : Value} (h : xe_fit P v = true) : zf_pok Sg P (xe_m θ v) := by
  unfold xe_fit at h
  split at h
  · obtain ⟨h1, h2⟩ := xe_rg h
    exact ⟨_, rfl, h1, h2⟩
  · exact ⟨_, rfl⟩
  · cases h
theorem xe_pl_ok {g i : Nat} {P : zf_P} {v : Value} (hs : zf_sp (zf_gi GT g).2.2 i = some P) (h : xe_fit P v = true) : ∀ p, zf_sp (zf_gi GT g).2.2 i = some p → zf_pok Sg p (xe_m θ v) := by
  intro p hp
  cases hs.symm.trans hp
  exact xe_fit_ok h
/-- a place of a field's sort -/
theorem xe_gI {g i : Nat} (hc : xe_c Sg θ GT SC RF ws hp) (hg : xe_el g SC = true) {q : Int × Int} (hs : zf_sp (zf_gi GT g).2.2 i = some (.inl q)) : zf_rd ws (θ g) i (.int (hp.1 g i)) := (hc.1 g hg).2.2 i _ hs
theorem xe_gL {g i : Nat} (hc : xe_c Sg θ GT SC RF ws hp) (hg : xe_el g SC = true) (hs : zf_sp (zf_gi GT g).2.2 i = some (.inr none)) : zf_rd ws (θ g) i (.long (hp.2 g i)) := (hc.1 g hg).2.2 i _ hs
theorem xe_aI_ok {l : List (Nat × zf_P)} {i : Nat} {P : zf_P} (h : xe_aI l = true) (hs : zf_sp l i = some P) : ∃ q, P = .inl q := by
  obtain ⟨r, h1, rfl⟩ := xe_sp_in hs
  have h2 := List.all_eq_true.mp h r h1
  split at h2
  · rename_i q e; exact ⟨q, e⟩
  · cases h2
theorem xe_aL_ok {l : List (Nat × zf_P)} {i : Nat} {P : zf_P} (h : xe_aL l = true) (hs : zf_sp l i = some P) : P = .inr none := by
  obtain ⟨r, h1, rfl⟩ := xe_sp_in hs
  have h2 := List.all_eq_true.mp h r h1
  split at h2
  · rename_i e; exact e
  · cases h2
theorem xe_aF_ok {l : List (Nat × zf_P)} {i : Nat} {P : zf_P} {x : Int32} (h : xe_aF l = true) (hs : zf_sp l i = some P) : xe_fit P (.int x) = true := by
  obtain ⟨r, h1, rfl⟩ := xe_sp_in hs
  have h2 := List.all_eq_true.mp h r h1
  split at h2
  · rename_i q e; rw [e]; show (xe_fu q || _) = true; rw [h2]; rfl
  · cases h2
theorem xe_aB_ok {l : List (Nat × zf_P)} {i : Nat} {P : zf_P} {x : Int32} (h : xe_aB l = true) (hx : xe_by x = true) (hs : zf_sp l i = some P) : xe_fit P (.int x) = true := by
  obtain ⟨r, h1, rfl⟩ := xe_sp_in hs
  have h2 := List.all_eq_true.mp h r h1
  split at h2
  · rename_i q e
    rw [e]
    show (xe_fu q || _) = true
    rw [Bool.or_eq_true] at h2 ⊢
    rcases h2 with h2 | h2
    · exact Or.inl h2
    · unfold xe_by at hx
      simp only [Bool.and_eq_true, decide_eq_true_eq] at h2 hx ⊢
      exact Or.inr ⟨by omega, by omega⟩
  · cases h2
theorem xe_FI {l : List (Nat × zf_P)} (h : xe_aF l = true) : xe_aI l = true := by
  unfold xe_aF at h
  unfold xe_aI
  rw [List.all_eq_true] at h ⊢
  intro q hq
  have h2 := h q hq
  split at h2
  · rfl
  · cases h2
theorem xe_BI {l : List (Nat × zf_P)} (h : xe_aB l = true) : xe_aI l = true := by
  unfold xe_aB at h
  unfold xe_aI
  rw [List.all_eq_true] at h ⊢
  intro q hq
  have h2 := h q hq
  split at h2
  · rfl
  · cases h2
theorem xe_ib_ok {i : Int32} {n : Nat} (h : xe_ib i n = true) : 0 ≤ i.toInt ∧ i.toInt < n ∧ i.toInt.toNat < n := by
  unfold xe_ib at h
  simp only [Bool.and_eq_true, decide_eq_true_eq] at h
  exact ⟨h.1, h.2, by omega⟩
/-- behind a write -/
theorem xe_up_ok {g i : Nat} {v : Value} {P : zf_P} {q0 : Nat} {e e' : va_E} (hcc : xe_c Sg θ GT SC RF ws hp) (hg : xe_el g SC = true) (hs : zf_sp (zf_gi GT g).2.2 i = some P) (hv : xe_fit P v = true) (hq : ws[q0]? = some (θ g, e)) (hl : zf_like e e' i (xe_m θ v)) : xe_c Sg θ GT SC RF (ws.set q0 (θ g, e')) (xe_put hp g i v) := by
  have hg2 := (hcc.1 g hg).2.1
  refine ⟨fun g' hg' => ?_, fun q hq' => ?_⟩
  · obtain ⟨c1, c2, c3⟩ := hcc.1 g' hg'
    refine ⟨c1, c2, fun i' P' hP' => ?_⟩
    have h0 := c3 i' P' hP'
    by_cases he : g' = g ∧ i' = i
    · obtain ⟨rfl, rfl⟩ := he
      cases hs.symm.trans hP'
      have hn := zf_rd_new hq hl
      match P, v, hv, h0, hn with
      | .inl q, .int x, _, _, hn =>
        show zf_rd _ _ _ (.int (xu hp.1 g' i' x g' i'))
        unfold xu
        rw [Nat.beq_refl, Nat.beq_refl]
        exact hn
      | .inr none, .long x, _, _, hn =>
        show zf_rd _ _ _ (.long (xul hp.2 g' i' x g' i'))
        unfold xul
        rw [Nat.beq_refl, Nat.beq_refl]
        exact hn
    · have hb : (Nat.beq g' g && Nat.beq i' i) = false := by
        rw [Bool.and_eq_false_iff]
        by_cases e1 : g' = g
        · right
          cases hb : Nat.beq i' i
          · rfl
          · exact absurd ⟨e1, Nat.eq_of_beq_eq_true hb⟩ he
        · left
          cases hb : Nat.beq g' g
          · rfl
          · exact absurd (Nat.eq_of_beq_eq_true hb) e1
      have hne : θ g' = θ g → i' ≠ i := by
        intro e1 e2
        rw [e1] at c2
        exact he ⟨Option.some.inj (c2.symm.trans hg2), e2⟩
      have e1 : (xe_put hp g i v).1 g' i' = hp.1 g' i' := by
        unfold xe_put
        split
        · show xu hp.1 g i _ g' i' = _
          unfold xu
          rw [hb]; rfl
        · rfl
        · rfl
      have e2 : (xe_put hp g i v).2 g' i' = hp.2 g' i' := by
        unfold xe_put
        split
        · rfl
        · show xul hp.2 g i _ g' i' = _
          unfold xul
          rw [hb]; rfl
        · rfl
      match P', h0 with
      | .inl q, h0 =>
        show zf_rd _ _ _ (.int ((xe_put hp g i v).1 g' i'))
        rw [e1]
        exact zf_rd_set hq hl h0 hne
      | .inr none, h0 =>
        show zf_rd _ _ _ (.long ((xe_put hp g i v).2 g' i'))
        rw [e2]
        exact zf_rd_set hq hl h0 hne
      | .inr (some _), _ => exact trivial
  · obtain ⟨c1, c2, c3, c4, h9, c5⟩ := hcc.2 q hq'
    refine ⟨c1, c2, c3, zf_rd_set hq hl c4 (fun e1 e2 => ?_), h9, c5⟩
    rw [e1] at c1
    have e3 := Option.some.inj (c1.symm.trans hg2)
    rw [e3, e2] at c5
    cases hs.symm.trans c5
    unfold xe_fit at hv
    cases v <;> cases hv
def xe_aR (l : List (Nat × zf_P)) : Bool := l.all (fun q => match q.2 with
  | .inr (some h9) => Nat.beq h9 128
  | _ => false)
def xe_nR (g : Nat) (RF : List (Nat × Nat × Nat)) : Bool := RF.all (fun q => !(Nat.beq q.1 g))
theorem xe_aR_ok {lp : List (Nat × zf_P)} {i : Nat} {P : zf_P} (h : xe_aR lp = true) (hs : zf_sp lp i = some P) : P = .inr (some 128) := by
  obtain ⟨q, hq, rfl⟩ := xe_sp_in hs
  have h9 := List.all_eq_true.mp h q hq
  match q, h9 with
  | (_, .inr (some h8)), h9 => rw [Nat.eq_of_beq_eq_true h9]
theorem xe_upR {g i : Nat} {v9 : Value} {q0 : Nat} {e1 e2 : va_E} (hcc : xe_c Sg θ GT SC RF ws hp) (hg : xe_el g SC = true) (hR : xe_aR (zf_gi GT g).2.2 = true) (hN : xe_nR g RF = true) (hq : ws[q0]? = some (θ g, e1)) (hl : zf_like e1 e2 i v9) : xe_c Sg θ GT SC RF (ws.set q0 (θ g, e2)) hp := by
  have hg2 := (hcc.1 g hg).2.1
  refine ⟨fun g' hg' => ?_, fun q hq' => ?_⟩
  · obtain ⟨c1, c2, c3⟩ := hcc.1 g' hg'
    refine ⟨c1, c2, fun i' P' hP' => ?_⟩
    have h0 := c3 i' P' hP'
    by_cases he : g' = g
    · subst he
      cases xe_aR_ok hR hP'
      exact trivial
    · have hne : θ g' = θ g → i' ≠ i := by
        intro e3
        rw [e3] at c2
        exact absurd (Option.some.inj (c2.symm.trans hg2)) he
      match P', h0 with
      | .inl q, h0 => exact zf_rd_set hq hl h0 hne
      | .inr none, h0 => exact zf_rd_set hq hl h0 hne
      | .inr (some _), _ => exact trivial
  · obtain ⟨c1, c2, c3, c4, h9, c5⟩ := hcc.2 q hq'
    refine ⟨c1, c2, c3, zf_rd_set hq hl c4 (fun e3 _ => ?_), h9, c5⟩
    rw [e3] at c1
    have e4 := Option.some.inj (c1.symm.trans hg2)
    have h8 := List.all_eq_true.mp hN q hq'
    rw [← e4, Nat.beq_refl] at h8
    cases h8
theorem xe_cut : ∀ (n : Nat) {x : List Value} {y : List Value}, zf_f2 (xe_v Sg θ) x y → ∃ y1 y2, y = y1 ++ y2 ∧ zf_f2 (xe_v Sg θ) (x.take n) y1 ∧ zf_f2 (xe_v Sg θ) (x.drop n) y2
  | 0, x, y, h => ⟨[], y, rfl, by simp only [List.take_zero]; trivial, by simpa using h⟩
  | n + 1, [], [], h => ⟨[], [], rfl, trivial, trivial⟩
  | n + 1, [], _ :: _, h => h.elim
  | n + 1, _ :: _, [], h => h.elim
  | n + 1, a :: x, b :: y, h => by
    obtain ⟨y1, y2, rfl, h1, h2⟩ := xe_cut n h.2
    exact ⟨b :: y1, y2, rfl, ⟨h.1, h1⟩, h2⟩
end XE
theorem xe_nil {Sg : Nat → Option Nat} {θ : Nat → Nat} {vs : List Value} (h : zf_f2 (xe_v Sg θ) [] vs) : vs = [] := by
  cases vs with
  | nil => rfl
  | cons a t => exact h.elim
theorem xe_cs {Sg : Nat → Option Nat} {θ : Nat → Nat} : ∀ {x y : List Value}, zf_f2 (xe_v Sg θ) x y → (y.map fun v => v.category).sum = (x.map fun v => v.category).sum
  | [], [], _ => rfl
  | a :: x, b :: y, h => by
    rw [List.map_cons, List.map_cons, List.sum_cons, List.sum_cons, xe_cs h.2, h.1.1, xe_catm]
  | [], _ :: _, h => h.elim
  | _ :: _, [], h => h.elim
theorem xe_dr : ∀ (n : Nat) (x : List Value), ((x.drop n).map fun v => v.category).sum ≤ (x.map fun v => v.category).sum
  | 0, x => by simp
  | n + 1, [] => by simp
  | n + 1, a :: x => by
    have := xe_dr n x
    rw [List.drop_succ_cons, List.map_cons, List.sum_cons]
    omega
theorem xe_c8 {Sg : Nat → Option Nat} {θ : Nat → Nat} {n : Nat} {x y : List Value} (h : zf_f2 (xe_v Sg θ) (x.drop n) y) (h8 : (x.map fun v => v.category).sum ≤ 8) : (y.map fun v => v.category).sum ≤ 8 := by
  rw [xe_cs h]
  exact Nat.le_trans (xe_dr n x) h8
def xs_iconst (GT : List zf_G) (SC : List Nat) (RF : List (Nat × Nat × Nat)) (nL : Nat) (fg fp : zf_ft) (sg : List (Nat × Nat)) (lc : List (Nat × Int64)) (pc len : Nat) (n : Int) (lo : List (Nat × Value)) (st : List Value) (hp : xe_H) : Option xe_X := match Nat.beq len 1 with
  | true => some (pc + 1, lo, .int (Int32.ofInt n) :: st, hp)
  | false => none
def xs_bipush (GT : List zf_G) (SC : List Nat) (RF : List (Nat × Nat × Nat)) (nL : Nat) (fg fp : zf_ft) (sg : List (Nat × Nat)) (lc : List (Nat × Int64)) (pc len : Nat) (n : Int) (lo : List (Nat × Value)) (st : List Value) (hp : xe_H) : Option xe_X := match Nat.beq len 2 with
  | true => some (pc + 2, lo, .int ((Int8.ofInt n).toInt32) :: st, hp)
  | false => none
def xs_sipush (GT : List zf_G) (SC : List Nat) (RF : List (Nat × Nat × Nat)) (nL : Nat) (fg fp : zf_ft) (sg : List (Nat × Nat)) (lc : List (Nat × Int64)) (pc len : Nat) (n : Int) (lo : List (Nat × Value)) (st : List Value) (hp : xe_H) : Option xe_X := match Nat.beq len 3 with
  | true => some (pc + 3, lo, .int ((Int16.ofInt n).toInt32) :: st, hp)
  | false => none
def xs_lconst (GT : List zf_G) (SC : List Nat) (RF : List (Nat × Nat × Nat)) (nL : Nat) (fg fp : zf_ft) (sg : List (Nat × Nat)) (lc : List (Nat × Int64)) (pc len : Nat) (n : Fin 2) (lo : List (Nat × Value)) (st : List Value) (hp : xe_H) : Option xe_X := match Nat.beq len 1 with
  | true => some (pc + 1, lo, .long (Int64.ofNat (n : Nat)) :: st, hp)
  | false => none
def xs_ldc2_w (GT : List zf_G) (SC : List Nat) (RF : List (Nat × Nat × Nat)) (nL : Nat) (fg fp : zf_ft) (sg : List (Nat × Nat)) (lc : List (Nat × Int64)) (pc len : Nat) (j : Nat) (lo : List (Nat × Value)) (st : List Value) (hp : xe_H) : Option xe_X := match Nat.beq len 3, xe_al j lc with
  | true, some v => some (pc + 3, lo, .long v :: st, hp)
  | _, _ => none
def xs_iload_n (GT : List zf_G) (SC : List Nat) (RF : List (Nat × Nat × Nat)) (nL : Nat) (fg fp : zf_ft) (sg : List (Nat × Nat)) (lc : List (Nat × Int64)) (pc len : Nat) (j : Fin 4) (lo : List (Nat × Value)) (st : List Value) (hp : xe_H) : Option xe_X := match Nat.beq len 1, xe_lk lo j with
  | true, some (.int x) => some (pc + 1, lo, .int x :: st, hp)
  | _, _ => none
def xs_iload (GT : List zf_G) (SC : List Nat) (RF : List (Nat × Nat × Nat)) (nL : Nat) (fg fp : zf_ft) (sg : List (Nat × Nat)) (lc : List (Nat × Int64)) (pc len : Nat) (j : Nat) (lo : List (Nat × Value)) (st : List Value) (hp : xe_H) : Option xe_X := match Nat.beq len 2, xe_lk lo j with
  | true, some (.int x) => some (pc + 2, lo, .int x :: st, hp)
  | _, _ => none
def xs_aload (GT : List zf_G) (SC : List Nat) (RF : List (Nat × Nat × Nat)) (nL : Nat) (fg fp : zf_ft) (sg : List (Nat × Nat)) (lc : List (Nat × Int64)) (pc len : Nat) (j : Nat) (lo : List (Nat × Value)) (st : List Value) (hp : xe_H) : Option xe_X := match Nat.beq len 2, xe_lk lo j with
  | true, some (.ref x) => some (pc + 2, lo, .ref x :: st, hp)
  | _, _ => none
def xs_aload_n (GT : List zf_G) (SC : List Nat) (RF : List (Nat × Nat × Nat)) (nL : Nat) (fg fp : zf_ft) (sg : List (Nat × Nat)) (lc : List (Nat × Int64)) (pc len : Nat) (j : Fin 4) (lo : List (Nat × Value)) (st : List Value) (hp : xe_H) : Option xe_X := match Nat.beq len 1, xe_lk lo j with
  | true, some (.ref x) => some (pc + 1, lo, .ref x :: st, hp)
  | _, _ => none
def xs_lload_n (GT : List zf_G) (SC : List Nat) (RF : List (Nat × Nat × Nat)) (nL : Nat) (fg fp : zf_ft) (sg : List (Nat × Nat)) (lc : List (Nat × Int64)) (pc len : Nat) (j : Fin 4) (lo : List (Nat × Value)) (st : List Value) (hp : xe_H) : Option xe_X := match Nat.beq len 1, xe_lk lo j with
  | true, some (.long x) => some (pc + 1, lo, .long x :: st, hp)
  | _, _ => none
def xs_istore_n (GT : List zf_G) (SC : List Nat) (RF : List (Nat × Nat × Nat)) (nL : Nat) (fg fp : zf_ft) (sg : List (Nat × Nat)) (lc : List (Nat × Int64)) (pc len : Nat) (j : Fin 4) (lo : List (Nat × Value)) (st : List Value) (hp : xe_H) : Option xe_X := match Nat.beq len 1 && Nat.blt j nL && xe_nl lo j, st with
  | true, .int x :: t => some (pc + 1, xe_sto lo j (.int x), t, hp)
  | _, _ => none
def xs_istore (GT : List zf_G) (SC : List Nat) (RF : List (Nat × Nat × Nat)) (nL : Nat) (fg fp : zf_ft) (sg : List (Nat × Nat)) (lc : List (Nat × Int64)) (pc len : Nat) (j : Nat) (lo : List (Nat × Value)) (st : List Value) (hp : xe_H) : Option xe_X := match Nat.beq len 2 && Nat.blt j nL && xe_nl lo j, st with
  | true, .int x :: t => some (pc + 2, xe_sto lo j (.int x), t, hp)
  | _, _ => none
def xs_astore (GT : List zf_G) (SC : List Nat) (RF : List (Nat × Nat × Nat)) (nL : Nat) (fg fp : zf_ft) (sg : List (Nat × Nat)) (lc : List (Nat × Int64)) (pc len : Nat) (j : Nat) (lo : List (Nat × Value)) (st : List Value) (hp : xe_H) : Option xe_X := match Nat.beq len 2 && Nat.blt j nL && xe_nl lo j, st with
  | true, .ref x :: t => some (pc + 2, xe_sto lo j (.ref x), t, hp)
  | _, _ => none
def xs_astore_n (GT : List zf_G) (SC : List Nat) (RF : List (Nat × Nat × Nat)) (nL : Nat) (fg fp : zf_ft) (sg : List (Nat × Nat)) (lc : List (Nat × Int64)) (pc len : Nat) (j : Fin 4) (lo : List (Nat × Value)) (st : List Value) (hp : xe_H) : Option xe_X := match Nat.beq len 1 && Nat.blt j nL && xe_nl lo j, st with
  | true, .ref x :: t => some (pc + 1, xe_sto lo j (.ref x), t, hp)
  | _, _ => none
def xs_iinc (GT : List zf_G) (SC : List Nat) (RF : List (Nat × Nat × Nat)) (nL : Nat) (fg fp : zf_ft) (sg : List (Nat × Nat)) (lc : List (Nat × Int64)) (pc len : Nat) (j : Nat) (n : Int) (lo : List (Nat × Value)) (st : List Value) (hp : xe_H) : Option xe_X := match Nat.beq len 3 && Nat.blt j nL && xe_nl lo j, xe_lk lo j with
  | true, some (.int x) => some (pc + 3, xe_sto lo j (.int (x + Int32.ofInt n)), st, hp)
  | _, _ => none
def xs_iadd (GT : List zf_G) (SC : List Nat) (RF : List (Nat × Nat × Nat)) (nL : Nat) (fg fp : zf_ft) (sg : List (Nat × Nat)) (lc : List (Nat × Int64)) (pc len : Nat)  (lo : List (Nat × Value)) (st : List Value) (hp : xe_H) : Option xe_X := match Nat.beq len 1, st with
  | true, .int y :: .int x :: t => some (pc + 1, lo, .int (x + y) :: t, hp)
  | _, _ => none
def xs_isub (GT : List zf_G) (SC : List Nat) (RF : List (Nat × Nat × Nat)) (nL : Nat) (fg fp : zf_ft) (sg : List (Nat × Nat)) (lc : List (Nat × Int64)) (pc len : Nat)  (lo : List (Nat × Value)) (st : List Value) (hp : xe_H) : Option xe_X := match Nat.beq len 1, st with
  | true, .int y :: .int x :: t => some (pc + 1, lo, .int (x - y) :: t, hp)
  | _, _ => none
def xs_imul (GT : List zf_G) (SC : List Nat) (RF : List (Nat × Nat × Nat)) (nL : Nat) (fg fp : zf_ft) (sg : List (Nat × Nat)) (lc : List (Nat × Int64)) (pc len : Nat)  (lo : List (Nat × Value)) (st : List Value) (hp : xe_H) : Option xe_X := match Nat.beq len 1, st with
  | true, .int y :: .int x :: t => some (pc + 1, lo, .int (x * y) :: t, hp)
  | _, _ => none
def xs_iand (GT : List zf_G) (SC : List Nat) (RF : List (Nat × Nat × Nat)) (nL : Nat) (fg fp : zf_ft) (sg : List (Nat × Nat)) (lc : List (Nat × Int64)) (pc len : Nat)  (lo : List (Nat × Value)) (st : List Value) (hp : xe_H) : Option xe_X := match Nat.beq len 1, st with
  | true, .int y :: .int x :: t => some (pc + 1, lo, .int (x &&& y) :: t, hp)
  | _, _ => none
def xs_ior (GT : List zf_G) (SC : List Nat) (RF : List (Nat × Nat × Nat)) (nL : Nat) (fg fp : zf_ft) (sg : List (Nat × Nat)) (lc : List (Nat × Int64)) (pc len : Nat)  (lo : List (Nat × Value)) (st : List Value) (hp : xe_H) : Option xe_X := match Nat.beq len 1, st with
  | true, .int y :: .int x :: t => some (pc + 1, lo, .int (x ||| y) :: t, hp)
  | _, _ => none
def xs_ishl (GT : List zf_G) (SC : List Nat) (RF : List (Nat × Nat × Nat)) (nL : Nat) (fg fp : zf_ft) (sg : List (Nat × Nat)) (lc : List (Nat × Int64)) (pc len : Nat)  (lo : List (Nat × Value)) (st : List Value) (hp : xe_H) : Option xe_X := match Nat.beq len 1, st with
  | true, .int y :: .int x :: t => some (pc + 1, lo, .int (x <<< (y &&& 31)) :: t, hp)
  | _, _ => none
def xs_ishr (GT : List zf_G) (SC : List Nat) (RF : List (Nat × Nat × Nat)) (nL : Nat) (fg fp : zf_ft) (sg : List (Nat × Nat)) (lc : List (Nat × Int64)) (pc len : Nat)  (lo : List (Nat × Value)) (st : List Value) (hp : xe_H) : Option xe_X := match Nat.beq len 1, st with
  | true, .int y :: .int x :: t => some (pc + 1, lo, .int (x >>> (y &&& 31)) :: t, hp)
  | _, _ => none
def xs_iushr (GT : List zf_G) (SC : List Nat) (RF : List (Nat × Nat × Nat)) (nL : Nat) (fg fp : zf_ft) (sg : List (Nat × Nat)) (lc : List (Nat × Int64)) (pc len : Nat)  (lo : List (Nat × Value)) (st : List Value) (hp : xe_H) : Option xe_X := match Nat.beq len 1, st with
  | true, .int y :: .int x :: t => some (pc + 1, lo, .int ((x.toUInt32 >>> (y.toUInt32 &&& Int32.toUInt32 31)).toInt32) :: t, hp)
  | _, _ => none
def xs_ladd (GT : List zf_G) (SC : List Nat) (RF : List (Nat × Nat × Nat)) (nL : Nat) (fg fp : zf_ft) (sg : List (Nat × Nat)) (lc : List (Nat × Int64)) (pc len : Nat)  (lo : List (Nat × Value)) (st : List Value) (hp : xe_H) : Option xe_X := match Nat.beq len 1, st with
  | true, .long y :: .long x :: t => some (pc + 1, lo, .long (x + y) :: t, hp)
  | _, _ => none
def xs_lmul (GT : List zf_G) (SC : List Nat) (RF : List (Nat × Nat × Nat)) (nL : Nat) (fg fp : zf_ft) (sg : List (Nat × Nat)) (lc : List (Nat × Int64)) (pc len : Nat)  (lo : List (Nat × Value)) (st : List Value) (hp : xe_H) : Option xe_X := match Nat.beq len 1, st with
  | true, .long y :: .long x :: t => some (pc + 1, lo, .long (x * y) :: t, hp)
  | _, _ => none
def xs_lor (GT : List zf_G) (SC : List Nat) (RF : List (Nat × Nat × Nat)) (nL : Nat) (fg fp : zf_ft) (sg : List (Nat × Nat)) (lc : List (Nat × Int64)) (pc len : Nat)  (lo : List (Nat × Value)) (st : List Value) (hp : xe_H) : Option xe_X := match Nat.beq len 1, st with
  | true, .long y :: .long x :: t => some (pc + 1, lo, .long (x ||| y) :: t, hp)
  | _, _ => none
def xs_lshl (GT : List zf_G) (SC : List Nat) (RF : List (Nat × Nat × Nat)) (nL : Nat) (fg fp : zf_ft) (sg : List (Nat × Nat)) (lc : List (Nat × Int64)) (pc len : Nat)  (lo : List (Nat × Value)) (st : List Value) (hp : xe_H) : Option xe_X := match Nat.beq len 1, st with
  | true, .int y :: .long x :: t => some (pc + 1, lo, .long (x <<< (y.toInt64 &&& 63)) :: t, hp)
  | _, _ => none
def xs_lcmp (GT : List zf_G) (SC : List Nat) (RF : List (Nat × Nat × Nat)) (nL : Nat) (fg fp : zf_ft) (sg : List (Nat × Nat)) (lc : List (Nat × Int64)) (pc len : Nat)  (lo : List (Nat × Value)) (st : List Value) (hp : xe_H) : Option xe_X := match Nat.beq len 1, st with
  | true, .long y :: .long x :: t => some (pc + 1, lo, .int (lg_cmp x y) :: t, hp)
  | _, _ => none
def xs_i2l (GT : List zf_G) (SC : List Nat) (RF : List (Nat × Nat × Nat)) (nL : Nat) (fg fp : zf_ft) (sg : List (Nat × Nat)) (lc : List (Nat × Int64)) (pc len : Nat)  (lo : List (Nat × Value)) (st : List Value) (hp : xe_H) : Option xe_X := match Nat.beq len 1, st with
  | true, .int x :: t => some (pc + 1, lo, .long (x.toInt64) :: t, hp)
  | _, _ => none
def xs_i2b (GT : List zf_G) (SC : List Nat) (RF : List (Nat × Nat × Nat)) (nL : Nat) (fg fp : zf_ft) (sg : List (Nat × Nat)) (lc : List (Nat × Int64)) (pc len : Nat)  (lo : List (Nat × Value)) (st : List Value) (hp : xe_H) : Option xe_X := match Nat.beq len 1, st with
  | true, .int x :: t => some (pc + 1, lo, .int (x.toInt8.toInt32) :: t, hp)
  | _, _ => none
def xs_dup (GT : List zf_G) (SC : List Nat) (RF : List (Nat × Nat × Nat)) (nL : Nat) (fg fp : zf_ft) (sg : List (Nat × Nat)) (lc : List (Nat × Int64)) (pc len : Nat)  (lo : List (Nat × Value)) (st : List Value) (hp : xe_H) : Option xe_X := match Nat.beq len 1, st with
  | true, a :: t => match xe_c1 a with
    | true => some (pc + 1, lo, a :: a :: t, hp)
    | false => none
  | _, _ => none
def xs_dup2 (GT : List zf_G) (SC : List Nat) (RF : List (Nat × Nat × Nat)) (nL : Nat) (fg fp : zf_ft) (sg : List (Nat × Nat)) (lc : List (Nat × Int64)) (pc len : Nat)  (lo : List (Nat × Value)) (st : List Value) (hp : xe_H) : Option xe_X := match Nat.beq len 1, st with
  | true, a :: b :: t => match xe_c1 a && xe_c1 b with
    | true => some (pc + 1, lo, a :: b :: a :: b :: t, hp)
    | false => none
  | _, _ => none
def xs_pop (GT : List zf_G) (SC : List Nat) (RF : List (Nat × Nat × Nat)) (nL : Nat) (fg fp : zf_ft) (sg : List (Nat × Nat)) (lc : List (Nat × Int64)) (pc len : Nat)  (lo : List (Nat × Value)) (st : List Value) (hp : xe_H) : Option xe_X := match Nat.beq len 1, st with
  | true, a :: t => match xe_c1 a with
    | true => some (pc + 1, lo, t, hp)
    | false => none
  | _, _ => none
def xs_goto (GT : List zf_G) (SC : List Nat) (RF : List (Nat × Nat × Nat)) (nL : Nat) (fg fp : zf_ft) (sg : List (Nat × Nat)) (lc : List (Nat × Int64)) (pc len : Nat) (off : Int) (lo : List (Nat × Value)) (st : List Value) (hp : xe_H) : Option xe_X := match Nat.beq len 3 && zf_tok pc off with
  | true => some (zf_tgt pc off, lo, st, hp)
  | false => none
def xs_ifCond (GT : List zf_G) (SC : List Nat) (RF : List (Nat × Nat × Nat)) (nL : Nat) (fg fp : zf_ft) (sg : List (Nat × Nat)) (lc : List (Nat × Int64)) (pc len : Nat) (c9 : ClassFile.Cond) (off : Int) (lo : List (Nat × Value)) (st : List Value) (hp : xe_H) : Option xe_X := match Nat.beq len 3 && zf_tok pc off, st with
  | true, .int x :: t => some (bif xe_cmp c9 x 0 then (zf_tgt pc off, lo, t, hp) else (pc + 3, lo, t, hp))
  | _, _ => none
def xs_if_icmp (GT : List zf_G) (SC : List Nat) (RF : List (Nat × Nat × Nat)) (nL : Nat) (fg fp : zf_ft) (sg : List (Nat × Nat)) (lc : List (Nat × Int64)) (pc len : Nat) (c9 : ClassFile.Cond) (off : Int) (lo : List (Nat × Value)) (st : List Value) (hp : xe_H) : Option xe_X := match Nat.beq len 3 && zf_tok pc off, st with
  | true, .int y :: .int x :: t => some (bif xe_cmp c9 x y then (zf_tgt pc off, lo, t, hp) else (pc + 3, lo, t, hp))
  | _, _ => none
def xs_acmp_eq (GT : List zf_G) (SC : List Nat) (RF : List (Nat × Nat × Nat)) (nL : Nat) (fg fp : zf_ft) (sg : List (Nat × Nat)) (lc : List (Nat × Int64)) (pc len : Nat) (off : Int) (lo : List (Nat × Value)) (st : List Value) (hp : xe_H) : Option xe_X := match Nat.beq len 3 && zf_tok pc off, st with
  | true, .ref y :: .ref x :: t => some (bif Nat.beq x y then (zf_tgt pc off, lo, t, hp) else (pc + 3, lo, t, hp))
  | _, _ => none
def xs_acmp_ne (GT : List zf_G) (SC : List Nat) (RF : List (Nat × Nat × Nat)) (nL : Nat) (fg fp : zf_ft) (sg : List (Nat × Nat)) (lc : List (Nat × Int64)) (pc len : Nat) (off : Int) (lo : List (Nat × Value)) (st : List Value) (hp : xe_H) : Option xe_X := match Nat.beq len 3 && zf_tok pc off, st with
  | true, .ref y :: .ref x :: t => some (bif Nat.beq x y then (pc + 3, lo, t, hp) else (zf_tgt pc off, lo, t, hp))
  | _, _ => none
def xs_getfield (GT : List zf_G) (SC : List Nat) (RF : List (Nat × Nat × Nat)) (nL : Nat) (fg fp : zf_ft) (sg : List (Nat × Nat)) (lc : List (Nat × Int64)) (pc len : Nat) (j : Nat) (lo : List (Nat × Value)) (st : List Value) (hp : xe_H) : Option xe_X := match Nat.beq len 3, zf_fl j fg, st with
  | true, some x, .ref g :: t => match zf_knd GT g false x.1, zf_sp (zf_gi GT g).2.2 x.2.1 with
    | true, some (.inl _) => match xe_el g SC with
      | true => some (pc + 3, lo, .int (hp.1 g x.2.1) :: t, hp)
      | false => none
    | true, some (.inr none) => match xe_el g SC with
      | true => some (pc + 3, lo, .long (hp.2 g x.2.1) :: t, hp)
      | false => none
    | true, some (.inr (some _)) => match xe_el3 g x.2.1 RF with
      | some h => some (pc + 3, lo, .ref h :: t, hp)
      | none => none
    | _, _ => none
  | _, _, _ => none
def xs_putfield (GT : List zf_G) (SC : List Nat) (RF : List (Nat × Nat × Nat)) (nL : Nat) (fg fp : zf_ft) (sg : List (Nat × Nat)) (lc : List (Nat × Int64)) (pc len : Nat) (j : Nat) (lo : List (Nat × Value)) (st : List Value) (hp : xe_H) : Option xe_X := match Nat.beq len 3, zf_fl j fp, st with
  | true, some x, v :: .ref g :: t => match zf_sp (zf_gi GT g).2.2 x.2.1 with
    | some P => match zf_knd GT g false x.1 && xe_el g SC && xe_fit x.2.2 v && xe_fit P v with
      | true => some (pc + 3, lo, t, xe_put hp g x.2.1 v)
      | false => none
    | none => none
  | _, _, _ => none
def xs_iaload (GT : List zf_G) (SC : List Nat) (RF : List (Nat × Nat × Nat)) (nL : Nat) (fg fp : zf_ft) (sg : List (Nat × Nat)) (lc : List (Nat × Int64)) (pc len : Nat)  (lo : List (Nat × Value)) (st : List Value) (hp : xe_H) : Option xe_X := match Nat.beq len 1, st with
  | true, .int i :: .ref g :: t => match zf_knd GT g true 0 && xe_el g SC && xe_aI (zf_gi GT g).2.2 with
    | true => bif xe_ib i (zf_len (zf_gi GT g).2.2) then some (pc + 1, lo, .int (hp.1 g i.toInt.toNat) :: t, hp) else none
    | false => none
  | _, _ => none
def xs_laload (GT : List zf_G) (SC : List Nat) (RF : List (Nat × Nat × Nat)) (nL : Nat) (fg fp : zf_ft) (sg : List (Nat × Nat)) (lc : List (Nat × Int64)) (pc len : Nat)  (lo : List (Nat × Value)) (st : List Value) (hp : xe_H) : Option xe_X := match Nat.beq len 1, st with
  | true, .int i :: .ref g :: t => match zf_knd GT g true 1 && xe_el g SC && xe_aL (zf_gi GT g).2.2 with
    | true => bif xe_ib i (zf_len (zf_gi GT g).2.2) then some (pc + 1, lo, .long (hp.2 g i.toInt.toNat) :: t, hp) else none
    | false => none
  | _, _ => none
def xs_baload (GT : List zf_G) (SC : List Nat) (RF : List (Nat × Nat × Nat)) (nL : Nat) (fg fp : zf_ft) (sg : List (Nat × Nat)) (lc : List (Nat × Int64)) (pc len : Nat)  (lo : List (Nat × Value)) (st : List Value) (hp : xe_H) : Option xe_X := match Nat.beq len 1, st with
  | true, .int i :: .ref g :: t => match (zf_knd GT g true 3 || zf_knd GT g true 2) && xe_el g SC && xe_aI (zf_gi GT g).2.2 with
    | true => bif xe_ib i (zf_len (zf_gi GT g).2.2) then some (pc + 1, lo, .int (hp.1 g i.toInt.toNat) :: t, hp) else none
    | false => none
  | _, _ => none
def xs_iastore (GT : List zf_G) (SC : List Nat) (RF : List (Nat × Nat × Nat)) (nL : Nat) (fg fp : zf_ft) (sg : List (Nat × Nat)) (lc : List (Nat × Int64)) (pc len : Nat)  (lo : List (Nat × Value)) (st : List Value) (hp : xe_H) : Option xe_X := match Nat.beq len 1, st with
  | true, .int x :: .int i :: .ref g :: t => match zf_knd GT g true 0 && xe_el g SC && xe_aF (zf_gi GT g).2.2 with
    | true => bif xe_ib i (zf_len (zf_gi GT g).2.2) then some (pc + 1, lo, t, xe_put hp g i.toInt.toNat (.int x)) else none
    | false => none
  | _, _ => none
def xs_aastore (GT : List zf_G) (SC : List Nat) (RF : List (Nat × Nat × Nat)) (nL : Nat) (fg fp : zf_ft) (sg : List (Nat × Nat)) (lc : List (Nat × Int64)) (pc len : Nat)  (lo : List (Nat × Value)) (st : List Value) (hp : xe_H) : Option xe_X := match Nat.beq len 1, st with
  | true, .ref d :: .int i :: .ref g :: t => match zf_knd GT g true 6 && xe_el g SC && xe_aR (zf_gi GT g).2.2 && xe_nR g RF with
    | true => bif xe_ib i (zf_len (zf_gi GT g).2.2) && Nat.beq (xe_k d) 128 then some (pc + 1, lo, t, hp) else none
    | false => none
  | _, _ => none
def xs_lastore (GT : List zf_G) (SC : List Nat) (RF : List (Nat × Nat × Nat)) (nL : Nat) (fg fp : zf_ft) (sg : List (Nat × Nat)) (lc : List (Nat × Int64)) (pc len : Nat)  (lo : List (Nat × Value)) (st : List Value) (hp : xe_H) : Option xe_X := match Nat.beq len 1, st with
  | true, .long x :: .int i :: .ref g :: t => match zf_knd GT g true 1 && xe_el g SC && xe_aL (zf_gi GT g).2.2 with
    | true => bif xe_ib i (zf_len (zf_gi GT g).2.2) then some (pc + 1, lo, t, xe_put hp g i.toInt.toNat (.long x)) else none
    | false => none
  | _, _ => none
def xs_bastore (GT : List zf_G) (SC : List Nat) (RF : List (Nat × Nat × Nat)) (nL : Nat) (fg fp : zf_ft) (sg : List (Nat × Nat)) (lc : List (Nat × Int64)) (pc len : Nat)  (lo : List (Nat × Value)) (st : List Value) (hp : xe_H) : Option xe_X := match Nat.beq len 1, st with
  | true, .int x :: .int i :: .ref g :: t => match (zf_knd GT g true 3 || (zf_knd GT g true 2 && xe_bz x)) && xe_el g SC && xe_aB (zf_gi GT g).2.2 with
    | true => bif xe_ib i (zf_len (zf_gi GT g).2.2) && xe_by x then some (pc + 1, lo, t, xe_put hp g i.toInt.toNat (.int x)) else none
    | false => none
  | _, _ => none
def xs_getstatic (GT : List zf_G) (SC : List Nat) (RF : List (Nat × Nat × Nat)) (nL : Nat) (fg fp : zf_ft) (sg : List (Nat × Nat)) (lc : List (Nat × Int64)) (pc len : Nat) (j : Nat) (lo : List (Nat × Value)) (st : List Value) (hp : xe_H) : Option xe_X := match Nat.beq len 3, xe_al j sg with
  | true, some n => some (pc + 3, lo, .ref n :: st, hp)
  | _, _ => none
def xs_arraylength (GT : List zf_G) (SC : List Nat) (RF : List (Nat × Nat × Nat)) (nL : Nat) (fg fp : zf_ft) (sg : List (Nat × Nat)) (lc : List (Nat × Int64)) (pc len : Nat)  (lo : List (Nat × Value)) (st : List Value) (hp : xe_H) : Option xe_X := match Nat.beq len 1, st with
  | true, .ref g :: t => match zf_knd GT g true 0 && xe_el g SC with
    | true => some (pc + 1, lo, .int (Int32.ofNat (zf_len (zf_gi GT g).2.2)) :: t, hp)
    | false => none
  | _, _ => none
def xs_tableswitch (GT : List zf_G) (SC : List Nat) (RF : List (Nat × Nat × Nat)) (nL : Nat) (fg fp : zf_ft) (sg : List (Nat × Nat)) (lc : List (Nat × Int64)) (pc len : Nat) (d0 : Int) (l0 : Int) (h0 : Int) (offs : Array Int) (lo : List (Nat × Value)) (st : List Value) (hp : xe_H) : Option xe_X := match zf_tok pc d0 && offs.toList.all (zf_tok pc) && Nat.beq offs.toList.length (h0 - l0 + 1).toNat && decide (l0 ≤ h0), st with
  | true, .int x :: t => some (bif decide (x.toInt < l0) || decide (h0 < x.toInt) then (zf_tgt pc d0, lo, t, hp) else (zf_tgt pc (offs.toList.getD (x.toInt - l0).toNat d0), lo, t, hp))
  | _, _ => none
def xe_1 (GT : List zf_G) (SC : List Nat) (RF : List (Nat × Nat × Nat)) (nL : Nat) (fg fp : zf_ft) (sg : List (Nat × Nat)) (lc : List (Nat × Int64)) (pc len : Nat) (i : Instr) (lo : List (Nat × Value)) (st : List Value) (hp : xe_H) : Option xe_X := match i with
  | .iconst n => xs_iconst GT SC RF nL fg fp sg lc pc len n lo st hp
  | .bipush n => xs_bipush GT SC RF nL fg fp sg lc pc len n lo st hp
  | .sipush n => xs_sipush GT SC RF nL fg fp sg lc pc len n lo st hp
  | .lconst n => xs_lconst GT SC RF nL fg fp sg lc pc len n lo st hp
  | .ldc2_w j => xs_ldc2_w GT SC RF nL fg fp sg lc pc len j lo st hp
  | .iload_n j => xs_iload_n GT SC RF nL fg fp sg lc pc len j lo st hp
  | .iload j => xs_iload GT SC RF nL fg fp sg lc pc len j lo st hp
  | .aload j => xs_aload GT SC RF nL fg fp sg lc pc len j lo st hp
  | .aload_n j => xs_aload_n GT SC RF nL fg fp sg lc pc len j lo st hp
  | .lload_n j => xs_lload_n GT SC RF nL fg fp sg lc pc len j lo st hp
  | .istore_n j => xs_istore_n GT SC RF nL fg fp sg lc pc len j lo st hp
  | .istore j => xs_istore GT SC RF nL fg fp sg lc pc len j lo st hp
  | .astore j => xs_astore GT SC RF nL fg fp sg lc pc len j lo st hp
  | .astore_n j => xs_astore_n GT SC RF nL fg fp sg lc pc len j lo st hp
  | .iinc j n => xs_iinc GT SC RF nL fg fp sg lc pc len j n lo st hp
  | .iadd => xs_iadd GT SC RF nL fg fp sg lc pc len  lo st hp
  | .isub => xs_isub GT SC RF nL fg fp sg lc pc len  lo st hp
  | .imul => xs_imul GT SC RF nL fg fp sg lc pc len  lo st hp
  | .iand => xs_iand GT SC RF nL fg fp sg lc pc len  lo st hp
  | .ior => xs_ior GT SC RF nL fg fp sg lc pc len  lo st hp
  | .ishl => xs_ishl GT SC RF nL fg fp sg lc pc len  lo st hp
  | .ishr => xs_ishr GT SC RF nL fg fp sg lc pc len  lo st hp
  | .iushr => xs_iushr GT SC RF nL fg fp sg lc pc len  lo st hp
  | .ladd => xs_ladd GT SC RF nL fg fp sg lc pc len  lo st hp
  | .lmul => xs_lmul GT SC RF nL fg fp sg lc pc len  lo st hp
  | .lor => xs_lor GT SC RF nL fg fp sg lc pc len  lo st hp
  | .lshl => xs_lshl GT SC RF nL fg fp sg lc pc len  lo st hp
  | .lcmp => xs_lcmp GT SC RF nL fg fp sg lc pc len  lo st hp
  | .i2l => xs_i2l GT SC RF nL fg fp sg lc pc len  lo st hp
  | .i2b => xs_i2b GT SC RF nL fg fp sg lc pc len  lo st hp
  | .dup => xs_dup GT SC RF nL fg fp sg lc pc len  lo st hp
  | .dup2 => xs_dup2 GT SC RF nL fg fp sg lc pc len  lo st hp
  | .pop => xs_pop GT SC RF nL fg fp sg lc pc len  lo st hp
  | .goto off => xs_goto GT SC RF nL fg fp sg lc pc len off lo st hp
  | .ifCond c9 off => xs_ifCond GT SC RF nL fg fp sg lc pc len c9 off lo st hp
  | .if_icmp c9 off => xs_if_icmp GT SC RF nL fg fp sg lc pc len c9 off lo st hp
  | .if_acmp .eq off => xs_acmp_eq GT SC RF nL fg fp sg lc pc len off lo st hp
  | .if_acmp .ne off => xs_acmp_ne GT SC RF nL fg fp sg lc pc len off lo st hp
  | .getfield j => xs_getfield GT SC RF nL fg fp sg lc pc len j lo st hp
  | .putfield j => xs_putfield GT SC RF nL fg fp sg lc pc len j lo st hp
  | .iaload => xs_iaload GT SC RF nL fg fp sg lc pc len  lo st hp
  | .laload => xs_laload GT SC RF nL fg fp sg lc pc len  lo st hp
  | .baload => xs_baload GT SC RF nL fg fp sg lc pc len  lo st hp
  | .iastore => xs_iastore GT SC RF nL fg fp sg lc pc len  lo st hp
  | .aastore => xs_aastore GT SC RF nL fg fp sg lc pc len  lo st hp
  | .lastore => xs_lastore GT SC RF nL fg fp sg lc pc len  lo st hp
  | .bastore => xs_bastore GT SC RF nL fg fp sg lc pc len  lo st hp
  | .getstatic j => xs_getstatic GT SC RF nL fg fp sg lc pc len j lo st hp
  | .arraylength => xs_arraylength GT SC RF nL fg fp sg lc pc len  lo st hp
  | .tableswitch d0 l0 h0 offs => xs_tableswitch GT SC RF nL fg fp sg lc pc len d0 l0 h0 offs lo st hp
  | _ => none
/-- cells that bear none of the names stay -/
def xe_I (θ : Nat → Nat) (SC : List Nat) (wz ws : va_W) : Prop := ∀ (a i : Nat) (v : Value), (∀ g, xe_el g SC = true → a ≠ θ g) → zf_rd wz a i v → zf_rd ws a i v
theorem xe_I_rf {θ : Nat → Nat} {SC : List Nat} {ws : va_W} : xe_I θ SC ws ws := fun _ _ _ _ h => h
theorem xe_I_tr {θ : Nat → Nat} {SC : List Nat} {w1 w2 w3 : va_W} (h1 : xe_I θ SC w1 w2) (h2 : xe_I θ SC w2 w3) : xe_I θ SC w1 w3 := fun a i v ha h => h2 a i v ha (h1 a i v ha h)
theorem xe_I_set {θ : Nat → Nat} {SC : List Nat} {wz ws : va_W} {q0 g : Nat} {e1 e2 : va_E} (h : xe_I θ SC wz ws) (hg : xe_el g SC = true) (hq : ws[q0]? = some (θ g, e1)) : xe_I θ SC wz (ws.set q0 (θ g, e2)) := fun a i v ha hr => by
  obtain ⟨q9, en, h1, h2⟩ := h a i v ha hr
  have hne : q0 ≠ q9 := fun e9 => by
    subst e9
    rw [hq] at h1
    cases h1
    exact ha g hg rfl
  exact ⟨q9, en, by rw [List.getElem?_set_ne hne]; exact h1, h2⟩
/-- a call, as the picture tells it -/
def xe_CR (p : Program) (l : Launch) (e : Env) (R : Room) (s : State) (m : MethodId) (args : Array Value) (below : List Frame) (meth : Method) (c : Code) (cells slots : Nat) (Q : State → Prop) (cc : ByteArray) (D : va_G) (A : Nat → Prop) (H0 : Heap) (Sg : Nat → Option Nat) (k : Nat → ClassId) (GT : List zf_G) (SC : List Nat) (RF : List (Nat × Nat × Nat)) (θ : Nat → Nat) (nL : Nat) (i : Instr) (n : Nat) (f : xe_F) : Prop :=
  ∀ (H : Heap) (locs : List Loc) (ws : va_W) (us vs rest : List Value) (pc : Nat) (ls : Array Slot) (hp : xe_H) (v : Option Value) (hp' : xe_H), va_P D vwCl ws H → va_D A ws → va_S A H0 H locs → zf_typ Sg k GT ws → xe_c Sg θ GT SC RF ws hp → zf_f2 (xe_v Sg θ) us vs → us.length = n → f us hp v hp' → decode cc pc = .ok (i, 3) → ls.size = nL → (rest.map fun v => v.category).sum ≤ 8 →
    (∀ (ws' : va_W) (H1 : Heap) (locs1 : List Loc), zf_typ Sg k GT ws' → xe_c Sg θ GT SC RF ws' hp' → zf_f2 (xe_v Sg θ) v.toList (v.map (xe_m θ)).toList → va_P D vwCl ws' H1 → va_D A ws' → va_S A H0 H1 locs1 → xe_I θ SC ws ws' → W p l e R s m args below meth c H1 locs1 cells slots Q (F0 m (pc + 3) ls ((v.map (xe_m θ)).toList ++ rest))) →
    W p l e R s m args below meth c H locs cells slots Q (F0 m pc ls (vs ++ rest))
/-- what holds all along a method's walk -/
def xe_G (p : Program) (l : Launch) (e : Env) (R : Room) (s : State) (m : MethodId) (args : Array Value) (below : List Frame) (meth : Method) (c : Code) (cells slots : Nat) (Q : State → Prop) (cc : ByteArray) (D : va_G) (A : Nat → Prop) (H0 : Heap) (Sg : Nat → Option Nat) (k : Nat → ClassId) (θ : Nat → Nat) (fg fp : zf_ft) (sg : List (Nat × Nat)) (lc : List (Nat × Int64)) : Prop :=
  p.tables.exec = Jvm.exec ∧ c.code = cc ∧ va_K D vwCl (tyz k) s ∧ (∀ a b, Sg (θ a) = some (xe_k a) → Sg (θ b) = some (xe_k b) → θ a = θ b → a = b) ∧
  (∀ x ∈ fg, zf_FG p l e R s m args below meth c cells slots Q cc D vwCl x) ∧ (∀ x ∈ fp, zf_FP p l e R s m args below meth c cells slots Q cc D vwCl A H0 Sg x) ∧
  (∀ j n, (j, n) ∈ sg → ∀ (H : Heap) (locs : List Loc) (rest : List Value) (pc : Nat) (ls : Array Slot), va_S A H0 H locs → decode cc pc = .ok (.getstatic j, 3) → (xe_ok Sg θ (.ref n) → W p l e R s m args below meth c H locs cells slots Q (F0 m (pc + 3) ls (.ref (θ n) :: rest))) → W p l e R s m args below meth c H locs cells slots Q (F0 m pc ls rest)) ∧
  (∀ j v, (j, v) ∈ lc → ∀ (H : Heap) (locs : List Loc) (rest : List Value) (pc : Nat) (ls : Array Slot), decode cc pc = .ok (.ldc2_w j, 3) → W p l e R s m args below meth c H locs cells slots Q (F0 m (pc + 3) ls (.long v :: rest)) → W p l e R s m args below meth c H locs cells slots Q (F0 m pc ls rest)) ∧
  ∀ (H : Heap) (locs : List Loc), va_S A H0 H locs → ∀ a, Sg a = some 128 → va_Any "RungMoney$Key" s H a
def xe_K (p : Program) (l : Launch) (e : Env) (R : Room) (s : State) (m : MethodId) (args : Array Value) (below : List Frame) (meth : Method) (c : Code) (cells slots : Nat) (Q : State → Prop) (D : va_G) (A : Nat → Prop) (H0 : Heap) (Sg : Nat → Option Nat) (k : Nat → ClassId) (GT : List zf_G) (SC : List Nat) (RF : List (Nat × Nat × Nat)) (θ : Nat → Nat) (nL : Nat) (wz : va_W) (x : xe_X) : Prop :=
  ∀ (ws : va_W) (H : Heap) (locs : List Loc) (ls : Array Slot) (stR : List Value), (va_P D vwCl ws H ∧ va_D A ws ∧ va_S A H0 H locs ∧ zf_typ Sg k GT ws ∧ xe_I θ SC wz ws) → ((∃ lv, lv_has ls nL lv ∧ xe_los Sg θ x.2.1 lv) ∧ zf_f2 (xe_v Sg θ) x.2.2.1 stR ∧ xe_c Sg θ GT SC RF ws x.2.2.2) → W p l e R s m args below meth c H locs cells slots Q (F0 m x.1 ls stR)
section XF
variable {p : Program} {l : Launch} {e : Env} {R : Room} {s : State} {m : MethodId} {args : Array Value} {below : List Frame} {meth : Method} {c : Code} {cells slots : Nat} {Q : State → Prop} {cc : ByteArray} {D : va_G} {A : Nat → Prop} {H0 : Heap} {Sg : Nat → Option Nat} {k : Nat → ClassId} {GT : List zf_G} {SC : List Nat} {RF : List (Nat × Nat × Nat)} {θ : Nat → Nat} {nL pc len : Nat} {fg fp : zf_ft} {sg : List (Nat × Nat)} {lc : List (Nat × Int64)} {lo : List (Nat × Value)} {st : List Value} {hp : xe_H} {s1 : xe_X} {wz : va_W}
theorem xo_iconst (G : xe_G p l e R s m args below meth c cells slots Q cc D A H0 Sg k θ fg fp sg lc) {n : Int} (hdg : decode cc pc = .ok (.iconst n, len)) (h1 : xs_iconst GT SC RF nL fg fp sg lc pc len n lo st hp = some s1) (kk : xe_K p l e R s m args below meth c cells slots Q D A H0 Sg k GT SC RF θ nL wz s1) : xe_K p l e R s m args below meth c cells slots Q D A H0 Sg k GT SC RF θ nL wz (pc, lo, st, hp) := by
  obtain ⟨hx, hb, hK, hinj, hfg, hfp, hsg, hlc⟩ := G
  intro ws H locs ls stR hW hsat
  obtain ⟨⟨lv, hl, hlo⟩, hst, hcc⟩ := hsat
  unfold xs_iconst at h1
  split at h1
  · rename_i hc
    cases h1
    have e0 : len = 1 := Nat.eq_of_beq_eq_true hc
    subst e0
    exact lv_iconst hx hb hdg rfl (kk ws H locs ls _ hW ⟨⟨lv, hl, hlo⟩, ⟨⟨rfl, trivial⟩, hst⟩, hcc⟩)
  · cases h1
theorem xo_bipush (G : xe_G p l e R s m args below meth c cells slots Q cc D A H0 Sg k θ fg fp sg lc) {n : Int} (hdg : decode cc pc = .ok (.bipush n, len)) (h1 : xs_bipush GT SC RF nL fg fp sg lc pc len n lo st hp = some s1) (kk : xe_K p l e R s m args below meth c cells slots Q D A H0 Sg k GT SC RF θ nL wz s1) : xe_K p l e R s m args below meth c cells slots Q D A H0 Sg k GT SC RF θ nL wz (pc, lo, st, hp) := by
  obtain ⟨hx, hb, hK, hinj, hfg, hfp, hsg, hlc⟩ := G
  intro ws H locs ls stR hW hsat
  obtain ⟨⟨lv, hl, hlo⟩, hst, hcc⟩ := hsat
  unfold xs_bipush at h1
  split at h1
  · rename_i hc
    cases h1
    have e0 : len = 2 := Nat.eq_of_beq_eq_true hc
    subst e0
    exact lv_bipush hx hb hdg rfl (kk ws H locs ls _ hW ⟨⟨lv, hl, hlo⟩, ⟨⟨rfl, trivial⟩, hst⟩, hcc⟩)
  · cases h1
theorem xo_sipush (G : xe_G p l e R s m args below meth c cells slots Q cc D A H0 Sg k θ fg fp sg lc) {n : Int} (hdg : decode cc pc = .ok (.sipush n, len)) (h1 : xs_sipush GT SC RF nL fg fp sg lc pc len n lo st hp = some s1) (kk : xe_K p l e R s m args below meth c cells slots Q D A H0 Sg k GT SC RF θ nL wz s1) : xe_K p l e R s m args below meth c cells slots Q D A H0 Sg k GT SC RF θ nL wz (pc, lo, st, hp) := by
  obtain ⟨hx, hb, hK, hinj, hfg, hfp, hsg, hlc⟩ := G
  intro ws H locs ls stR hW hsat
  obtain ⟨⟨lv, hl, hlo⟩, hst, hcc⟩ := hsat
  unfold xs_sipush at h1
  split at h1
  · rename_i hc
    cases h1
    have e0 : len = 3 := Nat.eq_of_beq_eq_true hc
    subst e0
    exact lv_sipush hx hb hdg rfl (kk ws H locs ls _ hW ⟨⟨lv, hl, hlo⟩, ⟨⟨rfl, trivial⟩, hst⟩, hcc⟩)
  · cases h1
theorem xo_lconst (G : xe_G p l e R s m args below meth c cells slots Q cc D A H0 Sg k θ fg fp sg lc) {n : Fin 2} (hdg : decode cc pc = .ok (.lconst n, len)) (h1 : xs_lconst GT SC RF nL fg fp sg lc pc len n lo st hp = some s1) (kk : xe_K p l e R s m args below meth c cells slots Q D A H0 Sg k GT SC RF θ nL wz s1) : xe_K p l e R s m args below meth c cells slots Q D A H0 Sg k GT SC RF θ nL wz (pc, lo, st, hp) := by
  obtain ⟨hx, hb, hK, hinj, hfg, hfp, hsg, hlc⟩ := G
  intro ws H locs ls stR hW hsat
  obtain ⟨⟨lv, hl, hlo⟩, hst, hcc⟩ := hsat
  unfold xs_lconst at h1
  split at h1
  · rename_i hc
    cases h1
    have e0 : len = 1 := Nat.eq_of_beq_eq_true hc
    subst e0
    exact lv_lconst hx hb hdg rfl (kk ws H locs ls _ hW ⟨⟨lv, hl, hlo⟩, ⟨⟨rfl, trivial⟩, hst⟩, hcc⟩)
  · cases h1
theorem xo_ldc2_w (G : xe_G p l e R s m args below meth c cells slots Q cc D A H0 Sg k θ fg fp sg lc) {j : Nat} (hdg : decode cc pc = .ok (.ldc2_w j, len)) (h1 : xs_ldc2_w GT SC RF nL fg fp sg lc pc len j lo st hp = some s1) (kk : xe_K p l e R s m args below meth c cells slots Q D A H0 Sg k GT SC RF θ nL wz s1) : xe_K p l e R s m args below meth c cells slots Q D A H0 Sg k GT SC RF θ nL wz (pc, lo, st, hp) := by
  obtain ⟨hx, hb, hK, hinj, hfg, hfp, hsg, hlc⟩ := G
  intro ws H locs ls stR hW hsat
  obtain ⟨⟨lv, hl, hlo⟩, hst, hcc⟩ := hsat
  unfold xs_ldc2_w at h1
  split at h1
  · rename_i v hc hq
    cases h1
    have e0 : len = 3 := Nat.eq_of_beq_eq_true hc
    subst e0
    exact hlc.1 _ _ (xe_al_ok hq) H locs stR pc ls hdg (kk ws H locs ls _ hW ⟨⟨lv, hl, hlo⟩, ⟨⟨rfl, trivial⟩, hst⟩, hcc⟩)
  · cases h1
theorem xo_iload_n (G : xe_G p l e R s m args below meth c cells slots Q cc D A H0 Sg k θ fg fp sg lc) {j : Fin 4} (hdg : decode cc pc = .ok (.iload_n j, len)) (h1 : xs_iload_n GT SC RF nL fg fp sg lc pc len j lo st hp = some s1) (kk : xe_K p l e R s m args below meth c cells slots Q D A H0 Sg k GT SC RF θ nL wz s1) : xe_K p l e R s m args below meth c cells slots Q D A H0 Sg k GT SC RF θ nL wz (pc, lo, st, hp) := by
  obtain ⟨hx, hb, hK, hinj, hfg, hfp, hsg, hlc⟩ := G
  intro ws H locs ls stR hW hsat
  obtain ⟨⟨lv, hl, hlo⟩, hst, hcc⟩ := hsat
  unfold xs_iload_n at h1
  split at h1
  · rename_i x hc hq
    cases h1
    have e0 : len = 1 := Nat.eq_of_beq_eq_true hc
    subst e0
    obtain ⟨hm, ov⟩ := hlo _ _ hq
    exact lv_iload_n hx hb hdg rfl (hl.2.2 _ hm) (kk ws H locs ls _ hW ⟨⟨lv, hl, hlo⟩, ⟨⟨rfl, ov⟩, hst⟩, hcc⟩)
  · cases h1
theorem xo_iload (G : xe_G p l e R s m args below meth c cells slots Q cc D A H0 Sg k θ fg fp sg lc) {j : Nat} (hdg : decode cc pc = .ok (.iload j, len)) (h1 : xs_iload GT SC RF nL fg fp sg lc pc len j lo st hp = some s1) (kk : xe_K p l e R s m args below meth c cells slots Q D A H0 Sg k GT SC RF θ nL wz s1) : xe_K p l e R s m args below meth c cells slots Q D A H0 Sg k GT SC RF θ nL wz (pc, lo, st, hp) := by
  obtain ⟨hx, hb, hK, hinj, hfg, hfp, hsg, hlc⟩ := G
  intro ws H locs ls stR hW hsat
  obtain ⟨⟨lv, hl, hlo⟩, hst, hcc⟩ := hsat
  unfold xs_iload at h1
  split at h1
  · rename_i x hc hq
    cases h1
    have e0 : len = 2 := Nat.eq_of_beq_eq_true hc
    subst e0
    obtain ⟨hm, ov⟩ := hlo _ _ hq
    exact lv_iload hx hb hdg (hl.2.2 _ hm) (kk ws H locs ls _ hW ⟨⟨lv, hl, hlo⟩, ⟨⟨rfl, ov⟩, hst⟩, hcc⟩)
  · cases h1
theorem xo_aload (G : xe_G p l e R s m args below meth c cells slots Q cc D A H0 Sg k θ fg fp sg lc) {j : Nat} (hdg : decode cc pc = .ok (.aload j, len)) (h1 : xs_aload GT SC RF nL fg fp sg lc pc len j lo st hp = some s1) (kk : xe_K p l e R s m args below meth c cells slots Q D A H0 Sg k GT SC RF θ nL wz s1) : xe_K p l e R s m args below meth c cells slots Q D A H0 Sg k GT SC RF θ nL wz (pc, lo, st, hp) := by
  obtain ⟨hx, hb, hK, hinj, hfg, hfp, hsg, hlc⟩ := G
  intro ws H locs ls stR hW hsat
  obtain ⟨⟨lv, hl, hlo⟩, hst, hcc⟩ := hsat
  unfold xs_aload at h1
  split at h1
  · rename_i x hc hq
    cases h1
    have e0 : len = 2 := Nat.eq_of_beq_eq_true hc
    subst e0
    obtain ⟨hm, ov⟩ := hlo _ _ hq
    exact lv_aload hx hb hdg (hl.2.2 _ hm) (kk ws H locs ls _ hW ⟨⟨lv, hl, hlo⟩, ⟨⟨rfl, ov⟩, hst⟩, hcc⟩)
  · cases h1
theorem xo_aload_n (G : xe_G p l e R s m args below meth c cells slots Q cc D A H0 Sg k θ fg fp sg lc) {j : Fin 4} (hdg : decode cc pc = .ok (.aload_n j, len)) (h1 : xs_aload_n GT SC RF nL fg fp sg lc pc len j lo st hp = some s1) (kk : xe_K p l e R s m args below meth c cells slots Q D A H0 Sg k GT SC RF θ nL wz s1) : xe_K p l e R s m args below meth c cells slots Q D A H0 Sg k GT SC RF θ nL wz (pc, lo, st, hp) := by
  obtain ⟨hx, hb, hK, hinj, hfg, hfp, hsg, hlc⟩ := G
  intro ws H locs ls stR hW hsat
  obtain ⟨⟨lv, hl, hlo⟩, hst, hcc⟩ := hsat
  unfold xs_aload_n at h1
  split at h1
  · rename_i x hc hq
    cases h1
    have e0 : len = 1 := Nat.eq_of_beq_eq_true hc
    subst e0
    obtain ⟨hm, ov⟩ := hlo _ _ hq
    exact lv_aload_n hx hb hdg rfl (hl.2.2 _ hm) (kk ws H locs ls _ hW ⟨⟨lv, hl, hlo⟩, ⟨⟨rfl, ov⟩, hst⟩, hcc⟩)
  · cases h1
theorem xo_lload_n (G : xe_G p l e R s m args below meth c cells slots Q cc D A H0 Sg k θ fg fp sg lc) {j : Fin 4} (hdg : decode cc pc = .ok (.lload_n j, len)) (h1 : xs_lload_n GT SC RF nL fg fp sg lc pc len j lo st hp = some s1) (kk : xe_K p l e R s m args below meth c cells slots Q D A H0 Sg k GT SC RF θ nL wz s1) : xe_K p l e R s m args below meth c cells slots Q D A H0 Sg k GT SC RF θ nL wz (pc, lo, st, hp) := by
  obtain ⟨hx, hb, hK, hinj, hfg, hfp, hsg, hlc⟩ := G
  intro ws H locs ls stR hW hsat
  obtain ⟨⟨lv, hl, hlo⟩, hst, hcc⟩ := hsat
  unfold xs_lload_n at h1
  split at h1
  · rename_i x hc hq
    cases h1
    have e0 : len = 1 := Nat.eq_of_beq_eq_true hc
    subst e0
    obtain ⟨hm, ov⟩ := hlo _ _ hq
    exact lv_lload_n hx hb hdg rfl (hl.2.2 _ hm) (kk ws H locs ls _ hW ⟨⟨lv, hl, hlo⟩, ⟨⟨rfl, ov⟩, hst⟩, hcc⟩)
  · cases h1
theorem xo_istore_n (G : xe_G p l e R s m args below meth c cells slots Q cc D A H0 Sg k θ fg fp sg lc) {j : Fin 4} (hdg : decode cc pc = .ok (.istore_n j, len)) (h1 : xs_istore_n GT SC RF nL fg fp sg lc pc len j lo st hp = some s1) (kk : xe_K p l e R s m args below meth c cells slots Q D A H0 Sg k GT SC RF θ nL wz s1) : xe_K p l e R s m args below meth c cells slots Q D A H0 Sg k GT SC RF θ nL wz (pc, lo, st, hp) := by
  obtain ⟨hx, hb, hK, hinj, hfg, hfp, hsg, hlc⟩ := G
  intro ws H locs ls stR hW hsat
  obtain ⟨⟨lv, hl, hlo⟩, hst, hcc⟩ := hsat
  unfold xs_istore_n at h1
  split at h1
  · rename_i x t hc
    cases h1
    simp only [Bool.and_eq_true] at hc
    have e0 : len = 1 := Nat.eq_of_beq_eq_true hc.1.1
    subst e0
    obtain ⟨_, st0, rfl, ⟨rfl, o0⟩, hs0⟩ := zf_f2_c hst
    refine lv_istore_n hx hb hdg rfl hl (zf_blt hc.1.2) rfl (fun ls' hl' => ?_)
    exact kk ws H locs ls' _ hW ⟨⟨_, hl', xe_sto_ok hlo hc.2 o0⟩, hs0, hcc⟩
  · cases h1
theorem xo_istore (G : xe_G p l e R s m args below meth c cells slots Q cc D A H0 Sg k θ fg fp sg lc) {j : Nat} (hdg : decode cc pc = .ok (.istore j, len)) (h1 : xs_istore GT SC RF nL fg fp sg lc pc len j lo st hp = some s1) (kk : xe_K p l e R s m args below meth c cells slots Q D A H0 Sg k GT SC RF θ nL wz s1) : xe_K p l e R s m args below meth c cells slots Q D A H0 Sg k GT SC RF θ nL wz (pc, lo, st, hp) := by
  obtain ⟨hx, hb, hK, hinj, hfg, hfp, hsg, hlc⟩ := G
  intro ws H locs ls stR hW hsat
  obtain ⟨⟨lv, hl, hlo⟩, hst, hcc⟩ := hsat
  unfold xs_istore at h1
  split at h1
  · rename_i x t hc
    cases h1
    simp only [Bool.and_eq_true] at hc
    have e0 : len = 2 := Nat.eq_of_beq_eq_true hc.1.1
    subst e0
    obtain ⟨_, st0, rfl, ⟨rfl, o0⟩, hs0⟩ := zf_f2_c hst
    refine lv_istore hx hb hdg hl (zf_blt hc.1.2) rfl (fun ls' hl' => ?_)
    exact kk ws H locs ls' _ hW ⟨⟨_, hl', xe_sto_ok hlo hc.2 o0⟩, hs0, hcc⟩
  · cases h1
theorem xo_astore (G : xe_G p l e R s m args below meth c cells slots Q cc D A H0 Sg k θ fg fp sg lc) {j : Nat} (hdg : decode cc pc = .ok (.astore j, len)) (h1 : xs_astore GT SC RF nL fg fp sg lc pc len j lo st hp = some s1) (kk : xe_K p l e R s m args below meth c cells slots Q D A H0 Sg k GT SC RF θ nL wz s1) : xe_K p l e R s m args below meth c cells slots Q D A H0 Sg k GT SC RF θ nL wz (pc, lo, st, hp) := by
  obtain ⟨hx, hb, hK, hinj, hfg, hfp, hsg, hlc⟩ := G
  intro ws H locs ls stR hW hsat
  obtain ⟨⟨lv, hl, hlo⟩, hst, hcc⟩ := hsat
  unfold xs_astore at h1
  split at h1
  · rename_i x t hc
    cases h1
    simp only [Bool.and_eq_true] at hc
    have e0 : len = 2 := Nat.eq_of_beq_eq_true hc.1.1
    subst e0
    obtain ⟨_, st0, rfl, ⟨rfl, o0⟩, hs0⟩ := zf_f2_c hst
    refine lv_astore hx hb hdg hl (zf_blt hc.1.2) rfl (fun ls' hl' => ?_)
    exact kk ws H locs ls' _ hW ⟨⟨_, hl', xe_sto_ok hlo hc.2 o0⟩, hs0, hcc⟩
  · cases h1
theorem xo_astore_n (G : xe_G p l e R s m args below meth c cells slots Q cc D A H0 Sg k θ fg fp sg lc) {j : Fin 4} (hdg : decode cc pc = .ok (.astore_n j, len)) (h1 : xs_astore_n GT SC RF nL fg fp sg lc pc len j lo st hp = some s1) (kk : xe_K p l e R s m args below meth c cells slots Q D A H0 Sg k GT SC RF θ nL wz s1) : xe_K p l e R s m args below meth c cells slots Q D A H0 Sg k GT SC RF θ nL wz (pc, lo, st, hp) := by
  obtain ⟨hx, hb, hK, hinj, hfg, hfp, hsg, hlc⟩ := G
  intro ws H locs ls stR hW hsat
  obtain ⟨⟨lv, hl, hlo⟩, hst, hcc⟩ := hsat
  unfold xs_astore_n at h1
  split at h1
  · rename_i x t hc
    cases h1
    simp only [Bool.and_eq_true] at hc
    have e0 : len = 1 := Nat.eq_of_beq_eq_true hc.1.1
    subst e0
    obtain ⟨_, st0, rfl, ⟨rfl, o0⟩, hs0⟩ := zf_f2_c hst
    refine lv_astore_n hx hb hdg rfl hl (zf_blt hc.1.2) rfl (fun ls' hl' => ?_)
    exact kk ws H locs ls' _ hW ⟨⟨_, hl', xe_sto_ok hlo hc.2 o0⟩, hs0, hcc⟩
  · cases h1
theorem xo_iinc (G : xe_G p l e R s m args below meth c cells slots Q cc D A H0 Sg k θ fg fp sg lc) {j : Nat} {n : Int} (hdg : decode cc pc = .ok (.iinc j n, len)) (h1 : xs_iinc GT SC RF nL fg fp sg lc pc len j n lo st hp = some s1) (kk : xe_K p l e R s m args below meth c cells slots Q D A H0 Sg k GT SC RF θ nL wz s1) : xe_K p l e R s m args below meth c cells slots Q D A H0 Sg k GT SC RF θ nL wz (pc, lo, st, hp) := by
  obtain ⟨hx, hb, hK, hinj, hfg, hfp, hsg, hlc⟩ := G
  intro ws H locs ls stR hW hsat
  obtain ⟨⟨lv, hl, hlo⟩, hst, hcc⟩ := hsat
  unfold xs_iinc at h1
  split at h1
  · rename_i x hc hq
    cases h1
    simp only [Bool.and_eq_true] at hc
    have e0 : len = 3 := Nat.eq_of_beq_eq_true hc.1.1
    subst e0
    obtain ⟨hm, ov⟩ := hlo _ _ hq
    obtain ⟨q9, hq9, e9⟩ := List.getElem_of_mem hm
    have h9 : lv[q9]? = some (j, Value.int x) := List.getElem?_eq_some_iff.mpr ⟨hq9, e9⟩
    refine lv_iinc hx hb hdg hl h9 rfl (zf_blt hc.1.2) rfl (fun ls' hl' => ?_)
    exact kk ws H locs ls' _ hW ⟨⟨_, hl', xe_sto_ok (a := .int (x + Int32.ofInt n)) hlo hc.2 trivial⟩, hst, hcc⟩
  · cases h1
theorem xo_iadd (G : xe_G p l e R s m args below meth c cells slots Q cc D A H0 Sg k θ fg fp sg lc)  (hdg : decode cc pc = .ok (.iadd, len)) (h1 : xs_iadd GT SC RF nL fg fp sg lc pc len  lo st hp = some s1) (kk : xe_K p l e R s m args below meth c cells slots Q D A H0 Sg k GT SC RF θ nL wz s1) : xe_K p l e R s m args below meth c cells slots Q D A H0 Sg k GT SC RF θ nL wz (pc, lo, st, hp) := by
  obtain ⟨hx, hb, hK, hinj, hfg, hfp, hsg, hlc⟩ := G
  intro ws H locs ls stR hW hsat
  obtain ⟨⟨lv, hl, hlo⟩, hst, hcc⟩ := hsat
  unfold xs_iadd at h1
  split at h1
  · rename_i y x t hc
    cases h1
    have e0 : len = 1 := Nat.eq_of_beq_eq_true hc
    subst e0
    obtain ⟨_, st0, rfl, ⟨rfl, o0⟩, hs0⟩ := zf_f2_c hst
    obtain ⟨_, st1, rfl, ⟨rfl, o1⟩, hs1⟩ := zf_f2_c hs0
    exact lv_iadd hx hb hdg (kk ws H locs ls _ hW ⟨⟨lv, hl, hlo⟩, ⟨⟨rfl, trivial⟩, hs1⟩, hcc⟩)
  · cases h1
theorem xo_isub (G : xe_G p l e R s m args below meth c cells slots Q cc D A H0 Sg k θ fg fp sg lc)  (hdg : decode cc pc = .ok (.isub, len)) (h1 : xs_isub GT SC RF nL fg fp sg lc pc len  lo st hp = some s1) (kk : xe_K p l e R s m args below meth c cells slots Q D A H0 Sg k GT SC RF θ nL wz s1) : xe_K p l e R s m args below meth c cells slots Q D A H0 Sg k GT SC RF θ nL wz (pc, lo, st, hp) := by
  obtain ⟨hx, hb, hK, hinj, hfg, hfp, hsg, hlc⟩ := G
  intro ws H locs ls stR hW hsat
  obtain ⟨⟨lv, hl, hlo⟩, hst, hcc⟩ := hsat
  unfold xs_isub at h1
  split at h1
  · rename_i y x t hc
    cases h1
    have e0 : len = 1 := Nat.eq_of_beq_eq_true hc
    subst e0
    obtain ⟨_, st0, rfl, ⟨rfl, o0⟩, hs0⟩ := zf_f2_c hst
    obtain ⟨_, st1, rfl, ⟨rfl, o1⟩, hs1⟩ := zf_f2_c hs0
    exact lv_isub hx hb hdg (kk ws H locs ls _ hW ⟨⟨lv, hl, hlo⟩, ⟨⟨rfl, trivial⟩, hs1⟩, hcc⟩)
  · cases h1
theorem xo_imul (G : xe_G p l e R s m args below meth c cells slots Q cc D A H0 Sg k θ fg fp sg lc)  (hdg : decode cc pc = .ok (.imul, len)) (h1 : xs_imul GT SC RF nL fg fp sg lc pc len  lo st hp = some s1) (kk : xe_K p l e R s m args below meth c cells slots Q D A H0 Sg k GT SC RF θ nL wz s1) : xe_K p l e R s m args below meth c cells slots Q D A H0 Sg k GT SC RF θ nL wz (pc, lo, st, hp) := by
  obtain ⟨hx, hb, hK, hinj, hfg, hfp, hsg, hlc⟩ := G
  intro ws H locs ls stR hW hsat
  obtain ⟨⟨lv, hl, hlo⟩, hst, hcc⟩ := hsat
  unfold xs_imul at h1
  split at h1
  · rename_i y x t hc
    cases h1
    have e0 : len = 1 := Nat.eq_of_beq_eq_true hc
    subst e0
    obtain ⟨_, st0, rfl, ⟨rfl, o0⟩, hs0⟩ := zf_f2_c hst
    obtain ⟨_, st1, rfl, ⟨rfl, o1⟩, hs1⟩ := zf_f2_c hs0
    exact lv_imul hx hb hdg (kk ws H locs ls _ hW ⟨⟨lv, hl, hlo⟩, ⟨⟨rfl, trivial⟩, hs1⟩, hcc⟩)
  · cases h1
theorem xo_iand (G : xe_G p l e R s m args below meth c cells slots Q cc D A H0 Sg k θ fg fp sg lc)  (hdg : decode cc pc = .ok (.iand, len)) (h1 : xs_iand GT SC RF nL fg fp sg lc pc len  lo st hp = some s1) (kk : xe_K p l e R s m args below meth c cells slots Q D A H0 Sg k GT SC RF θ nL wz s1) : xe_K p l e R s m args below meth c cells slots Q D A H0 Sg k GT SC RF θ nL wz (pc, lo, st, hp) := by
  obtain ⟨hx, hb, hK, hinj, hfg, hfp, hsg, hlc⟩ := G
  intro ws H locs ls stR hW hsat
  obtain ⟨⟨lv, hl, hlo⟩, hst, hcc⟩ := hsat
  unfold xs_iand at h1
  split at h1
  · rename_i y x t hc
    cases h1
    have e0 : len = 1 := Nat.eq_of_beq_eq_true hc
    subst e0
    obtain ⟨_, st0, rfl, ⟨rfl, o0⟩, hs0⟩ := zf_f2_c hst
    obtain ⟨_, st1, rfl, ⟨rfl, o1⟩, hs1⟩ := zf_f2_c hs0
    exact lv_iand hx hb hdg (kk ws H locs ls _ hW ⟨⟨lv, hl, hlo⟩, ⟨⟨rfl, trivial⟩, hs1⟩, hcc⟩)
  · cases h1
theorem xo_ior (G : xe_G p l e R s m args below meth c cells slots Q cc D A H0 Sg k θ fg fp sg lc)  (hdg : decode cc pc = .ok (.ior, len)) (h1 : xs_ior GT SC RF nL fg fp sg lc pc len  lo st hp = some s1) (kk : xe_K p l e R s m args below meth c cells slots Q D A H0 Sg k GT SC RF θ nL wz s1) : xe_K p l e R s m args below meth c cells slots Q D A H0 Sg k GT SC RF θ nL wz (pc, lo, st, hp) := by
  obtain ⟨hx, hb, hK, hinj, hfg, hfp, hsg, hlc⟩ := G
  intro ws H locs ls stR hW hsat
  obtain ⟨⟨lv, hl, hlo⟩, hst, hcc⟩ := hsat
  unfold xs_ior at h1
  split at h1
  · rename_i y x t hc
    cases h1
    have e0 : len = 1 := Nat.eq_of_beq_eq_true hc
    subst e0
    obtain ⟨_, st0, rfl, ⟨rfl, o0⟩, hs0⟩ := zf_f2_c hst
    obtain ⟨_, st1, rfl, ⟨rfl, o1⟩, hs1⟩ := zf_f2_c hs0
    exact lv_ior hx hb hdg (kk ws H locs ls _ hW ⟨⟨lv, hl, hlo⟩, ⟨⟨rfl, trivial⟩, hs1⟩, hcc⟩)
  · cases h1
theorem xo_ishl (G : xe_G p l e R s m args below meth c cells slots Q cc D A H0 Sg k θ fg fp sg lc)  (hdg : decode cc pc = .ok (.ishl, len)) (h1 : xs_ishl GT SC RF nL fg fp sg lc pc len  lo st hp = some s1) (kk : xe_K p l e R s m args below meth c cells slots Q D A H0 Sg k GT SC RF θ nL wz s1) : xe_K p l e R s m args below meth c cells slots Q D A H0 Sg k GT SC RF θ nL wz (pc, lo, st, hp) := by
  obtain ⟨hx, hb, hK, hinj, hfg, hfp, hsg, hlc⟩ := G
  intro ws H locs ls stR hW hsat
  obtain ⟨⟨lv, hl, hlo⟩, hst, hcc⟩ := hsat
  unfold xs_ishl at h1
  split at h1
  · rename_i y x t hc
    cases h1
    have e0 : len = 1 := Nat.eq_of_beq_eq_true hc
    subst e0
    obtain ⟨_, st0, rfl, ⟨rfl, o0⟩, hs0⟩ := zf_f2_c hst
    obtain ⟨_, st1, rfl, ⟨rfl, o1⟩, hs1⟩ := zf_f2_c hs0
    exact lv_ishl hx hb hdg (kk ws H locs ls _ hW ⟨⟨lv, hl, hlo⟩, ⟨⟨rfl, trivial⟩, hs1⟩, hcc⟩)
  · cases h1
theorem xo_ishr (G : xe_G p l e R s m args below meth c cells slots Q cc D A H0 Sg k θ fg fp sg lc)  (hdg : decode cc pc = .ok (.ishr, len)) (h1 : xs_ishr GT SC RF nL fg fp sg lc pc len  lo st hp = some s1) (kk : xe_K p l e R s m args below meth c cells slots Q D A H0 Sg k GT SC RF θ nL wz s1) : xe_K p l e R s m args below meth c cells slots Q D A H0 Sg k GT SC RF θ nL wz (pc, lo, st, hp) := by
  obtain ⟨hx, hb, hK, hinj, hfg, hfp, hsg, hlc⟩ := G
  intro ws H locs ls stR hW hsat
  obtain ⟨⟨lv, hl, hlo⟩, hst, hcc⟩ := hsat
  unfold xs_ishr at h1
  split at h1
  · rename_i y x t hc
    cases h1
    have e0 : len = 1 := Nat.eq_of_beq_eq_true hc
    subst e0
    obtain ⟨_, st0, rfl, ⟨rfl, o0⟩, hs0⟩ := zf_f2_c hst
    obtain ⟨_, st1, rfl, ⟨rfl, o1⟩, hs1⟩ := zf_f2_c hs0
    exact lv_ishr hx hb hdg (kk ws H locs ls _ hW ⟨⟨lv, hl, hlo⟩, ⟨⟨rfl, trivial⟩, hs1⟩, hcc⟩)
  · cases h1
theorem xo_iushr (G : xe_G p l e R s m args below meth c cells slots Q cc D A H0 Sg k θ fg fp sg lc)  (hdg : decode cc pc = .ok (.iushr, len)) (h1 : xs_iushr GT SC RF nL fg fp sg lc pc len  lo st hp = some s1) (kk : xe_K p l e R s m args below meth c cells slots Q D A H0 Sg k GT SC RF θ nL wz s1) : xe_K p l e R s m args below meth c cells slots Q D A H0 Sg k GT SC RF θ nL wz (pc, lo, st, hp) := by
  obtain ⟨hx, hb, hK, hinj, hfg, hfp, hsg, hlc⟩ := G
  intro ws H locs ls stR hW hsat
  obtain ⟨⟨lv, hl, hlo⟩, hst, hcc⟩ := hsat
  unfold xs_iushr at h1
  split at h1
  · rename_i y x t hc
    cases h1
    have e0 : len = 1 := Nat.eq_of_beq_eq_true hc
    subst e0
    obtain ⟨_, st0, rfl, ⟨rfl, o0⟩, hs0⟩ := zf_f2_c hst
    obtain ⟨_, st1, rfl, ⟨rfl, o1⟩, hs1⟩ := zf_f2_c hs0
    exact lv_iushr hx hb hdg rfl (kk ws H locs ls _ hW ⟨⟨lv, hl, hlo⟩, ⟨⟨rfl, trivial⟩, hs1⟩, hcc⟩)
  · cases h1
theorem xo_ladd (G : xe_G p l e R s m args below meth c cells slots Q cc D A H0 Sg k θ fg fp sg lc)  (hdg : decode cc pc = .ok (.ladd, len)) (h1 : xs_ladd GT SC RF nL fg fp sg lc pc len  lo st hp = some s1) (kk : xe_K p l e R s m args below meth c cells slots Q D A H0 Sg k GT SC RF θ nL wz s1) : xe_K p l e R s m args below meth c cells slots Q D A H0 Sg k GT SC RF θ nL wz (pc, lo, st, hp) := by
  obtain ⟨hx, hb, hK, hinj, hfg, hfp, hsg, hlc⟩ := G
  intro ws H locs ls stR hW hsat
  obtain ⟨⟨lv, hl, hlo⟩, hst, hcc⟩ := hsat
  unfold xs_ladd at h1
  split at h1
  · rename_i y x t hc
    cases h1
    have e0 : len = 1 := Nat.eq_of_beq_eq_true hc
    subst e0
    obtain ⟨_, st0, rfl, ⟨rfl, o0⟩, hs0⟩ := zf_f2_c hst
    obtain ⟨_, st1, rfl, ⟨rfl, o1⟩, hs1⟩ := zf_f2_c hs0
    exact lv_ladd hx hb hdg (kk ws H locs ls _ hW ⟨⟨lv, hl, hlo⟩, ⟨⟨rfl, trivial⟩, hs1⟩, hcc⟩)
  · cases h1
theorem xo_lmul (G : xe_G p l e R s m args below meth c cells slots Q cc D A H0 Sg k θ fg fp sg lc)  (hdg : decode cc pc = .ok (.lmul, len)) (h1 : xs_lmul GT SC RF nL fg fp sg lc pc len  lo st hp = some s1) (kk : xe_K p l e R s m args below meth c cells slots Q D A H0 Sg k GT SC RF θ nL wz s1) : xe_K p l e R s m args below meth c cells slots Q D A H0 Sg k GT SC RF θ nL wz (pc, lo, st, hp) := by
  obtain ⟨hx, hb, hK, hinj, hfg, hfp, hsg, hlc⟩ := G
  intro ws H locs ls stR hW hsat
  obtain ⟨⟨lv, hl, hlo⟩, hst, hcc⟩ := hsat
  unfold xs_lmul at h1
  split at h1
  · rename_i y x t hc
    cases h1
    have e0 : len = 1 := Nat.eq_of_beq_eq_true hc
    subst e0
    obtain ⟨_, st0, rfl, ⟨rfl, o0⟩, hs0⟩ := zf_f2_c hst
    obtain ⟨_, st1, rfl, ⟨rfl, o1⟩, hs1⟩ := zf_f2_c hs0
    exact lv_lmul hx hb hdg (kk ws H locs ls _ hW ⟨⟨lv, hl, hlo⟩, ⟨⟨rfl, trivial⟩, hs1⟩, hcc⟩)
  · cases h1
theorem xo_lor (G : xe_G p l e R s m args below meth c cells slots Q cc D A H0 Sg k θ fg fp sg lc)  (hdg : decode cc pc = .ok (.lor, len)) (h1 : xs_lor GT SC RF nL fg fp sg lc pc len  lo st hp = some s1) (kk : xe_K p l e R s m args below meth c cells slots Q D A H0 Sg k GT SC RF θ nL wz s1) : xe_K p l e R s m args below meth c cells slots Q D A H0 Sg k GT SC RF θ nL wz (pc, lo, st, hp) := by
  obtain ⟨hx, hb, hK, hinj, hfg, hfp, hsg, hlc⟩ := G
  intro ws H locs ls stR hW hsat
  obtain ⟨⟨lv, hl, hlo⟩, hst, hcc⟩ := hsat
  unfold xs_lor at h1
  split at h1
  · rename_i y x t hc
    cases h1
    have e0 : len = 1 := Nat.eq_of_beq_eq_true hc
    subst e0
    obtain ⟨_, st0, rfl, ⟨rfl, o0⟩, hs0⟩ := zf_f2_c hst
    obtain ⟨_, st1, rfl, ⟨rfl, o1⟩, hs1⟩ := zf_f2_c hs0
    exact lv_lor hx hb hdg (kk ws H locs ls _ hW ⟨⟨lv, hl, hlo⟩, ⟨⟨rfl, trivial⟩, hs1⟩, hcc⟩)
  · cases h1
theorem xo_lshl (G : xe_G p l e R s m args below meth c cells slots Q cc D A H0 Sg k θ fg fp sg lc)  (hdg : decode cc pc = .ok (.lshl, len)) (h1 : xs_lshl GT SC RF nL fg fp sg lc pc len  lo st hp = some s1) (kk : xe_K p l e R s m args below meth c cells slots Q D A H0 Sg k GT SC RF θ nL wz s1) : xe_K p l e R s m args below meth c cells slots Q D A H0 Sg k GT SC RF θ nL wz (pc, lo, st, hp) := by
  obtain ⟨hx, hb, hK, hinj, hfg, hfp, hsg, hlc⟩ := G
  intro ws H locs ls stR hW hsat
  obtain ⟨⟨lv, hl, hlo⟩, hst, hcc⟩ := hsat
  unfold xs_lshl at h1
  split at h1
  · rename_i y x t hc
    cases h1
    have e0 : len = 1 := Nat.eq_of_beq_eq_true hc
    subst e0
    obtain ⟨_, st0, rfl, ⟨rfl, o0⟩, hs0⟩ := zf_f2_c hst
    obtain ⟨_, st1, rfl, ⟨rfl, o1⟩, hs1⟩ := zf_f2_c hs0
    exact lv_lshl hx hb hdg rfl (kk ws H locs ls _ hW ⟨⟨lv, hl, hlo⟩, ⟨⟨rfl, trivial⟩, hs1⟩, hcc⟩)
  · cases h1
theorem xo_lcmp (G : xe_G p l e R s m args below meth c cells slots Q cc D A H0 Sg k θ fg fp sg lc)  (hdg : decode cc pc = .ok (.lcmp, len)) (h1 : xs_lcmp GT SC RF nL fg fp sg lc pc len  lo st hp = some s1) (kk : xe_K p l e R s m args below meth c cells slots Q D A H0 Sg k GT SC RF θ nL wz s1) : xe_K p l e R s m args below meth c cells slots Q D A H0 Sg k GT SC RF θ nL wz (pc, lo, st, hp) := by
  obtain ⟨hx, hb, hK, hinj, hfg, hfp, hsg, hlc⟩ := G
  intro ws H locs ls stR hW hsat
  obtain ⟨⟨lv, hl, hlo⟩, hst, hcc⟩ := hsat
  unfold xs_lcmp at h1
  split at h1
  · rename_i y x t hc
    cases h1
    have e0 : len = 1 := Nat.eq_of_beq_eq_true hc
    subst e0
    obtain ⟨_, st0, rfl, ⟨rfl, o0⟩, hs0⟩ := zf_f2_c hst
    obtain ⟨_, st1, rfl, ⟨rfl, o1⟩, hs1⟩ := zf_f2_c hs0
    exact W.lcmp hx hb hdg (kk ws H locs ls _ hW ⟨⟨lv, hl, hlo⟩, ⟨⟨rfl, trivial⟩, hs1⟩, hcc⟩)
  · cases h1
theorem xo_i2l (G : xe_G p l e R s m args below meth c cells slots Q cc D A H0 Sg k θ fg fp sg lc)  (hdg : decode cc pc = .ok (.i2l, len)) (h1 : xs_i2l GT SC RF nL fg fp sg lc pc len  lo st hp = some s1) (kk : xe_K p l e R s m args below meth c cells slots Q D A H0 Sg k GT SC RF θ nL wz s1) : xe_K p l e R s m args below meth c cells slots Q D A H0 Sg k GT SC RF θ nL wz (pc, lo, st, hp) := by
  obtain ⟨hx, hb, hK, hinj, hfg, hfp, hsg, hlc⟩ := G
  intro ws H locs ls stR hW hsat
  obtain ⟨⟨lv, hl, hlo⟩, hst, hcc⟩ := hsat
  unfold xs_i2l at h1
  split at h1
  · rename_i x t hc
    cases h1
    have e0 : len = 1 := Nat.eq_of_beq_eq_true hc
    subst e0
    obtain ⟨_, st0, rfl, ⟨rfl, o0⟩, hs0⟩ := zf_f2_c hst
    exact lv_i2l hx hb hdg rfl (kk ws H locs ls _ hW ⟨⟨lv, hl, hlo⟩, ⟨⟨rfl, trivial⟩, hs0⟩, hcc⟩)
  · cases h1
theorem xo_i2b (G : xe_G p l e R s m args below meth c cells slots Q cc D A H0 Sg k θ fg fp sg lc)  (hdg : decode cc pc = .ok (.i2b, len)) (h1 : xs_i2b GT SC RF nL fg fp sg lc pc len  lo st hp = some s1) (kk : xe_K p l e R s m args below meth c cells slots Q D A H0 Sg k GT SC RF θ nL wz s1) : xe_K p l e R s m args below meth c cells slots Q D A H0 Sg k GT SC RF θ nL wz (pc, lo, st, hp) := by
  obtain ⟨hx, hb, hK, hinj, hfg, hfp, hsg, hlc⟩ := G
  intro ws H locs ls stR hW hsat
  obtain ⟨⟨lv, hl, hlo⟩, hst, hcc⟩ := hsat
  unfold xs_i2b at h1
  split at h1
  · rename_i x t hc
    cases h1
    have e0 : len = 1 := Nat.eq_of_beq_eq_true hc
    subst e0
    obtain ⟨_, st0, rfl, ⟨rfl, o0⟩, hs0⟩ := zf_f2_c hst
    exact lv_i2b hx hb hdg rfl (kk ws H locs ls _ hW ⟨⟨lv, hl, hlo⟩, ⟨⟨rfl, trivial⟩, hs0⟩, hcc⟩)
  · cases h1
theorem xo_dup (G : xe_G p l e R s m args below meth c cells slots Q cc D A H0 Sg k θ fg fp sg lc)  (hdg : decode cc pc = .ok (.dup, len)) (h1 : xs_dup GT SC RF nL fg fp sg lc pc len  lo st hp = some s1) (kk : xe_K p l e R s m args below meth c cells slots Q D A H0 Sg k GT SC RF θ nL wz s1) : xe_K p l e R s m args below meth c cells slots Q D A H0 Sg k GT SC RF θ nL wz (pc, lo, st, hp) := by
  obtain ⟨hx, hb, hK, hinj, hfg, hfp, hsg, hlc⟩ := G
  intro ws H locs ls stR hW hsat
  obtain ⟨⟨lv, hl, hlo⟩, hst, hcc⟩ := hsat
  unfold xs_dup at h1
  split at h1
  · rename_i a t hc
    split at h1
    · rename_i hc1
      cases h1
      have e0 : len = 1 := Nat.eq_of_beq_eq_true hc
      subst e0
      obtain ⟨_, st0, rfl, ⟨rfl, o0⟩, hs0⟩ := zf_f2_c hst
      exact lv_dup hx hb hdg (xe_c1_ok hc1) (kk ws H locs ls _ hW ⟨⟨lv, hl, hlo⟩, ⟨⟨rfl, o0⟩, ⟨rfl, o0⟩, hs0⟩, hcc⟩)
    · cases h1
  · cases h1
theorem xo_dup2 (G : xe_G p l e R s m args below meth c cells slots Q cc D A H0 Sg k θ fg fp sg lc)  (hdg : decode cc pc = .ok (.dup2, len)) (h1 : xs_dup2 GT SC RF nL fg fp sg lc pc len  lo st hp = some s1) (kk : xe_K p l e R s m args below meth c cells slots Q D A H0 Sg k GT SC RF θ nL wz s1) : xe_K p l e R s m args below meth c cells slots Q D A H0 Sg k GT SC RF θ nL wz (pc, lo, st, hp) := by
  obtain ⟨hx, hb, hK, hinj, hfg, hfp, hsg, hlc⟩ := G
  intro ws H locs ls stR hW hsat
  obtain ⟨⟨lv, hl, hlo⟩, hst, hcc⟩ := hsat
  unfold xs_dup2 at h1
  split at h1
  · rename_i a b t hc
    split at h1
    · rename_i hc1
      cases h1
      rw [Bool.and_eq_true] at hc1
      have e0 : len = 1 := Nat.eq_of_beq_eq_true hc
      subst e0
      obtain ⟨_, st0, rfl, ⟨rfl, o0⟩, hs0⟩ := zf_f2_c hst
      obtain ⟨_, st1, rfl, ⟨rfl, o1⟩, hs1⟩ := zf_f2_c hs0
      exact lv_dup2_11 hx hb hdg (xe_c1_ok hc1.1) (xe_c1_ok hc1.2) (kk ws H locs ls _ hW ⟨⟨lv, hl, hlo⟩, ⟨⟨rfl, o0⟩, ⟨rfl, o1⟩, ⟨rfl, o0⟩, ⟨rfl, o1⟩, hs1⟩, hcc⟩)
    · cases h1
  · cases h1
theorem xo_pop (G : xe_G p l e R s m args below meth c cells slots Q cc D A H0 Sg k θ fg fp sg lc)  (hdg : decode cc pc = .ok (.pop, len)) (h1 : xs_pop GT SC RF nL fg fp sg lc pc len  lo st hp = some s1) (kk : xe_K p l e R s m args below meth c cells slots Q D A H0 Sg k GT SC RF θ nL wz s1) : xe_K p l e R s m args below meth c cells slots Q D A H0 Sg k GT SC RF θ nL wz (pc, lo, st, hp) := by
  obtain ⟨hx, hb, hK, hinj, hfg, hfp, hsg, hlc⟩ := G
  intro ws H locs ls stR hW hsat
  obtain ⟨⟨lv, hl, hlo⟩, hst, hcc⟩ := hsat
  unfold xs_pop at h1
  split at h1
  · rename_i a t hc
    split at h1
    · rename_i hc1
      cases h1
      have e0 : len = 1 := Nat.eq_of_beq_eq_true hc
      subst e0
      obtain ⟨_, st0, rfl, ⟨rfl, o0⟩, hs0⟩ := zf_f2_c hst
      exact lv_pop hx hb hdg (xe_c1_ok hc1) (kk ws H locs ls _ hW ⟨⟨lv, hl, hlo⟩, hs0, hcc⟩)
    · cases h1
  · cases h1
theorem xo_goto (G : xe_G p l e R s m args below meth c cells slots Q cc D A H0 Sg k θ fg fp sg lc) {off : Int} (hdg : decode cc pc = .ok (.goto off, len)) (h1 : xs_goto GT SC RF nL fg fp sg lc pc len off lo st hp = some s1) (kk : xe_K p l e R s m args below meth c cells slots Q D A H0 Sg k GT SC RF θ nL wz s1) : xe_K p l e R s m args below meth c cells slots Q D A H0 Sg k GT SC RF θ nL wz (pc, lo, st, hp) := by
  obtain ⟨hx, hb, hK, hinj, hfg, hfp, hsg, hlc⟩ := G
  intro ws H locs ls stR hW hsat
  obtain ⟨⟨lv, hl, hlo⟩, hst, hcc⟩ := hsat
  unfold xs_goto at h1
  split at h1
  · rename_i hc
    cases h1
    rw [Bool.and_eq_true] at hc
    have e0 : len = 3 := Nat.eq_of_beq_eq_true hc.1
    subst e0
    exact lv_goto hx hb hdg (zf_tgt_ok hc.2) (kk ws H locs ls _ hW ⟨⟨lv, hl, hlo⟩, hst, hcc⟩)
  · cases h1
theorem xo_ifCond (G : xe_G p l e R s m args below meth c cells slots Q cc D A H0 Sg k θ fg fp sg lc) {c9 : ClassFile.Cond} {off : Int} (hdg : decode cc pc = .ok (.ifCond c9 off, len)) (h1 : xs_ifCond GT SC RF nL fg fp sg lc pc len c9 off lo st hp = some s1) (kk : xe_K p l e R s m args below meth c cells slots Q D A H0 Sg k GT SC RF θ nL wz s1) : xe_K p l e R s m args below meth c cells slots Q D A H0 Sg k GT SC RF θ nL wz (pc, lo, st, hp) := by
  obtain ⟨hx, hb, hK, hinj, hfg, hfp, hsg, hlc⟩ := G
  intro ws H locs ls stR hW hsat
  obtain ⟨⟨lv, hl, hlo⟩, hst, hcc⟩ := hsat
  unfold xs_ifCond at h1
  split at h1
  · rename_i x t hc
    cases h1
    rw [Bool.and_eq_true] at hc
    have e0 : len = 3 := Nat.eq_of_beq_eq_true hc.1
    subst e0
    have tg := zf_tgt_ok hc.2
    obtain ⟨_, st0, rfl, ⟨rfl, o0⟩, hs0⟩ := zf_f2_c hst
    have kt : xe_cmp c9 x 0 = true → W p l e R s m args below meth c H locs cells slots Q (F0 m (zf_tgt pc off) ls st0) := fun h => by
      have k9 := kk ws H locs ls st0 hW
      rw [h] at k9
      exact k9 ⟨⟨lv, hl, hlo⟩, hs0, hcc⟩
    have kf : xe_cmp c9 x 0 = false → W p l e R s m args below meth c H locs cells slots Q (F0 m (pc + 3) ls st0) := fun h => by
      have k9 := kk ws H locs ls st0 hW
      rw [h] at k9
      exact k9 ⟨⟨lv, hl, hlo⟩, hs0, hcc⟩
    cases c9 with
    | eq => exact lv_if_eq hx hb hdg tg (fun h => kt (decide_eq_true h)) (fun h => kf (decide_eq_false h))
    | ne => exact lv_if_ne hx hb hdg tg (fun h => kt (decide_eq_true h)) (fun h => kf (decide_eq_false (fun q => q h)))
    | lt => exact lv_if_lt hx hb hdg tg (fun h => kt (decide_eq_true h)) (fun h => kf (decide_eq_false h))
    | ge => exact lv_if_ge hx hb hdg tg (fun h => kt (decide_eq_true h)) (fun h => kf (decide_eq_false h))
    | gt => exact lv_if_gt hx hb hdg tg (fun h => kt (decide_eq_true h)) (fun h => kf (decide_eq_false h))
    | le => exact lv_if_le hx hb hdg tg (fun h => kt (decide_eq_true h)) (fun h => kf (decide_eq_false h))
  · cases h1
theorem xo_if_icmp (G : xe_G p l e R s m args below meth c cells slots Q cc D A H0 Sg k θ fg fp sg lc) {c9 : ClassFile.Cond} {off : Int} (hdg : decode cc pc = .ok (.if_icmp c9 off, len)) (h1 : xs_if_icmp GT SC RF nL fg fp sg lc pc len c9 off lo st hp = some s1) (kk : xe_K p l e R s m args below meth c cells slots Q D A H0 Sg k GT SC RF θ nL wz s1) : xe_K p l e R s m args below meth c cells slots Q D A H0 Sg k GT SC RF θ nL wz (pc, lo, st, hp) := by
  obtain ⟨hx, hb, hK, hinj, hfg, hfp, hsg, hlc⟩ := G
  intro ws H locs ls stR hW hsat
  obtain ⟨⟨lv, hl, hlo⟩, hst, hcc⟩ := hsat
  unfold xs_if_icmp at h1
  split at h1
  · rename_i y x t hc
    cases h1
    rw [Bool.and_eq_true] at hc
    have e0 : len = 3 := Nat.eq_of_beq_eq_true hc.1
    subst e0
    have tg := zf_tgt_ok hc.2
    obtain ⟨_, st0, rfl, ⟨rfl, o0⟩, hs0⟩ := zf_f2_c hst
    obtain ⟨_, st1, rfl, ⟨rfl, o1⟩, hs1⟩ := zf_f2_c hs0
    have kt : xe_cmp c9 x y = true → W p l e R s m args below meth c H locs cells slots Q (F0 m (zf_tgt pc off) ls st1) := fun h => by
      have k9 := kk ws H locs ls st1 hW
      rw [h] at k9
      exact k9 ⟨⟨lv, hl, hlo⟩, hs1, hcc⟩
    have kf : xe_cmp c9 x y = false → W p l e R s m args below meth c H locs cells slots Q (F0 m (pc + 3) ls st1) := fun h => by
      have k9 := kk ws H locs ls st1 hW
      rw [h] at k9
      exact k9 ⟨⟨lv, hl, hlo⟩, hs1, hcc⟩
    cases c9 with
    | eq => exact lv_icmp_eq hx hb hdg tg (fun h => kt (decide_eq_true h)) (fun h => kf (decide_eq_false h))
    | ne => exact lv_icmp_ne hx hb hdg tg (fun h => kt (decide_eq_true h)) (fun h => kf (decide_eq_false (fun q => q h)))
    | lt => exact lv_icmp_lt hx hb hdg tg (fun h => kt (decide_eq_true h)) (fun h => kf (decide_eq_false h))
    | ge => exact lv_icmp_ge hx hb hdg tg (fun h => kt (decide_eq_true h)) (fun h => kf (decide_eq_false h))
    | gt => exact lv_icmp_gt hx hb hdg tg (fun h => kt (decide_eq_true h)) (fun h => kf (decide_eq_false h))
    | le => exact lv_icmp_le hx hb hdg tg (fun h => kt (decide_eq_true h)) (fun h => kf (decide_eq_false h))
  · cases h1
theorem xo_acmp_eq (G : xe_G p l e R s m args below meth c cells slots Q cc D A H0 Sg k θ fg fp sg lc) {off : Int} (hdg : decode cc pc = .ok (.if_acmp .eq off, len)) (h1 : xs_acmp_eq GT SC RF nL fg fp sg lc pc len off lo st hp = some s1) (kk : xe_K p l e R s m args below meth c cells slots Q D A H0 Sg k GT SC RF θ nL wz s1) : xe_K p l e R s m args below meth c cells slots Q D A H0 Sg k GT SC RF θ nL wz (pc, lo, st, hp) := by
  obtain ⟨hx, hb, hK, hinj, hfg, hfp, hsg, hlc⟩ := G
  intro ws H locs ls stR hW hsat
  obtain ⟨⟨lv, hl, hlo⟩, hst, hcc⟩ := hsat
  unfold xs_acmp_eq at h1
  split at h1
  · rename_i y x t hc
    cases h1
    rw [Bool.and_eq_true] at hc
    have e0 : len = 3 := Nat.eq_of_beq_eq_true hc.1
    subst e0
    have tg := zf_tgt_ok hc.2
    obtain ⟨_, st0, rfl, ⟨rfl, o0⟩, hs0⟩ := zf_f2_c hst
    obtain ⟨_, st1, rfl, ⟨rfl, o1⟩, hs1⟩ := zf_f2_c hs0
    have kt : x = y → W p l e R s m args below meth c H locs cells slots Q (F0 m (zf_tgt pc off) ls st1) := fun h => by
      have k9 := kk ws H locs ls st1 hW
      rw [show Nat.beq x y = true from by rw [h]; exact Nat.beq_refl y] at k9
      exact k9 ⟨⟨lv, hl, hlo⟩, hs1, hcc⟩
    have kf : ¬ x = y → W p l e R s m args below meth c H locs cells slots Q (F0 m (pc + 3) ls st1) := fun h => by
      have k9 := kk ws H locs ls st1 hW
      rw [show Nat.beq x y = false from by cases hb9 : Nat.beq x y; rfl; exact absurd (Nat.eq_of_beq_eq_true hb9) h] at k9
      exact k9 ⟨⟨lv, hl, hlo⟩, hs1, hcc⟩
    exact lv_acmp_eq (rx := some (θ x)) (ry := some (θ y)) hx hb hdg tg (fun h => kt (hinj x y o1 o0 (Option.some.inj h))) (fun h => kf (fun q => h (by rw [q])))
  · cases h1
theorem xo_acmp_ne (G : xe_G p l e R s m args below meth c cells slots Q cc D A H0 Sg k θ fg fp sg lc) {off : Int} (hdg : decode cc pc = .ok (.if_acmp .ne off, len)) (h1 : xs_acmp_ne GT SC RF nL fg fp sg lc pc len off lo st hp = some s1) (kk : xe_K p l e R s m args below meth c cells slots Q D A H0 Sg k GT SC RF θ nL wz s1) : xe_K p l e R s m args below meth c cells slots Q D A H0 Sg k GT SC RF θ nL wz (pc, lo, st, hp) := by
  obtain ⟨hx, hb, hK, hinj, hfg, hfp, hsg, hlc⟩ := G
  intro ws H locs ls stR hW hsat
  obtain ⟨⟨lv, hl, hlo⟩, hst, hcc⟩ := hsat
  unfold xs_acmp_ne at h1
  split at h1
  · rename_i y x t hc
    cases h1
    rw [Bool.and_eq_true] at hc
    have e0 : len = 3 := Nat.eq_of_beq_eq_true hc.1
    subst e0
    have tg := zf_tgt_ok hc.2
    obtain ⟨_, st0, rfl, ⟨rfl, o0⟩, hs0⟩ := zf_f2_c hst
    obtain ⟨_, st1, rfl, ⟨rfl, o1⟩, hs1⟩ := zf_f2_c hs0
    have kt : x = y → W p l e R s m args below meth c H locs cells slots Q (F0 m (pc + 3) ls st1) := fun h => by
      have k9 := kk ws H locs ls st1 hW
      rw [show Nat.beq x y = true from by rw [h]; exact Nat.beq_refl y] at k9
      exact k9 ⟨⟨lv, hl, hlo⟩, hs1, hcc⟩
    have kf : ¬ x = y → W p l e R s m args below meth c H locs cells slots Q (F0 m (zf_tgt pc off) ls st1) := fun h => by
      have k9 := kk ws H locs ls st1 hW
      rw [show Nat.beq x y = false from by cases hb9 : Nat.beq x y; rfl; exact absurd (Nat.eq_of_beq_eq_true hb9) h] at k9
      exact k9 ⟨⟨lv, hl, hlo⟩, hs1, hcc⟩
    exact lv_acmp_ne (rx := some (θ x)) (ry := some (θ y)) hx hb hdg tg (fun h => kf (fun q => h (by rw [q]))) (fun h => kt (hinj x y o1 o0 (Option.some.inj h)))
  · cases h1
theorem xo_getfield (G : xe_G p l e R s m args below meth c cells slots Q cc D A H0 Sg k θ fg fp sg lc) {j : Nat} (hdg : decode cc pc = .ok (.getfield j, len)) (h1 : xs_getfield GT SC RF nL fg fp sg lc pc len j lo st hp = some s1) (kk : xe_K p l e R s m args below meth c cells slots Q D A H0 Sg k GT SC RF θ nL wz s1) : xe_K p l e R s m args below meth c cells slots Q D A H0 Sg k GT SC RF θ nL wz (pc, lo, st, hp) := by
  obtain ⟨hx, hb, hK, hinj, hfg, hfp, hsg, hlc⟩ := G
  intro ws H locs ls stR hW hsat
  obtain ⟨⟨lv, hl, hlo⟩, hst, hcc⟩ := hsat
  unfold xs_getfield at h1
  split at h1
  · rename_i x g t hc hf
    have e0 : len = 3 := Nat.eq_of_beq_eq_true hc
    subst e0
    obtain ⟨_, st0, rfl, ⟨rfl, o0⟩, hs0⟩ := zf_f2_c hst
    split at h1
    · rename_i qq hk1 hsp
      split at h1
      · rename_i hg
        cases h1
        obtain ⟨k1, k2, k3⟩ := zf_knd_ok hk1
        obtain ⟨q0, en, p1, p2⟩ := hW.2.2.2.1 _ _ (hcc.1 g hg).2.1 k3
        obtain ⟨fs, rfl, hlen⟩ := zf_obj p2 k1 k2
        have hv := xe_rd hW.2.1 (xe_gI hcc hg hsp) p1
        exact hfg _ (zf_fl_ok hf) H locs ws _ q0 fs _ _ pc ls hW.1 p1 hv hdg (kk ws H locs ls _ hW ⟨⟨lv, hl, hlo⟩, ⟨⟨rfl, trivial⟩, hs0⟩, hcc⟩)
      · cases h1
    · rename_i hk1 hsp
      split at h1
      · rename_i hg
        cases h1
        obtain ⟨k1, k2, k3⟩ := zf_knd_ok hk1
        obtain ⟨q0, en, p1, p2⟩ := hW.2.2.2.1 _ _ (hcc.1 g hg).2.1 k3
        obtain ⟨fs, rfl, hlen⟩ := zf_obj p2 k1 k2
        have hv := xe_rd hW.2.1 (xe_gL hcc hg hsp) p1
        exact hfg _ (zf_fl_ok hf) H locs ws _ q0 fs _ _ pc ls hW.1 p1 hv hdg (kk ws H locs ls _ hW ⟨⟨lv, hl, hlo⟩, ⟨⟨rfl, trivial⟩, hs0⟩, hcc⟩)
      · cases h1
    · rename_i h9 hk1 hsp
      split at h1
      · rename_i h8 hr
        cases h1
        obtain ⟨r1, r2, r3, r4, r5⟩ := hcc.2 _ (xe_el3_ok hr)
        obtain ⟨k1, k2, k3⟩ := zf_knd_ok hk1
        obtain ⟨q0, en, p1, p2⟩ := hW.2.2.2.1 _ _ r1 k3
        obtain ⟨fs, rfl, hlen⟩ := zf_obj p2 k1 k2
        have hv := xe_rd hW.2.1 r4 p1
        refine hfg _ (zf_fl_ok hf) H locs ws _ q0 fs _ _ pc ls hW.1 p1 hv hdg (kk ws H locs ls _ hW ⟨⟨lv, hl, hlo⟩, ⟨⟨rfl, ?_⟩, hs0⟩, hcc⟩)
        show Sg (θ h8) = some (xe_k h8)
        rw [r3]
        unfold xe_k
        rw [zf_blt' r2]
      · cases h1
    · cases h1
  · cases h1
theorem xo_putfield (G : xe_G p l e R s m args below meth c cells slots Q cc D A H0 Sg k θ fg fp sg lc) {j : Nat} (hdg : decode cc pc = .ok (.putfield j, len)) (h1 : xs_putfield GT SC RF nL fg fp sg lc pc len j lo st hp = some s1) (kk : xe_K p l e R s m args below meth c cells slots Q D A H0 Sg k GT SC RF θ nL wz s1) : xe_K p l e R s m args below meth c cells slots Q D A H0 Sg k GT SC RF θ nL wz (pc, lo, st, hp) := by
  obtain ⟨hx, hb, hK, hinj, hfg, hfp, hsg, hlc⟩ := G
  intro ws H locs ls stR hW hsat
  obtain ⟨⟨lv, hl, hlo⟩, hst, hcc⟩ := hsat
  unfold xs_putfield at h1
  split at h1
  · rename_i x v g t hc hf
    split at h1
    · rename_i P hsp
      split at h1
      · rename_i hk1
        cases h1
        simp only [Bool.and_eq_true] at hk1
        obtain ⟨⟨⟨hk1, hg⟩, hf1⟩, hf2⟩ := hk1
        have e0 : len = 3 := Nat.eq_of_beq_eq_true hc
        subst e0
        obtain ⟨_, st0, rfl, ⟨rfl, o0⟩, hs0⟩ := zf_f2_c hst
        obtain ⟨_, st1, rfl, ⟨rfl, o1⟩, hs1⟩ := zf_f2_c hs0
        obtain ⟨k1, k2, k3⟩ := zf_knd_ok hk1
        have c2 := (hcc.1 g hg).2.1
        obtain ⟨q0, en, p1, p2⟩ := hW.2.2.2.1 _ _ c2 k3
        obtain ⟨fs, rfl, hlen⟩ := zf_obj p2 k1 k2
        obtain ⟨w, hw1, hw2⟩ := p2.2 _ _ hsp
        have hlt : x.2.1 < fs.length := (List.getElem?_eq_some_iff.mp hw1).1
        refine hfp _ (zf_fl_ok hf) H locs ws _ q0 fs _ _ pc ls hW.1 hW.2.1 hW.2.2.1 p1 hlt (xe_fit_ok hf1) hdg (fun H1 locs1 hP1 hD1 hS1 => ?_)
        exact kk _ H1 locs1 ls _ ⟨hP1, hD1, hS1, zf_typ_set hW.2.2.2.1 c2 p1 (zf_likeO hlt) (xe_pl_ok hsp hf2) hW.2.1, xe_I_set hW.2.2.2.2 hg p1⟩ ⟨⟨lv, hl, hlo⟩, hs1, xe_up_ok hcc hg hsp hf2 p1 (zf_likeO hlt)⟩
      · cases h1
    · cases h1
  · cases h1
theorem xo_iaload (G : xe_G p l e R s m args below meth c cells slots Q cc D A H0 Sg k θ fg fp sg lc)  (hdg : decode cc pc = .ok (.iaload, len)) (h1 : xs_iaload GT SC RF nL fg fp sg lc pc len  lo st hp = some s1) (kk : xe_K p l e R s m args below meth c cells slots Q D A H0 Sg k GT SC RF θ nL wz s1) : xe_K p l e R s m args below meth c cells slots Q D A H0 Sg k GT SC RF θ nL wz (pc, lo, st, hp) := by
  obtain ⟨hx, hb, hK, hinj, hfg, hfp, hsg, hlc⟩ := G
  intro ws H locs ls stR hW hsat
  obtain ⟨⟨lv, hl, hlo⟩, hst, hcc⟩ := hsat
  unfold xs_iaload at h1
  split at h1
  · rename_i i g t hc
    split at h1
    · rename_i hk1
      simp only [Bool.and_eq_true] at hk1
      obtain ⟨⟨hk1, hg⟩, ha⟩ := hk1
      cases hib : xe_ib i (zf_len (zf_gi GT g).2.2) with
      | false => rw [hib] at h1; cases h1
      | true =>
        rw [hib] at h1
        cases h1
        obtain ⟨b1, b2, b3⟩ := xe_ib_ok hib
        have e0 : len = 1 := Nat.eq_of_beq_eq_true hc
        subst e0
        obtain ⟨_, st0, rfl, ⟨rfl, o0⟩, hs0⟩ := zf_f2_c hst
        obtain ⟨_, st1, rfl, ⟨rfl, o1⟩, hs1⟩ := zf_f2_c hs0
        obtain ⟨k1, k2, k3⟩ := zf_knd_ok hk1
        obtain ⟨q0, en, p1, p2⟩ := hW.2.2.2.1 _ _ (hcc.1 g hg).2.1 k3
        obtain ⟨y, rfl⟩ := zf_arr p2 k1 k2
        obtain ⟨P, hsp⟩ := xe_sp_some b3
        obtain ⟨qq, rfl⟩ := xe_aI_ok ha hsp
        obtain ⟨hlt, hg9⟩ := xe_rdA hW.2.1 (xe_gI hcc hg hsp) p1
        obtain ⟨f0, rfl, e9⟩ := zf_elI hg9
        obtain ⟨n1, n2⟩ := zi_in (i := i) (n := zf_len (zf_gi GT g).2.2) b1 b2
        refine va_iald hx hb hK hW.1 q0 0 p1 rfl n1 hdg ?_
        rw [n2, e9]
        exact kk ws H locs ls _ hW ⟨⟨lv, hl, hlo⟩, ⟨⟨rfl, trivial⟩, hs1⟩, hcc⟩
    · cases h1
  · cases h1
theorem xo_laload (G : xe_G p l e R s m args below meth c cells slots Q cc D A H0 Sg k θ fg fp sg lc)  (hdg : decode cc pc = .ok (.laload, len)) (h1 : xs_laload GT SC RF nL fg fp sg lc pc len  lo st hp = some s1) (kk : xe_K p l e R s m args below meth c cells slots Q D A H0 Sg k GT SC RF θ nL wz s1) : xe_K p l e R s m args below meth c cells slots Q D A H0 Sg k GT SC RF θ nL wz (pc, lo, st, hp) := by
  obtain ⟨hx, hb, hK, hinj, hfg, hfp, hsg, hlc⟩ := G
  intro ws H locs ls stR hW hsat
  obtain ⟨⟨lv, hl, hlo⟩, hst, hcc⟩ := hsat
  unfold xs_laload at h1
  split at h1
  · rename_i i g t hc
    split at h1
    · rename_i hk1
      simp only [Bool.and_eq_true] at hk1
      obtain ⟨⟨hk1, hg⟩, ha⟩ := hk1
      cases hib : xe_ib i (zf_len (zf_gi GT g).2.2) with
      | false => rw [hib] at h1; cases h1
      | true =>
        rw [hib] at h1
        cases h1
        obtain ⟨b1, b2, b3⟩ := xe_ib_ok hib
        have e0 : len = 1 := Nat.eq_of_beq_eq_true hc
        subst e0
        obtain ⟨_, st0, rfl, ⟨rfl, o0⟩, hs0⟩ := zf_f2_c hst
        obtain ⟨_, st1, rfl, ⟨rfl, o1⟩, hs1⟩ := zf_f2_c hs0
        obtain ⟨k1, k2, k3⟩ := zf_knd_ok hk1
        obtain ⟨q0, en, p1, p2⟩ := hW.2.2.2.1 _ _ (hcc.1 g hg).2.1 k3
        obtain ⟨y, rfl⟩ := zf_arr p2 k1 k2
        obtain ⟨P, hsp⟩ := xe_sp_some b3
        cases xe_aL_ok ha hsp
        obtain ⟨hlt, hg9⟩ := xe_rdA hW.2.1 (xe_gL hcc hg hsp) p1
        obtain ⟨f0, rfl, e9⟩ := zf_elL hg9
        obtain ⟨n1, n2⟩ := zi_in (i := i) (n := zf_len (zf_gi GT g).2.2) b1 b2
        refine va_lald hx hb hK hW.1 q0 1 p1 rfl n1 hdg ?_
        rw [n2, e9]
        exact kk ws H locs ls _ hW ⟨⟨lv, hl, hlo⟩, ⟨⟨rfl, trivial⟩, hs1⟩, hcc⟩
    · cases h1
  · cases h1
theorem xo_baload (G : xe_G p l e R s m args below meth c cells slots Q cc D A H0 Sg k θ fg fp sg lc)  (hdg : decode cc pc = .ok (.baload, len)) (h1 : xs_baload GT SC RF nL fg fp sg lc pc len  lo st hp = some s1) (kk : xe_K p l e R s m args below meth c cells slots Q D A H0 Sg k GT SC RF θ nL wz s1) : xe_K p l e R s m args below meth c cells slots Q D A H0 Sg k GT SC RF θ nL wz (pc, lo, st, hp) := by
  obtain ⟨hx, hb, hK, hinj, hfg, hfp, hsg, hlc⟩ := G
  intro ws H locs ls stR hW hsat
  obtain ⟨⟨lv, hl, hlo⟩, hst, hcc⟩ := hsat
  unfold xs_baload at h1
  split at h1
  · rename_i i g t hc
    split at h1
    · rename_i hk1
      simp only [Bool.and_eq_true] at hk1
      obtain ⟨⟨hk1, hg⟩, ha⟩ := hk1
      cases hib : xe_ib i (zf_len (zf_gi GT g).2.2) with
      | false => rw [hib] at h1; cases h1
      | true =>
        rw [hib] at h1
        cases h1
        obtain ⟨b1, b2, b3⟩ := xe_ib_ok hib
        have e0 : len = 1 := Nat.eq_of_beq_eq_true hc
        subst e0
        obtain ⟨_, st0, rfl, ⟨rfl, o0⟩, hs0⟩ := zf_f2_c hst
        obtain ⟨_, st1, rfl, ⟨rfl, o1⟩, hs1⟩ := zf_f2_c hs0
        rw [Bool.or_eq_true] at hk1
        rcases hk1 with hk1 | hk1
        · obtain ⟨k1, k2, k3⟩ := zf_knd_ok hk1
          obtain ⟨q0, en, p1, p2⟩ := hW.2.2.2.1 _ _ (hcc.1 g hg).2.1 k3
          obtain ⟨y, rfl⟩ := zf_arr p2 k1 k2
          obtain ⟨P, hsp⟩ := xe_sp_some b3
          obtain ⟨qq, rfl⟩ := xe_aI_ok ha hsp
          obtain ⟨hlt, hg9⟩ := xe_rdA hW.2.1 (xe_gI hcc hg hsp) p1
          obtain ⟨f0, rfl, e9⟩ := zf_elI hg9
          obtain ⟨n1, n2⟩ := zi_in (i := i) (n := zf_len (zf_gi GT g).2.2) b1 b2
          refine va_bald hx hb hK hW.1 q0 3 p1 rfl n1 hdg ?_
          rw [n2, e9]
          exact kk ws H locs ls _ hW ⟨⟨lv, hl, hlo⟩, ⟨⟨rfl, trivial⟩, hs1⟩, hcc⟩
        · obtain ⟨k1, k2, k3⟩ := zf_knd_ok hk1
          obtain ⟨q0, en, p1, p2⟩ := hW.2.2.2.1 _ _ (hcc.1 g hg).2.1 k3
          obtain ⟨y, rfl⟩ := zf_arr p2 k1 k2
          obtain ⟨P, hsp⟩ := xe_sp_some b3
          obtain ⟨qq, rfl⟩ := xe_aI_ok ha hsp
          obtain ⟨hlt, hg9⟩ := xe_rdA hW.2.1 (xe_gI hcc hg hsp) p1
          obtain ⟨f0, rfl, e9⟩ := zf_elI hg9
          obtain ⟨n1, n2⟩ := zi_in (i := i) (n := zf_len (zf_gi GT g).2.2) b1 b2
          refine va_zald hx hb hK hW.1 q0 2 p1 rfl n1 hdg ?_
          rw [n2, e9]
          exact kk ws H locs ls _ hW ⟨⟨lv, hl, hlo⟩, ⟨⟨rfl, trivial⟩, hs1⟩, hcc⟩
    · cases h1
  · cases h1
theorem xo_iastore (G : xe_G p l e R s m args below meth c cells slots Q cc D A H0 Sg k θ fg fp sg lc)  (hdg : decode cc pc = .ok (.iastore, len)) (h1 : xs_iastore GT SC RF nL fg fp sg lc pc len  lo st hp = some s1) (kk : xe_K p l e R s m args below meth c cells slots Q D A H0 Sg k GT SC RF θ nL wz s1) : xe_K p l e R s m args below meth c cells slots Q D A H0 Sg k GT SC RF θ nL wz (pc, lo, st, hp) := by
  obtain ⟨hx, hb, hK, hinj, hfg, hfp, hsg, hlc⟩ := G
  intro ws H locs ls stR hW hsat
  obtain ⟨⟨lv, hl, hlo⟩, hst, hcc⟩ := hsat
  unfold xs_iastore at h1
  split at h1
  · rename_i x i g t hc
    split at h1
    · rename_i hk1
      simp only [Bool.and_eq_true] at hk1
      obtain ⟨⟨hk1, hg⟩, ha⟩ := hk1
      cases hib : (xe_ib i (zf_len (zf_gi GT g).2.2)) with
      | false => rw [hib] at h1; cases h1
      | true =>
        rw [hib] at h1
        cases h1
        skip
        obtain ⟨b1, b2, b3⟩ := xe_ib_ok hib
        have e0 : len = 1 := Nat.eq_of_beq_eq_true hc
        subst e0
        obtain ⟨_, st0, rfl, ⟨rfl, o0⟩, hs0⟩ := zf_f2_c hst
        obtain ⟨_, st1, rfl, ⟨rfl, o1⟩, hs1⟩ := zf_f2_c hs0
        obtain ⟨_, st2, rfl, ⟨rfl, o2⟩, hs2⟩ := zf_f2_c hs1
        obtain ⟨k1, k2, k3⟩ := zf_knd_ok hk1
        have c2 := (hcc.1 g hg).2.1
        obtain ⟨q0, en, p1, p2⟩ := hW.2.2.2.1 _ _ c2 k3
        obtain ⟨y, rfl⟩ := zf_arr p2 k1 k2
        obtain ⟨P, hsp⟩ := xe_sp_some b3
        have hfit : xe_fit P (.int x) = true := xe_aF_ok ha hsp
        obtain ⟨qq, rfl⟩ := xe_aI_ok (xe_FI ha) hsp
        obtain ⟨hlt, hg9⟩ := xe_rdA hW.2.1 (xe_gI hcc hg hsp) p1
        obtain ⟨f0, rfl, e9⟩ := zf_elI hg9
        obtain ⟨n1, n2⟩ := zi_in (i := i) (n := zf_len (zf_gi GT g).2.2) b1 b2
        refine va_iast hx hb hK hW.1 hW.2.1 hW.2.2.1 q0 0 p1 rfl n1 hdg (fun H1 locs1 hP1 hD1 hS1 => ?_)
        rw [n2] at hP1 hD1
        exact kk _ H1 locs1 ls _ ⟨hP1, hD1, hS1, zf_typ_set hW.2.2.2.1 c2 p1 (zf_likeI hlt) (xe_pl_ok (θ := θ) (v := .int x) hsp hfit) hW.2.1, xe_I_set hW.2.2.2.2 hg p1⟩ ⟨⟨lv, hl, hlo⟩, hs2, xe_up_ok (v := .int x) hcc hg hsp hfit p1 (zf_likeI hlt)⟩
    · cases h1
  · cases h1
theorem xo_aastore (G : xe_G p l e R s m args below meth c cells slots Q cc D A H0 Sg k θ fg fp sg lc)  (hdg : decode cc pc = .ok (.aastore, len)) (h1 : xs_aastore GT SC RF nL fg fp sg lc pc len  lo st hp = some s1) (kk : xe_K p l e R s m args below meth c cells slots Q D A H0 Sg k GT SC RF θ nL wz s1) : xe_K p l e R s m args below meth c cells slots Q D A H0 Sg k GT SC RF θ nL wz (pc, lo, st, hp) := by
  obtain ⟨hx, hb, hK, hinj, hfg, hfp, hsg, hlc⟩ := G
  intro ws H locs ls stR hW hsat
  obtain ⟨⟨lv, hl, hlo⟩, hst, hcc⟩ := hsat
  unfold xs_aastore at h1
  split at h1
  · rename_i d i g t hc
    split at h1
    · rename_i hk1
      simp only [Bool.and_eq_true] at hk1
      obtain ⟨⟨⟨hk1, hg⟩, ha⟩, hN⟩ := hk1
      cases hib : (xe_ib i (zf_len (zf_gi GT g).2.2) && Nat.beq (xe_k d) 128) with
      | false => rw [hib] at h1; cases h1
      | true =>
        rw [hib] at h1
        cases h1
        rw [Bool.and_eq_true] at hib
        obtain ⟨hib, hd⟩ := hib
        obtain ⟨b1, b2, b3⟩ := xe_ib_ok hib
        have e0 : len = 1 := Nat.eq_of_beq_eq_true hc
        subst e0
        obtain ⟨_, st0, rfl, ⟨rfl, o0⟩, hs0⟩ := zf_f2_c hst
        obtain ⟨_, st1, rfl, ⟨rfl, o1⟩, hs1⟩ := zf_f2_c hs0
        obtain ⟨_, st2, rfl, ⟨rfl, o2⟩, hs2⟩ := zf_f2_c hs1
        obtain ⟨k1, k2, k3⟩ := zf_knd_ok hk1
        have c2 := (hcc.1 g hg).2.1
        obtain ⟨q0, en, p1, p2⟩ := hW.2.2.2.1 _ _ c2 k3
        obtain ⟨P, hsp⟩ := xe_sp_some b3
        have eP := xe_aR_ok ha hsp
        subst eP
        obtain ⟨v9, hv9, a9, ea9, hs9⟩ := p2.2 _ _ hsp
        obtain ⟨y, rfl⟩ := zf_arr p2 k1 k2
        subst ea9
        rw [zf_getA b3] at hv9
        obtain ⟨f0, rfl, e9⟩ := zf_elR (Option.some.inj hv9)
        obtain ⟨n1, n2⟩ := zi_in (i := i) (n := zf_len (zf_gi GT g).2.2) b1 b2
        have e128 : Sg (θ d) = some 128 := by
          have o0 : Sg (θ d) = some (xe_k d) := o0
          rw [o0, Nat.eq_of_beq_eq_true hd]
        refine va_astqM hx hb hK hW.1 hW.2.1 hW.2.2.1 q0 6 p1 rfl (hlc.2 H locs hW.2.2.1 _ e128) n1 hdg (fun H1 locs1 hP1 hD1 hS1 => ?_)
        rw [n2] at hP1 hD1
        exact kk _ H1 locs1 ls _ ⟨hP1, hD1, hS1, zf_typ_set hW.2.2.2.1 c2 p1 (zf_likeR b3) (fun p9 hp9 => by rw [hsp] at hp9; cases hp9; exact ⟨_, rfl, e128⟩) hW.2.1, xe_I_set hW.2.2.2.2 hg p1⟩ ⟨⟨lv, hl, hlo⟩, hs2, xe_upR hcc hg ha hN p1 (zf_likeR b3)⟩
    · cases h1
  · cases h1
theorem xo_lastore (G : xe_G p l e R s m args below meth c cells slots Q cc D A H0 Sg k θ fg fp sg lc)  (hdg : decode cc pc = .ok (.lastore, len)) (h1 : xs_lastore GT SC RF nL fg fp sg lc pc len  lo st hp = some s1) (kk : xe_K p l e R s m args below meth c cells slots Q D A H0 Sg k GT SC RF θ nL wz s1) : xe_K p l e R s m args below meth c cells slots Q D A H0 Sg k GT SC RF θ nL wz (pc, lo, st, hp) := by
  obtain ⟨hx, hb, hK, hinj, hfg, hfp, hsg, hlc⟩ := G
  intro ws H locs ls stR hW hsat
  obtain ⟨⟨lv, hl, hlo⟩, hst, hcc⟩ := hsat
  unfold xs_lastore at h1
  split at h1
  · rename_i x i g t hc
    split at h1
    · rename_i hk1
      simp only [Bool.and_eq_true] at hk1
      obtain ⟨⟨hk1, hg⟩, ha⟩ := hk1
      cases hib : (xe_ib i (zf_len (zf_gi GT g).2.2)) with
      | false => rw [hib] at h1; cases h1
      | true =>
        rw [hib] at h1
        cases h1
        skip
        obtain ⟨b1, b2, b3⟩ := xe_ib_ok hib
        have e0 : len = 1 := Nat.eq_of_beq_eq_true hc
        subst e0
        obtain ⟨_, st0, rfl, ⟨rfl, o0⟩, hs0⟩ := zf_f2_c hst
        obtain ⟨_, st1, rfl, ⟨rfl, o1⟩, hs1⟩ := zf_f2_c hs0
        obtain ⟨_, st2, rfl, ⟨rfl, o2⟩, hs2⟩ := zf_f2_c hs1
        obtain ⟨k1, k2, k3⟩ := zf_knd_ok hk1
        have c2 := (hcc.1 g hg).2.1
        obtain ⟨q0, en, p1, p2⟩ := hW.2.2.2.1 _ _ c2 k3
        obtain ⟨y, rfl⟩ := zf_arr p2 k1 k2
        obtain ⟨P, hsp⟩ := xe_sp_some b3
        have hfit : xe_fit P (.long x) = true := (by cases xe_aL_ok ha hsp; rfl)
        cases xe_aL_ok ha hsp
        obtain ⟨hlt, hg9⟩ := xe_rdA hW.2.1 (xe_gL hcc hg hsp) p1
        obtain ⟨f0, rfl, e9⟩ := zf_elL hg9
        obtain ⟨n1, n2⟩ := zi_in (i := i) (n := zf_len (zf_gi GT g).2.2) b1 b2
        refine va_last hx hb hK hW.1 hW.2.1 hW.2.2.1 q0 1 p1 rfl n1 hdg (fun H1 locs1 hP1 hD1 hS1 => ?_)
        rw [n2] at hP1 hD1
        exact kk _ H1 locs1 ls _ ⟨hP1, hD1, hS1, zf_typ_set hW.2.2.2.1 c2 p1 (zf_likeL hlt) (xe_pl_ok (θ := θ) (v := .long x) hsp hfit) hW.2.1, xe_I_set hW.2.2.2.2 hg p1⟩ ⟨⟨lv, hl, hlo⟩, hs2, xe_up_ok (v := .long x) hcc hg hsp hfit p1 (zf_likeL hlt)⟩
    · cases h1
  · cases h1
theorem xo_bastore (G : xe_G p l e R s m args below meth c cells slots Q cc D A H0 Sg k θ fg fp sg lc)  (hdg : decode cc pc = .ok (.bastore, len)) (h1 : xs_bastore GT SC RF nL fg fp sg lc pc len  lo st hp = some s1) (kk : xe_K p l e R s m args below meth c cells slots Q D A H0 Sg k GT SC RF θ nL wz s1) : xe_K p l e R s m args below meth c cells slots Q D A H0 Sg k GT SC RF θ nL wz (pc, lo, st, hp) := by
  obtain ⟨hx, hb, hK, hinj, hfg, hfp, hsg, hlc⟩ := G
  intro ws H locs ls stR hW hsat
  obtain ⟨⟨lv, hl, hlo⟩, hst, hcc⟩ := hsat
  unfold xs_bastore at h1
  split at h1
  · rename_i x i g t hc
    split at h1
    · rename_i hk1
      simp only [Bool.and_eq_true] at hk1
      obtain ⟨⟨hk1, hg⟩, ha⟩ := hk1
      cases hib : (xe_ib i (zf_len (zf_gi GT g).2.2) && xe_by x) with
      | false => rw [hib] at h1; cases h1
      | true =>
        rw [hib] at h1
        cases h1
        rw [Bool.and_eq_true] at hib
        obtain ⟨hib, hby⟩ := hib
        obtain ⟨b1, b2, b3⟩ := xe_ib_ok hib
        have e0 : len = 1 := Nat.eq_of_beq_eq_true hc
        subst e0
        obtain ⟨_, st0, rfl, ⟨rfl, o0⟩, hs0⟩ := zf_f2_c hst
        obtain ⟨_, st1, rfl, ⟨rfl, o1⟩, hs1⟩ := zf_f2_c hs0
        obtain ⟨_, st2, rfl, ⟨rfl, o2⟩, hs2⟩ := zf_f2_c hs1
        rw [Bool.or_eq_true] at hk1
        rcases hk1 with hk1 | hk1
        · obtain ⟨k1, k2, k3⟩ := zf_knd_ok hk1
          have c2 := (hcc.1 g hg).2.1
          obtain ⟨q0, en, p1, p2⟩ := hW.2.2.2.1 _ _ c2 k3
          obtain ⟨y, rfl⟩ := zf_arr p2 k1 k2
          obtain ⟨P, hsp⟩ := xe_sp_some b3
          have hfit : xe_fit P (.int x) = true := xe_aB_ok ha hby hsp
          obtain ⟨qq, rfl⟩ := xe_aI_ok (xe_BI ha) hsp
          obtain ⟨hlt, hg9⟩ := xe_rdA hW.2.1 (xe_gI hcc hg hsp) p1
          obtain ⟨f0, rfl, e9⟩ := zf_elI hg9
          obtain ⟨n1, n2⟩ := zi_in (i := i) (n := zf_len (zf_gi GT g).2.2) b1 b2
          refine va_bast hx hb hK hW.1 hW.2.1 hW.2.2.1 q0 3 p1 rfl n1 hdg (fun H1 locs1 hP1 hD1 hS1 => ?_)
          have en := zf_narB (x := x) (by unfold xe_by at hby; simp only [Bool.and_eq_true, decide_eq_true_eq] at hby; exact hby.1) (by unfold xe_by at hby; simp only [Bool.and_eq_true, decide_eq_true_eq] at hby; exact hby.2)
          rw [en] at hP1 hD1
          rw [n2] at hP1 hD1
          exact kk _ H1 locs1 ls _ ⟨hP1, hD1, hS1, zf_typ_set hW.2.2.2.1 c2 p1 (zf_likeI hlt) (xe_pl_ok (θ := θ) (v := .int x) hsp hfit) hW.2.1, xe_I_set hW.2.2.2.2 hg p1⟩ ⟨⟨lv, hl, hlo⟩, hs2, xe_up_ok (v := .int x) hcc hg hsp hfit p1 (zf_likeI hlt)⟩
        · rw [Bool.and_eq_true] at hk1
          obtain ⟨hk1, hbz⟩ := hk1
          obtain ⟨k1, k2, k3⟩ := zf_knd_ok hk1
          have c2 := (hcc.1 g hg).2.1
          obtain ⟨q0, en, p1, p2⟩ := hW.2.2.2.1 _ _ c2 k3
          obtain ⟨y, rfl⟩ := zf_arr p2 k1 k2
          obtain ⟨P, hsp⟩ := xe_sp_some b3
          have hfit : xe_fit P (.int x) = true := xe_aB_ok ha hby hsp
          obtain ⟨qq, rfl⟩ := xe_aI_ok (xe_BI ha) hsp
          obtain ⟨hlt, hg9⟩ := xe_rdA hW.2.1 (xe_gI hcc hg hsp) p1
          obtain ⟨f0, rfl, e9⟩ := zf_elI hg9
          obtain ⟨n1, n2⟩ := zi_in (i := i) (n := zf_len (zf_gi GT g).2.2) b1 b2
          refine va_zast hx hb hK hW.1 hW.2.1 hW.2.2.1 q0 2 p1 rfl n1 hdg (fun H1 locs1 hP1 hD1 hS1 => ?_)
          have en := zf_narZ (x := x) (by unfold xe_bz at hbz; simp only [Bool.and_eq_true, decide_eq_true_eq] at hbz; exact hbz.1) (by unfold xe_bz at hbz; simp only [Bool.and_eq_true, decide_eq_true_eq] at hbz; exact hbz.2)
          rw [en] at hP1 hD1
          rw [n2] at hP1 hD1
          exact kk _ H1 locs1 ls _ ⟨hP1, hD1, hS1, zf_typ_set hW.2.2.2.1 c2 p1 (zf_likeI hlt) (xe_pl_ok (θ := θ) (v := .int x) hsp hfit) hW.2.1, xe_I_set hW.2.2.2.2 hg p1⟩ ⟨⟨lv, hl, hlo⟩, hs2, xe_up_ok (v := .int x) hcc hg hsp hfit p1 (zf_likeI hlt)⟩
    · cases h1
  · cases h1
theorem xo_getstatic (G : xe_G p l e R s m args below meth c cells slots Q cc D A H0 Sg k θ fg fp sg lc) {j : Nat} (hdg : decode cc pc = .ok (.getstatic j, len)) (h1 : xs_getstatic GT SC RF nL fg fp sg lc pc len j lo st hp = some s1) (kk : xe_K p l e R s m args below meth c cells slots Q D A H0 Sg k GT SC RF θ nL wz s1) : xe_K p l e R s m args below meth c cells slots Q D A H0 Sg k GT SC RF θ nL wz (pc, lo, st, hp) := by
  obtain ⟨hx, hb, hK, hinj, hfg, hfp, hsg, hlc⟩ := G
  intro ws H locs ls stR hW hsat
  obtain ⟨⟨lv, hl, hlo⟩, hst, hcc⟩ := hsat
  unfold xs_getstatic at h1
  split at h1
  · rename_i n hc hq
    cases h1
    have e0 : len = 3 := Nat.eq_of_beq_eq_true hc
    subst e0
    exact hsg _ _ (xe_al_ok hq) H locs stR pc ls hW.2.2.1 hdg (fun o => kk ws H locs ls _ hW ⟨⟨lv, hl, hlo⟩, ⟨⟨rfl, o⟩, hst⟩, hcc⟩)
  · cases h1
theorem xo_arraylength (G : xe_G p l e R s m args below meth c cells slots Q cc D A H0 Sg k θ fg fp sg lc)  (hdg : decode cc pc = .ok (.arraylength, len)) (h1 : xs_arraylength GT SC RF nL fg fp sg lc pc len  lo st hp = some s1) (kk : xe_K p l e R s m args below meth c cells slots Q D A H0 Sg k GT SC RF θ nL wz s1) : xe_K p l e R s m args below meth c cells slots Q D A H0 Sg k GT SC RF θ nL wz (pc, lo, st, hp) := by
  obtain ⟨hx, hb, hK, hinj, hfg, hfp, hsg, hlc⟩ := G
  intro ws H locs ls stR hW hsat
  obtain ⟨⟨lv, hl, hlo⟩, hst, hcc⟩ := hsat
  unfold xs_arraylength at h1
  split at h1
  · rename_i g t hc
    split at h1
    · rename_i hk1
      cases h1
      simp only [Bool.and_eq_true] at hk1
      obtain ⟨hk1, hg⟩ := hk1
      have e0 : len = 1 := Nat.eq_of_beq_eq_true hc
      subst e0
      obtain ⟨_, st0, rfl, ⟨rfl, o0⟩, hs0⟩ := zf_f2_c hst
      obtain ⟨k1, k2, k3⟩ := zf_knd_ok hk1
      obtain ⟨q0, en, p1, p2⟩ := hW.2.2.2.1 _ _ (hcc.1 g hg).2.1 k3
      obtain ⟨y, rfl⟩ := zf_arr p2 k1 k2
      exact va_alen hx hb hK hW.1 q0 0 p1 rfl rfl hdg (kk ws H locs ls _ hW ⟨⟨lv, hl, hlo⟩, ⟨⟨rfl, trivial⟩, hs0⟩, hcc⟩)
    · cases h1
  · cases h1
theorem xo_tableswitch (G : xe_G p l e R s m args below meth c cells slots Q cc D A H0 Sg k θ fg fp sg lc) {d0 : Int} {l0 : Int} {h0 : Int} {offs : Array Int} (hdg : decode cc pc = .ok (.tableswitch d0 l0 h0 offs, len)) (h1 : xs_tableswitch GT SC RF nL fg fp sg lc pc len d0 l0 h0 offs lo st hp = some s1) (kk : xe_K p l e R s m args below meth c cells slots Q D A H0 Sg k GT SC RF θ nL wz s1) : xe_K p l e R s m args below meth c cells slots Q D A H0 Sg k GT SC RF θ nL wz (pc, lo, st, hp) := by
  obtain ⟨hx, hb, hK, hinj, hfg, hfp, hsg, hlc⟩ := G
  intro ws H locs ls stR hW hsat
  obtain ⟨⟨lv, hl, hlo⟩, hst, hcc⟩ := hsat
  unfold xs_tableswitch at h1
  split at h1
  · rename_i x t hc
    cases h1
    simp only [Bool.and_eq_true, decide_eq_true_eq] at hc
    obtain ⟨⟨⟨c1, c2⟩, c3⟩, c4⟩ := hc
    have c3 := Nat.eq_of_beq_eq_true c3
    obtain ⟨_, st0, rfl, ⟨rfl, o0⟩, hs0⟩ := zf_f2_c hst
    have k9 := kk ws H locs ls st0 hW
    by_cases q1 : x.toInt < l0
    · rw [decide_eq_true q1, Bool.true_or] at k9
      exact lv_tableOut hx hb hdg (Or.inl q1) (zf_tgt_ok c1) (k9 ⟨⟨lv, hl, hlo⟩, hs0, hcc⟩)
    · by_cases q2 : h0 < x.toInt
      · rw [decide_eq_true q2, Bool.or_true] at k9
        exact lv_tableOut hx hb hdg (Or.inr q2) (zf_tgt_ok c1) (k9 ⟨⟨lv, hl, hlo⟩, hs0, hcc⟩)
      · rw [decide_eq_false q1, decide_eq_false q2, Bool.or_false] at k9
        have hj : (x.toInt - l0).toNat < offs.size := by rw [← Array.length_toList]; omega
        have h8 : offs.toList[(x.toInt - l0).toNat]? = some offs[(x.toInt - l0).toNat] := by rw [Array.getElem?_toList]; exact Array.getElem?_eq_getElem hj
        have e9 : offs.toList.getD (x.toInt - l0).toNat d0 = offs[(x.toInt - l0).toNat] := by rw [List.getD_eq_getElem?_getD, h8]; rfl
        have ho : offs[(x.toInt - l0).toNat]? = some (offs.toList.getD (x.toInt - l0).toNat d0) := by rw [e9]; exact Array.getElem?_eq_getElem hj
        have ht : zf_tok pc (offs.toList.getD (x.toInt - l0).toNat d0) = true := by rw [e9]; exact List.all_eq_true.mp c2 _ (List.mem_of_getElem? h8)
        exact lv_tableIn hx hb hdg q1 q2 ho (zf_tgt_ok ht) (k9 ⟨⟨lv, hl, hlo⟩, hs0, hcc⟩)
  · cases h1
set_option maxHeartbeats 4000000 in
theorem xe_1_ok (G : xe_G p l e R s m args below meth c cells slots Q cc D A H0 Sg k θ fg fp sg lc) {i : Instr} (hdg : decode cc pc = .ok (i, len)) (h1 : xe_1 GT SC RF nL fg fp sg lc pc len i lo st hp = some s1) (kk : xe_K p l e R s m args below meth c cells slots Q D A H0 Sg k GT SC RF θ nL wz s1) : xe_K p l e R s m args below meth c cells slots Q D A H0 Sg k GT SC RF θ nL wz (pc, lo, st, hp) := by
  cases i
  case iconst n => exact xo_iconst G hdg h1 kk
  case bipush n => exact xo_bipush G hdg h1 kk
  case sipush n => exact xo_sipush G hdg h1 kk
  case lconst n => exact xo_lconst G hdg h1 kk
  case ldc2_w j => exact xo_ldc2_w G hdg h1 kk
  case iload_n j => exact xo_iload_n G hdg h1 kk
  case iload j => exact xo_iload G hdg h1 kk
  case aload j => exact xo_aload G hdg h1 kk
  case aload_n j => exact xo_aload_n G hdg h1 kk
  case lload_n j => exact xo_lload_n G hdg h1 kk
  case istore_n j => exact xo_istore_n G hdg h1 kk
  case istore j => exact xo_istore G hdg h1 kk
  case astore j => exact xo_astore G hdg h1 kk
  case astore_n j => exact xo_astore_n G hdg h1 kk
  case iinc j n => exact xo_iinc G hdg h1 kk
  case iadd => exact xo_iadd G hdg h1 kk
  case isub => exact xo_isub G hdg h1 kk
  case imul => exact xo_imul G hdg h1 kk
  case iand => exact xo_iand G hdg h1 kk
  case ior => exact xo_ior G hdg h1 kk
  case ishl => exact xo_ishl G hdg h1 kk
  case ishr => exact xo_ishr G hdg h1 kk
  case iushr => exact xo_iushr G hdg h1 kk
  case ladd => exact xo_ladd G hdg h1 kk
  case lmul => exact xo_lmul G hdg h1 kk
  case lor => exact xo_lor G hdg h1 kk
  case lshl => exact xo_lshl G hdg h1 kk
  case lcmp => exact xo_lcmp G hdg h1 kk
  case i2l => exact xo_i2l G hdg h1 kk
  case i2b => exact xo_i2b G hdg h1 kk
  case dup => exact xo_dup G hdg h1 kk
  case dup2 => exact xo_dup2 G hdg h1 kk
  case pop => exact xo_pop G hdg h1 kk
  case goto off => exact xo_goto G hdg h1 kk
  case ifCond c9 off => exact xo_ifCond G hdg h1 kk
  case if_icmp c9 off => exact xo_if_icmp G hdg h1 kk
  case getfield j => exact xo_getfield G hdg h1 kk
  case putfield j => exact xo_putfield G hdg h1 kk
  case iaload => exact xo_iaload G hdg h1 kk
  case laload => exact xo_laload G hdg h1 kk
  case baload => exact xo_baload G hdg h1 kk
  case iastore => exact xo_iastore G hdg h1 kk
  case aastore => exact xo_aastore G hdg h1 kk
  case lastore => exact xo_lastore G hdg h1 kk
  case bastore => exact xo_bastore G hdg h1 kk
  case getstatic j => exact xo_getstatic G hdg h1 kk
  case arraylength => exact xo_arraylength G hdg h1 kk
  case tableswitch d0 l0 h0 offs => exact xo_tableswitch G hdg h1 kk
  case if_acmp c9 off =>
    cases c9
    case eq => exact xo_acmp_eq G hdg h1 kk
    case ne => exact xo_acmp_ne G hdg h1 kk
    all_goals exact absurd h1 (fun q => by cases q)
  all_goals exact absurd h1 (fun q => by cases q)
end XF
