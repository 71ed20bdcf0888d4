/-! ===== pools: cells with their kinds ===== -/
abbrev zc_T := List (Nat × Nat × va_E)
def zc_w (T : zc_T) : va_W := T.map (fun q => q.2)
def zc_in (ad : Nat → Nat) (T : zc_T) (g a : Nat) : Prop := (∃ e, (g, a, e) ∈ T) ∨ (g = 128 ∧ ∃ i, i < 24 ∧ a = ad i)
def zc_pok (Rr : Nat → Nat → Prop) (p : zf_P) (v : Value) : Prop := match p with
  | .inl q => ∃ x : Int32, v = .int x ∧ q.1 ≤ x.toInt ∧ x.toInt ≤ q.2
  | .inr none => ∃ x : Int64, v = .long x
  | .inr (some g) => ∃ a : Nat, v = .ref a ∧ Rr g a
def zc_ent (Rr : Nat → Nat → Prop) (k : Nat → ClassId) (g : zf_G) (e : va_E) : Prop :=
  (match g.1 with
    | false => ∃ fs : List Value, e = .inr (g.2.1, fs) ∧ fs.length = zf_len g.2.2
    | true => ∃ x, e = .inl (k g.2.1, zf_len g.2.2, x)) ∧ ∀ i p, zf_sp g.2.2 i = some p → ∃ v, zf_get e i = some v ∧ zc_pok Rr p v
theorem zc_pok_to {Rr : Nat → Nat → Prop} {Sg : Nat → Option Nat} (h : ∀ g a, Rr g a → Sg a = some g) {p : zf_P} {v : Value} (hp : zc_pok Rr p v) : zf_pok Sg p v := by
  match p, hp with
  | .inl q, hp => exact hp
  | .inr none, hp => exact hp
  | .inr (some g), ⟨a, e1, e2⟩ => exact ⟨a, e1, h g a e2⟩
theorem zc_pok_mono {Rr Rr' : Nat → Nat → Prop} (h : ∀ g a, Rr g a → Rr' g a) {p : zf_P} {v : Value} (hp : zc_pok Rr p v) : zc_pok Rr' p v := by
  match p, hp with
  | .inl q, hp => exact hp
  | .inr none, hp => exact hp
  | .inr (some g), ⟨a, e1, e2⟩ => exact ⟨a, e1, h g a e2⟩
theorem zc_ent_to {Rr : Nat → Nat → Prop} {Sg : Nat → Option Nat} (h : ∀ g a, Rr g a → Sg a = some g) {k : Nat → ClassId} {g : zf_G} {e : va_E} (he : zc_ent Rr k g e) : zf_ent Sg k g e :=
  ⟨he.1, fun i p hp => by obtain ⟨v, h1, h2⟩ := he.2 i p hp; exact ⟨v, h1, zc_pok_to h h2⟩⟩
theorem zc_ent_mono {Rr Rr' : Nat → Nat → Prop} (h : ∀ g a, Rr g a → Rr' g a) {k : Nat → ClassId} {g : zf_G} {e : va_E} (he : zc_ent Rr k g e) : zc_ent Rr' k g e :=
  ⟨he.1, fun i p hp => by obtain ⟨v, h1, h2⟩ := he.2 i p hp; exact ⟨v, h1, zc_pok_mono h h2⟩⟩
def zc_ok (ad : Nat → Nat) (k : Nat → ClassId) (T : zc_T) : Prop := ∀ q ∈ T, q.1 < 128 ∧ zc_ent (zc_in ad T) k (zf_gi zGT q.1) q.2.2
def zc_big (T : zc_T) : Prop := ∀ q ∈ T, 64 ≤ q.1
theorem zc_in_l {ad : Nat → Nat} {T T' : zc_T} {g a : Nat} (h : zc_in ad T g a) : zc_in ad (T ++ T') g a := by
  rcases h with ⟨e, h⟩ | h
  · exact Or.inl ⟨e, List.mem_append_left _ h⟩
  · exact Or.inr h
theorem zc_in_r {ad : Nat → Nat} {T T' : zc_T} {g a : Nat} (h : zc_in ad T' g a) : zc_in ad (T ++ T') g a := by
  rcases h with ⟨e, h⟩ | h
  · exact Or.inl ⟨e, List.mem_append_right _ h⟩
  · exact Or.inr h
theorem zc_ok_app {ad : Nat → Nat} {k : Nat → ClassId} {T T' : zc_T} (h : zc_ok ad k T) (h' : zc_ok ad k T') : zc_ok ad k (T ++ T') := by
  intro q hq
  rcases List.mem_append.mp hq with hq | hq
  · exact ⟨(h q hq).1, zc_ent_mono (fun _ _ => zc_in_l) (h q hq).2⟩
  · exact ⟨(h' q hq).1, zc_ent_mono (fun _ _ => zc_in_r) (h' q hq).2⟩
theorem zc_big_app {T T' : zc_T} (h : zc_big T) (h' : zc_big T') : zc_big (T ++ T') := by
  intro q hq
  rcases List.mem_append.mp hq with hq | hq
  · exact h q hq
  · exact h' q hq
theorem zc_w_app (T T' : zc_T) : zc_w (T ++ T') = zc_w T ++ zc_w T' := List.map_append
theorem zc_at {T : zc_T} {g a : Nat} {e : va_E} (h : (g, a, e) ∈ T) : ∃ q : Nat, (zc_w T)[q]? = some (a, e) := by
  obtain ⟨i, hi, he⟩ := List.getElem_of_mem h
  exact ⟨i, by show (T.map (fun q => q.2))[i]? = _; rw [List.getElem?_map, List.getElem?_eq_getElem hi, he]; rfl⟩
/-- the kind of an address -/
def zc_ix (ad : Nat → Nat) (a : Nat) : Bool := (List.range 24).any (fun i => Nat.beq (ad i) a)
def zc_Sg (ad : Nat → Nat) (al sw : Nat) (T : zc_T) (a : Nat) : Option Nat := match T.find? (fun q => Nat.beq q.2.1 a) with
  | some q => some q.1
  | none => match zc_ix ad a with
    | true => some 128
    | false => match Nat.beq al a with
      | true => some 129
      | false => match Nat.beq sw a with
        | true => some 130
        | false => none
theorem zc_ix_ok {ad : Nat → Nat} {a : Nat} : zc_ix ad a = true ↔ ∃ i, i < 24 ∧ a = ad i := by
  unfold zc_ix
  rw [List.any_eq_true]
  constructor
  · rintro ⟨i, h1, h2⟩
    exact ⟨i, List.mem_range.mp h1, (Nat.eq_of_beq_eq_true h2).symm⟩
  · rintro ⟨i, h1, h2⟩
    exact ⟨i, List.mem_range.mpr h1, by rw [h2]; exact Nat.beq_refl _⟩
theorem zc_Sg_mem {ad : Nat → Nat} {al sw : Nat} {T : zc_T} {A : Nat → Prop} (hD : va_D A (zc_w T)) {g a : Nat} {e : va_E} (h : (g, a, e) ∈ T) : zc_Sg ad al sw T a = some g := by
  unfold zc_Sg
  cases hf : T.find? (fun q => Nat.beq q.2.1 a) with
  | none => exact absurd (Nat.beq_refl a) (by simpa using List.find?_eq_none.mp hf _ h)
  | some q =>
    have h1 := List.mem_of_find?_eq_some hf
    have h2 : q.2.1 = a := Nat.eq_of_beq_eq_true (List.find?_some (p := fun q : Nat × Nat × va_E => Nat.beq q.2.1 a) hf)
    obtain ⟨i, hi, ei⟩ := List.getElem_of_mem h1
    obtain ⟨j, hj, ej⟩ := List.getElem_of_mem h
    have e1 : (zc_w T)[i]? = some q.2 := by show (T.map (fun q => q.2))[i]? = _; rw [List.getElem?_map, List.getElem?_eq_getElem hi, ei]; rfl
    have e2 : (zc_w T)[j]? = some (a, e) := by show (T.map (fun q => q.2))[j]? = _; rw [List.getElem?_map, List.getElem?_eq_getElem hj, ej]; rfl
    have e3 := hD.1 i j _ _ e1 e2 h2
    subst e3
    rw [ei] at ej
    rw [ej]
theorem zc_Sg_of {ad : Nat → Nat} {al sw : Nat} {T : zc_T} {g a : Nat} (hg : g < 128) (h : zc_Sg ad al sw T a = some g) : ∃ e, (g, a, e) ∈ T := by
  unfold zc_Sg at h
  split at h
  · rename_i q hf
    have h1 := List.mem_of_find?_eq_some hf
    have h2 : q.2.1 = a := Nat.eq_of_beq_eq_true (List.find?_some (p := fun q : Nat × Nat × va_E => Nat.beq q.2.1 a) hf)
    cases h
    exact ⟨q.2.2, by rw [← h2]; exact h1⟩
  · split at h
    · cases h; omega
    · split at h
      · cases h; omega
      · split at h
        · cases h; omega
        · cases h
theorem zc_none {T : zc_T} {B0 a : Nat} (hB : ∀ q ∈ T, B0 ≤ q.2.1) (ha : ¬ B0 ≤ a) : T.find? (fun q => Nat.beq q.2.1 a) = none := by
  rw [List.find?_eq_none]
  intro q hq h
  exact ha (by rw [← Nat.eq_of_beq_eq_true h]; exact hB q hq)
theorem zc_Ks {ad : Nat → Nat} {al sw B0 : Nat} {k : Nat → ClassId} {T : zc_T} (hk : zc_ok ad k T) (hB : ∀ q ∈ T, B0 ≤ q.2.1) (h1 : ∀ i, i < 24 → ¬ B0 ≤ ad i) (h2 : ¬ B0 ≤ al) (h3 : ¬ B0 ≤ sw) (h4 : ∀ i, i < 24 → al ≠ ad i) (h5 : ∀ i, i < 24 → sw ≠ ad i) (h6 : al ≠ sw) : zKs (zc_Sg ad al sw T) ad al sw := by
  have nx : ∀ {a : Nat}, (∀ i, i < 24 → a ≠ ad i) → zc_ix ad a = false := fun {a} h => by
    cases hq : zc_ix ad a with
    | false => rfl
    | true => obtain ⟨i, e1, e2⟩ := zc_ix_ok.mp hq; exact absurd e2 (h i e1)
  have ne : ∀ {a b : Nat}, a ≠ b → Nat.beq a b = false := fun {a b} h => by
    cases hq : Nat.beq a b with
    | false => rfl
    | true => exact absurd (Nat.eq_of_beq_eq_true hq) h
  have big : ∀ {a g : Nat}, 128 ≤ g → zc_Sg ad al sw T a = some g → (g = 128 ∧ zc_ix ad a = true) ∨ (g = 129 ∧ al = a) ∨ (g = 130 ∧ sw = a) := by
    intro a g hg h
    unfold zc_Sg at h
    split at h
    · rename_i q hf
      have := (hk q (List.mem_of_find?_eq_some hf)).1
      cases h
      omega
    · split at h
      · rename_i hi
        cases h
        exact Or.inl ⟨rfl, hi⟩
      · split at h
        · rename_i hi
          cases h
          exact Or.inr (Or.inl ⟨rfl, Nat.eq_of_beq_eq_true hi⟩)
        · split at h
          · rename_i hi
            cases h
            exact Or.inr (Or.inr ⟨rfl, Nat.eq_of_beq_eq_true hi⟩)
          · cases h
  refine ⟨?_, ?_, ?_, ?_, ?_, ?_⟩
  · intro a h
    rcases big (by omega) h with ⟨-, h⟩ | ⟨h, -⟩ | ⟨h, -⟩
    · exact zc_ix_ok.mp h
    · omega
    · omega
  · intro i hi
    unfold zc_Sg
    rw [zc_none hB (h1 i hi), zc_ix_ok.mpr ⟨i, hi, rfl⟩]
  · intro a h
    rcases big (by omega) h with ⟨h, -⟩ | ⟨-, h⟩ | ⟨h, -⟩
    · omega
    · exact h.symm
    · omega
  · unfold zc_Sg
    rw [zc_none hB h2, nx h4, Nat.beq_refl]
  · intro a h
    rcases big (by omega) h with ⟨h, -⟩ | ⟨h, -⟩ | ⟨-, h⟩
    · omega
    · omega
    · exact h.symm
  · unfold zc_Sg
    rw [zc_none hB h3, nx h5, ne h6, Nat.beq_refl]
theorem zc_typ {ad : Nat → Nat} {al sw : Nat} {k : Nat → ClassId} {T : zc_T} {A : Nat → Prop} (hk : zc_ok ad k T) (hD : va_D A (zc_w T)) (hK : ∀ i, i < 24 → zc_Sg ad al sw T (ad i) = some 128) : zf_typ (zc_Sg ad al sw T) k zGT (zc_w T) := by
  intro a g h hg
  obtain ⟨e, he⟩ := zc_Sg_of hg h
  obtain ⟨q, hq⟩ := zc_at he
  refine ⟨q, e, hq, zc_ent_to ?_ (hk _ he).2⟩
  intro g' a' h'
  rcases h' with ⟨e', h'⟩ | ⟨rfl, i, hi, rfl⟩
  · exact zc_Sg_mem hD h'
  · exact hK i hi
/-- the single cells stand in front, in the order of their kinds -/
def zc_th (X : zc_T) (g : Nat) : Nat := (X.getD g (0, 0, .inr (0, []))).2.1
theorem zc_one {ad : Nat → Nat} {al sw n : Nat} {X P : zc_T} {A : Nat → Prop} (hD : va_D A (zc_w (X ++ P))) (hX : X.map (fun q => q.1) = List.range n) (hP : zc_big P) : (∀ a g, zc_Sg ad al sw (X ++ P) a = some g → g < 64 → a = zc_th X g) ∧ ∀ g, g < n → zc_Sg ad al sw (X ++ P) (zc_th X g) = some g := by
  have at1 : ∀ i (hi : i < X.length), (X[i]).1 = i := by
    intro i hi
    have h1 : (X.map (fun q => q.1))[i]? = some (X[i]).1 := by rw [List.getElem?_map, List.getElem?_eq_getElem hi]; rfl
    rw [hX] at h1
    have hl : X.length = n := by have := congrArg List.length hX; simpa using this
    rw [List.getElem?_range (by omega)] at h1
    exact (Option.some.inj h1).symm
  refine ⟨?_, ?_⟩
  · intro a g h hg
    obtain ⟨e, he⟩ := zc_Sg_of (by omega) h
    rcases List.mem_append.mp he with he | he
    · obtain ⟨i, hi, ei⟩ := List.getElem_of_mem he
      have h1 := at1 i hi
      rw [ei] at h1
      have h1 : g = i := h1
      subst h1
      unfold zc_th
      rw [List.getD_eq_getElem?_getD, List.getElem?_eq_getElem hi, ei]
      rfl
    · have := hP _ he
      have : 64 ≤ g := this
      omega
  · intro g hg
    have hl : X.length = n := by have := congrArg List.length hX; simpa using this
    have hi : g < X.length := by omega
    refine zc_Sg_mem hD (e := (X[g]).2.2) (List.mem_append_left _ ?_)
    have e1 : zc_th X g = (X[g]).2.1 := by
      unfold zc_th
      rw [List.getD_eq_getElem?_getD, List.getElem?_eq_getElem hi]
      rfl
    have e2 := at1 g hi
    rw [e1]
    have e3 : ((g, (X[g]).2.1, (X[g]).2.2) : Nat × Nat × va_E) = X[g] := Prod.ext e2.symm rfl
    rw [e3]
    exact List.getElem_mem hi
/-- what stands in a cell: an object by its fields -/
def zc_eo (g : zf_G) (n : Nat) : Bool := match g.1 with
  | false => decide (g.2.2.map (fun q => q.1) = (List.range n).map (fun i => i + 1))
  | true => false
theorem zc_sp_lt : ∀ {rows : List (Nat × zf_P)} {i0 i : Nat} {p : zf_P}, rows.map (fun q => q.1) = (List.range rows.length).map (fun j => i0 + j + 1) → i0 ≤ i → zf_sp rows i = some p → rows[i - i0]? = some (i + 1, p)
  | [], _, _, _, _, _, h => by cases h
  | q :: t, i0, i, p, hr, hi, h => by
    rw [List.length_cons, List.range_succ_eq_map] at hr
    simp only [List.map_cons, List.map_map, List.cons.injEq] at hr
    obtain ⟨h1, h2⟩ := hr
    unfold zf_sp at h
    split at h
    · rename_i hb
      have hb := zf_blt hb
      have : i = i0 := by omega
      subst this
      cases h
      rw [Nat.sub_self]
      show some q = _
      rw [show q = (q.1, q.2) from rfl, h1]
    · rename_i hb
      have hb : ¬ i < q.1 := fun z => by rw [zf_blt' z] at hb; cases hb
      have h3 := zc_sp_lt (rows := t) (i0 := i0 + 1) (i := i) (p := p) (by rw [h2]; apply List.map_congr_left; intro j _; show i0 + (j + 1) + 1 = _; omega) (by omega) h
      rw [show i - i0 = (i - (i0 + 1)) + 1 by omega, List.getElem?_cons_succ]
      exact h3
theorem zc_len : ∀ {rows : List (Nat × zf_P)} {i0 : Nat}, rows ≠ [] → rows.map (fun q => q.1) = (List.range rows.length).map (fun j => i0 + j + 1) → zf_len rows = i0 + rows.length
  | [], _, h, _ => absurd rfl h
  | [q], i0, _, hr => by
    have hr : [q.1] = [i0 + 0 + 1] := hr
    have hq := (List.cons.inj hr).1
    show q.1 = i0 + 1
    omega
  | q :: r :: t, i0, _, hr => by
    rw [List.length_cons, List.range_succ_eq_map] at hr
    simp only [List.map_cons, List.map_map, List.cons.injEq] at hr
    have h3 := zc_len (rows := r :: t) (i0 := i0 + 1) (fun z => by cases z) (by
      have := hr.2
      rw [List.map_cons]
      rw [this]
      apply List.map_congr_left; intro j _; show i0 + (j + 1) + 1 = _; omega)
    show zf_len (r :: t) = _
    rw [h3]
    simp only [List.length_cons]
    omega
theorem zc_f2_at {α β : Type} {Rl : α → β → Prop} : ∀ {x : List α} {y : List β} {i : Nat} {a : α}, zf_f2 Rl x y → x[i]? = some a → ∃ b, y[i]? = some b ∧ Rl a b
  | [], [], _, _, _, h => by simp at h
  | a :: x, b :: y, 0, _, p, h => by cases h; exact ⟨b, rfl, p.1⟩
  | a :: x, b :: y, i + 1, _, p, h => zc_f2_at (i := i) p.2 h
  | [], _ :: _, _, _, p, _ => p.elim
  | _ :: _, [], _, _, p, _ => p.elim
theorem zc_obj {Rr : Nat → Nat → Prop} {k : Nat → ClassId} {g : zf_G} {ci : Nat} {fs : List Value} (h1 : zc_eo g g.2.2.length = true) (h0 : g.2.2.isEmpty = false) (h2 : g.2.1 = ci) (h3 : zf_f2 (zc_pok Rr) (g.2.2.map (fun q => q.2)) fs) : zc_ent Rr k g (.inr (ci, fs)) := by
  subst h2
  unfold zc_eo at h1
  split at h1
  · rename_i hg
    have h1 := of_decide_eq_true h1
    have h1' : g.2.2.map (fun q => q.1) = (List.range g.2.2.length).map (fun j => 0 + j + 1) := by rw [h1]; apply List.map_congr_left; intro j _; omega
    refine ⟨?_, ?_⟩
    · rw [hg]
      exact ⟨fs, rfl, by rw [zc_len (fun z => by rw [z] at h0; cases h0) h1', ← zf_f2_len h3, List.length_map, Nat.zero_add]⟩
    · intro i p hp
      have h4 := zc_sp_lt h1' (Nat.zero_le _) hp
      rw [Nat.sub_zero] at h4
      have h5 : (g.2.2.map (fun q => q.2))[i]? = some p := by rw [List.getElem?_map, h4]; rfl
      obtain ⟨v, e1, e2⟩ := zc_f2_at h3 h5
      exact ⟨v, e1, e2⟩
  · cases h1
theorem zc_sp_in : ∀ {rows : List (Nat × zf_P)} {i : Nat} {p : zf_P}, zf_sp rows i = some p → ∃ q ∈ rows, p = q.2 ∧ i < q.1
  | [], _, _, h => by cases h
  | q :: t, i, p, h => by
    unfold zf_sp at h
    split at h
    · rename_i hb
      cases h
      exact ⟨q, List.mem_cons_self, rfl, zf_blt hb⟩
    · obtain ⟨r, h1, h2⟩ := zc_sp_in h
      exact ⟨r, List.mem_cons_of_mem _ h1, h2⟩
/-- rows all of whose ends lie up to n, all of whose ranges hold what stands there -/
def zc_ea (g : zf_G) (c n : Nat) : Bool := g.1 && Nat.beq g.2.1 c && Nat.beq (zf_len g.2.2) n && g.2.2.all (fun q => Nat.ble q.1 n)
theorem zc_arr {Rr : Nat → Nat → Prop} {k : Nat → ClassId} {g : zf_G} {c n : Nat} {x : (Nat → Int32) ⊕ (Nat → Int64) ⊕ (Nat → UInt32) ⊕ (Nat → UInt64) ⊕ (Nat → Option Nat)} (h1 : zc_ea g c n = true) (h2 : ∀ i p, zf_sp g.2.2 i = some p → i < n → zc_pok Rr p (zf_el x i)) : zc_ent Rr k g (.inl (k c, n, x)) := by
  unfold zc_ea at h1
  simp only [Bool.and_eq_true, List.all_eq_true] at h1
  obtain ⟨⟨⟨a1, a2⟩, a3⟩, a4⟩ := h1
  have a2 := Nat.eq_of_beq_eq_true a2
  have a3 := Nat.eq_of_beq_eq_true a3
  refine ⟨?_, ?_⟩
  · rw [a1, a2, a3]
    exact ⟨x, rfl⟩
  · intro i p hp
    obtain ⟨q, q1, -, q3⟩ := zc_sp_in hp
    have q4 := Nat.le_of_ble_eq_true (a4 q q1)
    have hi : i < n := by omega
    exact ⟨zf_el x i, if_pos hi, h2 i p hp hi⟩
/-- ints: all 0 -/
def zc_e0 (g : zf_G) : Bool := g.2.2.all (fun q => match q.2 with
  | .inl r => decide (r.1 ≤ 0) && decide (0 ≤ r.2)
  | _ => false)
theorem zc_arr0 {Rr : Nat → Nat → Prop} {k : Nat → ClassId} {g : zf_G} {c n : Nat} (h1 : (zc_ea g c n && zc_e0 g) = true) : zc_ent Rr k g (.inl (k c, n, .inl (fun _ => 0))) := by
  rw [Bool.and_eq_true] at h1
  refine zc_arr h1.1 (fun i p hp _ => ?_)
  obtain ⟨q, q1, rfl, -⟩ := zc_sp_in hp
  have h2 := h1.2
  unfold zc_e0 at h2
  rw [List.all_eq_true] at h2
  have h3 := h2 q q1
  split at h3
  · rename_i r hr
    rw [hr]
    simp only [Bool.and_eq_true, decide_eq_true_eq] at h3
    exact ⟨0, rfl, by simpa using h3.1, by simpa using h3.2⟩
  · cases h3
/-- ints within all ranges -/
def zc_ew (g : zf_G) : Bool := g.2.2.all (fun q => match q.2 with
  | .inl r => decide (r.1 ≤ -2147483648) && decide (2147483647 ≤ r.2)
  | _ => false)
theorem zc_arrw {Rr : Nat → Nat → Prop} {k : Nat → ClassId} {g : zf_G} {c n : Nat} {f : Nat → Int32} (h1 : (zc_ea g c n && zc_ew g) = true) : zc_ent Rr k g (.inl (k c, n, .inl f)) := by
  rw [Bool.and_eq_true] at h1
  refine zc_arr h1.1 (fun i p hp _ => ?_)
  obtain ⟨q, q1, rfl, -⟩ := zc_sp_in hp
  have h2 := h1.2
  unfold zc_ew at h2
  rw [List.all_eq_true] at h2
  have h3 := h2 q q1
  split at h3
  · rename_i r hr
    rw [hr]
    simp only [Bool.and_eq_true, decide_eq_true_eq] at h3
    have := (f i).toInt_lt
    have := (f i).le_toInt
    exact ⟨f i, rfl, by omega, by omega⟩
  · cases h3
/-- longs -/
def zc_el (g : zf_G) : Bool := g.2.2.all (fun q => match q.2 with
  | .inr none => true
  | _ => false)
theorem zc_arrl {Rr : Nat → Nat → Prop} {k : Nat → ClassId} {g : zf_G} {c n : Nat} {f : Nat → Int64} (h1 : (zc_ea g c n && zc_el g) = true) : zc_ent Rr k g (.inl (k c, n, .inr (.inl f))) := by
  rw [Bool.and_eq_true] at h1
  refine zc_arr h1.1 (fun i p hp _ => ?_)
  obtain ⟨q, q1, rfl, -⟩ := zc_sp_in hp
  have h2 := h1.2
  unfold zc_el at h2
  rw [List.all_eq_true] at h2
  have h3 := h2 q q1
  split at h3
  · rename_i hr
    rw [hr]
    exact ⟨f i, rfl⟩
  · cases h3
/-- references to cells of one kind -/
def zc_er (g : zf_G) (g' : Nat) : Bool := g.2.2.all (fun q => match q.2 with
  | .inr (some r) => Nat.beq r g'
  | _ => false)
theorem zc_arrr {Rr : Nat → Nat → Prop} {k : Nat → ClassId} {g : zf_G} {c n g' : Nat} {f : Nat → Option Nat} (h1 : (zc_ea g c n && zc_er g g') = true) (hf : ∀ i, i < n → ∃ a, f i = some a ∧ Rr g' a) : zc_ent Rr k g (.inl (k c, n, .inr (.inr (.inr (.inr f))))) := by
  rw [Bool.and_eq_true] at h1
  refine zc_arr h1.1 (fun i p hp hi => ?_)
  obtain ⟨q, q1, rfl, -⟩ := zc_sp_in hp
  have h2 := h1.2
  unfold zc_er at h2
  rw [List.all_eq_true] at h2
  have h3 := h2 q q1
  split at h3
  · rename_i r hr
    rw [hr]
    obtain ⟨a, e1, e2⟩ := hf i hi
    refine ⟨a, ?_, by rw [Nat.eq_of_beq_eq_true h3]; exact e2⟩
    show va_rf (f i) = _
    rw [e1]
    rfl
  · cases h3
/-- a pool's cells one by one -/
theorem zc_ok_of {ad : Nat → Nat} {k : Nat → ClassId} {T : zc_T} (h : ∀ q ∈ T, q.1 < 128 ∧ zc_ent (zc_in ad T) k (zf_gi zGT q.1) q.2.2) : zc_ok ad k T := h
/-- behind a call: the caller's other cells, and the callee's world -/
theorem zc_join {A : Nat → Prop} {D : va_G} {cl : List vw_C} {wr wc w1 : va_W} {H H1 : Heap} (hP : va_P D cl (wr ++ wc) H) (hD : va_D A (wr ++ wc)) (hk : ∀ q : Nat, q < H.size → ¬ va_A wc H.size q → H1[q]? = H[q]?) (hF : ∀ q, va_A wc H.size q → A q) (hP1 : va_P D cl w1 H1) (hD1 : va_D (va_A wc H.size) w1) : va_P D cl (wr ++ w1) H1 ∧ va_D A (wr ++ w1) := by
  have hl : ∀ (i : Nat) (q : Nat × va_E), wr[i]? = some q → (wr ++ wc)[i]? = some q := fun i q h => by
    rw [List.getElem?_append_left (List.getElem?_eq_some_iff.mp h).1]; exact h
  have apart : ∀ (i : Nat) (q : Nat × va_E), wr[i]? = some q → q.1 < H.size ∧ ¬ va_A wc H.size q.1 := by
    intro i q hq
    have h1 := (hP i q (hl i q hq)).lt
    refine ⟨h1, fun h => ?_⟩
    rcases h with ⟨j, e, h⟩ | h
    · have h2 : (wr ++ wc)[wr.length + j]? = some (q.1, e) := by
        rw [List.getElem?_append_right (by omega), show wr.length + j - wr.length = j by omega]; exact h
      have h3 := hD.1 _ _ _ _ (hl i q hq) h2 rfl
      have := (List.getElem?_eq_some_iff.mp hq).1
      omega
    · omega
  refine ⟨?_, ?_⟩
  · exact va_P.app (va_P.kept (ws := wr) (H := H) (fun i q hq => hP i q (hl i q hq)) (fun i q hq => hk _ (apart i q hq).1 (apart i q hq).2)) hP1
  · refine va_D.app ⟨fun i j x y hx hy hxy => hD.1 i j x y (hl i x hx) (hl j y hy) hxy, fun i q hq => hD.2 i q (hl i q hq)⟩ (hD1.weaken (fun _ q _ h => hF q.1 h)) ?_
    intro i j x y hx hy hxy
    exact (apart i x hx).2 (by rw [hxy]; exact hD1.2 j y hy)
/-! ===== constructors that leave a pool ===== -/
def zc_Cv {S : Type} (l : Launch) (y : MethodName) (wsY : List Cond) (rm : Room) (D : va_G) (k : Nat → ClassId) (E : State → Prop) (av : List Value) (ws : va_W) (w1 : S → va_W) (X : S → Prop) (mc ms : Nat) : Prop :=
  ∀ sz : Nat, Met l y wsY rm (va_Pc av (g_pr D k E sz ws)) (va_Qv X (fun u t => g_po D k (va_A ws sz) (w1 u) t) (va_A ws sz)) mc ms (va_A ws sz)
section ZC
variable {p : Program} {l : Launch} {e : Env} {R : Room} {s : State} {m : MethodId} {args : Array Value} {below : List Frame} {meth : Method} {c : Code} {H : Heap} {locs : List Loc} {cells slots : Nat} {Q : State → Prop}
variable {cc bytes : ByteArray} {nL maxL pc : Nat} {ls : Array Slot} {As rest st0 : List Value} {D : va_G} {A : Nat → Prop} {k : Nat → ClassId} {wc wr : va_W} {S : Type} {w1 : S → va_W} {X : S → Prop} {mc ms : Nat} {own host : String} {index n : Nat} {y : MethodName} {wsY Ts : List Cond} {rm : Room} {b : Addr} {H0 : Heap} {E : State → Prop} {args' : Array Value}
theorem zc_F (hD : va_D A (wr ++ wc)) (hS : va_S A H0 H locs) (hA : ∀ q, H0.size ≤ q → A q) : ∀ q, va_A wc H.size q → A q := by
  intro q h
  rcases h with ⟨j, e, h⟩ | h
  · exact hD.2 (wr.length + j) (q, e) (by rw [List.getElem?_append_right (by omega), show wr.length + j - wr.length = j by omega]; exact h)
  · exact hA q (Nat.le_trans hS.1 h)
theorem zc_pre (hE : ∀ U : State, U.heap = H → s.WarmedH U.vm → E U) (hK : va_K D vwCl (tyz k) s) (hP : va_P D vwCl (wr ++ wc) H) (hD : va_D A (wr ++ wc)) {av : List Value} :
    ∀ U : State, U.heap = H → s.WarmedH U.vm → va_Pc av (g_pr D k E H.size wc) av.toArray U := fun U hU hW => by
  have hr : ∀ (j : Nat) (q : Nat × va_E), wc[j]? = some q → (wr ++ wc)[wr.length + j]? = some q := fun j q h => by
    rw [List.getElem?_append_right (by omega), show wr.length + j - wr.length = j by omega]; exact h
  refine ⟨rfl, by rw [hU], ?_, va_K.moved hW.alike hK, ⟨?_, fun _ _ _ => trivial⟩, hE U hU hW⟩
  · rw [hU]
    exact fun j q h => hP _ q (hr j q h)
  · intro i j x z hx hz hxz
    have := hD.1 _ _ _ _ (hr i x hx) (hr j z hz) hxz
    omega
theorem zc_kv (hS : va_S A H0 H locs) (hA : ∀ q, H0.size ≤ q → A q) (hP : va_P D vwCl (wr ++ wc) H) (hD : va_D A (wr ++ wc))
    (hr : va_Run p l e R s m args below meth c H locs cells slots mc ms (F0 m pc ls st0) rest (va_Qv X (fun u t => g_po D k (va_A wc H.size) (w1 u) t) (va_A wc H.size) args') (va_A wc H.size))
    (kk : ∀ (u : S) (H1 : Heap) (locs1 : List Loc), X u → va_P D vwCl (wr ++ w1 u) H1 → va_D A (wr ++ w1 u) → va_S A H0 H1 locs1 → W p l e R s m args below meth c H1 locs1 (cells + mc) (slots + ms) Q (F0 m (pc + 3) ls rest)) :
    W p l e R s m args below meth c H locs cells slots Q (F0 m pc ls st0) := by
  have hFc := zc_F hD hS hA
  refine va_callv hr hS (fun q _ h => hFc q h) hFc (fun u t H1 locs ht hvm hw hB hz1 hk1 hS => ?_)
  obtain ⟨hP1, hK1, hD1⟩ := hB
  rw [ht] at hP1
  obtain ⟨hP, hD⟩ := zc_join hP hD hk1 hFc hP1 hD1
  exact kk u H1 locs hw hP hD hS
theorem zc_vIN (F : CallFix p m c cc nL s args Ts own) (hM : zc_Cv l y wsY rm D k E (.ref b :: As) wc w1 X mc ms) (cw : va_CN R s args own index y host bytes maxL none wsY rm mc ms n ∧ y.name = "<init>" ∧ (Cond.instanceMethod y).before args s = true) (hEo : g_Ok E) (hE : ∀ U : State, U.heap = H → s.WarmedH U.vm → E U) (hK : va_K D vwCl (tyz k) s) (hP : va_P D vwCl (wr ++ wc) H) (hD : va_D A (wr ++ wc)) (hS : va_S A H0 H locs) (hA : ∀ q, H0.size ≤ q → A q)
    (hn1 : As.length = n) (hsize : ls.size = nL) (hst : st0 = As.reverse ++ .ref b :: rest) (hW : (rest.map fun v => v.category).sum ≤ 8) (hdg : decode cc pc = .ok (.invokespecial index, 3)) (hf : cells + mc ≤ R.cells ∧ slots + ms ≤ R.slots)
    (kk : ∀ (u : S) (H1 : Heap) (locs1 : List Loc), X u → va_P D vwCl (wr ++ w1 u) H1 → va_D A (wr ++ w1 u) → va_S A H0 H1 locs1 → W p l e R s m args below meth c H1 locs1 (cells + mc) (slots + ms) Q (F0 m (pc + 3) ls rest)) :
    W p l e R s m args below meth c H locs cells slots Q (F0 m pc ls st0) :=
  zc_kv hS hA hP hD (va_runIN F (hM H.size) cw ⟨g_blind hEo, zc_pre hE hK hP hD⟩ rfl hn1 hsize hst (lv_room (rest := rest) (ls := ls) (pc := pc) (m := m) hW) hdg hf) kk
theorem zc_vI (F : CallFix p m c cc nL s args Ts own) (hM : zc_Cv l y wsY rm D k E (.ref b :: As) wc w1 X mc ms) (cw : CallB R s args own index y bytes maxL none wsY rm mc ms n ∧ y.name = "<init>" ∧ (Cond.instanceMethod y).before args s = true) (hEo : g_Ok E) (hE : ∀ U : State, U.heap = H → s.WarmedH U.vm → E U) (hK : va_K D vwCl (tyz k) s) (hP : va_P D vwCl (wr ++ wc) H) (hD : va_D A (wr ++ wc)) (hS : va_S A H0 H locs) (hA : ∀ q, H0.size ≤ q → A q)
    (hn1 : As.length = n) (hsize : ls.size = nL) (hst : st0 = As.reverse ++ .ref b :: rest) (hW : (rest.map fun v => v.category).sum ≤ 8) (hdg : decode cc pc = .ok (.invokespecial index, 3)) (hf : cells + mc ≤ R.cells ∧ slots + ms ≤ R.slots)
    (kk : ∀ (u : S) (H1 : Heap) (locs1 : List Loc), X u → va_P D vwCl (wr ++ w1 u) H1 → va_D A (wr ++ w1 u) → va_S A H0 H1 locs1 → W p l e R s m args below meth c H1 locs1 (cells + mc) (slots + ms) Q (F0 m (pc + 3) ls rest)) :
    W p l e R s m args below meth c H locs cells slots Q (F0 m pc ls st0) :=
  zc_kv hS hA hP hD (va_runI F (hM H.size) cw ⟨g_blind hEo, zc_pre hE hK hP hD⟩ rfl hn1 hsize hst (lv_room (rest := rest) (ls := ls) (pc := pc) (m := m) hW) hdg hf) kk
theorem zc_vret (hx : p.tables.exec = Jvm.exec) (hb : c.code = cc) (hr : meth.sig.returnType = none) (hlocks : meth.locks = false) (hK : va_K D vwCl (tyz k) s) (u : S) (hu : X u) (hP : va_P D vwCl (w1 u) H) (hD : va_D A (w1 u)) (hS : va_S A s.heap H locs) (hdg : decode cc pc = .ok (.return_, 1)) (hm : cells ≤ mc ∧ slots ≤ ms) :
    W p l e R s m args below meth c H locs cells slots (MQ below (va_Qv X (fun u t => g_po D k A (w1 u) t) A) args s mc ms A) (F0 m pc ls []) := by
  refine W.widen (k := mc) (n := ms) hm.1 hm.2 ?_
  exact W.vret hx hb hr (fun t ht hW => ⟨⟨u, rfl, hu, by rw [ht]; exact hP, va_K.moved hW.alike hK, hD⟩, hS.F ht⟩) hS.2.2 hdg hlocks
end ZC
/-! ===== a town, a sentence ===== -/
def zc_town (k : Nat → ClassId) (a0 : Nat) (u : Nat → Nat) : zc_T := [(64, a0, .inr (8, [.int 0, .ref (u 0), .ref (u 1), .ref (u 7), .ref (u 10), .int 1, .int 0, .int 0, .int 0])), (65, (u 0), .inl (k 1, 6, .inr (.inl (fun _ => 0)))), (66, (u 1), .inr (1, [.int 0, .ref (u 2), .ref (u 3), .ref (u 4), .ref (u 5), .ref (u 6)])), (67, (u 2), .inl (k 0, 16, .inl (fun _ => 0))), (68, (u 3), .inl (k 0, 16, .inl (fun _ => 0))), (69, (u 4), .inl (k 0, 16, .inl (fun _ => 0))), (70, (u 5), .inl (k 0, 16, .inl (fun _ => 0))), (71, (u 6), .inl (k 0, 16, .inl (fun _ => 0))), (72, (u 7), .inr (0, [.ref (u 8), .ref (u 9)])), (73, (u 8), .inl (k 0, 36, .inl (fun _ => 0))), (74, (u 9), .inl (k 0, 6, .inl (fun _ => 0))), (75, (u 10), .inl (k 0, 6, .inl (fun _ => 0)))]
def zc_sent (k : Nat → ClassId) (o a0 : Nat) (u : Nat → Nat) : zc_T := [(76, a0, .inr (6, [.ref (u 0), .ref (u 1), .ref (u 2), .ref (u 3), .int 0, .int 0])), (77, (u 0), .inl (k 6, 40, .inr (.inr (.inr (.inr (rgf (kq o) 40)))))), (78, (u 1), .inl (k 0, 40, .inl (fun _ => 0))), (79, (u 2), .inl (k 0, 40, .inl (fun _ => 0))), (80, (u 3), .inl (k 0, 40, .inl (fun _ => 0)))]
theorem zc_i {ad : Nat → Nat} {T : zc_T} (i : Nat) {g a : Nat} {e : va_E} (h : T[i]? = some (g, a, e)) : zc_in ad T g a := Or.inl ⟨e, List.mem_of_getElem? h⟩
theorem zc_big_town {k : Nat → ClassId} {a0 : Nat} {u : Nat → Nat} : zc_big (zc_town k a0 u) := by
  unfold zc_town
  intro q hq
  simp only [List.mem_cons, List.not_mem_nil, or_false] at hq
  rcases hq with rfl | rfl | rfl | rfl | rfl | rfl | rfl | rfl | rfl | rfl | rfl | rfl <;> exact Nat.le_of_ble_eq_true rfl
theorem zc_big_sent {k : Nat → ClassId} {o a0 : Nat} {u : Nat → Nat} : zc_big (zc_sent k o a0 u) := by
  unfold zc_sent
  intro q hq
  simp only [List.mem_cons, List.not_mem_nil, or_false] at hq
  rcases hq with rfl | rfl | rfl | rfl | rfl <;> exact Nat.le_of_ble_eq_true rfl
/-- an int that is written down -/
theorem zc_n {Rr : Nat → Nat → Prop} {lo hi : Int} {x : Int32} (h : lo ≤ x.toInt ∧ x.toInt ≤ hi) : zc_pok Rr (.inl (lo, hi)) (.int x) := ⟨x, rfl, h.1, h.2⟩
theorem zc_r {Rr : Nat → Nat → Prop} {g a : Nat} (h : Rr g a) : zc_pok Rr (.inr (some g)) (.ref a) := ⟨a, rfl, h⟩
theorem zc_ok_town {ad : Nat → Nat} {k : Nat → ClassId} {a0 : Nat} {u : Nat → Nat} : zc_ok ad k (zc_town k a0 u) := by
  intro q hq
  have hq' := hq
  unfold zc_town at hq'
  simp only [List.mem_cons, List.not_mem_nil, or_false] at hq'
  rcases hq' with rfl | rfl | rfl | rfl | rfl | rfl | rfl | rfl | rfl | rfl | rfl | rfl
  · exact ⟨Nat.le_of_ble_eq_true rfl, zc_obj (g := zf_gi zGT 64) (by decide +kernel) rfl rfl ⟨zc_n (by decide), zc_r (zc_i 1 rfl), zc_r (zc_i 2 rfl), zc_r (zc_i 8 rfl), zc_r (zc_i 11 rfl), zc_n (by decide), zc_n (by decide), zc_n (by decide), zc_n (by decide), trivial⟩⟩
  · exact ⟨Nat.le_of_ble_eq_true rfl, zc_arrl (g := zf_gi zGT 65) (by decide +kernel)⟩
  · exact ⟨Nat.le_of_ble_eq_true rfl, zc_obj (g := zf_gi zGT 66) (by decide +kernel) rfl rfl ⟨zc_n (by decide), zc_r (zc_i 3 rfl), zc_r (zc_i 4 rfl), zc_r (zc_i 5 rfl), zc_r (zc_i 6 rfl), zc_r (zc_i 7 rfl), trivial⟩⟩
  · exact ⟨Nat.le_of_ble_eq_true rfl, zc_arr0 (g := zf_gi zGT 67) (by decide +kernel)⟩
  · exact ⟨Nat.le_of_ble_eq_true rfl, zc_arr0 (g := zf_gi zGT 68) (by decide +kernel)⟩
  · exact ⟨Nat.le_of_ble_eq_true rfl, zc_arr0 (g := zf_gi zGT 69) (by decide +kernel)⟩
  · exact ⟨Nat.le_of_ble_eq_true rfl, zc_arr0 (g := zf_gi zGT 70) (by decide +kernel)⟩
  · exact ⟨Nat.le_of_ble_eq_true rfl, zc_arr0 (g := zf_gi zGT 71) (by decide +kernel)⟩
  · exact ⟨Nat.le_of_ble_eq_true rfl, zc_obj (g := zf_gi zGT 72) (by decide +kernel) rfl rfl ⟨zc_r (zc_i 9 rfl), zc_r (zc_i 10 rfl), trivial⟩⟩
  · exact ⟨Nat.le_of_ble_eq_true rfl, zc_arr0 (g := zf_gi zGT 73) (by decide +kernel)⟩
  · exact ⟨Nat.le_of_ble_eq_true rfl, zc_arr0 (g := zf_gi zGT 74) (by decide +kernel)⟩
  · exact ⟨Nat.le_of_ble_eq_true rfl, zc_arr0 (g := zf_gi zGT 75) (by decide +kernel)⟩
theorem zc_keys {ad : Nat → Nat} {T : zc_T} {o : Nat} (h0 : o = ad 0) : ∀ i, i < 40 → ∃ a, rgf (kq o) 40 i = some a ∧ zc_in ad T 128 a := by
  intro i hi
  exact ⟨o, by simp [rgf, kq, hi], Or.inr ⟨rfl, 0, by decide, h0⟩⟩
theorem zc_ok_sent {ad : Nat → Nat} {k : Nat → ClassId} {o a0 : Nat} {u : Nat → Nat} (h0 : o = ad 0) : zc_ok ad k (zc_sent k o a0 u) := by
  intro q hq
  have hq' := hq
  unfold zc_sent at hq'
  simp only [List.mem_cons, List.not_mem_nil, or_false] at hq'
  rcases hq' with rfl | rfl | rfl | rfl | rfl
  · exact ⟨Nat.le_of_ble_eq_true rfl, zc_obj (g := zf_gi zGT 76) (by decide +kernel) rfl rfl ⟨zc_r (zc_i 1 rfl), zc_r (zc_i 2 rfl), zc_r (zc_i 3 rfl), zc_r (zc_i 4 rfl), zc_n (by decide), zc_n (by decide), trivial⟩⟩
  · exact ⟨Nat.le_of_ble_eq_true rfl, zc_arrr (g := zf_gi zGT 77) (g' := 128) (by decide +kernel) (zc_keys h0)⟩
  · exact ⟨Nat.le_of_ble_eq_true rfl, zc_arr0 (g := zf_gi zGT 78) (by decide +kernel)⟩
  · exact ⟨Nat.le_of_ble_eq_true rfl, zc_arr0 (g := zf_gi zGT 79) (by decide +kernel)⟩
  · exact ⟨Nat.le_of_ble_eq_true rfl, zc_arr0 (g := zf_gi zGT 80) (by decide +kernel)⟩
