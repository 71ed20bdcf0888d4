/-! ===== linear forms over numbered unknowns ===== -/
abbrev zf_T := List (Nat × Int)
abbrev zf_L := zf_T × Int
def zf_z (c : Int) : Bool := match c with
  | .ofNat n => Nat.beq n 0
  | .negSucc _ => false
def zf_le (a b : Int) : Bool := match b - a with
  | .ofNat _ => true
  | .negSucc _ => false
theorem zf_z_eq {c : Int} (h : zf_z c = true) : c = 0 := by
  cases c with
  | ofNat n => simp [zf_z] at h; simp [h]
  | negSucc n => simp [zf_z] at h
theorem zf_le_iff {a b : Int} : zf_le a b = true ↔ a ≤ b := by
  unfold zf_le
  cases h : b - a with
  | ofNat n =>
    have h : b - a = (n : Int) := h
    simp; omega
  | negSucc n => simp; omega
theorem zf_blt {a b : Nat} (h : Nat.blt a b = true) : a < b := Nat.le_of_ble_eq_true h
theorem zf_blt' {a b : Nat} (h : a < b) : Nat.blt a b = true := Nat.ble_eq_true_of_le h
def zf_x (ρ : Nat → Int) (t : zf_T) (c : Int) : Int := t.foldr (fun q a => q.2 * ρ q.1 + a) c
def zf_v (ρ : Nat → Int) (f : zf_L) : Int := zf_x ρ f.1 f.2
theorem zf_x_nil (ρ : Nat → Int) (c : Int) : zf_x ρ [] c = c := rfl
theorem zf_x_cons (ρ : Nat → Int) (q : Nat × Int) (t : zf_T) (c : Int) : zf_x ρ (q :: t) c = q.2 * ρ q.1 + zf_x ρ t c := rfl
theorem zf_x_c (ρ : Nat → Int) (t : zf_T) (c d : Int) : zf_x ρ t (c + d) = zf_x ρ t c + d := by
  induction t with
  | nil => rfl
  | cons q t ih => rw [zf_x_cons, zf_x_cons, ih]; omega
def zf_ins (x : Nat) (c : Int) : zf_T → zf_T
  | [] => [(x, c)]
  | q :: t => match Nat.beq x q.1 with
    | true => match zf_z (c + q.2) with
      | true => t
      | false => (x, c + q.2) :: t
    | false => match Nat.ble x q.1 with
      | true => (x, c) :: q :: t
      | false => q :: zf_ins x c t
theorem zf_x_ins (ρ : Nat → Int) (x : Nat) (c k : Int) : ∀ t : zf_T, zf_x ρ (zf_ins x c t) k = c * ρ x + zf_x ρ t k
  | [] => rfl
  | q :: t => by
    unfold zf_ins
    split
    · rename_i h
      have hx : x = q.1 := Nat.eq_of_beq_eq_true h
      split
      · rename_i hz
        have := zf_z_eq hz
        rw [zf_x_cons, hx, show q.2 = -c by omega, Int.neg_mul]
        omega
      · rw [zf_x_cons, zf_x_cons, hx]
        dsimp only
        rw [Int.add_mul]
        omega
    · split
      · rfl
      · rw [zf_x_cons, zf_x_cons, zf_x_ins ρ x c k t]
        omega
def zf_tadd (a b : zf_T) : zf_T := a.foldr (fun q t => zf_ins q.1 q.2 t) b
theorem zf_x_tadd (ρ : Nat → Int) (b : zf_T) (k : Int) : ∀ a : zf_T, zf_x ρ (zf_tadd a b) k = zf_x ρ a 0 + zf_x ρ b k
  | [] => by simp [zf_tadd, zf_x]
  | q :: a => by
    show zf_x ρ (zf_ins q.1 q.2 (zf_tadd a b)) k = _
    rw [zf_x_ins, zf_x_tadd ρ b k a, zf_x_cons]
    omega
def zf_add (f g : zf_L) : zf_L := (zf_tadd f.1 g.1, f.2 + g.2)
theorem zf_v_add (ρ : Nat → Int) (f g : zf_L) : zf_v ρ (zf_add f g) = zf_v ρ f + zf_v ρ g := by
  show zf_x ρ (zf_tadd f.1 g.1) (f.2 + g.2) = _
  rw [zf_x_tadd, show f.2 + g.2 = g.2 + f.2 by omega, zf_x_c]
  show _ = zf_x ρ f.1 f.2 + zf_x ρ g.1 g.2
  have := zf_x_c ρ f.1 0 f.2
  rw [Int.zero_add] at this
  rw [this]
  omega
def zf_mul (k : Int) (f : zf_L) : zf_L := match zf_z k with
  | true => ([], 0)
  | false => (f.1.map (fun q => (q.1, k * q.2)), k * f.2)
theorem zf_x_map (ρ : Nat → Int) (k c : Int) : ∀ t : zf_T, zf_x ρ (t.map (fun q => (q.1, k * q.2))) (k * c) = k * zf_x ρ t c
  | [] => rfl
  | q :: t => by
    rw [List.map_cons, zf_x_cons, zf_x_cons, zf_x_map ρ k c t, Int.mul_add, Int.mul_assoc]
theorem zf_v_mul (ρ : Nat → Int) (k : Int) (f : zf_L) : zf_v ρ (zf_mul k f) = k * zf_v ρ f := by
  unfold zf_mul
  split
  · rename_i h
    rw [zf_z_eq h]; simp [zf_v, zf_x]
  · exact zf_x_map ρ k f.2 f.1
def zf_sub (f g : zf_L) : zf_L := zf_add f (zf_mul (-1) g)
theorem zf_v_sub (ρ : Nat → Int) (f g : zf_L) : zf_v ρ (zf_sub f g) = zf_v ρ f - zf_v ρ g := by
  unfold zf_sub
  rw [zf_v_add, zf_v_mul]; omega
def zf_con (k : Int) : zf_L := ([], k)
def zf_sym (x : Nat) : zf_L := ([(x, 1)], 0)
theorem zf_v_con (ρ : Nat → Int) (k : Int) : zf_v ρ (zf_con k) = k := rfl
theorem zf_v_sym (ρ : Nat → Int) (x : Nat) : zf_v ρ (zf_sym x) = ρ x := by
  show 1 * ρ x + 0 = ρ x
  omega
/-- like forms, by their texts -/
def zf_teq : zf_T → zf_T → Bool
  | [], [] => true
  | p :: a, q :: b => Nat.beq p.1 q.1 && zf_z (p.2 - q.2) && zf_teq a b
  | _, _ => false
theorem zf_teq_eq : ∀ {a b : zf_T}, zf_teq a b = true → a = b
  | [], [], _ => rfl
  | p :: a, q :: b, h => by
    simp only [zf_teq, Bool.and_eq_true] at h
    obtain ⟨⟨h1, h2⟩, h3⟩ := h
    have e1 : p.1 = q.1 := Nat.eq_of_beq_eq_true h1
    have e2 : p.2 = q.2 := by have := zf_z_eq h2; omega
    rw [zf_teq_eq h3, show p = q from Prod.ext e1 e2]
  | [], _ :: _, h => by simp [zf_teq] at h
  | _ :: _, [], h => by simp [zf_teq] at h
def zf_eq (f g : zf_L) : Bool := zf_z (f.2 - g.2) && zf_teq f.1 g.1
theorem zf_eq_eq {f g : zf_L} (h : zf_eq f g = true) : f = g := by
  simp only [zf_eq, Bool.and_eq_true] at h
  have := zf_z_eq h.1
  exact Prod.ext (zf_teq_eq h.2) (by omega)
/-! ===== bounds of unknowns, and what follows from them ===== -/
abbrev zf_E := List (Int × Int)
def zf_at : zf_E → Nat → Int × Int
  | [], _ => (-2147483648, 2147483647)
  | q :: _, 0 => q
  | _ :: t, n + 1 => zf_at t n
def zf_okE (E : zf_E) (ρ : Nat → Int) : Prop := ∀ x, (zf_at E x).1 ≤ ρ x ∧ ρ x ≤ (zf_at E x).2
def zf_tlo (E : zf_E) (q : Nat × Int) : Int := match q.2 with
  | .ofNat _ => q.2 * (zf_at E q.1).1
  | .negSucc _ => q.2 * (zf_at E q.1).2
def zf_lo (E : zf_E) (f : zf_L) : Int := f.1.foldr (fun q a => zf_tlo E q + a) f.2
def zf_thi (E : zf_E) (q : Nat × Int) : Int := match q.2 with
  | .ofNat _ => q.2 * (zf_at E q.1).2
  | .negSucc _ => q.2 * (zf_at E q.1).1
def zf_hi (E : zf_E) (f : zf_L) : Int := f.1.foldr (fun q a => zf_thi E q + a) f.2
theorem zf_tlo_le {E : zf_E} {ρ : Nat → Int} (h : zf_okE E ρ) (q : Nat × Int) : zf_tlo E q ≤ q.2 * ρ q.1 := by
  unfold zf_tlo
  obtain ⟨h1, h2⟩ := h q.1
  split
  · rename_i n hn
    rw [hn]
    exact Int.mul_le_mul_of_nonneg_left h1 (Int.natCast_nonneg n)
  · rename_i n hn
    rw [hn]
    have h3 : (Int.negSucc n) ≤ 0 := by omega
    exact Int.mul_le_mul_of_nonpos_left h3 h2
theorem zf_lo_le {E : zf_E} {ρ : Nat → Int} (h : zf_okE E ρ) (f : zf_L) : zf_lo E f ≤ zf_v ρ f := by
  obtain ⟨t, c⟩ := f
  show t.foldr (fun q a => zf_tlo E q + a) c ≤ zf_x ρ t c
  induction t with
  | nil => exact Int.le_refl c
  | cons q t ih =>
    have := zf_tlo_le h q
    rw [zf_x_cons]
    show zf_tlo E q + _ ≤ _
    omega
theorem zf_le_thi {E : zf_E} {ρ : Nat → Int} (h : zf_okE E ρ) (q : Nat × Int) : q.2 * ρ q.1 ≤ zf_thi E q := by
  unfold zf_thi
  obtain ⟨h1, h2⟩ := h q.1
  split
  · rename_i n hn
    rw [hn]
    exact Int.mul_le_mul_of_nonneg_left h2 (Int.natCast_nonneg n)
  · rename_i n hn
    rw [hn]
    have h3 : (Int.negSucc n) ≤ 0 := by omega
    exact Int.mul_le_mul_of_nonpos_left h3 h1
theorem zf_le_hi {E : zf_E} {ρ : Nat → Int} (h : zf_okE E ρ) (f : zf_L) : zf_v ρ f ≤ zf_hi E f := by
  obtain ⟨t, c⟩ := f
  show zf_x ρ t c ≤ t.foldr (fun q a => zf_thi E q + a) c
  induction t with
  | nil => exact Int.le_refl c
  | cons q t ih =>
    have := zf_le_thi h q
    rw [zf_x_cons]
    show _ ≤ zf_thi E q + _
    omega
theorem zf_le_hi1 {E : zf_E} {ρ : Nat → Int} (h : zf_okE E ρ) (c : Int) (p : Nat × Int) : ∀ t : zf_T, p ∈ t → zf_x ρ t c + (zf_thi E p - p.2 * ρ p.1) ≤ t.foldr (fun q a => zf_thi E q + a) c
  | [], hp => by simp at hp
  | q :: t, hp => by
    rw [zf_x_cons]
    show _ ≤ zf_thi E q + t.foldr (fun q a => zf_thi E q + a) c
    rcases List.mem_cons.mp hp with rfl | hp
    · have := zf_le_hi h (t, c)
      have e : zf_v ρ (t, c) = zf_x ρ t c := rfl
      have e2 : zf_hi E (t, c) = t.foldr (fun q a => zf_thi E q + a) c := rfl
      omega
    · have := zf_le_hi1 h c p t hp
      have := zf_le_thi h q
      omega
def zf_okF (Fs : List zf_L) (ρ : Nat → Int) : Prop := ∀ g ∈ Fs, 0 ≤ zf_v ρ g
/-- f is 0 at least: by bounds alone, with one known form, or with two -/
def zf_ge (E : zf_E) (Fs : List zf_L) (f : zf_L) : Bool :=
  zf_le 0 (zf_lo E f) || Fs.any (fun g => zf_le 0 (zf_lo E (zf_sub f g))) || Fs.any (fun g => Fs.any (fun k => zf_le 0 (zf_lo E (zf_sub (zf_sub f g) k))))
theorem zf_ge_of {E : zf_E} {Fs : List zf_L} {ρ : Nat → Int} (hE : zf_okE E ρ) (hF : zf_okF Fs ρ) {f : zf_L} (h : zf_ge E Fs f = true) : 0 ≤ zf_v ρ f := by
  unfold zf_ge at h
  simp only [Bool.or_eq_true, List.any_eq_true, zf_le_iff] at h
  rcases h with (h | ⟨g, hg, h⟩) | ⟨g, hg, k, hk, h⟩
  · have := zf_lo_le hE f; omega
  · have := zf_lo_le hE (zf_sub f g); rw [zf_v_sub] at this; have := hF g hg; omega
  · have := zf_lo_le hE (zf_sub (zf_sub f g) k); rw [zf_v_sub, zf_v_sub] at this; have := hF g hg; have := hF k hk; omega
/-- f can't be 0 or more -/
def zf_no (E : zf_E) (Fs : List zf_L) (f : zf_L) : Bool := !(zf_le 0 (zf_hi E f)) || Fs.any (fun g => !(zf_le 0 (zf_hi E (zf_add f g))))
theorem zf_no_of {E : zf_E} {Fs : List zf_L} {ρ : Nat → Int} (hE : zf_okE E ρ) (hF : zf_okF Fs ρ) {f : zf_L} (h : zf_no E Fs f = true) : zf_v ρ f < 0 := by
  unfold zf_no at h
  simp only [Bool.or_eq_true, List.any_eq_true, Bool.not_eq_true', ← Bool.not_eq_true, zf_le_iff] at h
  rcases h with h | ⟨g, hg, h⟩
  · have := zf_le_hi hE f; omega
  · have := zf_le_hi hE (zf_add f g); rw [zf_v_add] at this; have := hF g hg; omega
def zf_set : zf_E → Nat → Int × Int → zf_E
  | [], _, _ => []
  | _ :: t, 0, v => v :: t
  | q :: t, n + 1, v => q :: zf_set t n v
theorem zf_set_at : ∀ (E : zf_E) (n : Nat) (v : Int × Int) (x : Nat), zf_at (zf_set E n v) x = zf_at E x ∨ (x = n ∧ zf_at (zf_set E n v) x = v)
  | [], _, _, _ => Or.inl rfl
  | q :: t, 0, v, 0 => Or.inr ⟨rfl, rfl⟩
  | q :: t, 0, v, x + 1 => Or.inl rfl
  | q :: t, n + 1, v, 0 => Or.inl rfl
  | q :: t, n + 1, v, x + 1 => by
    rcases zf_set_at t n v x with h | ⟨h1, h2⟩
    · exact Or.inl h
    · exact Or.inr ⟨by rw [h1], h2⟩
/-- the bounds of one unknown, by a form f that is 0 at least in which it stands -/
def zf_t1 (f : zf_L) (E : zf_E) (q : Nat × Int) : zf_E :=
  match q.2 with
  | .ofNat 1 => match zf_le (zf_at E q.1).1 ((zf_at E q.1).2 - zf_hi E f) with
    | true => zf_set E q.1 ((zf_at E q.1).2 - zf_hi E f, (zf_at E q.1).2)
    | false => E
  | .negSucc 0 => match zf_le ((zf_at E q.1).1 + zf_hi E f) (zf_at E q.1).2 with
    | true => zf_set E q.1 ((zf_at E q.1).1, (zf_at E q.1).1 + zf_hi E f)
    | false => E
  | _ => E
theorem zf_set_ok {E : zf_E} {ρ : Nat → Int} (h : zf_okE E ρ) {n : Nat} {v : Int × Int} (hv : v.1 ≤ ρ n ∧ ρ n ≤ v.2) : zf_okE (zf_set E n v) ρ := fun x => by
  rcases zf_set_at E n v x with e | ⟨rfl, e⟩
  · rw [e]; exact h x
  · rw [e]; exact hv
theorem zf_t1_ok {E : zf_E} {ρ : Nat → Int} (h : zf_okE E ρ) {f : zf_L} (hf : 0 ≤ zf_v ρ f) {q : Nat × Int} (hq : q ∈ f.1) : zf_okE (zf_t1 f E q) ρ := by
  have h1 := zf_le_hi1 h f.2 q f.1 hq
  have e1 : zf_x ρ f.1 f.2 = zf_v ρ f := rfl
  have e2 : f.1.foldr (fun q a => zf_thi E q + a) f.2 = zf_hi E f := rfl
  rw [e1, e2] at h1
  obtain ⟨b1, b2⟩ := h q.1
  obtain ⟨x, k⟩ := q
  unfold zf_t1
  unfold zf_thi at h1
  dsimp only at h1 b1 b2 ⊢
  split
  · dsimp only at h1
    split
    · refine zf_set_ok h ⟨?_, b2⟩
      show _ - _ ≤ _
      have e : (Int.ofNat 1) = 1 := rfl
      rw [e] at h1
      omega
    · exact h
  · dsimp only at h1
    split
    · refine zf_set_ok h ⟨b1, ?_⟩
      have e : (Int.negSucc 0) = -1 := rfl
      rw [e] at h1
      omega
    · exact h
  · exact h
def zf_tight (E : zf_E) (f : zf_L) : zf_E := f.1.foldl (zf_t1 f) E
theorem zf_tight_ok {ρ : Nat → Int} {f : zf_L} (hf : 0 ≤ zf_v ρ f) {E : zf_E} (h : zf_okE E ρ) : zf_okE (zf_tight E f) ρ := by
  have key : ∀ (ts : zf_T), (∀ q ∈ ts, q ∈ f.1) → ∀ E : zf_E, zf_okE E ρ → zf_okE (ts.foldl (zf_t1 f) E) ρ := by
    intro ts
    induction ts with
    | nil => intro _ E h; exact h
    | cons q ts ih => intro hs E h; exact ih (fun r hr => hs r (List.mem_cons_of_mem _ hr)) _ (zf_t1_ok h hf (hs q List.mem_cons_self))
  exact key f.1 (fun _ h => h) E h
theorem zf_t1_len (f : zf_L) (E : zf_E) (q : Nat × Int) : (zf_t1 f E q).length = E.length := by
  have hs : ∀ (E : zf_E) (n : Nat) (v : Int × Int), (zf_set E n v).length = E.length := by
    intro E
    induction E with
    | nil => intro n v; rfl
    | cons a t ih => intro n v; cases n with
      | zero => rfl
      | succ n => simp [zf_set, ih]
  unfold zf_t1
  split <;> (try split) <;> simp [hs]
/-- a new unknown, behind all that stand -/
theorem zf_at_app (E : zf_E) (v : Int × Int) : zf_at (E ++ [v]) E.length = v := by
  induction E with
  | nil => rfl
  | cons a t ih => exact ih
theorem zf_at_lt : ∀ (E : zf_E) (v : Int × Int) (x : Nat), x < E.length → zf_at (E ++ [v]) x = zf_at E x
  | [], _, x, h => by simp at h
  | a :: t, v, 0, _ => rfl
  | a :: t, v, x + 1, h => zf_at_lt t v x (by simpa using h)
theorem zf_at_gt : ∀ (E : zf_E) (v : Int × Int) (x : Nat), E.length < x → zf_at (E ++ [v]) x = (-2147483648, 2147483647)
  | [], v, 0, h => by simp at h
  | [], v, x + 1, _ => rfl
  | a :: t, v, 0, h => by simp at h
  | a :: t, v, x + 1, h => zf_at_gt t v x (by simpa using h)
theorem zf_at_ge : ∀ (E : zf_E) (x : Nat), E.length ≤ x → zf_at E x = (-2147483648, 2147483647)
  | [], _, _ => rfl
  | a :: t, 0, h => by simp at h
  | a :: t, x + 1, h => zf_at_ge t x (by simpa using h)
def zf_up (ρ : Nat → Int) (n : Nat) (x : Int) : Nat → Int := fun i => if i = n then x else ρ i
theorem zf_up_ok {E : zf_E} {ρ : Nat → Int} (h : zf_okE E ρ) {v : Int × Int} {x : Int} (hv : v.1 ≤ x ∧ x ≤ v.2) : zf_okE (E ++ [v]) (zf_up ρ E.length x) := fun i => by
  unfold zf_up
  by_cases hi : i = E.length
  · subst hi; simp only [if_true, zf_at_app]; exact hv
  · rw [if_neg hi]
    by_cases hl : i < E.length
    · rw [zf_at_lt E v i hl]; exact h i
    · rw [zf_at_gt E v i (by omega)]
      have := h i
      rw [zf_at_ge E i (by omega)] at this
      exact this
/-- all unknowns of a form stand below n -/
def zf_bt (n : Nat) (t : zf_T) : Bool := t.all (fun q => Nat.blt q.1 n)
theorem zf_bt_x {n : Nat} {ρ ρ' : Nat → Int} (h : ∀ i, i < n → ρ' i = ρ i) (c : Int) : ∀ {t : zf_T}, zf_bt n t = true → zf_x ρ' t c = zf_x ρ t c
  | [], _ => rfl
  | q :: t, hb => by
    unfold zf_bt at hb
    rw [List.all_cons, Bool.and_eq_true] at hb
    have h1 : q.1 < n := zf_blt hb.1
    rw [zf_x_cons, zf_x_cons, h q.1 h1, zf_bt_x h c hb.2]
theorem zf_bt_v {n : Nat} {ρ ρ' : Nat → Int} (h : ∀ i, i < n → ρ' i = ρ i) {f : zf_L} (hb : zf_bt n f.1 = true) : zf_v ρ' f = zf_v ρ f := zf_bt_x h f.2 hb
/-- forms put in for unknowns -/
def zf_sb (S : List zf_L) (f : zf_L) : zf_L := f.1.foldr (fun q a => zf_add (zf_mul q.2 (S.getD q.1 ([], 0))) a) ([], f.2)
theorem zf_v_sb (ρ : Nat → Int) (S : List zf_L) (f : zf_L) : zf_v ρ (zf_sb S f) = zf_v (fun i => zf_v ρ (S.getD i ([], 0))) f := by
  obtain ⟨t, c⟩ := f
  unfold zf_sb
  induction t with
  | nil => rfl
  | cons q t ih =>
    rw [List.foldr_cons, zf_v_add, zf_v_mul, ih]
    rfl
