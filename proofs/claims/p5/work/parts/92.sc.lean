/-! ===== what two calls, one on each side, leave of the world ===== -/
def lk_js : List Nat := [0, 2, 3, 4, 6]
def lk_fl (j : Nat) : zf_H := (1000 + j, 0, ([], ((1000 + j : Nat) : Int)), .inl ([], 0))
def lk_eq (h q : zf_H) : Bool := Nat.beq h.1 q.1 && Nat.beq h.2.1 q.2.1 && decide (h.2.2.1 = q.2.2.1) && decide (h.2.2.2 = q.2.2.2)
theorem lk_eq_ok {h q : zf_H} (e : lk_eq h q = true) : h = q := by
  unfold lk_eq at e
  simp only [Bool.and_eq_true, decide_eq_true_eq] at e
  obtain ⟨⟨⟨e1, e2⟩, e3⟩, e4⟩ := e
  obtain ⟨a, b, c, d⟩ := h
  obtain ⟨a', b', c', d'⟩ := q
  have f1 : a = a' := Nat.eq_of_beq_eq_true e1
  have f2 : b = b' := Nat.eq_of_beq_eq_true e2
  have f3 : c = c' := e3
  have f4 : d = d' := e4
  rw [f1, f2, f3, f4]
def lk_full : Int × Int := (-2147483648, 2147483647)
/-- what the world tells: kinds, flags -/
def lk_F (Sg : Nat → Option Nat) (ws : va_W) : Prop := ∀ j ∈ lk_js, zf_pi Sg j ((1000 + j : Nat) : Int) 0 ws
/-- both sizes -/
def lg_W (Sg : Nat → Option Nat) (k : Nat → ClassId) (th : Nat → Nat) (ws : va_W) (t : Int32) : Prop :=
  zf_typ Sg k zGT ws ∧ zf_rd ws (th 1) 1 (.int t) ∧ zf_rd ws (th 18) 2 (.int t) ∧ lk_F Sg ws
def lk_as (as : List Int32) (t : Int32) : Nat → Int := fun i => ((as.map Int32.toInt) ++ [t.toInt]).getD i 0
def lk_sy : Nat → Nat → List zf_A
  | _, 0 => []
  | i, n + 1 => .inl ([(i, 1)], 0) :: lk_sy (i + 1) n
def lk_st (n g : Nat) : List zf_A := (lk_sy 0 n).reverse ++ [.inr (some (g, g))]
/-- the cell of a side's size -/
def lk_sz (g : Nat) : Nat × Nat × zf_L := match g with
  | 0 => (1, 1, ([], 1))
  | _ => (18, 18, ([], 2))
def lk_szf (g : Nat) (f : zf_L) : zf_H := ((lk_sz g).1, (lk_sz g).2.1, (lk_sz g).2.2, .inl f)
def lk_ent (M : zf_M) (n g : Nat) : Bool := (decide (M.1.1 = List.replicate n lk_full) || decide (M.1.1 = List.replicate n lk_full ++ [(0, 940)])) && M.1.2.1.isEmpty && Nat.ble 64 M.1.2.2.1 && decide (M.1.2.2.2.2.1 = lk_st n g) && M.1.2.2.2.2.2.all (fun h => lk_eq h (lk_szf g ([(n, 1)], 0)) || lk_js.any (fun j => lk_eq h (lk_fl j)))
/-- places a to b of kind g aren't written -/
def lk_kp (M : zf_M) (g : Nat) (a b : zf_L) : Bool := a.1.isEmpty && b.1.isEmpty && M.2.1.all (fun q => !(Nat.beq q.1 g) || (q.2.1.1.isEmpty && q.2.2.1.isEmpty && (decide (q.2.2.2 < a.2) || decide (b.2 < q.2.1.2))))
def lk_fk (M : zf_M) (j : Nat) : Bool := M.2.2.all (fun o => o.2.2.2.2.2.2.any (fun h => lk_eq h (lk_fl j))) || (zf_sup j).all (fun u => lk_kp M u.1 u.2.1 u.2.2)
theorem lk_nil {f : zf_L} (h : f.1.isEmpty = true) (ρ : Nat → Int) : zf_v ρ f = f.2 := by
  obtain ⟨a, b⟩ := f
  cases a with
  | nil => rfl
  | cons x t => cases h
section SC
variable {Sg : Nat → Option Nat} {k : Nat → ClassId} {th : Nat → Nat} {ws ws' : va_W} {M M1 M2 : zf_M} {ρ : Nat → Int}
theorem lk_kp_ok {g : Nat} {a b : zf_L} (h : lk_kp M g a b = true) (hf : zf_fr Sg M.2.1 ρ ws ws') {x i : Nat} {v : Value} (hx : Sg x = some g) (h1 : a.2 ≤ (i : Int)) (h2 : (i : Int) ≤ b.2) (hr : zf_rd ws x i v) : zf_rd ws' x i v := by
  refine hf x g i v hx ?_ hr
  rintro ⟨q, hq, e1, e2, e3⟩
  unfold lk_kp at h
  simp only [Bool.and_eq_true, List.all_eq_true] at h
  have := h.2 q hq
  rw [Bool.or_eq_true] at this
  rcases this with h9 | h9
  · rw [e1] at h9; simp at h9
  · simp only [Bool.and_eq_true, Bool.or_eq_true, decide_eq_true_eq] at h9
    obtain ⟨⟨n1, n2⟩, h9⟩ := h9
    rw [lk_nil n1] at e2
    rw [lk_nil n2] at e3
    omega
theorem lk_pi (j : Nat) (ρ1 : Nat → Int) (θ1 : Nat → Nat) (h : zf_hok Sg ρ1 θ1 ws (lk_fl j)) : zf_pi Sg j ((1000 + j : Nat) : Int) 0 ws := by
  have h1 := (zf_hokF (h := lk_fl j) (by show ¬ 1000 + j < 1000; omega)).mp h
  have e : (lk_fl j).1 - 1000 = j := by show 1000 + j - 1000 = j; omega
  rw [e] at h1
  exact h1
theorem lk_flag {v : Option Value} (h : lk_js.all (lk_fk M) = true) (hF : lk_F Sg ws) (hp : zf_post Sg k zGT ρ th M ws v ws') : lk_F Sg ws' := by
  intro j hj
  obtain ⟨⟨o, ho, ρ1, θ1, -, -, -, -, h5, -⟩, ht, hfr⟩ := hp
  have hk := List.all_eq_true.mp h j hj
  unfold lk_fk at hk
  rw [Bool.or_eq_true] at hk
  rcases hk with hk | hk
  · have := List.all_eq_true.mp hk o ho
    rw [List.any_eq_true] at this
    obtain ⟨x, hx, e⟩ := this
    exact lk_pi j ρ1 θ1 (by rw [← lk_eq_ok e]; exact h5 x hx)
  · refine zf_pi_tr (hF j hj) (fun q hq x hx i i1 i2 v hv => ?_)
    have h9 := List.all_eq_true.mp hk q hq
    have h8 := h9
    unfold lk_kp at h8
    simp only [Bool.and_eq_true] at h8
    rw [lk_nil h8.1.1] at i1
    rw [lk_nil h8.1.2] at i2
    exact lk_kp_ok h9 hfr hx i1 i2 hv
theorem lk_rng (as : List Int32) (t : Int32) (i : Nat) : -2147483648 ≤ lk_as as t i ∧ lk_as as t i ≤ 2147483647 := by
  unfold lk_as
  rw [List.getD_eq_getElem?_getD]
  cases h : ((as.map Int32.toInt) ++ [t.toInt])[i]? with
  | none => exact ⟨by decide, by decide⟩
  | some x =>
    have hm := List.mem_of_getElem? h
    rw [List.mem_append] at hm
    rcases hm with hm | hm
    · obtain ⟨y, -, rfl⟩ := List.mem_map.mp hm
      exact ⟨zi_lo y, zi_hi y⟩
    · rw [List.mem_singleton.mp hm]
      exact ⟨zi_lo t, zi_hi t⟩
theorem lk_at_t (as : List Int32) (t : Int32) : lk_as as t as.length = t.toInt := by
  unfold lk_as
  rw [List.getD_eq_getElem?_getD, List.getElem?_append_right (by simp)]
  simp
theorem lk_at_a (as : List Int32) (t : Int32) {j : Nat} {x : Int32} (h : as[j]? = some x) : lk_as as t j = x.toInt := by
  have hl : j < as.length := (List.getElem?_eq_some_iff.mp h).1
  unfold lk_as
  rw [List.getD_eq_getElem?_getD, List.getElem?_append_left (by simpa using hl), List.getElem?_map, h]
  rfl
theorem lk_okE1 : ∀ (n : Nat) (ρ : Nat → Int), (∀ i, -2147483648 ≤ ρ i ∧ ρ i ≤ 2147483647) → zf_okE (List.replicate n lk_full) ρ
  | 0, ρ, h => fun x => h x
  | n + 1, ρ, h => fun x => match x with
    | 0 => h 0
    | x + 1 => lk_okE1 n (fun i => ρ (i + 1)) (fun i => h (i + 1)) x
theorem lk_okE2 : ∀ (n : Nat) (ρ : Nat → Int), (∀ i, -2147483648 ≤ ρ i ∧ ρ i ≤ 2147483647) → (0 ≤ ρ n ∧ ρ n ≤ 940) → zf_okE (List.replicate n lk_full ++ [(0, 940)]) ρ
  | 0, ρ, h, h2 => fun x => match x with
    | 0 => h2
    | x + 1 => h (x + 1)
  | n + 1, ρ, h, h2 => fun x => match x with
    | 0 => h 0
    | x + 1 => lk_okE2 n (fun i => ρ (i + 1)) (fun i => h (i + 1)) h2 x
theorem lk_f2 (ρ : Nat → Int) : ∀ (as : List Int32) (i : Nat), (∀ (j : Nat) (x : Int32), as[j]? = some x → ρ (i + j) = x.toInt) → zf_f2 (zf_vok Sg ρ th) (lk_sy i as.length) (as.map Value.int)
  | [], _, _ => trivial
  | a :: as, i, h => by
    refine ⟨⟨a, rfl, ?_⟩, lk_f2 ρ as (i + 1) (fun j x hx => ?_)⟩
    · have := h 0 a rfl
      show a.toInt = zf_v ρ (zf_sym i)
      rw [zf_v_sym]
      exact this.symm
    · have := h (j + 1) x (by simpa using hx)
      rw [← this]
      congr 1; omega
/-- the size of a side is within its bounds -/
theorem lk_bnd {A : Nat → Prop} (hD : va_D A ws) (ht : zf_typ Sg k zGT ws) {g a i : Nat} {t : Int32} (hg : Sg a = some g) (hg8 : g < 128) (hs : zf_sp (zf_gi zGT g).2.2 i = some (.inl (0, 940))) (hr : zf_rd ws a i (.int t)) : 0 ≤ t.toInt ∧ t.toInt ≤ 940 := by
  obtain ⟨q, e, h1, h2⟩ := ht a g hg hg8
  obtain ⟨v, h3, x, rfl, h4, h5⟩ := h2.2 i _ hs
  have := zf_rd_fun hD hr ⟨q, e, h1, h3⟩
  cases this
  exact ⟨h4, h5⟩
def lk_g (g : Nat) : Bool := Nat.beq g 0 || Nat.beq g 18
theorem lk_pre {A : Nat → Prop} (hD : va_D A ws) (ht : zf_typ Sg k zGT ws) (hsing : ∀ g, g < 37 → g < 64 → Sg (th g) = some g) (hF : lk_F Sg ws) {n g : Nat} (hck : lk_ent M n g = true) (hg : lk_g g = true) {t : Int32} (hr : zf_rd ws (th (lk_sz g).2.1) (lk_sz g).2.2.2.toNat (.int t)) {as : List Int32} (hn : as.length = n) :
    zf_pre Sg (lk_as as t) th M ((as.map Value.int).reverse ++ [.ref (th g)]) ws := by
  unfold lk_ent at hck
  simp only [Bool.and_eq_true, Bool.or_eq_true, decide_eq_true_eq] at hck
  obtain ⟨⟨⟨⟨c1, c2⟩, c3⟩, c4⟩, c5⟩ := hck
  have hg' : g = 0 ∨ g = 18 := by
    unfold lk_g at hg
    rw [Bool.or_eq_true] at hg
    exact hg.imp Nat.eq_of_beq_eq_true Nat.eq_of_beq_eq_true
  have hb : 0 ≤ t.toInt ∧ t.toInt ≤ 940 := by
    rcases hg' with rfl | rfl
    · exact lk_bnd hD ht (g := 1) (i := 1) (hsing 1 (by decide) (by decide)) (by decide) rfl hr
    · exact lk_bnd hD ht (g := 18) (i := 2) (hsing 18 (by decide) (by decide)) (by decide) rfl hr
  refine ⟨?_, ?_, ?_, ?_⟩
  · rcases c1 with c1 | c1
    · rw [c1]; exact lk_okE1 n _ (lk_rng as t)
    · rw [c1]; exact lk_okE2 n _ (lk_rng as t) (by rw [← hn, lk_at_t]; exact hb)
  · intro f hf
    rw [List.isEmpty_iff.mp c2] at hf
    cases hf
  · rw [c4]
    unfold lk_st
    refine zf_f2_app (zf_f2_rev ?_) ⟨⟨rfl, ?_⟩, trivial⟩
    · rw [← hn]
      exact lk_f2 _ as 0 (fun j x hx => by rw [Nat.zero_add]; exact lk_at_a as t hx)
    · rcases hg' with rfl | rfl
      · exact hsing 0 (by decide) (by decide)
      · exact hsing 18 (by decide) (by decide)
  · intro h hh
    have := List.all_eq_true.mp c5 h hh
    simp only [Bool.or_eq_true, List.any_eq_true] at this
    rcases this with e9 | ⟨j, hj, e9⟩
    · cases lk_eq_ok e9
      have hv : t.toInt = zf_v (lk_as as t) ([(n, 1)], 0) := by
        show t.toInt = zf_v _ (zf_sym n)
        rw [zf_v_sym, ← hn, lk_at_t]
      rcases hg' with rfl | rfl
      · exact (zf_hokT (h := lk_szf 0 ([(n, 1)], 0)) (show (1 : Nat) < 1000 by decide)).mpr ⟨hsing 1 (by decide) (by decide), (show (0 : Int) ≤ 1 by decide), _, hr, ⟨t, rfl, hv⟩⟩
      · exact (zf_hokT (h := lk_szf 18 ([(n, 1)], 0)) (show (18 : Nat) < 1000 by decide)).mpr ⟨hsing 18 (by decide) (by decide), (show (0 : Int) ≤ 2 by decide), _, hr, ⟨t, rfl, hv⟩⟩
    · cases lk_eq_ok e9
      refine (zf_hokF (h := lk_fl j) (by show ¬ 1000 + j < 1000; omega)).mpr ?_
      have e : (lk_fl j).1 - 1000 = j := by show 1000 + j - 1000 = j; omega
      rw [e]
      exact hF j hj
/-! two outcomes, of the same call on both sides -/
def lk_int : zf_E → zf_E → Nat → zf_E
  | a :: x, b :: y, n + 1 => (max a.1 b.1, min a.2 b.2) :: lk_int x y n
  | _, _, _ => []
theorem lk_int_ok : ∀ {E1 E2 : zf_E} {n : Nat} {ρ ρ1 ρ2 : Nat → Int}, (∀ i, -2147483648 ≤ ρ i ∧ ρ i ≤ 2147483647) → zf_okE E1 ρ1 → zf_okE E2 ρ2 → (∀ i, i < n → ρ1 i = ρ i) → (∀ i, i < n → ρ2 i = ρ i) → zf_okE (lk_int E1 E2 n) ρ
  | a :: x, b :: y, n + 1, ρ, ρ1, ρ2, h, h1, h2, e1, e2 => fun i => match i with
    | 0 => by
      have q1 : a.1 ≤ ρ1 0 ∧ ρ1 0 ≤ a.2 := h1 0
      have q2 : b.1 ≤ ρ2 0 ∧ ρ2 0 ≤ b.2 := h2 0
      rw [e1 0 (by omega)] at q1
      rw [e2 0 (by omega)] at q2
      show max a.1 b.1 ≤ ρ 0 ∧ ρ 0 ≤ min a.2 b.2
      omega
    | i + 1 => lk_int_ok (ρ := fun i => ρ (i + 1)) (ρ1 := fun i => ρ1 (i + 1)) (ρ2 := fun i => ρ2 (i + 1)) (fun i => h (i + 1)) (fun x => h1 (x + 1)) (fun x => h2 (x + 1)) (fun i hi => e1 (i + 1) (by omega)) (fun i hi => e2 (i + 1) (by omega)) i
  | [], _, _, ρ, _, _, h, _, _, _, _ => fun i => by unfold lk_int; exact h i
  | _ :: _, [], _, ρ, _, _, h, _, _, _, _ => fun i => by unfold lk_int; exact h i
  | _ :: _, _ :: _, 0, ρ, _, _, h, _, _, _, _ => fun i => by unfold lk_int; exact h i
theorem lk_atm : ∀ {E : zf_E} {q : Int × Int}, q ∈ E → ∃ i, zf_at E i = q
  | a :: x, q, h => by
    rcases List.mem_cons.mp h with rfl | h
    · exact ⟨0, rfl⟩
    · obtain ⟨i, hi⟩ := lk_atm h
      exact ⟨i + 1, hi⟩
def lk_con (n : Nat) (o1 o2 : zf_O) : Bool := (lk_int o1.2.1 o2.2.1 n).any (fun q => decide (q.2 < q.1)) || zf_ge (lk_int o1.2.1 o2.2.1 n) ((o1.2.2.1 ++ o2.2.2.1).filter (fun f => zf_bt n f.1)) (zf_con (-1))
theorem lk_con_ok {n : Nat} {o1 o2 : zf_O} {ρ ρ1 ρ2 : Nat → Int} (h : ∀ i, -2147483648 ≤ ρ i ∧ ρ i ≤ 2147483647) (E1 : zf_okE o1.2.1 ρ1) (E2 : zf_okE o2.2.1 ρ2) (F1 : zf_okF o1.2.2.1 ρ1) (F2 : zf_okF o2.2.2.1 ρ2) (e1 : ∀ i, i < n → ρ1 i = ρ i) (e2 : ∀ i, i < n → ρ2 i = ρ i) (hc : lk_con n o1 o2 = true) : False := by
  have hE := lk_int_ok h E1 E2 e1 e2
  unfold lk_con at hc
  rw [Bool.or_eq_true] at hc
  rcases hc with hc | hc
  · rw [List.any_eq_true] at hc
    obtain ⟨q, hq, hl⟩ := hc
    have hl := of_decide_eq_true hl
    obtain ⟨i, hi⟩ := lk_atm hq
    have := hE i
    rw [hi] at this
    omega
  · have hF : zf_okF ((o1.2.2.1 ++ o2.2.2.1).filter (fun f => zf_bt n f.1)) ρ := by
      intro g hg
      obtain ⟨hg, hb⟩ := List.mem_filter.mp hg
      rcases List.mem_append.mp hg with hg | hg
      · rw [← zf_bt_v e1 hb]; exact F1 g hg
      · rw [← zf_bt_v e2 hb]; exact F2 g hg
    have := zf_ge_of hE hF hc
    rw [zf_v_con] at this
    omega
/-- the same size behind both -/
def lk_ssz (n : Nat) (o1 o2 : zf_O) : Bool := o1.2.2.2.2.2.2.any (fun h => match h.2.2.2 with
  | .inl f => lk_eq h (lk_szf 0 f) && zf_bt n f.1 && o2.2.2.2.2.2.2.any (fun h2 => lk_eq h2 (lk_szf 18 f))
  | _ => false)
def lk_san (n : Nat) (o1 o2 : zf_O) : Bool := match o1.1, o2.1 with
  | some (.inl f), some (.inl g) => decide (f = g) && zf_bt n f.1
  | _, _ => false
def lk_pair (n : Nat) (szd cmp : Bool) (o1 o2 : zf_O) : Bool := lk_con n o1 o2 || ((!szd || lk_ssz n o1 o2) && (!cmp || lk_san n o1 o2))
def lk_ck (n : Nat) (szd cmp : Bool) (M1 M2 : zf_M) : Bool := lk_ent M1 n 0 && lk_ent M2 n 18 && lk_js.all (lk_fk M1) && lk_js.all (lk_fk M2) && lk_kp M1 18 ([], 2) ([], 2) && lk_kp M2 1 ([], 1) ([], 1) && (szd || (lk_kp M1 1 ([], 1) ([], 1) && lk_kp M2 18 ([], 2) ([], 2))) && zf_tyo (some .int) M1 && zf_tyo (some .int) M2 && Nat.beq M1.1.1.length M2.1.1.length && ((!szd && !cmp) || M1.2.2.all (fun o1 => M2.2.2.all (fun o2 => lk_pair M1.1.1.length szd cmp o1 o2)))
theorem lk_ans {v : Option Value} (hty : zf_tyo (some .int) M = true) (hp : zf_post Sg k zGT ρ th M ws v ws') : ∃ x : Int32, v = some (.int x) := by
  obtain ⟨⟨o, ho, ρ1, θ1, -, -, -, -, -, h3⟩, -, -⟩ := hp
  have hq := List.all_eq_true.mp hty o ho
  cases h0 : o.1 with
  | none => rw [h0] at hq; cases hq
  | some q =>
    rw [h0] at hq h3
    match v, q, hq, h3 with
    | some w, .inl f, _, ⟨x, e, _⟩ => exact ⟨x, by rw [e]⟩
    | none, .inl f, _, h => exact h.elim
theorem lk_two {n : Nat} {szd cmp : Bool} (hck : lk_ck n szd cmp M1 M2 = true) (hsing : ∀ g, g < 37 → g < 64 → Sg (th g) = some g) {w0 w1 w2 : va_W} {t : Int32} {as : List Int32} (hW : lg_W Sg k th w0 t) {v1 v2 : Option Value} (p1 : zf_post Sg k zGT (lk_as as t) th M1 w0 v1 w1) (p2 : zf_post Sg k zGT (lk_as as t) th M2 w1 v2 w2) :
    ∃ t', lg_W Sg k th w2 t' ∧ (cmp = true → v1 = v2) := by
  unfold lk_ck at hck
  simp only [Bool.and_eq_true] at hck
  obtain ⟨⟨⟨⟨⟨⟨⟨⟨⟨⟨c1, c2⟩, c3⟩, c4⟩, c5⟩, c6⟩, c7⟩, c8⟩, c9⟩, c10⟩, c11⟩ := hck
  obtain ⟨ht0, hr1, hr2, hF⟩ := hW
  have hF1 := lk_flag c3 hF p1
  have hF2 := lk_flag c4 hF1 p2
  have s1 : Sg (th 1) = some 1 := hsing 1 (by decide) (by decide)
  have s18 : Sg (th 18) = some 18 := hsing 18 (by decide) (by decide)
  have k1 : ∀ t9 : Int32, zf_rd w1 (th 1) 1 (.int t9) → zf_rd w2 (th 1) 1 (.int t9) := fun t9 h => lk_kp_ok c6 p2.2.2 s1 (by decide) (by decide) h
  have e64 : 64 ≤ M1.1.2.2.1 ∧ 64 ≤ M2.1.2.2.1 := by
    unfold lk_ent at c1 c2
    simp only [Bool.and_eq_true] at c1 c2
    exact ⟨Nat.le_of_ble_eq_true c1.1.1.2, Nat.le_of_ble_eq_true c2.1.1.2⟩
  have c10 := Nat.eq_of_beq_eq_true c10
  -- the two outcomes
  obtain ⟨⟨o1, ho1, ρ1, θ1, a1, b1, E1, F1, g1, r1⟩, ht1, fr1⟩ := id p1
  obtain ⟨⟨o2, ho2, ρ2, θ2, a2, b2, E2, F2, g2, r2⟩, ht2, fr2⟩ := id p2
  have hans : lk_san M1.1.1.length o1 o2 = true → v1 = v2 := by
    intro h
    unfold lk_san at h
    split at h
    · rename_i f g q1 q2
      rw [Bool.and_eq_true] at h
      have hfg := of_decide_eq_true h.1
      rw [q1] at r1
      rw [q2, ← hfg] at r2
      obtain ⟨x, rfl⟩ := lk_ans c8 p1
      obtain ⟨y, rfl⟩ := lk_ans c9 p2
      obtain ⟨x', e, hx⟩ := r1
      cases e
      obtain ⟨y', e, hy⟩ := r2
      cases e
      have z1 := zf_bt_v a1 h.2
      have z2 := zf_bt_v a2 (f := f) (by rw [← c10]; exact h.2)
      rw [Int32.toInt_inj.mp (show x.toInt = y.toInt by rw [hx, hy, z1, z2])]
    · cases h
  have hsz : lk_ssz M1.1.1.length o1 o2 = true → ∃ t' : Int32, zf_rd w1 (th 1) 1 (.int t') ∧ zf_rd w2 (th 18) 2 (.int t') := by
    intro h
    unfold lk_ssz at h
    rw [List.any_eq_true] at h
    obtain ⟨x, hx, h⟩ := h
    split at h
    · rename_i f hf
      simp only [Bool.and_eq_true, List.any_eq_true] at h
      obtain ⟨⟨e1, e2⟩, y, hy, e3⟩ := h
      have e1 := lk_eq_ok e1
      have e3 := lk_eq_ok e3
      have q1 := g1 x hx
      have q2 := g2 y hy
      rw [e1] at q1
      rw [e3] at q2
      obtain ⟨-, -, z1, d1, x1, rfl, d2⟩ := (zf_hokT (h := lk_szf 0 f) (show (1 : Nat) < 1000 by decide)).mp q1
      obtain ⟨-, -, z2, d3, x2, rfl, d4⟩ := (zf_hokT (h := lk_szf 18 f) (show (18 : Nat) < 1000 by decide)).mp q2
      have d1 : zf_rd w1 (θ1 1) 1 (.int x1) := d1
      have d3 : zf_rd w2 (θ2 18) 2 (.int x2) := d3
      rw [b1 1 (by omega)] at d1
      rw [b2 18 (by omega)] at d3
      have y1 := zf_bt_v a1 e2
      have y2 := zf_bt_v a2 (f := f) (by rw [← c10]; exact e2)
      have : x1 = x2 := Int32.toInt_inj.mp (by rw [d2, d4, y1, y2])
      subst this
      exact ⟨x1, d1, d3⟩
    · cases h
  have hpair : (szd = true ∨ cmp = true) → (szd = true → lk_ssz M1.1.1.length o1 o2 = true) ∧ (cmp = true → lk_san M1.1.1.length o1 o2 = true) := by
    intro hor
    rw [Bool.or_eq_true] at c11
    rcases c11 with c11 | c11
    · simp only [Bool.and_eq_true, Bool.not_eq_true'] at c11
      rcases hor with h | h
      · rw [c11.1] at h; cases h
      · rw [c11.2] at h; cases h
    · have := List.all_eq_true.mp (List.all_eq_true.mp c11 o1 ho1) o2 ho2
      unfold lk_pair at this
      rw [Bool.or_eq_true] at this
      rcases this with h | h
      · exact (lk_con_ok (lk_rng as t) E1 E2 F1 F2 a1 (fun i hi => a2 i (by omega)) h).elim
      · simp only [Bool.and_eq_true, Bool.or_eq_true, Bool.not_eq_true'] at h
        refine ⟨fun q => ?_, fun q => ?_⟩
        · rcases h.1 with z | z
          · rw [q] at z; cases z
          · exact z
        · rcases h.2 with z | z
          · rw [q] at z; cases z
          · exact z
  have hcmp : cmp = true → v1 = v2 := fun h => hans ((hpair (Or.inr h)).2 h)
  cases hs : szd with
  | true =>
    obtain ⟨t', q1, q2⟩ := hsz ((hpair (Or.inl hs)).1 hs)
    exact ⟨t', ⟨ht2, k1 t' q1, q2, hF2⟩, hcmp⟩
  | false =>
    rw [hs] at c7
    simp only [Bool.false_or, Bool.and_eq_true] at c7
    refine ⟨t, ⟨ht2, k1 t (lk_kp_ok c7.1 fr1 s1 (by decide) (by decide) hr1), ?_, hF2⟩, hcmp⟩
    exact lk_kp_ok c7.2 fr2 s18 (by decide) (by decide) (lk_kp_ok c5 fr1 s18 (by decide) (by decide) hr2)
/-- both tapes hold the same bytes; the reference's words -/
def lk_B (th : Nat → Nat) (ws : va_W) : Prop := (∃ B9 C9 : Nat → Int32, ∀ j : Nat, j < 940 → zf_rd ws (th 2) j (.int (B9 j)) ∧ zf_rd ws (th 19) j (.int (C9 j)) ∧ C9 j &&& 255 = B9 j) ∧ ∀ j : Nat, j < 23 → zf_rd ws (th 24) j (.long (rsv j))
theorem lk_a2 {x y : Bool} (h : (x && y) = true) : x = true ∧ y = true := by
  rw [Bool.and_eq_true] at h
  exact h
def lk_kR (M : zf_M) : Bool := lk_kp M 24 ([], 0) ([], 22)
def lk_kb (M : zf_M) : Bool := lk_kp M 2 ([], 0) ([], 939) && lk_kp M 19 ([], 0) ([], 939) && lk_kR M
theorem lk_k9 {g n9 : Nat} (hsing : ∀ g, g < 37 → g < 64 → Sg (th g) = some g) (hg : g < 37) (h : lk_kp M g ([], 0) ([], (n9 : Int)) = true) (hf : zf_fr Sg M.2.1 ρ ws ws') {j : Nat} (hj : j ≤ n9) {v : Value} (hr : zf_rd ws (th g) j v) : zf_rd ws' (th g) j v :=
  lk_kp_ok h hf (hsing g hg (by omega)) (show (0 : Int) ≤ (j : Int) by omega) (show (j : Int) ≤ (n9 : Int) by omega) hr
theorem lk_Bk (hsing : ∀ g, g < 37 → g < 64 → Sg (th g) = some g) (h : lk_kb M = true) (hf : zf_fr Sg M.2.1 ρ ws ws') (hZ : lk_B th ws) : lk_B th ws' := by
  unfold lk_kb lk_kR at h
  rw [Bool.and_eq_true, Bool.and_eq_true] at h
  obtain ⟨⟨B9, C9, hB⟩, hR⟩ := hZ
  refine ⟨⟨B9, C9, fun j hj => ?_⟩, fun j hj => lk_k9 (n9 := 22) hsing (by decide) h.2 hf (by omega) (hR j hj)⟩
  obtain ⟨h1, h2, h3⟩ := hB j hj
  exact ⟨lk_k9 (n9 := 939) hsing (by decide) h.1.1 hf (by omega) h1, lk_k9 (n9 := 939) hsing (by decide) h.1.2 hf (by omega) h2, h3⟩
/-- what is kept: the same on both sides -/
def lk_Z0 (th : Nat → Nat) (ws : va_W) : Prop := ∀ j : Nat, j < 2 → ∃ z : Int32, zf_rd ws (th 16) j (.int z) ∧ zf_rd ws (th 35) j (.int z)
def lk_kz0 (M : zf_M) : Bool := lk_kp M 16 ([], 0) ([], 1) && lk_kp M 35 ([], 0) ([], 1)
theorem lk_Z0k (hsing : ∀ g, g < 37 → g < 64 → Sg (th g) = some g) (h : lk_kz0 M = true) (hf : zf_fr Sg M.2.1 ρ ws ws') (hZ : lk_Z0 th ws) : lk_Z0 th ws' := by
  intro j hj
  unfold lk_kz0 at h
  rw [Bool.and_eq_true] at h
  obtain ⟨z, h1, h2⟩ := hZ j hj
  have l1 : (([], 0) : zf_L).2 ≤ (j : Int) := by show (0 : Int) ≤ j; omega
  have l2 : (j : Int) ≤ (([], 1) : zf_L).2 := by show (j : Int) ≤ 1; omega
  exact ⟨z, lk_kp_ok h.1 hf (hsing 16 (by decide) (by decide)) l1 l2 h1, lk_kp_ok h.2 hf (hsing 35 (by decide) (by decide)) l1 l2 h2⟩
/-- the fault: the same on both sides -/
def lk_G (th : Nat → Nat) (ws : va_W) : Prop := ∃ z : Int32, zf_rd ws (th 0) 14 (.int z) ∧ zf_rd ws (th 18) 15 (.int z)
def lk_kg (M : zf_M) : Bool := lk_kp M 0 ([], 14) ([], 14) && lk_kp M 18 ([], 15) ([], 15)
theorem lk_G1 (hsing : ∀ g, g < 37 → g < 64 → Sg (th g) = some g) (h : lk_kp M 0 ([], 14) ([], 14) = true) (hf : zf_fr Sg M.2.1 ρ ws ws') {v : Value} (hr : zf_rd ws (th 0) 14 v) : zf_rd ws' (th 0) 14 v := lk_kp_ok h hf (hsing 0 (by decide) (by decide)) (show (14 : Int) ≤ 14 by decide) (show (14 : Int) ≤ 14 by decide) hr
theorem lk_G2 (hsing : ∀ g, g < 37 → g < 64 → Sg (th g) = some g) (h : lk_kp M 18 ([], 15) ([], 15) = true) (hf : zf_fr Sg M.2.1 ρ ws ws') {v : Value} (hr : zf_rd ws (th 18) 15 v) : zf_rd ws' (th 18) 15 v := lk_kp_ok h hf (hsing 18 (by decide) (by decide)) (show (15 : Int) ≤ 15 by decide) (show (15 : Int) ≤ 15 by decide) hr
theorem lk_Gk (hsing : ∀ g, g < 37 → g < 64 → Sg (th g) = some g) (h : lk_kg M = true) (hf : zf_fr Sg M.2.1 ρ ws ws') (hG : lk_G th ws) : lk_G th ws' := by
  unfold lk_kg at h
  rw [Bool.and_eq_true] at h
  obtain ⟨z, h1, h2⟩ := hG
  exact ⟨z, lk_G1 hsing h.1 hf h1, lk_G2 hsing h.2 hf h2⟩
def lk_Z (th : Nat → Nat) (ws : va_W) : Prop := lk_Z0 th ws ∧ lk_G th ws
def lk_kz (M : zf_M) : Bool := lk_kz0 M && lk_kg M
theorem lk_Zk (hsing : ∀ g, g < 37 → g < 64 → Sg (th g) = some g) (h : lk_kz M = true) (hf : zf_fr Sg M.2.1 ρ ws ws') (hZ : lk_Z th ws) : lk_Z th ws' := by
  unfold lk_kz at h
  rw [Bool.and_eq_true] at h
  exact ⟨lk_Z0k hsing h.1 hf hZ.1, lk_Gk hsing h.2 hf hZ.2⟩
/-- the men of the reference: now, and in the two images -/
def nr_C (th : Nat → Nat) (ws : va_W) (nsv k0 k1 : List (List Int32)) : Prop := (zf_rd ws (th 20) 0 (.int (Int32.ofNat nsv.length)) ∧ ∀ j, j < nsv.length → zf_rd ws (th 23) j (.long (c256 (nsv.getD j [])))) ∧ (zf_rd ws (th 33) 0 (.int (Int32.ofNat k0.length)) ∧ ∀ j, j < k0.length → zf_rd ws (th 34) j (.long (c256 (k0.getD j [])))) ∧ zf_rd ws (th 33) 874 (.int (Int32.ofNat k1.length)) ∧ ∀ j, j < k1.length → zf_rd ws (th 34) (6 + j) (.long (c256 (k1.getD j [])))
def lk_ks (M : zf_M) : Bool := lk_kp M 20 ([], 0) ([], 0) && lk_kp M 23 ([], 0) ([], 5)
def lk_ki (M : zf_M) : Bool := lk_kp M 33 ([], 0) ([], 0) && lk_kp M 33 ([], 874) ([], 874) && lk_kp M 34 ([], 0) ([], 11)
theorem lk_k5 {g n9 : Nat} (hsing : ∀ g, g < 37 → g < 64 → Sg (th g) = some g) (hg : g < 37) {a9 : Nat} (h : lk_kp M g ([], (a9 : Int)) ([], (n9 : Int)) = true) (hf : zf_fr Sg M.2.1 ρ ws ws') {j : Nat} (ha : a9 ≤ j) (hj : j ≤ n9) {v : Value} (hr : zf_rd ws (th g) j v) : zf_rd ws' (th g) j v :=
  lk_kp_ok h hf (hsing g hg (by omega)) (show (a9 : Int) ≤ (j : Int) by omega) (show (j : Int) ≤ (n9 : Int) by omega) hr
theorem nr_s {ns : List (List Int32)} (l6 : ns.length ≤ 6) (hsing : ∀ g, g < 37 → g < 64 → Sg (th g) = some g) (h : lk_ks M = true) (hf : zf_fr Sg M.2.1 ρ ws ws') (hC : zf_rd ws (th 20) 0 (.int (Int32.ofNat ns.length)) ∧ ∀ j, j < ns.length → zf_rd ws (th 23) j (.long (c256 (ns.getD j [])))) : zf_rd ws' (th 20) 0 (.int (Int32.ofNat ns.length)) ∧ ∀ j, j < ns.length → zf_rd ws' (th 23) j (.long (c256 (ns.getD j []))) := by
  unfold lk_ks at h
  rw [Bool.and_eq_true] at h
  exact ⟨lk_k5 (a9 := 0) (n9 := 0) hsing (by decide) h.1 hf (Nat.le_refl _) (Nat.le_refl _) hC.1, fun j hj => lk_k5 (a9 := 0) (n9 := 5) hsing (by decide) h.2 hf (Nat.zero_le _) (by omega) (hC.2 j hj)⟩
theorem nr_i {k0 k1 : List (List Int32)} (l0 : k0.length ≤ 6) (l1 : k1.length ≤ 6) (hsing : ∀ g, g < 37 → g < 64 → Sg (th g) = some g) (h : lk_ki M = true) (hf : zf_fr Sg M.2.1 ρ ws ws') (hC : (zf_rd ws (th 33) 0 (.int (Int32.ofNat k0.length)) ∧ ∀ j, j < k0.length → zf_rd ws (th 34) j (.long (c256 (k0.getD j [])))) ∧ zf_rd ws (th 33) 874 (.int (Int32.ofNat k1.length)) ∧ ∀ j, j < k1.length → zf_rd ws (th 34) (6 + j) (.long (c256 (k1.getD j [])))) : (zf_rd ws' (th 33) 0 (.int (Int32.ofNat k0.length)) ∧ ∀ j, j < k0.length → zf_rd ws' (th 34) j (.long (c256 (k0.getD j [])))) ∧ zf_rd ws' (th 33) 874 (.int (Int32.ofNat k1.length)) ∧ ∀ j, j < k1.length → zf_rd ws' (th 34) (6 + j) (.long (c256 (k1.getD j []))) := by
  unfold lk_ki at h
  rw [Bool.and_eq_true, Bool.and_eq_true] at h
  obtain ⟨⟨c1, c2⟩, c3, c4⟩ := hC
  exact ⟨⟨lk_k5 (a9 := 0) (n9 := 0) hsing (by decide) h.1.1 hf (Nat.le_refl _) (Nat.le_refl _) c1, fun j hj => lk_k5 (a9 := 0) (n9 := 11) hsing (by decide) h.2 hf (Nat.zero_le _) (by omega) (c2 j hj)⟩, lk_k5 (a9 := 874) (n9 := 874) hsing (by decide) h.1.2 hf (Nat.le_refl _) (Nat.le_refl _) c3, fun j hj => lk_k5 (a9 := 0) (n9 := 11) hsing (by decide) h.2 hf (Nat.zero_le _) (by omega) (c4 j hj)⟩
/-- the men of both sides are alike: now, and in the two images -/
def lk_N (Sg : Nat → Option Nat) (th : Nat → Nat) (ws : va_W) (nsv k0 k1 : List (List Int32)) : Prop := (∃ (tw nm : Nat → Nat) (f9 s9 : Nat), nu_C Sg th tw nm ws nsv k0 k1 f9 s9) ∧ nr_C th ws nsv k0 k1
def lk_V (Sg : Nat → Option Nat) (th : Nat → Nat) (ws : va_W) : Prop := lk_B th ws ∧ lk_Z th ws ∧ ∃ nsv k0 k1 : List (List Int32), lv_ok nsv ∧ lv_ok k0 ∧ lv_ok k1 ∧ lk_N Sg th ws nsv k0 k1
def lk_kn (M : zf_M) : Bool := nu_eT M.2.1 && nu_eN M.2.1 && nu_ok M.2.1 10 1 2
def lk_kr (M : zf_M) : Bool := lk_ks M && lk_ki M
/-- all but the men of the class -/
def lk_ku (M : zf_M) : Bool := lk_kb M && lk_kz M && lk_kr M
def lk_kv (M : zf_M) : Bool := lk_ku M && lk_kn M
theorem nr_Cf {nsv k0 k1 : List (List Int32)} (l6 : nsv.length ≤ 6) (l0 : k0.length ≤ 6) (l1 : k1.length ≤ 6) (hsing : ∀ g, g < 37 → g < 64 → Sg (th g) = some g) (h : lk_kr M = true) (hf : zf_fr Sg M.2.1 ρ ws ws') (hC : nr_C th ws nsv k0 k1) : nr_C th ws' nsv k0 k1 := by
  unfold lk_kr at h
  rw [Bool.and_eq_true] at h
  exact ⟨nr_s l6 hsing h.1 hf hC.1, nr_i l0 l1 hsing h.2 hf hC.2⟩
theorem lk_Vk (hsing : ∀ g, g < 37 → g < 64 → Sg (th g) = some g) (h : lk_kv M = true) (hf : zf_fr Sg M.2.1 ρ ws ws') (hZ : lk_V Sg th ws) : lk_V Sg th ws' := by
  unfold lk_kv lk_ku at h
  simp only [Bool.and_eq_true] at h
  obtain ⟨⟨⟨h1, h2⟩, h3⟩, h4⟩ := h
  obtain ⟨z1, z2, nsv, k0, k1, o1, o2, o3, ⟨tw, nm, f9, s9, hC⟩, hr⟩ := hZ
  exact ⟨lk_Bk hsing h1 hf z1, lk_Zk hsing h2 hf z2, nsv, k0, k1, o1, o2, o3, ⟨tw, nm, f9, s9, nu_Cf h4 hf hsing hC⟩, nr_Cf o1.1 o2.1 o3.1 hsing h3 hf hr⟩
/-- all but the fault -/
def lk_Vy (Sg : Nat → Option Nat) (th : Nat → Nat) (ws : va_W) : Prop := lk_B th ws ∧ lk_Z0 th ws ∧ ∃ nsv k0 k1 : List (List Int32), lv_ok nsv ∧ lv_ok k0 ∧ lv_ok k1 ∧ lk_N Sg th ws nsv k0 k1
theorem lk_V_y (h : lk_V Sg th ws) : lk_Vy Sg th ws := ⟨h.1, h.2.1.1, h.2.2⟩
theorem lk_y_V (h : lk_Vy Sg th ws) (hG : lk_G th ws) : lk_V Sg th ws := ⟨h.1, ⟨h.2.1, hG⟩, h.2.2⟩
theorem lk_Vyk (hsing : ∀ g, g < 37 → g < 64 → Sg (th g) = some g) (h : (lk_kb M && lk_kz0 M && lk_kr M && lk_kn M) = true) (hf : zf_fr Sg M.2.1 ρ ws ws') (hZ : lk_Vy Sg th ws) : lk_Vy Sg th ws' := by
  simp only [Bool.and_eq_true] at h
  obtain ⟨⟨⟨h1, h2⟩, h3⟩, h4⟩ := h
  obtain ⟨z1, z2, nsv, k0, k1, o1, o2, o3, ⟨tw, nm, f9, s9, hC⟩, hr⟩ := hZ
  exact ⟨lk_Bk hsing h1 hf z1, lk_Z0k hsing h2 hf z2, nsv, k0, k1, o1, o2, o3, ⟨tw, nm, f9, s9, nu_Cf h4 hf hsing hC⟩, nr_Cf o1.1 o2.1 o3.1 hsing h3 hf hr⟩
/-- the men of the class are known besides -/
theorem lk_Vn (hsing : ∀ g, g < 37 → g < 64 → Sg (th g) = some g) (h : lk_ku M = true) (hf : zf_fr Sg M.2.1 ρ ws ws') (hZ : lk_V Sg th ws) (hN : ∀ (nsv k0 k1 : List (List Int32)) (tw nm : Nat → Nat) (f9 s9 : Nat), nu_C Sg th tw nm ws nsv k0 k1 f9 s9 → ∃ f7 s7, nu_C Sg th tw nm ws' nsv k0 k1 f7 s7) : lk_V Sg th ws' := by
  unfold lk_ku at h
  simp only [Bool.and_eq_true] at h
  obtain ⟨⟨h1, h2⟩, h3⟩ := h
  obtain ⟨z1, z2, nsv, k0, k1, o1, o2, o3, ⟨tw, nm, f9, s9, hC⟩, hr⟩ := hZ
  obtain ⟨f7, s7, hC'⟩ := hN nsv k0 k1 tw nm f9 s9 hC
  exact ⟨lk_Bk hsing h1 hf z1, lk_Zk hsing h2 hf z2, nsv, k0, k1, o1, o2, o3, ⟨tw, nm, f7, s7, hC'⟩, nr_Cf o1.1 o2.1 o3.1 hsing h3 hf hr⟩
end SC
/-- a cell of one world over a heap stands in each other -/
theorem nu_mv {D : va_G} {k : Nat → ClassId} {Sg : Nat → Option Nat} {A1 A2 : Nat → Prop} {H : Heap} {w1 w2 : va_W} {th tw nm : Nat → Nat} {nsv k0 k1 : List (List Int32)} {f9 s9 : Nat} (hsing : ∀ g, g < 37 → g < 64 → Sg (th g) = some g) (hP1 : va_P D vwCl w1 H) (hP2 : va_P D vwCl w2 H) (hD1 : va_D A1 w1) (hD2 : va_D A2 w2) (t1 : zf_typ Sg k zGT w1) (t2 : zf_typ Sg k zGT w2) (C : nu_C Sg th tw nm w2 nsv k0 k1 f9 s9) : nu_C Sg th tw nm w1 nsv k0 k1 f9 s9 := by
  have mv : ∀ {a g i : Nat} {P : zf_P} {v : Value}, Sg a = some g → g < 128 → zf_sp (zf_gi zGT g).2.2 i = some P → zf_rd w2 a i v → zf_rd w1 a i v := fun ha hg hi r2 => px_carry hP1 hP2 hD1 hD2 t1 (px_typ t2) ha hg hi r2
  obtain ⟨⟨T1, T2, T3, T4, T5, T6, T7⟩, N0, N2, N3, f8, s8, d1, d2, R⟩ := C
  have hN : ∀ (i : Nat) (n9 : List (List Int32)), i < 13 → nu_N tw nm w2 i n9 → nu_N tw nm w1 i n9 := fun i n9 hi N => ⟨N.1, mv (T1 i hi).1 (by decide) (P := .inl (0, 6)) rfl N.2.1, fun j hj => mv (T1 i hi).2.1 (by decide) (P := .inr none) (nu_s6 (by have := N.1; omega)) (N.2.2 j hj)⟩
  have g0 := hsing 0 (by decide) (by decide)
  have g10 := hsing 10 (by decide) (by decide)
  have g11 := hsing 11 (by decide) (by decide)
  have g14 := hsing 14 (by decide) (by decide)
  refine ⟨⟨fun i hi => ⟨(T1 i hi).1, (T1 i hi).2.1, mv (T1 i hi).1 (by decide) (P := .inr (some 65)) rfl (T1 i hi).2.2⟩, T2, T3, mv g0 (by decide) (P := .inr (some 64)) rfl T4, mv g0 (by decide) (P := .inr (some 64)) rfl T5, fun j hj => mv g14 (by decide) (P := .inr (some 64)) ?_ (T6 j hj), fun j hj => mv g11 (by decide) (P := .inr (some 64)) ?_ (T7 j hj)⟩, hN _ _ (by decide) N0, hN _ _ (by decide) N2, hN _ _ (by decide) N3, f8, s8, mv g10 (by decide) (P := .inl (0, 8)) rfl d1, mv g10 (by decide) (P := .inl (0, 8)) rfl d2, fun t ht => hN _ _ (nu_m9 f9 t) (R t ht)⟩
  · match j, hj with
    | 0, _ => rfl
    | 1, _ => rfl
  · match j, hj with
    | 0, _ => rfl
    | 1, _ => rfl
    | 2, _ => rfl
    | 3, _ => rfl
    | 4, _ => rfl
    | 5, _ => rfl
    | 6, _ => rfl
    | 7, _ => rfl
    | 8, _ => rfl
