/-! ===== values, kinds of cells, worlds that keep to their kinds ===== -/
abbrev zf_A := Sum zf_L (Option (Nat × Nat))
abbrev zf_P := Sum (Int × Int) (Option Nat)
abbrev zf_G := Bool × Nat × List (Nat × zf_P)
abbrev zf_H := Nat × Nat × zf_L × zf_A
abbrev zf_S := zf_E × List zf_L × Nat × List (Nat × zf_A) × List zf_A × List zf_H
def zf_f2 {α β : Type} (R : α → β → Prop) : List α → List β → Prop
  | [], [] => True
  | a :: x, b :: y => R a b ∧ zf_f2 R x y
  | _, _ => False
theorem zf_f2_mono {α β : Type} {R R' : α → β → Prop} : ∀ {x : List α} {y : List β}, (∀ a ∈ x, ∀ b, R a b → R' a b) → zf_f2 R x y → zf_f2 R' x y
  | [], [], _, _ => trivial
  | a :: x, b :: y, h, q => ⟨h a List.mem_cons_self b q.1, zf_f2_mono (fun a ha => h a (List.mem_cons_of_mem _ ha)) q.2⟩
  | [], _ :: _, _, q => q.elim
  | _ :: _, [], _, q => q.elim
theorem zf_f2_len {α β : Type} {R : α → β → Prop} : ∀ {x : List α} {y : List β}, zf_f2 R x y → x.length = y.length
  | [], [], _ => rfl
  | a :: x, b :: y, q => by rw [List.length_cons, List.length_cons, zf_f2_len q.2]
  | [], _ :: _, q => q.elim
  | _ :: _, [], q => q.elim
theorem zf_f2_app {α β : Type} {R : α → β → Prop} : ∀ {x x' : List α} {y y' : List β}, zf_f2 R x y → zf_f2 R x' y' → zf_f2 R (x ++ x') (y ++ y')
  | [], _, [], _, _, q => q
  | a :: x, _, b :: y, _, p, q => ⟨p.1, zf_f2_app p.2 q⟩
  | [], _, _ :: _, _, p, _ => p.elim
  | _ :: _, _, [], _, p, _ => p.elim
theorem zf_f2_rev {α β : Type} {R : α → β → Prop} : ∀ {x : List α} {y : List β}, zf_f2 R x y → zf_f2 R x.reverse y.reverse
  | [], [], _ => trivial
  | a :: x, b :: y, p => by
    rw [List.reverse_cons, List.reverse_cons]
    exact zf_f2_app (zf_f2_rev p.2) ⟨p.1, trivial⟩
  | [], _ :: _, p => p.elim
  | _ :: _, [], p => p.elim
theorem zf_f2_fil {α β : Type} {R : α → β → Prop} {f : α → Bool} {g : β → Bool} (h : ∀ a b, R a b → f a = g b) : ∀ {x : List α} {y : List β}, zf_f2 R x y → zf_f2 R (x.filter f) (y.filter g)
  | [], [], _ => trivial
  | a :: x, b :: y, p => by
    rw [List.filter_cons, List.filter_cons, h a b p.1]
    split
    · exact ⟨p.1, zf_f2_fil h p.2⟩
    · exact zf_f2_fil h p.2
  | [], _ :: _, p => p.elim
  | _ :: _, [], p => p.elim
def zf_vok (Sg : Nat → Option Nat) (ρ : Nat → Int) (θ : Nat → Nat) (a : zf_A) (v : Value) : Prop := match a with
  | .inl f => ∃ x : Int32, v = .int x ∧ x.toInt = zf_v ρ f
  | .inr none => ∃ x : Int64, v = .long x
  | .inr (some q) => v = .ref (θ q.2) ∧ Sg (θ q.2) = some q.1
def zf_pok (Sg : Nat → Option Nat) (p : zf_P) (v : Value) : Prop := match p with
  | .inl q => ∃ x : Int32, v = .int x ∧ q.1 ≤ x.toInt ∧ x.toInt ≤ q.2
  | .inr none => ∃ x : Int64, v = .long x
  | .inr (some g) => ∃ a : Nat, v = .ref a ∧ Sg a = some g
/-- what stands at place i: the first row whose end lies behind i -/
def zf_sp : List (Nat × zf_P) → Nat → Option zf_P
  | [], _ => none
  | q :: t, i => match Nat.blt i q.1 with
    | true => some q.2
    | false => zf_sp t i
def zf_len : List (Nat × zf_P) → Nat
  | [] => 0
  | [q] => q.1
  | _ :: t => zf_len t
def zf_el (x : (Nat → Int32) ⊕ (Nat → Int64) ⊕ (Nat → UInt32) ⊕ (Nat → UInt64) ⊕ (Nat → Option Nat)) (i : Nat) : Value := match x with
  | .inl f => .int (f i)
  | .inr (.inl f) => .long (f i)
  | .inr (.inr (.inl f)) => .float (f i)
  | .inr (.inr (.inr (.inl f))) => .double (f i)
  | .inr (.inr (.inr (.inr f))) => va_rf (f i)
def zf_get (e : va_E) (i : Nat) : Option Value := match e with
  | .inr o => o.2[i]?
  | .inl q => if i < q.2.1 then some (zf_el q.2.2 i) else none
def zf_rd (ws : va_W) (a i : Nat) (v : Value) : Prop := ∃ (q : Nat) (e : va_E), ws[q]? = some (a, e) ∧ zf_get e i = some v
def zf_ent (Sg : Nat → Option Nat) (k : Nat → ClassId) (g : zf_G) (e : va_E) : Prop :=
  (match g.1 with
    | false => ∃ fs : List Value, e = .inr (g.2.1, fs) ∧ fs.length = zf_len g.2.2
    | true => ∃ x, e = .inl (k g.2.1, zf_len g.2.2, x)) ∧ ∀ i p, zf_sp g.2.2 i = some p → ∃ v, zf_get e i = some v ∧ zf_pok Sg p v
def zf_gi (GT : List zf_G) (g : Nat) : zf_G := GT.getD g (false, 0, [])
def zf_typ (Sg : Nat → Option Nat) (k : Nat → ClassId) (GT : List zf_G) (ws : va_W) : Prop := ∀ a g, Sg a = some g → g < 128 → ∃ (q : Nat) (e : va_E), ws[q]? = some (a, e) ∧ zf_ent Sg k (zf_gi GT g) e
/-- the kinds with a number below 64 have one cell each, with the same name -/
def zf_one (Sg : Nat → Option Nat) (θ : Nat → Nat) : Prop := ∀ a g, Sg a = some g → g < 64 → a = θ g
/-- what is said of several cells at once: which they are stands in zf_sup, what is said of them in zf_gP -/
def zf_ab (a b : Int) : Nat → Int := fun i => match i with
  | 0 => a
  | _ => b
def zf_pi (Sg : Nat → Option Nat) (j : Nat) (a b : Int) (ws : va_W) : Prop := ∃ F : Nat → Nat → Int32, (∀ q ∈ zf_sup j, ∀ x, Sg x = some q.1 → ∀ i : Nat, zf_v (zf_ab a b) q.2.1 ≤ (i : Int) → (i : Int) ≤ zf_v (zf_ab a b) q.2.2 → zf_rd ws x i (.int (F q.1 i))) ∧ zf_gP j a b F
theorem zf_pi_tr {Sg : Nat → Option Nat} {j : Nat} {a b : Int} {ws ws' : va_W} (h : zf_pi Sg j a b ws) (ht : ∀ q ∈ zf_sup j, ∀ x, Sg x = some q.1 → ∀ i : Nat, zf_v (zf_ab a b) q.2.1 ≤ (i : Int) → (i : Int) ≤ zf_v (zf_ab a b) q.2.2 → ∀ v, zf_rd ws x i v → zf_rd ws' x i v) : zf_pi Sg j a b ws' := by
  obtain ⟨F, h1, h2⟩ := h
  exact ⟨F, fun q hq x hx i i1 i2 => ht q hq x hx i i1 i2 _ (h1 q hq x hx i i1 i2), h2⟩
def zf_a2 (a : zf_A) : zf_L := match a with
  | .inl f => f
  | _ => ([], 0)
def zf_hok (Sg : Nat → Option Nat) (ρ : Nat → Int) (θ : Nat → Nat) (ws : va_W) (h : zf_H) : Prop := match Nat.blt h.1 1000 with
  | true => Sg (θ h.2.1) = some h.1 ∧ 0 ≤ zf_v ρ h.2.2.1 ∧ ∃ v, zf_rd ws (θ h.2.1) (zf_v ρ h.2.2.1).toNat v ∧ zf_vok Sg ρ θ h.2.2.2 v
  | false => zf_pi Sg (h.1 - 1000) (zf_v ρ h.2.2.1) (zf_v ρ (zf_a2 h.2.2.2)) ws
theorem zf_hokT {Sg : Nat → Option Nat} {ρ : Nat → Int} {θ : Nat → Nat} {ws : va_W} {h : zf_H} (hl : h.1 < 1000) : zf_hok Sg ρ θ ws h ↔ (Sg (θ h.2.1) = some h.1 ∧ 0 ≤ zf_v ρ h.2.2.1 ∧ ∃ v, zf_rd ws (θ h.2.1) (zf_v ρ h.2.2.1).toNat v ∧ zf_vok Sg ρ θ h.2.2.2 v) := by
  unfold zf_hok
  rw [zf_blt' hl]
theorem zf_nblt {a b : Nat} (h : ¬ a < b) : Nat.blt a b = false := by
  cases hq : Nat.blt a b with
  | false => rfl
  | true => exact absurd (zf_blt hq) h
theorem zf_hokF {Sg : Nat → Option Nat} {ρ : Nat → Int} {θ : Nat → Nat} {ws : va_W} {h : zf_H} (hl : ¬ h.1 < 1000) : zf_hok Sg ρ θ ws h ↔ zf_pi Sg (h.1 - 1000) (zf_v ρ h.2.2.1) (zf_v ρ (zf_a2 h.2.2.2)) ws := by
  unfold zf_hok
  rw [zf_nblt hl]
def zf_lok (Sg : Nat → Option Nat) (ρ : Nat → Int) (θ : Nat → Nat) (q : Nat × zf_A) (r : Nat × Value) : Prop := q.1 = r.1 ∧ zf_vok Sg ρ θ q.2 r.2
def zf_sat (Sg : Nat → Option Nat) (ρ : Nat → Int) (θ : Nat → Nat) (nL : Nat) (σ : zf_S) (ls : Array Slot) (st : List Value) (ws : va_W) : Prop :=
  zf_okE σ.1 ρ ∧ zf_okF σ.2.1 ρ ∧ (∃ lv, lv_has ls nL lv ∧ zf_f2 (zf_lok Sg ρ θ) σ.2.2.2.1 lv) ∧ zf_f2 (zf_vok Sg ρ θ) σ.2.2.2.2.1 st ∧ ∀ h ∈ σ.2.2.2.2.2, zf_hok Sg ρ θ ws h
/-- what a form's names are: below n, references below r -/
def zf_wa (n r : Nat) (a : zf_A) : Bool := match a with
  | .inl f => zf_bt n f.1
  | .inr none => true
  | .inr (some q) => Nat.blt q.2 r
def zf_wf (n r : Nat) (σ : zf_S) : Bool := σ.2.1.all (fun f => zf_bt n f.1) && σ.2.2.2.1.all (fun q => zf_wa n r q.2) && σ.2.2.2.2.1.all (zf_wa n r) && σ.2.2.2.2.2.all (fun h => Nat.blt h.2.1 r && zf_bt n h.2.2.1.1 && zf_wa n r h.2.2.2)
section ZS
variable {Sg : Nat → Option Nat} {ρ ρ' : Nat → Int} {θ θ' : Nat → Nat} {nL n r : Nat} {σ : zf_S} {ls : Array Slot} {st : List Value} {ws : va_W}
theorem zf_vok_w (h1 : ∀ i, i < n → ρ' i = ρ i) (h2 : ∀ i, i < r → θ' i = θ i) {a : zf_A} {v : Value} (hw : zf_wa n r a = true) (h : zf_vok Sg ρ θ a v) : zf_vok Sg ρ' θ' a v := by
  match a, hw, h with
  | .inl f, hw, ⟨x, e1, e2⟩ => exact ⟨x, e1, by rw [e2, zf_bt_v h1 hw]⟩
  | .inr none, _, h => exact h
  | .inr (some q), hw, ⟨e1, e2⟩ =>
    have e : θ' q.2 = θ q.2 := h2 _ (zf_blt hw)
    exact ⟨by rw [e]; exact e1, by rw [e]; exact e2⟩
theorem zf_a2_w (h1 : ∀ i, i < n → ρ' i = ρ i) {a : zf_A} (hw : zf_wa n r a = true) : zf_v ρ' (zf_a2 a) = zf_v ρ (zf_a2 a) := by
  match a, hw with
  | .inl f, hw => exact zf_bt_v h1 hw
  | .inr none, _ => rfl
  | .inr (some q), _ => rfl
theorem zf_sat_w (h1 : ∀ i, i < n → ρ' i = ρ i) (h2 : ∀ i, i < r → θ' i = θ i) (hw : zf_wf n r σ = true) (h : zf_sat Sg ρ θ nL σ ls st ws) {E' : zf_E} (hE : zf_okE E' ρ') {Fs' : List zf_L} (hF : zf_okF Fs' ρ') {r' : Nat} :
    zf_sat Sg ρ' θ' nL (E', Fs' ++ σ.2.1, r', σ.2.2.2.1, σ.2.2.2.2.1, σ.2.2.2.2.2) ls st ws := by
  obtain ⟨-, q2, ⟨lv, q3, q4⟩, q5, q6⟩ := h
  simp only [zf_wf, Bool.and_eq_true, List.all_eq_true] at hw
  obtain ⟨⟨⟨w1, w2⟩, w3⟩, w4⟩ := hw
  refine ⟨hE, ?_, ⟨lv, q3, zf_f2_mono (fun a ha b hb => ⟨hb.1, zf_vok_w h1 h2 (w2 a ha) hb.2⟩) q4⟩, zf_f2_mono (fun a ha b hb => zf_vok_w h1 h2 (w3 a ha) hb) q5, ?_⟩
  · intro g hg
    rcases List.mem_append.mp hg with hg | hg
    · exact hF g hg
    · rw [zf_bt_v h1 (w1 g hg)]; exact q2 g hg
  · intro g hg
    obtain ⟨⟨e1, e2⟩, e3⟩ := w4 g hg
    have e : θ' g.2.1 = θ g.2.1 := h2 _ (zf_blt e1)
    have e' : zf_v ρ' g.2.2.1 = zf_v ρ g.2.2.1 := zf_bt_v h1 e2
    by_cases hl : g.1 < 1000
    · obtain ⟨p1, p2, v, p3, p4⟩ := (zf_hokT hl).mp (q6 g hg)
      exact (zf_hokT hl).mpr ⟨by rw [e]; exact p1, by rw [e']; exact p2, v, by rw [e, e']; exact p3, zf_vok_w h1 h2 e3 p4⟩
    · have p1 := (zf_hokF hl).mp (q6 g hg)
      refine (zf_hokF hl).mpr ?_
      rw [e', zf_a2_w h1 e3]
      exact p1
/-- a new unknown -/
def zf_new (n0 : Nat) (σ : zf_S) (a b : Int) (fs : List zf_L) : Option zf_S := match Nat.ble n0 σ.1.length && zf_wf σ.1.length σ.2.2.1 σ with
  | true => some (σ.1 ++ [(a, b)], fs ++ σ.2.1, σ.2.2.1, σ.2.2.2.1, σ.2.2.2.2.1, σ.2.2.2.2.2)
  | false => none
theorem zf_new_ok {n0 : Nat} {a b : Int} {fs : List zf_L} {σ' : zf_S} (hn : zf_new n0 σ a b fs = some σ') (h : zf_sat Sg ρ θ nL σ ls st ws) {x : Int} (hx : a ≤ x ∧ x ≤ b) (hf : ∀ g ∈ fs, 0 ≤ zf_v (zf_up ρ σ.1.length x) g) :
    zf_sat Sg (zf_up ρ σ.1.length x) θ nL σ' ls st ws ∧ ∀ i, i < n0 → zf_up ρ σ.1.length x i = ρ i := by
  unfold zf_new at hn
  split at hn
  · rename_i hb
    simp only [Bool.and_eq_true] at hb
    have hle : n0 ≤ σ.1.length := Nat.le_of_ble_eq_true hb.1
    have hup : ∀ i, i < σ.1.length → zf_up ρ σ.1.length x i = ρ i := fun i hi => if_neg (Nat.ne_of_lt hi)
    cases hn
    exact ⟨zf_sat_w hup (fun _ _ => rfl) hb.2 h (zf_up_ok h.1 hx) hf, fun i hi => hup i (by omega)⟩
  · cases hn
/-- a new name for a reference -/
def zf_upr (θ : Nat → Nat) (r a : Nat) : Nat → Nat := fun i => if i = r then a else θ i
def zf_nwr (r0 : Nat) (σ : zf_S) : Option zf_S := match Nat.ble r0 σ.2.2.1 && zf_wf σ.1.length σ.2.2.1 σ with
  | true => some (σ.1, σ.2.1, σ.2.2.1 + 1, σ.2.2.2.1, σ.2.2.2.2.1, σ.2.2.2.2.2)
  | false => none
theorem zf_nwr_ok {r0 : Nat} {σ' : zf_S} (hn : zf_nwr r0 σ = some σ') (h : zf_sat Sg ρ θ nL σ ls st ws) (a : Nat) :
    zf_sat Sg ρ (zf_upr θ σ.2.2.1 a) nL σ' ls st ws ∧ (∀ i, i < r0 → zf_upr θ σ.2.2.1 a i = θ i) ∧ zf_upr θ σ.2.2.1 a σ.2.2.1 = a := by
  unfold zf_nwr at hn
  split at hn
  · rename_i hb
    simp only [Bool.and_eq_true] at hb
    have hle : r0 ≤ σ.2.2.1 := Nat.le_of_ble_eq_true hb.1
    have hup : ∀ i, i < σ.2.2.1 → zf_upr θ σ.2.2.1 a i = θ i := fun i hi => if_neg (Nat.ne_of_lt hi)
    cases hn
    exact ⟨zf_sat_w (fun _ _ => rfl) hup hb.2 h h.1 (Fs' := []) (fun g hg => by cases hg), fun i hi => hup i (by omega), if_pos rfl⟩
  · cases hn
/-- a known form more, and the bounds that it makes narrower -/
def zf_fact (f : zf_L) (σ : zf_S) : zf_S := (zf_tight σ.1 f, (match f.1 with | [] => σ.2.1 | [_] => σ.2.1 | _ => f :: σ.2.1), σ.2.2)
theorem zf_fact_ok {f : zf_L} (h : zf_sat Sg ρ θ nL σ ls st ws) (hf : 0 ≤ zf_v ρ f) : zf_sat Sg ρ θ nL (zf_fact f σ) ls st ws := by
  obtain ⟨q1, q2, q3⟩ := h
  refine ⟨zf_tight_ok hf q1, ?_, q3⟩
  show zf_okF (match f.1 with | [] => σ.2.1 | [_] => σ.2.1 | _ => f :: σ.2.1) ρ
  split
  · exact q2
  · exact q2
  · intro g hg
    rcases List.mem_cons.mp hg with rfl | hg
    · exact hf
    · exact q2 g hg
def zf_lk : List (Nat × zf_A) → Nat → Option zf_A
  | [], _ => none
  | q :: t, i => match Nat.beq q.1 i with
    | true => some q.2
    | false => zf_lk t i
theorem zf_lk_ok {i : Nat} {a : zf_A} : ∀ {lo : List (Nat × zf_A)} {lv : List (Nat × Value)}, zf_f2 (zf_lok Sg ρ θ) lo lv → zf_lk lo i = some a → ∃ v, (i, v) ∈ lv ∧ zf_vok Sg ρ θ a v
  | [], _, _, h => by simp [zf_lk] at h
  | q :: t, [], p, _ => p.elim
  | q :: t, r :: lv, p, h => by
    unfold zf_lk at h
    split at h
    · rename_i hb
      have e : q.1 = i := Nat.eq_of_beq_eq_true hb
      cases h
      obtain ⟨⟨e1, e2⟩, -⟩ := p
      exact ⟨r.2, by rw [← e, e1]; exact List.mem_cons_self, e2⟩
    · obtain ⟨v, h1, h2⟩ := zf_lk_ok p.2 h
      exact ⟨v, List.mem_cons_of_mem _ h1, h2⟩
def zf_c2 (a : zf_A) : Bool := match a with
  | .inr none => true
  | _ => false
theorem zf_c2_ok {a : zf_A} {v : Value} (h : zf_vok Sg ρ θ a v) : zf_c2 a = (v.category == 2) := by
  match a, h with
  | .inl f, ⟨x, e1, _⟩ => rw [e1]; rfl
  | .inr none, ⟨x, e1⟩ => rw [e1]; rfl
  | .inr (some q), ⟨e1, _⟩ => rw [e1]; rfl
def zf_sto (lo : List (Nat × zf_A)) (i : Nat) (a : zf_A) : List (Nat × zf_A) := (i, a) :: lo.filter (fun q => !(q.1 == i) && !(q.1 + 1 == i && zf_c2 q.2))
theorem zf_sto_ok {lo : List (Nat × zf_A)} {lv : List (Nat × Value)} {i : Nat} {a : zf_A} {v : Value} (h : zf_f2 (zf_lok Sg ρ θ) lo lv) (hv : zf_vok Sg ρ θ a v) :
    zf_f2 (zf_lok Sg ρ θ) (zf_sto lo i a) ((i, v) :: lv.filter (fun q => !(q.1 == i) && !(q.1 + 1 == i && q.2.category == 2))) := by
  refine ⟨⟨rfl, hv⟩, zf_f2_fil ?_ h⟩
  intro q r hqr
  rw [hqr.1, zf_c2_ok hqr.2]
end ZS
