/-! ===== contracts: an instruction that takes values from the stack and lays one there ===== -/
abbrev zf_O := Option zf_A × zf_S
abbrev zf_M := zf_S × zf_F × List zf_O
def zf_pre (Sg : Nat → Option Nat) (ρ : Nat → Int) (θ : Nat → Nat) (M : zf_M) (vs : List Value) (ws : va_W) : Prop :=
  zf_okE M.1.1 ρ ∧ zf_okF M.1.2.1 ρ ∧ zf_f2 (zf_vok Sg ρ θ) M.1.2.2.2.2.1 vs ∧ ∀ h ∈ M.1.2.2.2.2.2, zf_hok Sg ρ θ ws h
def zf_rok (Sg : Nat → Option Nat) (ρ : Nat → Int) (θ : Nat → Nat) (a : Option zf_A) (v : Option Value) : Prop := match a, v with
  | none, none => True
  | some a, some v => zf_vok Sg ρ θ a v
  | _, _ => False
def zf_post (Sg : Nat → Option Nat) (k : Nat → ClassId) (GT : List zf_G) (ρ : Nat → Int) (θ : Nat → Nat) (M : zf_M) (ws : va_W) (v : Option Value) (ws' : va_W) : Prop :=
  (∃ o ∈ M.2.2, ∃ (ρ1 : Nat → Int) (θ1 : Nat → Nat), (∀ i, i < M.1.1.length → ρ1 i = ρ i) ∧ (∀ i, i < M.1.2.2.1 → θ1 i = θ i) ∧ zf_okE o.2.1 ρ1 ∧ zf_okF o.2.2.1 ρ1 ∧ (∀ h ∈ o.2.2.2.2.2.2, zf_hok Sg ρ1 θ1 ws' h) ∧ zf_rok Sg ρ1 θ1 o.1 v) ∧ zf_typ Sg k GT ws' ∧ zf_fr Sg M.2.1 ρ ws ws'
def zf_cs (x : List zf_A) : Nat := x.foldr (fun a n => (match zf_c2 a with | true => 2 | false => 1) + n) 0
theorem zf_cs_ok {Sg : Nat → Option Nat} {ρ : Nat → Int} {θ : Nat → Nat} : ∀ {x : List zf_A} {vs : List Value}, zf_f2 (zf_vok Sg ρ θ) x vs → (vs.map fun v => v.category).sum = zf_cs x
  | [], [], _ => rfl
  | a :: x, v :: vs, h => by
    have e := zf_cs_ok h.2
    have hc := zf_c2_ok h.1
    rw [List.map_cons, List.sum_cons, e]
    show _ = (match zf_c2 a with | true => 2 | false => 1) + zf_cs x
    congr 1
    rcases lv_cat v with h1 | h1
    · rw [h1] at hc ⊢; rw [show zf_c2 a = false by rw [hc]; rfl]
    · rw [h1] at hc ⊢; rw [show zf_c2 a = true by rw [hc]; rfl]
  | [], _ :: _, h => h.elim
  | _ :: _, [], h => h.elim
section ZC
variable {Sg : Nat → Option Nat} {k : Nat → ClassId} {GT : List zf_G} {A : Nat → Prop} {ρ ρ0 : Nat → Int} {θ θ0 : Nat → Nat} {nL n0 r0 NS : Nat} {σ σ' : zf_S} {eff : zf_F} {ws0 : va_W} {H0 : Heap} {D : va_G} {cl : List vw_C}
variable {p : Program} {l : Launch} {e : Env} {R : Room} {s : State} {m : MethodId} {args : Array Value} {below : List Frame} {meth : Method} {c : Code} {cells slots : Nat} {Q : State → Prop} {cc : ByteArray} {pc len : Nat}
/-- what is said of such an instruction -/
def zf_CR (p : Program) (l : Launch) (e : Env) (R : Room) (s : State) (m : MethodId) (args : Array Value) (below : List Frame) (meth : Method) (c : Code) (cells slots : Nat) (Q : State → Prop) (cc : ByteArray) (D : va_G) (cl : List vw_C) (A : Nat → Prop) (H0 : Heap) (Sg : Nat → Option Nat) (k : Nat → ClassId) (GT : List zf_G) (θ0 : Nat → Nat) (nL : Nat) (i : Instr) (len : Nat) (M : zf_M) : Prop :=
  ∀ (H : Heap) (locs : List Loc) (ws : va_W) (ρ : Nat → Int) (θ : Nat → Nat) (vs rest : List Value) (pc : Nat) (ls : Array Slot), va_P D cl ws H → va_D A ws → va_S A H0 H locs → zf_typ Sg k GT ws → (∀ i, i < 64 → θ i = θ0 i) → zf_pre Sg ρ θ M vs ws → decode cc pc = .ok (i, len) → ls.size = nL → (rest.map fun v => v.category).sum ≤ 8 →
    (∀ (v : Option Value) (ws' : va_W) (H1 : Heap) (locs1 : List Loc), zf_post Sg k GT ρ θ M ws v ws' → va_P D cl ws' H1 → va_D A ws' → va_S A H0 H1 locs1 → W p l e R s m args below meth c H1 locs1 cells slots Q (F0 m (pc + len) ls (v.toList ++ rest))) →
    W p l e R s m args below meth c H locs cells slots Q (F0 m pc ls (vs ++ rest))
def zf_rng : Nat → Nat → List Nat
  | _, 0 => []
  | s, n + 1 => s :: zf_rng (s + 1) n
/-- bounds that an outcome makes narrower -/
def zf_nar : List zf_L → zf_E → zf_E → List zf_L
  | f :: S, q :: E, q1 :: E1 => (match zf_z (q.1 - q1.1) with | true => [] | false => [zf_sub f (zf_con q1.1)]) ++ (match zf_z (q.2 - q1.2) with | true => [] | false => [zf_sub (zf_con q1.2) f]) ++ zf_nar S E E1
  | _, _, _ => []
def zf_oS (σ : zf_S) (M : zf_M) (o : zf_O) (S : List zf_L) : List zf_L := S ++ (zf_rng σ.1.length (o.2.1.length - M.1.1.length)).map zf_sym
def zf_oR (σ : zf_S) (M : zf_M) (o : zf_O) (R : List Nat) : List Nat := R ++ zf_rng σ.2.2.1 (o.2.2.2.1 - M.1.2.2.1)
def zf_mh (S : List zf_L) (R : List Nat) (h : zf_H) : zf_H := (h.1, zf_rn R h.2.1, zf_sb S h.2.2.1, zf_ma S R h.2.2.2)
/-- a fact stays where places of eff are written -/
def zf_kp1 (E : zf_E) (Fs : List zf_L) (eff : zf_F) (S : List zf_L) (h : zf_H) : Bool := match Nat.blt h.1 1000 with
  | true => eff.all (fun q => !(Nat.beq q.1 h.1) || zf_ge E Fs (zf_add (zf_sub h.2.2.1 (zf_sb S q.2.2)) (zf_con (-1))) || zf_ge E Fs (zf_add (zf_sub (zf_sb S q.2.1) h.2.2.1) (zf_con (-1))))
  | false => (zf_sup (h.1 - 1000)).all (fun u => eff.all (fun q => !(Nat.beq q.1 u.1) || zf_ge E Fs (zf_add (zf_sub (zf_sb [h.2.2.1, zf_a2 h.2.2.2] u.2.1) (zf_sb S q.2.2)) (zf_con (-1))) || zf_ge E Fs (zf_add (zf_sub (zf_sb S q.2.1) (zf_sb [h.2.2.1, zf_a2 h.2.2.2] u.2.2)) (zf_con (-1)))))
def zf_kep (σ : zf_S) (M : zf_M) (S : List zf_L) : List zf_H := σ.2.2.2.2.2.filter (zf_kp1 σ.1 σ.2.1 M.2.1 S)
/-- the state behind an outcome -/
def zf_oσ (σ : zf_S) (M : zf_M) (o : zf_O) (S : List zf_L) (R : List Nat) (rest : List zf_A) : zf_S :=
  (σ.1 ++ o.2.1.drop M.1.1.length, σ.2.1, σ.2.2.1 + (o.2.2.2.1 - M.1.2.2.1), σ.2.2.2.1, (o.1.map (zf_ma (zf_oS σ M o S) (zf_oR σ M o R))).toList ++ rest, o.2.2.2.2.2.2.map (zf_mh (zf_oS σ M o S) (zf_oR σ M o R)) ++ zf_kep σ M S)
def zf_oF (σ : zf_S) (M : zf_M) (o : zf_O) (S : List zf_L) : List zf_L := zf_nar S M.1.1 o.2.1 ++ o.2.2.1.map (zf_sb (zf_oS σ M o S))
/-- forms and names of an outcome are its own -/
def zf_ook (M : zf_M) (o : zf_O) : Bool := Nat.ble M.1.1.length o.2.1.length && Nat.ble M.1.2.2.1 o.2.2.2.1 && Nat.ble 64 M.1.2.2.1 && o.2.2.1.all (fun f => zf_bt o.2.1.length f.1) && o.2.2.2.2.2.2.all (fun h => Nat.blt h.2.1 o.2.2.2.1 && zf_bt o.2.1.length h.2.2.1.1 && zf_wa o.2.1.length o.2.2.2.1 h.2.2.2) && (match o.1 with | some a => zf_wa o.2.1.length o.2.2.2.1 a | none => true)
def zf_call (n0 r0 NS : Nat) (GT : List zf_G) (eff : zf_F) (M : zf_M) (q : Nat) (σ : zf_S) : Option (List (Nat × zf_S)) :=
  match zf_bhf n0 r0 NS GT σ (zf_bst (List.replicate M.1.1.length none, List.replicate (M.1.2.2.1 - 64) none) M.1.2.2.2.2.1 (σ.2.2.2.2.1.take M.1.2.2.2.2.1.length)) M.1.2.2.2.2.2 with
  | (σ1, B) => match zf_mch σ1 (zf_los M.1 [] []) (zf_bS B) (zf_bR B) && zf_mst σ1 (zf_bS B) (zf_bR B) M.1.2.2.2.2.1 (σ1.2.2.2.2.1.take M.1.2.2.2.2.1.length) && Nat.ble (zf_cs (σ1.2.2.2.2.1.drop M.1.2.2.2.2.1.length)) 8
      && M.2.1.all (fun x => zf_bt M.1.1.length x.2.1.1 && zf_bt M.1.1.length x.2.2.1 && eff.any (fun y => Nat.beq y.1 x.1 && zf_bt n0 y.2.1.1 && zf_bt n0 y.2.2.1 && zf_ge σ1.1 σ1.2.1 (zf_sub (zf_sb (zf_bS B) x.2.1) y.2.1) && zf_ge σ1.1 σ1.2.1 (zf_sub y.2.2 (zf_sb (zf_bS B) x.2.2))))
      && zf_wf σ1.1.length σ1.2.2.1 σ1 && Nat.ble n0 σ1.1.length && Nat.ble r0 σ1.2.2.1 && (zf_bS B).all (fun f => zf_bt σ1.1.length f.1) && Nat.beq (zf_bR B).length (M.1.2.2.1 - 64) && (zf_bR B).all (fun r => Nat.blt r σ1.2.2.1) && M.2.2.all (zf_ook M) with
    | true => some (M.2.2.flatMap (fun o => zf_alt q (zf_oF σ1 M o (zf_bS B)) (zf_oσ σ1 M o (zf_bS B) (zf_bR B) (σ1.2.2.2.2.1.drop M.1.2.2.2.2.1.length))))
    | false => none
theorem zf_rng_get : ∀ (n s j : Nat), j < n → (zf_rng s n)[j]? = some (s + j)
  | 0, _, _, h => by simp at h
  | n + 1, s, 0, _ => rfl
  | n + 1, s, j + 1, h => by
    show (zf_rng (s + 1) n)[j]? = _
    rw [zf_rng_get n (s + 1) j (by omega)]
    congr 1; omega
theorem zf_rng_len : ∀ (n s : Nat), (zf_rng s n).length = n
  | 0, _ => rfl
  | n + 1, s => by show (zf_rng (s + 1) n).length + 1 = n + 1; rw [zf_rng_len n (s + 1)]
/-- the unknowns behind an outcome: the old ones, then the outcome's new ones -/
def zf_jρ (ρ ρ1 : Nat → Int) (n n' : Nat) : Nat → Int := fun i => if i < n then ρ i else ρ1 (n' + (i - n))
def zf_jθ (θ θ1 : Nat → Nat) (r r' : Nat) : Nat → Nat := fun i => if i < r then θ i else θ1 (r' + (i - r))
theorem zf_jS {M : zf_M} {o : zf_O} {S : List zf_L} {ρ1 : Nat → Int} (hS : S.length = M.1.1.length) (hle : M.1.1.length ≤ o.2.1.length) (hb : ∀ f ∈ S, zf_bt σ.1.length f.1 = true) (h1 : ∀ i, i < M.1.1.length → ρ1 i = zf_ρS ρ S i) : ∀ i, i < o.2.1.length → zf_ρS (zf_jρ ρ ρ1 σ.1.length M.1.1.length) (zf_oS σ M o S) i = ρ1 i := by
  intro i hi
  unfold zf_ρS zf_oS
  by_cases hl : i < M.1.1.length
  · have hg : (S ++ (zf_rng σ.1.length (o.2.1.length - M.1.1.length)).map zf_sym).getD i ([], 0) = S.getD i ([], 0) := by
      rw [List.getD_eq_getElem?_getD, List.getD_eq_getElem?_getD, List.getElem?_append_left (by omega)]
    rw [hg, h1 i hl]
    have hm : S.getD i ([], 0) ∈ S := by
      rw [List.getD_eq_getElem?_getD, List.getElem?_eq_getElem (by omega)]
      exact List.getElem_mem _
    exact zf_bt_v (fun j hj => if_pos hj) (hb _ hm)
  · have hg : (S ++ (zf_rng σ.1.length (o.2.1.length - M.1.1.length)).map zf_sym).getD i ([], 0) = zf_sym (σ.1.length + (i - M.1.1.length)) := by
      rw [List.getD_eq_getElem?_getD, List.getElem?_append_right (by omega), List.getElem?_map, hS, zf_rng_get _ _ _ (by omega)]
      rfl
    rw [hg, zf_v_sym]
    unfold zf_jρ
    rw [if_neg (by omega)]
    congr 1; omega
theorem zf_jR {M : zf_M} {o : zf_O} {Rn : List Nat} {θ1 : Nat → Nat} (h64 : 64 ≤ M.1.2.2.1) (hR : Rn.length = M.1.2.2.1 - 64) (hle : M.1.2.2.1 ≤ o.2.2.2.1) (hr : 64 ≤ σ.2.2.1) (hb : ∀ r ∈ Rn, r < σ.2.2.1) (h1 : ∀ i, i < M.1.2.2.1 → θ1 i = zf_θR θ Rn i) : ∀ i, i < o.2.2.2.1 → zf_θR (zf_jθ θ θ1 σ.2.2.1 M.1.2.2.1) (zf_oR σ M o Rn) i = θ1 i := by
  intro i hi
  unfold zf_θR zf_oR
  by_cases h6 : i < 64
  · have e1 : ∀ L : List Nat, zf_rn L i = i := fun L => by unfold zf_rn; rw [zf_blt' h6]
    rw [e1, h1 i (by omega)]
    unfold zf_θR zf_jθ
    rw [e1, if_pos (by omega)]
  · have e0 : Nat.blt i 64 = false := by
      cases hq : Nat.blt i 64 with
      | false => rfl
      | true => exact absurd (zf_blt hq) h6
    have e1 : ∀ L : List Nat, zf_rn L i = L.getD (i - 64) 0 := fun L => by unfold zf_rn; rw [e0]
    rw [e1]
    by_cases hl : i < M.1.2.2.1
    · have hg : (Rn ++ zf_rng σ.2.2.1 (o.2.2.2.1 - M.1.2.2.1)).getD (i - 64) 0 = Rn.getD (i - 64) 0 := by
        rw [List.getD_eq_getElem?_getD, List.getD_eq_getElem?_getD, List.getElem?_append_left (by omega)]
      have hm : Rn.getD (i - 64) 0 ∈ Rn := by
        rw [List.getD_eq_getElem?_getD, List.getElem?_eq_getElem (by omega)]
        exact List.getElem_mem _
      rw [hg, h1 i hl]
      unfold zf_θR zf_jθ
      rw [e1, if_pos (hb _ hm)]
    · have hg : (Rn ++ zf_rng σ.2.2.1 (o.2.2.2.1 - M.1.2.2.1)).getD (i - 64) 0 = σ.2.2.1 + (i - M.1.2.2.1) := by
        rw [List.getD_eq_getElem?_getD, List.getElem?_append_right (by omega), zf_rng_get _ _ _ (by omega)]
        show _ + _ = _
        omega
      rw [hg]
      unfold zf_jθ
      rw [if_neg (by omega)]
      congr 1; omega
theorem zf_ma_ok {S : List zf_L} {Rn : List Nat} {ρ1 : Nat → Int} {θ1 : Nat → Nat} {n r : Nat} (h1 : ∀ i, i < n → zf_ρS ρ S i = ρ1 i) (h2 : ∀ i, i < r → zf_θR θ Rn i = θ1 i) {a : zf_A} {v : Value} (hw : zf_wa n r a = true) (h : zf_vok Sg ρ1 θ1 a v) : zf_vok Sg ρ θ (zf_ma S Rn a) v := by
  match a, hw, h with
  | .inl f, hw, ⟨x, e1, e2⟩ =>
    refine ⟨x, e1, ?_⟩
    rw [zf_v_sb, e2]
    exact (zf_bt_v h1 hw).symm
  | .inr none, _, h => exact h
  | .inr (some q), hw, ⟨e1, e2⟩ =>
    have e : θ (zf_rn Rn q.2) = θ1 q.2 := h2 q.2 (zf_blt hw)
    exact ⟨by show _ = Value.ref (θ (zf_rn Rn q.2)); rw [e]; exact e1, by show Sg (θ (zf_rn Rn q.2)) = _; rw [e]; exact e2⟩
theorem zf_ma_a2 {S : List zf_L} {Rn : List Nat} {ρ1 : Nat → Int} {n r : Nat} (h1 : ∀ i, i < n → zf_ρS ρ S i = ρ1 i) {a : zf_A} (hw : zf_wa n r a = true) : zf_v ρ (zf_a2 (zf_ma S Rn a)) = zf_v ρ1 (zf_a2 a) := by
  match a, hw with
  | .inl f, hw =>
    show zf_v ρ (zf_sb S f) = _
    rw [zf_v_sb]
    exact zf_bt_v h1 hw
  | .inr none, _ => rfl
  | .inr (some q), _ => rfl
theorem zf_jE {M : zf_M} {o : zf_O} {ρ1 : Nat → Int} (hle : M.1.1.length ≤ o.2.1.length) (hE : zf_okE σ.1 ρ) (hE1 : zf_okE o.2.1 ρ1) : zf_okE (σ.1 ++ o.2.1.drop M.1.1.length) (zf_jρ ρ ρ1 σ.1.length M.1.1.length) := by
  have at_app : ∀ (E F : zf_E) (x : Nat), zf_at (E ++ F) x = if x < E.length then zf_at E x else zf_at F (x - E.length) := by
    intro E
    induction E with
    | nil => intro F x; simp
    | cons a t ih =>
      intro F x
      cases x with
      | zero => rfl
      | succ x =>
        show zf_at (t ++ F) x = _
        rw [ih]
        simp only [List.length_cons, Nat.add_lt_add_iff_right, Nat.add_sub_add_right]
        rfl
  have at_drop : ∀ (n : Nat) (E : zf_E) (x : Nat), zf_at (E.drop n) x = zf_at E (n + x) := by
    intro n
    induction n with
    | zero => intro E x; simp
    | succ n ih =>
      intro E x
      cases E with
      | nil =>
        show zf_at [] x = zf_at [] (n + 1 + x)
        cases x <;> rfl
      | cons a t =>
        show zf_at (t.drop n) x = _
        rw [ih, show n + 1 + x = (n + x) + 1 by omega]
        rfl
  intro x
  rw [at_app]
  unfold zf_jρ
  by_cases hx : x < σ.1.length
  · rw [if_pos hx, if_pos hx]; exact hE x
  · rw [if_neg hx, if_neg hx, at_drop]; exact hE1 _
theorem zf_nar_ok : ∀ {S : List zf_L} {E E1 : zf_E} {ρ1 : Nat → Int}, (∀ i, i < S.length → zf_v ρ (S.getD i ([], 0)) = ρ1 i) → zf_okE E1 ρ1 → ∀ f ∈ zf_nar S E E1, 0 ≤ zf_v ρ f
  | [], _, _, _, _, _, f, hf => by simp [zf_nar] at hf
  | g :: S, [], _, _, _, _, f, hf => by simp [zf_nar] at hf
  | g :: S, q :: E, [], _, _, _, f, hf => by simp [zf_nar] at hf
  | g :: S, q :: E, q1 :: E1, ρ1, h, hE, f, hf => by
    have h0 : zf_v ρ g = ρ1 0 := h 0 (by simp)
    have b0 : q1.1 ≤ ρ1 0 ∧ ρ1 0 ≤ q1.2 := hE 0
    unfold zf_nar at hf
    rcases List.mem_append.mp hf with hf | hf
    · rcases List.mem_append.mp hf with hf | hf
      · split at hf
        · cases hf
        · rw [List.mem_singleton.mp hf, zf_v_sub, zf_v_con]; omega
      · split at hf
        · cases hf
        · rw [List.mem_singleton.mp hf, zf_v_sub, zf_v_con]; omega
    · exact zf_nar_ok (ρ1 := fun i => ρ1 (i + 1)) (fun i hi => h (i + 1) (by simpa using hi)) (fun x => hE (x + 1)) f hf
set_option maxHeartbeats 4000000 in
theorem zf_call_ok (hone : ∀ a g, Sg a = some g → g < 64 → a = θ0 g) (hr0 : 64 ≤ r0) (hsing : ∀ g, g < NS → g < 64 → Sg (θ0 g) = some g) {i : Instr} {M : zf_M} (hcr : zf_CR p l e R s m args below meth c cells slots Q cc D cl A H0 Sg k GT θ0 nL i len M)
    {succs : List (Nat × zf_S)} (hdg : decode cc pc = .ok (i, len)) (hs : zf_call n0 r0 NS GT eff M (pc + len) σ = some succs)
    (hk : ∀ q ∈ succs, zf_K Sg n0 r0 nL ρ0 θ0 (zf_Wd D cl A H0 Sg k GT eff ρ0 ws0) (zf_W p l e R s m args below meth c cells slots Q) q.1 q.2) : zf_K Sg n0 r0 nL ρ0 θ0 (zf_Wd D cl A H0 Sg k GT eff ρ0 ws0) (zf_W p l e R s m args below meth c cells slots Q) pc σ := by
  intro ρ θ ws H locs ls st hρ hθ hW h
  obtain ⟨hP, hD, hS, ht, hfr⟩ := id hW
  unfold zf_call at hs
  split at hs
  rename_i σ1 B hB
  obtain ⟨ρ', θ', a1, a2, h⟩ := zf_bhf_ok hD ht hone hr0 hsing hθ h hB
  have hρ : ∀ i, i < n0 → ρ' i = ρ0 i := fun i hi => (a1 i hi).trans (hρ i hi)
  have hθ : ∀ i, i < r0 → θ' i = θ0 i := fun i hi => (a2 i hi).trans (hθ i hi)
  clear a1 a2 hB
  split at hs
  · rename_i hc
    cases hs
    simp only [Bool.and_eq_true, List.all_eq_true] at hc
    obtain ⟨⟨⟨⟨⟨⟨⟨⟨⟨⟨c1, c2⟩, c3⟩, c4⟩, c5⟩, c6⟩, c7⟩, c8⟩, c9⟩, c10⟩, c11⟩ := hc
    have c6 := Nat.le_of_ble_eq_true c6
    have c7 := Nat.le_of_ble_eq_true c7
    generalize hSd : zf_bS B = S at *
    generalize hRd : zf_bR B = Rn at *
    obtain ⟨q1, q2, q3, hst, hh⟩ := id h
    have hSl : S.length = M.1.1.length := by
      unfold zf_mch at c1
      simp only [Bool.and_eq_true] at c1
      exact Nat.eq_of_beq_eq_true c1.1.1.1.1
    -- the stack in two
    have hcut : st = st.take M.1.2.2.2.2.1.length ++ st.drop M.1.2.2.2.2.1.length := (List.take_append_drop _ _).symm
    have f2t : ∀ (n : Nat) {x : List zf_A} {y : List Value}, zf_f2 (zf_vok Sg ρ' θ') x y → zf_f2 (zf_vok Sg ρ' θ') (x.take n) (y.take n) ∧ zf_f2 (zf_vok Sg ρ' θ') (x.drop n) (y.drop n) := by
      intro n
      induction n with
      | zero => intro x y hxy; exact ⟨by simp only [List.take_zero]; trivial, by simpa using hxy⟩
      | succ n ih =>
        intro x y hxy
        cases x with
        | nil => cases y with
          | nil => exact ⟨trivial, trivial⟩
          | cons b y => exact hxy.elim
        | cons a x => cases y with
          | nil => exact hxy.elim
          | cons b y => exact ⟨⟨hxy.1, (ih hxy.2).1⟩, (ih hxy.2).2⟩
    obtain ⟨hva, hvr⟩ := f2t M.1.2.2.2.2.1.length hst
    have hargs := zf_mst_ok q1 q2 c2 hva
    have hsat := zf_mch_ok h c1 (sa := []) (st' := []) trivial
    have hpre : zf_pre Sg (zf_ρS ρ' S) (zf_θR θ' Rn) M (st.take M.1.2.2.2.2.1.length) ws := ⟨hsat.1, hsat.2.1, hargs, hsat.2.2.2.2⟩
    have h6 : ∀ i, i < 64 → zf_θR θ' Rn i = θ0 i := fun i hi => by
      unfold zf_θR zf_rn
      rw [zf_blt' hi]
      exact hθ i (by omega)
    rw [hcut]
    refine hcr H locs ws (zf_ρS ρ' S) (zf_θR θ' Rn) _ _ pc ls hP hD hS ht h6 hpre hdg ?_ ?_ ?_
    · obtain ⟨lv, hl, -⟩ := q3
      exact hl.1
    · rw [zf_cs_ok hvr]; exact Nat.le_of_ble_eq_true c3
    intro v ws' H1 locs1 hpost hP1 hD1 hS1
    obtain ⟨⟨o, ho, ρ1, θ1, p1, p2, p3, p4, p5, p6⟩, ht', hfr'⟩ := hpost
    have hook := c11 o ho
    unfold zf_ook at hook
    simp only [Bool.and_eq_true, List.all_eq_true] at hook
    obtain ⟨⟨⟨⟨⟨o1, o2⟩, o3⟩, o4⟩, o5⟩, o6⟩ := hook
    have o1 := Nat.le_of_ble_eq_true o1
    have o2 := Nat.le_of_ble_eq_true o2
    have o3 := Nat.le_of_ble_eq_true o3
    have jS := zf_jS (σ := σ1) (M := M) (o := o) hSl o1 (fun f hf => c8 f hf) p1
    have jR := zf_jR (σ := σ1) (M := M) (o := o) o3 (Nat.eq_of_beq_eq_true c9) o2 (by omega) (fun r hr => zf_blt (c10 r hr)) p2
    -- no place that is written is said to be kept
    have hine : ∀ g j, zf_ine M.2.1 (zf_ρS ρ' S) g j → zf_ine eff ρ0 g j := by
      rintro g j ⟨x, hx, e1, e2, e3⟩
      obtain ⟨⟨x1, x2⟩, x3⟩ := c4 x hx
      rw [List.any_eq_true] at x3
      obtain ⟨y, hy, hyc⟩ := x3
      simp only [Bool.and_eq_true] at hyc
      obtain ⟨⟨⟨⟨y1, y2⟩, y3⟩, y4⟩, y5⟩ := hyc
      have y4 := zf_ge_of q1 q2 y4
      have y5 := zf_ge_of q1 q2 y5
      rw [zf_v_sub, zf_v_sb] at y4 y5
      have r1 := zf_bt_v hρ (f := y.2.1) y2
      have r2 := zf_bt_v hρ (f := y.2.2) y3
      have g1 : zf_v (zf_ρS ρ' S) x.2.1 = zf_v (fun i => zf_v ρ' (S.getD i ([], 0))) x.2.1 := rfl
      have g2 : zf_v (zf_ρS ρ' S) x.2.2 = zf_v (fun i => zf_v ρ' (S.getD i ([], 0))) x.2.2 := rfl
      exact ⟨y, hy, (Nat.eq_of_beq_eq_true y1).trans e1, by omega, by omega⟩
    have hup1 : ∀ i, i < σ1.1.length → zf_jρ ρ' ρ1 σ1.1.length M.1.1.length i = ρ' i := fun i hi => if_pos hi
    have hup2 : ∀ i, i < σ1.2.2.1 → zf_jθ θ' θ1 σ1.2.2.1 M.1.2.2.1 i = θ' i := fun i hi => if_pos hi
    have hw := zf_sat_w (Fs' := []) (r' := 0) hup1 hup2 c5 h (zf_jE o1 q1 p3) (fun g hg => by cases hg)
    obtain ⟨w1, w2, w3, w4, w5⟩ := hw
    have hrest : zf_f2 (zf_vok Sg (zf_jρ ρ' ρ1 σ1.1.length M.1.1.length) (zf_jθ θ' θ1 σ1.2.2.1 M.1.2.2.1)) (σ1.2.2.2.2.1.drop M.1.2.2.2.2.1.length) (st.drop M.1.2.2.2.2.1.length) := by
      have c5' := c5
      unfold zf_wf at c5'
      simp only [Bool.and_eq_true, List.all_eq_true] at c5'
      exact zf_f2_mono (fun a ha b hb => zf_vok_w hup1 hup2 (c5'.1.2 a (List.mem_of_mem_drop ha)) hb) hvr
    have hnew : zf_sat Sg (zf_jρ ρ' ρ1 σ1.1.length M.1.1.length) (zf_jθ θ' θ1 σ1.2.2.1 M.1.2.2.1) nL (zf_oσ σ1 M o S Rn (σ1.2.2.2.2.1.drop M.1.2.2.2.2.1.length)) ls (v.toList ++ st.drop M.1.2.2.2.2.1.length) ws' := by
      refine ⟨w1, w2, w3, ?_, ?_⟩
      · show zf_f2 _ ((o.1.map (zf_ma (zf_oS σ1 M o S) (zf_oR σ1 M o Rn))).toList ++ _) _
        have hro := p6
        unfold zf_rok at hro
        split at hro
        · rename_i e1
          rw [e1]
          exact hrest
        · rename_i a w e1
          rw [e1]
          rw [e1] at o6
          exact ⟨zf_ma_ok jS jR o6 hro, hrest⟩
        · exact hro.elim
      · intro y hy
        rcases List.mem_append.mp hy with hy | hy
        · obtain ⟨z, hz, rfl⟩ := List.mem_map.mp hy
          obtain ⟨⟨s1, s2⟩, s3⟩ := o5 z hz
          have er : zf_jθ θ' θ1 σ1.2.2.1 M.1.2.2.1 (zf_rn (zf_oR σ1 M o Rn) z.2.1) = θ1 z.2.1 := jR z.2.1 (zf_blt s1)
          have ei : zf_v (zf_jρ ρ' ρ1 σ1.1.length M.1.1.length) (zf_sb (zf_oS σ1 M o S) z.2.2.1) = zf_v ρ1 z.2.2.1 := by
            rw [zf_v_sb]; exact (zf_bt_v jS s2)
          by_cases hzl : z.1 < 1000
          · obtain ⟨z1, z2, u, z3, z4⟩ := (zf_hokT hzl).mp (p5 z hz)
            refine (zf_hokT (h := zf_mh (zf_oS σ1 M o S) (zf_oR σ1 M o Rn) z) hzl).mpr ⟨?_, ?_, u, ?_, zf_ma_ok jS jR s3 z4⟩
            · show Sg (zf_jθ θ' θ1 σ1.2.2.1 M.1.2.2.1 (zf_rn (zf_oR σ1 M o Rn) z.2.1)) = some z.1
              rw [er]; exact z1
            · show 0 ≤ zf_v _ (zf_sb (zf_oS σ1 M o S) z.2.2.1)
              rw [ei]; exact z2
            · show zf_rd ws' (zf_jθ θ' θ1 σ1.2.2.1 M.1.2.2.1 (zf_rn (zf_oR σ1 M o Rn) z.2.1)) (zf_v _ (zf_sb (zf_oS σ1 M o S) z.2.2.1)).toNat u
              rw [er, ei]; exact z3
          · have zz := (zf_hokF hzl).mp (p5 z hz)
            refine (zf_hokF (h := zf_mh (zf_oS σ1 M o S) (zf_oR σ1 M o Rn) z) hzl).mpr ?_
            show zf_pi Sg (z.1 - 1000) (zf_v _ (zf_sb (zf_oS σ1 M o S) z.2.2.1)) (zf_v _ (zf_a2 (zf_ma (zf_oS σ1 M o S) (zf_oR σ1 M o Rn) z.2.2.2))) ws'
            rw [ei, zf_ma_a2 jS s3]
            exact zz
        · unfold zf_kep at hy
          obtain ⟨hy, hyc⟩ := List.mem_filter.mp hy
          unfold zf_kp1 at hyc
          have c5' := c5
          unfold zf_wf at c5'
          simp only [Bool.and_eq_true, List.all_eq_true] at c5'
          have ey : zf_v (zf_jρ ρ' ρ1 σ1.1.length M.1.1.length) y.2.2.1 = zf_v ρ' y.2.2.1 := zf_bt_v hup1 (c5'.2 y hy).1.2
          by_cases hyl : y.1 < 1000
          · rw [zf_blt' hyl] at hyc
            dsimp only at hyc
            obtain ⟨z1, z2, u, z3, z4⟩ := (zf_hokT hyl).mp (w5 y hy)
            refine (zf_hokT hyl).mpr ⟨z1, z2, u, hfr' _ _ _ _ z1 ?_ z3, z4⟩
            rintro ⟨x, hx, e1, e2, e3⟩
            rw [List.all_eq_true] at hyc
            have hx2 := hyc x hx
            rw [Bool.or_eq_true, Bool.or_eq_true] at hx2
            rw [ey] at e2 e3 z2
            have g1 : zf_v (zf_ρS ρ' S) x.2.1 = zf_v (fun i => zf_v ρ' (S.getD i ([], 0))) x.2.1 := rfl
            have g2 : zf_v (zf_ρS ρ' S) x.2.2 = zf_v (fun i => zf_v ρ' (S.getD i ([], 0))) x.2.2 := rfl
            rcases hx2 with (hx2 | hx2) | hx2
            · rw [e1] at hx2; simp at hx2
            · have := zf_ge_of q1 q2 hx2
              rw [zf_v_add, zf_v_sub, zf_v_con, zf_v_sb] at this
              omega
            · have := zf_ge_of q1 q2 hx2
              rw [zf_v_add, zf_v_sub, zf_v_con, zf_v_sb] at this
              omega
          · rw [zf_nblt hyl] at hyc
            dsimp only at hyc
            rw [List.all_eq_true] at hyc
            have ey2 : zf_v (zf_jρ ρ' ρ1 σ1.1.length M.1.1.length) (zf_a2 y.2.2.2) = zf_v ρ' (zf_a2 y.2.2.2) := zf_a2_w hup1 (c5'.2 y hy).2
            refine (zf_hokF hyl).mpr (zf_pi_tr ((zf_hokF hyl).mp (w5 y hy)) ?_)
            intro u hu x hx i i1 i2 v hv
            refine hfr' _ _ _ _ hx ?_ hv
            rintro ⟨z, hz, e1, e2, e3⟩
            have hyc := hyc u hu
            rw [List.all_eq_true] at hyc
            have hx2 := hyc z hz
            rw [Bool.or_eq_true, Bool.or_eq_true] at hx2
            obtain ⟨b3, b4⟩ := zf_sup_b hu
            rw [ey, ey2] at i1 i2
            rw [← zf_sb_ab _ _ _ b3] at i1
            rw [← zf_sb_ab _ _ _ b4] at i2
            have g1 : zf_v (zf_ρS ρ' S) z.2.1 = zf_v (fun i => zf_v ρ' (S.getD i ([], 0))) z.2.1 := rfl
            have g2 : zf_v (zf_ρS ρ' S) z.2.2 = zf_v (fun i => zf_v ρ' (S.getD i ([], 0))) z.2.2 := rfl
            rcases hx2 with (hx2 | hx2) | hx2
            · rw [e1] at hx2; simp at hx2
            · have := zf_ge_of q1 q2 hx2
              rw [zf_v_add, zf_v_sub, zf_v_con, zf_v_sb ρ' S] at this
              omega
            · have := zf_ge_of q1 q2 hx2
              rw [zf_v_add, zf_v_sub, zf_v_con, zf_v_sb ρ' S] at this
              omega
    refine zf_alt_ok (σ := zf_oσ σ1 M o S Rn (σ1.2.2.2.2.1.drop M.1.2.2.2.2.1.length)) (fun r hr => hk r (List.mem_flatMap.mpr ⟨o, ho, hr⟩)) (ρ := zf_jρ ρ' ρ1 σ1.1.length M.1.1.length) (θ := zf_jθ θ' θ1 σ1.2.2.1 M.1.2.2.1) ?_ ?_ ⟨hP1, hD1, hS1, ht', ?_⟩ hnew ?_
    · exact fun i hi => (hup1 i (by omega)).trans (hρ i hi)
    · exact fun i hi => (hup2 i (by omega)).trans (hθ i hi)
    · intro a g j w hg hn hr
      exact hfr' a g j w hg (fun hq => hn (hine g j hq)) (hfr a g j w hg hn hr)
    · intro f hf
      rcases List.mem_append.mp hf with hf | hf
      · refine zf_nar_ok (ρ1 := ρ1) (fun i hi => ?_) p3 f hf
        have := jS i (by omega)
        unfold zf_ρS zf_oS at this
        rw [List.getD_eq_getElem?_getD, List.getElem?_append_left hi, ← List.getD_eq_getElem?_getD] at this
        exact this
      · obtain ⟨g, hg, rfl⟩ := List.mem_map.mp hf
        rw [zf_v_sb]
        have := p4 g hg
        rw [← zf_bt_v jS (o4 g hg)] at this
        exact this
  · cases hs
end ZC
