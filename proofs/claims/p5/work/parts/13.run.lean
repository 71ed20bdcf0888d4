/-! ===== the walk between cut places ===== -/
abbrev zf_X := Nat × Nat × Instr × List Nat
abbrev zf_U := Nat × zf_S × zf_L × Nat
def zf_il (pc : Nat) : List zf_X → Option (Nat × Instr × List Nat)
  | [] => none
  | x :: t => match Nat.beq x.1 pc with
    | true => some x.2
    | false => zf_il pc t
theorem zf_il_ok {pc : Nat} {y : Nat × Instr × List Nat} : ∀ {t : List zf_X}, zf_il pc t = some y → (pc, y) ∈ t
  | [], h => by simp [zf_il] at h
  | x :: t, h => by
    unfold zf_il at h
    split at h
    · rename_i hb
      cases h
      rw [← Nat.eq_of_beq_eq_true hb]
      exact List.mem_cons_self
    · exact List.mem_cons_of_mem _ (zf_il_ok h)
def zf_id1 : Nat → Nat → List zf_L → Bool
  | _, 0, _ => true
  | i, n + 1, f :: S => zf_eq f (zf_sym i) && zf_id1 (i + 1) n S
  | _, _ + 1, [] => false
def zf_id2 : Nat → Nat → List Nat → Bool
  | _, 0, _ => true
  | i, n + 1, r :: R => Nat.beq r i && zf_id2 (i + 1) n R
  | _, _ + 1, [] => false
theorem zf_id1_ok {ρ : Nat → Int} : ∀ {n i : Nat} {S : List zf_L}, zf_id1 i n S = true → ∀ j, j < n → zf_v ρ (S.getD j ([], 0)) = ρ (i + j)
  | 0, _, _, _, j, hj => by omega
  | n + 1, i, [], h, _, _ => by simp [zf_id1] at h
  | n + 1, i, f :: S, h, j, hj => by
    unfold zf_id1 at h
    rw [Bool.and_eq_true] at h
    cases j with
    | zero =>
      show zf_v ρ f = _
      rw [zf_eq_eq h.1, zf_v_sym]
      rfl
    | succ j =>
      have := zf_id1_ok (ρ := ρ) h.2 j (by omega)
      show zf_v ρ (S.getD j ([], 0)) = _
      rw [this]
      congr 1; omega
theorem zf_id2_ok : ∀ {n i : Nat} {R : List Nat}, zf_id2 i n R = true → ∀ j, j < n → R.getD j 0 = i + j
  | 0, _, _, _, j, hj => by omega
  | n + 1, i, [], h, _, _ => by simp [zf_id2] at h
  | n + 1, i, r :: R, h, j, hj => by
    unfold zf_id2 at h
    rw [Bool.and_eq_true] at h
    cases j with
    | zero =>
      show r = _
      rw [Nat.eq_of_beq_eq_true h.1]
      rfl
    | succ j =>
      have := zf_id2_ok h.2 j (by omega)
      show R.getD j 0 = _
      rw [this]; omega
/-- σ is one of those that τ tells, with sa on the stack -/
def zf_to (n0 r0 NS : Nat) (GT : List zf_G) (ne re : Nat) (σ τ : zf_S) (sa : List zf_A) (ok : zf_S → List zf_L → Bool) : Bool :=
  match zf_bhf n0 r0 NS GT σ (zf_blo σ (zf_bst (zf_b0 ne re τ) sa σ.2.2.2.2.1) τ.2.2.2.1) τ.2.2.2.2.2 with
  | (σ1, B) => zf_mch σ1 τ (zf_bS B) (zf_bR B) && zf_mst σ1 (zf_bS B) (zf_bR B) sa σ1.2.2.2.2.1 && zf_id1 0 ne (zf_bS B) && zf_id2 64 (re - 64) (zf_bR B) && ok σ1 (zf_bS B)
section ZR
variable {Sg : Nat → Option Nat} {k : Nat → ClassId} {GT : List zf_G} {A : Nat → Prop} {ρ ρ0 ρe : Nat → Int} {θ θ0 θe : Nat → Nat} {nL n0 r0 NS ne re : Nat} {σ τ : zf_S} {ls : Array Slot} {st : List Value} {ws : va_W}
theorem zf_to_ok (hD : va_D A ws) (ht : zf_typ Sg k GT ws) (hone : ∀ a g, Sg a = some g → g < 64 → a = θ0 g) (hr0 : 64 ≤ r0) (hsing : ∀ g, g < NS → g < 64 → Sg (θ0 g) = some g) (hθ : ∀ i, i < r0 → θ i = θ0 i) (h : zf_sat Sg ρ θ nL σ ls st ws) {sa : List zf_A} {ok : zf_S → List zf_L → Bool} (hto : zf_to n0 r0 NS GT ne re σ τ sa ok = true) :
    ∃ (ρ1 : Nat → Int) (θ1 : Nat → Nat) (σ1 : zf_S) (S : List zf_L) (Rn : List Nat), (∀ i, i < n0 → ρ1 i = ρ i) ∧ (∀ i, i < r0 → θ1 i = θ i) ∧ zf_okE σ1.1 ρ1 ∧ zf_okF σ1.2.1 ρ1 ∧ zf_sat Sg (zf_ρS ρ1 S) (zf_θR θ1 Rn) nL (zf_stk τ sa) ls st ws ∧ (∀ i, i < ne → zf_ρS ρ1 S i = ρ1 i) ∧ (∀ i, i < re → zf_θR θ1 Rn i = θ1 i) ∧ ok σ1 S = true := by
  unfold zf_to at hto
  split at hto
  rename_i σ1 B hB
  obtain ⟨ρ1, θ1, a1, a2, h1⟩ := zf_bhf_ok hD ht hone hr0 hsing hθ h hB
  simp only [Bool.and_eq_true] at hto
  obtain ⟨⟨⟨⟨c1, c2⟩, c3⟩, c4⟩, c5⟩ := hto
  refine ⟨ρ1, θ1, σ1, zf_bS B, zf_bR B, a1, a2, h1.1, h1.2.1, zf_mch_ok h1 c1 (zf_mst_ok h1.1 h1.2.1 c2 h1.2.2.2.1), ?_, ?_, c5⟩
  · intro i hi
    have := zf_id1_ok (ρ := ρ1) c3 i hi
    rw [Nat.zero_add] at this
    exact this
  · intro i hi
    show θ1 (zf_rn (zf_bR B) i) = θ1 i
    congr 1
    unfold zf_rn
    split
    · rfl
    · rename_i hb
      have hb : ¬ i < 64 := fun hq => by rw [zf_blt' hq] at hb; cases hb
      rw [zf_id2_ok c4 (i - 64) (by omega)]
      omega
/-- the sorts of what is given back -/
def zf_rs (i : Instr) (a : Option zf_A) : Bool := match i, a with
  | .ireturn, some (.inl _) => true
  | .areturn, some (.inr (some _)) => true
  | .return_, none => true
  | _, _ => false
def zf_rv (i : Instr) (v : Option Value) : Prop := (i = .ireturn ∧ ∃ x, v = some (.int x)) ∨ (i = .areturn ∧ ∃ a, v = some (.ref a)) ∨ (i = .return_ ∧ v = none)
def zf_rt (n0 r0 NS : Nat) (GT : List zf_G) (M : zf_M) (i : Instr) (σ : zf_S) : Bool := M.2.2.any (fun o => zf_rs i o.1 && zf_to n0 r0 NS GT M.1.1.length M.1.2.2.1 σ (zf_los o.2 [] []) o.1.toList (fun _ _ => true))
theorem zf_rt_ok {eff : zf_F} {M : zf_M} {ws0 : va_W} (hD : va_D A ws) (ht : zf_typ Sg k GT ws) (hfr : zf_fr Sg M.2.1 ρe ws0 ws) (hone : ∀ a g, Sg a = some g → g < 64 → a = θ0 g) (hr0 : 64 ≤ r0) (hsing : ∀ g, g < NS → g < 64 → Sg (θ0 g) = some g) (hρ : ∀ i, i < n0 → ρ i = ρ0 i) (hθ : ∀ i, i < r0 → θ i = θ0 i) (hne : M.1.1.length ≤ n0) (hre : M.1.2.2.1 ≤ r0) (heρ : ∀ i, i < M.1.1.length → ρ0 i = ρe i) (heθ : ∀ i, i < M.1.2.2.1 → θ0 i = θe i)
    (h : zf_sat Sg ρ θ nL σ ls st ws) {i : Instr} (hrt : zf_rt n0 r0 NS GT M i σ = true) : ∃ v : Option Value, st = v.toList ∧ zf_rv i v ∧ zf_post Sg k GT ρe θe M ws0 v ws := by
  unfold zf_rt at hrt
  rw [List.any_eq_true] at hrt
  obtain ⟨o, ho, hto⟩ := hrt
  rw [Bool.and_eq_true] at hto
  obtain ⟨ρ1, θ1, σ1, S, Rn, a1, a2, -, -, hs, b1, b2, -⟩ := zf_to_ok hD ht hone hr0 hsing hθ h hto.2
  obtain ⟨s1, s2, -, s4, s5⟩ := hs
  have e1 : ∀ i, i < M.1.1.length → zf_ρS ρ1 S i = ρe i := fun i hi => by rw [b1 i hi, a1 i (by omega), hρ i (by omega), heρ i hi]
  have e2 : ∀ i, i < M.1.2.2.1 → zf_θR θ1 Rn i = θe i := fun i hi => by rw [b2 i hi, a2 i (by omega), hθ i (by omega), heθ i hi]
  have post : ∀ v : Option Value, zf_rok Sg (zf_ρS ρ1 S) (zf_θR θ1 Rn) o.1 v → zf_post Sg k GT ρe θe M ws0 v ws := fun v hv => ⟨⟨o, ho, _, _, e1, e2, s1, s2, s5, hv⟩, ht, hfr⟩
  have hrs := hto.1
  have s4 : zf_f2 (zf_vok Sg (zf_ρS ρ1 S) (zf_θR θ1 Rn)) o.1.toList st := s4
  unfold zf_rs at hrs
  split at hrs
  · rename_i f e0
    rw [e0] at s4
    obtain ⟨v, st', rfl, hv, hnil⟩ := zf_f2_c s4
    have : st' = [] := by
      cases st' with
      | nil => rfl
      | cons a b => exact hnil.elim
    subst this
    obtain ⟨x, rfl, ex⟩ := id hv
    exact ⟨some (.int x), rfl, Or.inl ⟨rfl, x, rfl⟩, post _ (by rw [e0]; exact hv)⟩
  · rename_i q e0
    rw [e0] at s4
    obtain ⟨v, st', rfl, hv, hnil⟩ := zf_f2_c s4
    have : st' = [] := by
      cases st' with
      | nil => rfl
      | cons a b => exact hnil.elim
    subst this
    obtain ⟨rfl, ex⟩ := id hv
    exact ⟨some (.ref _), rfl, Or.inr (Or.inl ⟨rfl, _, rfl⟩), post _ (by rw [e0]; exact hv)⟩
  · rename_i e0
    rw [e0] at s4
    have : st = [] := by
      cases st with
      | nil => rfl
      | cons a b => exact s4.elim
    subst this
    exact ⟨none, rfl, Or.inr (Or.inr ⟨rfl, rfl⟩), post _ (by rw [e0]; trivial)⟩
  · cases hrs
/-- f is 0 at least, also with a thousand times one known form -/
def zf_gk (E : zf_E) (Fs : List zf_L) (f : zf_L) : Bool := zf_ge E Fs f || Fs.any (fun g => zf_le 0 (zf_lo E (zf_sub f (zf_mul 1000 g))))
theorem zf_gk_of {E : zf_E} {Fs : List zf_L} {ρ : Nat → Int} (hE : zf_okE E ρ) (hF : zf_okF Fs ρ) {f : zf_L} (h : zf_gk E Fs f = true) : 0 ≤ zf_v ρ f := by
  unfold zf_gk at h
  rw [Bool.or_eq_true] at h
  rcases h with h | h
  · exact zf_ge_of hE hF h
  · rw [List.any_eq_true] at h
    obtain ⟨g, hg, h⟩ := h
    rw [zf_le_iff] at h
    have h1 := zf_lo_le hE (zf_sub f (zf_mul 1000 g))
    rw [zf_v_sub, zf_v_mul] at h1
    have h2 := hF g hg
    omega
def zf_ms (om : Option (zf_L × Nat)) (u : zf_U) (σ : zf_S) (S : List zf_L) : Bool := zf_ge σ.1 σ.2.1 (zf_sb S u.2.2.1) && (match om with
  | none => true
  | some x => zf_gk σ.1 σ.2.1 (zf_add (zf_sub x.1 (zf_sb S u.2.2.1)) (zf_con (-1))) || (Nat.blt u.2.2.2 x.2 && zf_ge σ.1 σ.2.1 (zf_sub x.1 (zf_sb S u.2.2.1))))
def zf_ct (n0 r0 NS : Nat) (GT : List zf_G) (ne re : Nat) (cuts : List zf_U) (om : Option (zf_L × Nat)) (q : Nat) (σ : zf_S) : Bool := cuts.any (fun u => Nat.beq u.1 q && zf_to n0 r0 NS GT ne re σ u.2.1 u.2.1.2.2.2.2.1 (zf_ms om u))
/-- the first contract that fits -/
def zf_tr (n0 r0 NS : Nat) (GT : List zf_G) (eff : zf_F) (Ms : List zf_M) (q : Nat) (σ : zf_S) : List Nat → Option (List (Nat × zf_S))
  | [] => none
  | j :: t => match zf_call n0 r0 NS GT eff (Ms.getD j (([], [], 0, [], [], []), [], [])) q σ with
    | some r => some r
    | none => zf_tr n0 r0 NS GT eff Ms q σ t
theorem zf_tr_ok {n0 r0 NS : Nat} {GT : List zf_G} {eff : zf_F} {Ms : List zf_M} {q : Nat} {σ : zf_S} {r : List (Nat × zf_S)} : ∀ {js : List Nat}, zf_tr n0 r0 NS GT eff Ms q σ js = some r → ∃ j ∈ js, zf_call n0 r0 NS GT eff (Ms.getD j (([], [], 0, [], [], []), [], [])) q σ = some r
  | [], h => by
    unfold zf_tr at h
    cases h
  | j :: t, h => by
    unfold zf_tr at h
    split at h
    · rename_i r' hr
      cases h
      exact ⟨j, List.mem_cons_self, hr⟩
    · obtain ⟨j', h1, h2⟩ := zf_tr_ok h
      exact ⟨j', List.mem_cons_of_mem _ h1, h2⟩
def zf_run (n0 r0 NS nL : Nat) (GT : List zf_G) (M : zf_M) (Ms : List zf_M) (fg fp : zf_ft) (ins : List zf_X) (cuts : List zf_U) (om : Option (zf_L × Nat)) : Nat → Nat → zf_S → Bool
  | 0, _, _ => false
  | n + 1, pc, σ => match zf_il pc ins with
    | none => false
    | some x => match (match zf_tr n0 r0 NS GT M.2.1 Ms (pc + x.1) σ x.2.2 with
        | some r => some r
        | none => match zf_s1 n0 nL pc x.1 σ x.2.1 with
          | some r => some r
          | none => zf_s2 n0 r0 GT M.2.1 fg fp pc x.1 σ x.2.1) with
      | some succs => succs.all (fun y => match cuts.any (fun u => Nat.beq u.1 y.1) with
        | true => zf_ct n0 r0 NS GT M.1.1.length M.1.2.2.1 cuts om y.1 y.2
        | false => zf_run n0 r0 NS nL GT M Ms fg fp ins cuts om n y.1 y.2)
      | none => Nat.beq x.1 1 && zf_rt n0 r0 NS GT M x.2.1 σ
end ZR
def zf_tot (ρ : Nat → Int) (u : zf_U) : Nat := (zf_v ρ u.2.2.1).toNat * 1000 + u.2.2.2
theorem zf_totlt {a b : Int} {i j : Nat} (h0 : 0 ≤ a) (h : a < b ∨ (i < j ∧ a ≤ b)) (hi : i < 1000) : a.toNat * 1000 + i < b.toNat * 1000 + j := by
  rcases h with h | ⟨h1, h2⟩ <;> omega
section ZQ
variable {Sg : Nat → Option Nat} {k : Nat → ClassId} {GT : List zf_G} {A : Nat → Prop} {ρe : Nat → Int} {θe : Nat → Nat} {nL NS : Nat} {ws0 : va_W} {H0 : Heap} {D : va_G} {cl : List vw_C}
variable {p : Program} {l : Launch} {e : Env} {R : Room} {s : State} {m : MethodId} {args : Array Value} {below : List Frame} {meth : Method} {c : Code} {cells slots : Nat} {Q : State → Prop} {cc : ByteArray}
variable {M : zf_M} {Ms : List zf_M} {fg fp : zf_ft} {ins : List zf_X} {cuts : List zf_U}
theorem zf_fr_cg {eff : zf_F} {ρ ρ' : Nat → Int} {n : Nat} (hb : eff.all (fun q => zf_bt n q.2.1.1 && zf_bt n q.2.2.1) = true) (h : ∀ i, i < n → ρ' i = ρ i) {ws ws' : va_W} (hf : zf_fr Sg eff ρ ws ws') : zf_fr Sg eff ρ' ws ws' := by
  intro a g i v hg hn hr
  refine hf a g i v hg (fun hq => hn ?_) hr
  obtain ⟨q, hq, e1, e2, e3⟩ := hq
  rw [List.all_eq_true] at hb
  have := hb q hq
  rw [Bool.and_eq_true] at this
  have r1 := zf_bt_v h (f := q.2.1) this.1
  have r2 := zf_bt_v h (f := q.2.2) this.2
  exact ⟨q, hq, e1, by omega, by omega⟩
/-- the walk ends well from every state that σ tells, if it does from each smaller cut -/
theorem zf_run_ok (hx : p.tables.exec = Jvm.exec) (hb : c.code = cc) (hK : va_K D cl (zf_tys k) s) (hone : ∀ a g, Sg a = some g → g < 64 → a = θe g) (h64 : 64 ≤ M.1.2.2.1) (hsing : ∀ g, g < NS → g < 64 → Sg (θe g) = some g)
    (hany : ∀ (H : Heap) (locs : List Loc), va_S A H0 H locs → ∀ a, Sg a = some 128 → va_Any "RungMoney$Key" s H a)
    (hfg : ∀ x ∈ fg, zf_FG p l e R s m args below meth c cells slots Q cc D cl x) (hfp : ∀ x ∈ fp, zf_FP p l e R s m args below meth c cells slots Q cc D cl A H0 Sg x)
    (hins : ∀ x ∈ ins, decode cc x.1 = .ok (x.2.2.1, x.2.1)) (hcr : ∀ x ∈ ins, ∀ j ∈ x.2.2.2, zf_CR p l e R s m args below meth c cells slots Q cc D cl A H0 Sg k GT θe nL x.2.2.1 x.2.1 (Ms.getD j (([], [], 0, [], [], []), [], [])))
    (hret : ∀ (H : Heap) (locs : List Loc) (ws : va_W) (ls : Array Slot) (pc : Nat) (i : Instr) (v : Option Value), va_P D cl ws H → va_D A ws → va_S A H0 H locs → zf_post Sg k GT ρe θe M ws0 v ws → decode cc pc = .ok (i, 1) → zf_rv i v → W p l e R s m args below meth c H locs cells slots Q (F0 m pc ls v.toList))
    (heff : M.2.1.all (fun q => zf_bt M.1.1.length q.2.1.1 && zf_bt M.1.1.length q.2.2.1) = true)
    {n0 r0 : Nat} {ρ0 : Nat → Int} {θ0 : Nat → Nat} (hne : M.1.1.length ≤ n0) (hre : M.1.2.2.1 ≤ r0) (heρ : ∀ i, i < M.1.1.length → ρ0 i = ρe i) (heθ : ∀ i, i < M.1.2.2.1 → θ0 i = θe i) {om : Option (zf_L × Nat)} (hom : ∀ x, om = some x → zf_bt n0 x.1.1 = true)
    (hcut : ∀ u ∈ cuts, ∀ (ρ : Nat → Int) (θ : Nat → Nat) (ws : va_W) (H : Heap) (locs : List Loc) (ls : Array Slot) (st : List Value), (∀ i, i < M.1.1.length → ρ i = ρe i) → (∀ i, i < M.1.2.2.1 → θ i = θe i) → zf_Wd D cl A H0 Sg k GT M.2.1 ρe ws0 ws H locs → zf_sat Sg ρ θ nL u.2.1 ls st ws → 0 ≤ zf_v ρ u.2.2.1 →
      (∀ x, om = some x → zf_v ρ u.2.2.1 < zf_v ρ0 x.1 ∨ (u.2.2.2 < x.2 ∧ zf_v ρ u.2.2.1 ≤ zf_v ρ0 x.1)) → W p l e R s m args below meth c H locs cells slots Q (F0 m u.1 ls st)) :
    ∀ (n pc : Nat) (σ : zf_S), zf_run n0 r0 NS nL GT M Ms fg fp ins cuts om n pc σ = true → zf_K Sg n0 r0 nL ρ0 θ0 (zf_Wd D cl A H0 Sg k GT M.2.1 ρ0 ws0) (zf_W p l e R s m args below meth c cells slots Q) pc σ := by
  have hone0 : ∀ a g, Sg a = some g → g < 64 → a = θ0 g := fun a g h1 h2 => by rw [heθ g (by omega)]; exact hone a g h1 h2
  have hsing0 : ∀ g, g < NS → g < 64 → Sg (θ0 g) = some g := fun g h1 h2 => by rw [heθ g (by omega)]; exact hsing g h1 h2
  have hr0 : 64 ≤ r0 := by omega
  have hcr0 : ∀ x ∈ ins, ∀ j ∈ x.2.2.2, zf_CR p l e R s m args below meth c cells slots Q cc D cl A H0 Sg k GT θ0 nL x.2.2.1 x.2.1 (Ms.getD j (([], [], 0, [], [], []), [], [])) := by
    intro x hx' j hj H locs ws ρ θ vs rest pc ls z1 z2 z3 z4 z5
    exact hcr x hx' j hj H locs ws ρ θ vs rest pc ls z1 z2 z3 z4 (fun i hi => (z5 i hi).trans (heθ i (by omega)))
  intro n
  induction n with
  | zero => intro pc σ h; cases h
  | succ n ih =>
    intro pc σ h
    unfold zf_run at h
    split at h
    · cases h
    · rename_i x hil
      have hmem := zf_il_ok hil
      have hdg := hins _ hmem
      split at h
      · rename_i succs hsu
        have next : ∀ y ∈ succs, zf_K Sg n0 r0 nL ρ0 θ0 (zf_Wd D cl A H0 Sg k GT M.2.1 ρ0 ws0) (zf_W p l e R s m args below meth c cells slots Q) y.1 y.2 := by
          intro y hy
          rw [List.all_eq_true] at h
          have hyy := h y hy
          split at hyy
          · -- a cut
            intro ρ θ ws H locs ls st hρ hθ hW hsat
            unfold zf_ct at hyy
            rw [List.any_eq_true] at hyy
            obtain ⟨u, hu, hyy⟩ := hyy
            rw [Bool.and_eq_true] at hyy
            have eu := Nat.eq_of_beq_eq_true hyy.1
            obtain ⟨hP, hD, hS, ht, hfr⟩ := id hW
            obtain ⟨ρ1, θ1, σ1, S, Rn, a1, a2, E1, F1, hs1, b1, b2, b3⟩ := zf_to_ok hD ht hone0 hr0 hsing0 hθ hsat hyy.2
            have e1 : ∀ i, i < M.1.1.length → zf_ρS ρ1 S i = ρe i := fun i hi => by rw [b1 i hi, a1 i (by omega), hρ i (by omega), heρ i hi]
            have e2 : ∀ i, i < M.1.2.2.1 → zf_θR θ1 Rn i = θe i := fun i hi => by rw [b2 i hi, a2 i (by omega), hθ i (by omega), heθ i hi]
            unfold zf_ms at b3
            rw [Bool.and_eq_true] at b3
            have m0 := zf_ge_of E1 F1 b3.1
            rw [zf_v_sb] at m0
            rw [← eu]
            refine hcut u hu (zf_ρS ρ1 S) (zf_θR θ1 Rn) ws H locs ls st e1 e2 ⟨hP, hD, hS, ht, zf_fr_cg heff (fun i hi => (heρ i hi).symm) hfr⟩ hs1 m0 ?_
            intro x hx'
            have b4 := b3.2
            rw [hx'] at b4
            dsimp only at b4
            rw [Bool.or_eq_true, Bool.and_eq_true] at b4
            have em : zf_v ρ1 x.1 = zf_v ρ0 x.1 := zf_bt_v (fun i hi => (a1 i hi).trans (hρ i hi)) (hom x hx')
            have eu2 : zf_v ρ1 (zf_sb S u.2.2.1) = zf_v (zf_ρS ρ1 S) u.2.2.1 := zf_v_sb ρ1 S u.2.2.1
            rcases b4 with b4 | ⟨b4, b5⟩
            · have := zf_gk_of E1 F1 b4
              rw [zf_v_add, zf_v_sub, zf_v_con] at this
              exact Or.inl (by omega)
            · have := zf_ge_of E1 F1 b5
              rw [zf_v_sub] at this
              exact Or.inr ⟨zf_blt b4, by omega⟩
          · exact ih y.1 y.2 hyy
        split at hsu
        · rename_i r hj
          cases hsu
          obtain ⟨j, hj1, hj2⟩ := zf_tr_ok hj
          exact zf_call_ok hone0 hr0 hsing0 (hcr0 _ hmem j hj1) hdg hj2 next
        · split at hsu
          · rename_i r hr
            cases hsu
            exact zf_s1_ok hx hb hdg hr next
          · exact zf_s2_ok hx hb hK hone0 hr0 hany hfg hfp hdg hsu next
      · rw [Bool.and_eq_true] at h
        have e1 := Nat.eq_of_beq_eq_true h.1
        intro ρ θ ws H locs ls st hρ hθ hW hsat
        obtain ⟨hP, hD, hS, ht, hfr⟩ := id hW
        obtain ⟨v, rfl, hv1, hv2⟩ := zf_rt_ok (eff := M.2.1) hD ht (zf_fr_cg heff (fun i hi => (heρ i hi).symm) hfr) hone0 hr0 hsing0 hρ hθ hne hre heρ heθ hsat h.2
        have hdg : decode cc pc = .ok (x.2.1, x.1) := hdg
        rw [e1] at hdg
        exact hret H locs ws ls pc _ v hP hD hS hv2 hdg hv1
/-- the whole method: from its entry, and from each cut -/
def zf_chk (NS nL : Nat) (GT : List zf_G) (M : zf_M) (Ms : List zf_M) (fg fp : zf_ft) (ins : List zf_X) (cuts : List zf_U) (fuel : Nat) (σ : zf_S) : Bool :=
  Nat.ble 64 M.1.2.2.1 && M.2.1.all (fun q => zf_bt M.1.1.length q.2.1.1 && zf_bt M.1.1.length q.2.2.1) && zf_run M.1.1.length M.1.2.2.1 NS nL GT M Ms fg fp ins cuts none fuel 0 σ &&
  cuts.all (fun u => Nat.ble M.1.1.length u.2.1.1.length && Nat.ble M.1.2.2.1 u.2.1.2.2.1 && Nat.blt u.2.2.2 1000 && zf_bt u.2.1.1.length u.2.2.1.1 && zf_run u.2.1.1.length u.2.1.2.2.1 NS nL GT M Ms fg fp ins cuts (some (u.2.2.1, u.2.2.2)) fuel u.1 u.2.1)
theorem zf_chk_ok (hx : p.tables.exec = Jvm.exec) (hb : c.code = cc) (hK : va_K D cl (zf_tys k) s) (hone : ∀ a g, Sg a = some g → g < 64 → a = θe g) (hsing : ∀ g, g < NS → g < 64 → Sg (θe g) = some g)
    (hany : ∀ (H : Heap) (locs : List Loc), va_S A H0 H locs → ∀ a, Sg a = some 128 → va_Any "RungMoney$Key" s H a)
    (hfg : ∀ x ∈ fg, zf_FG p l e R s m args below meth c cells slots Q cc D cl x) (hfp : ∀ x ∈ fp, zf_FP p l e R s m args below meth c cells slots Q cc D cl A H0 Sg x)
    (hins : ∀ x ∈ ins, decode cc x.1 = .ok (x.2.2.1, x.2.1)) (hcr : ∀ x ∈ ins, ∀ j ∈ x.2.2.2, zf_CR p l e R s m args below meth c cells slots Q cc D cl A H0 Sg k GT θe nL x.2.2.1 x.2.1 (Ms.getD j (([], [], 0, [], [], []), [], [])))
    (hret : ∀ (H : Heap) (locs : List Loc) (ws : va_W) (ls : Array Slot) (pc : Nat) (i : Instr) (v : Option Value), va_P D cl ws H → va_D A ws → va_S A H0 H locs → zf_post Sg k GT ρe θe M ws0 v ws → decode cc pc = .ok (i, 1) → zf_rv i v → W p l e R s m args below meth c H locs cells slots Q (F0 m pc ls v.toList))
    {fuel : Nat} {σ : zf_S} (hc : zf_chk NS nL GT M Ms fg fp ins cuts fuel σ = true) : zf_K Sg M.1.1.length M.1.2.2.1 nL ρe θe (zf_Wd D cl A H0 Sg k GT M.2.1 ρe ws0) (zf_W p l e R s m args below meth c cells slots Q) 0 σ := by
  unfold zf_chk at hc
  simp only [Bool.and_eq_true] at hc
  obtain ⟨⟨⟨h64, heff⟩, hrun⟩, hcs⟩ := hc
  have h64 := Nat.le_of_ble_eq_true h64
  rw [List.all_eq_true] at hcs
  have key : ∀ N : Nat, ∀ u ∈ cuts, ∀ (ρ : Nat → Int) (θ : Nat → Nat) (ws : va_W) (H : Heap) (locs : List Loc) (ls : Array Slot) (st : List Value), (∀ i, i < M.1.1.length → ρ i = ρe i) → (∀ i, i < M.1.2.2.1 → θ i = θe i) → zf_Wd D cl A H0 Sg k GT M.2.1 ρe ws0 ws H locs → zf_sat Sg ρ θ nL u.2.1 ls st ws → 0 ≤ zf_v ρ u.2.2.1 → zf_tot ρ u < N →
      W p l e R s m args below meth c H locs cells slots Q (F0 m u.1 ls st) := by
    intro N
    induction N with
    | zero => intro u _ ρ _ _ _ _ _ _ _ _ _ _ _ h; omega
    | succ N ih =>
      intro u hu ρ θ ws H locs ls st hρ hθ hW hsat hm hN
      have hcu := hcs u hu
      simp only [Bool.and_eq_true] at hcu
      obtain ⟨⟨⟨⟨u1, u2⟩, u3⟩, u4⟩, u5⟩ := hcu
      have u1 := Nat.le_of_ble_eq_true u1
      have u2 := Nat.le_of_ble_eq_true u2
      have u3 := zf_blt u3
      obtain ⟨hP, hD, hS, ht, hfr⟩ := hW
      refine zf_run_ok hx hb hK hone h64 hsing hany hfg hfp hins hcr hret heff u1 u2 hρ hθ (fun x hx' => by cases hx'; exact u4) ?_ fuel u.1 u.2.1 u5 ρ θ ws H locs ls st (fun _ _ => rfl) (fun _ _ => rfl) ⟨hP, hD, hS, ht, zf_fr_cg heff hρ hfr⟩ hsat
      intro u' hu' ρ' θ' ws' H' locs' ls' st' g1 g2 g3 g4 g5 g6
      refine ih u' hu' ρ' θ' ws' H' locs' ls' st' g1 g2 g3 g4 g5 ?_
      have g7 := g6 _ rfl
      have u3' : u'.2.2.2 < 1000 := by
        have hcu' := hcs u' hu'
        simp only [Bool.and_eq_true] at hcu'
        exact zf_blt hcu'.1.1.2
      have hlt := zf_totlt g5 g7 u3'
      exact Nat.lt_of_lt_of_le hlt (Nat.le_of_lt_succ hN)
  refine zf_run_ok hx hb hK hone h64 hsing hany hfg hfp hins hcr hret heff (Nat.le_refl _) (Nat.le_refl _) (fun _ _ => rfl) (fun _ _ => rfl) (fun x hx' => by cases hx') ?_ fuel 0 σ hrun
  intro u hu ρ θ ws H locs ls st g1 g2 g3 g4 g5 g6
  exact key (zf_tot ρ u + 1) u hu ρ θ ws H locs ls st g1 g2 g3 g4 g5 (Nat.lt_succ_self _)
end ZQ
