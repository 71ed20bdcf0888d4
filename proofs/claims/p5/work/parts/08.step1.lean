section ZV
variable {Sg : Nat → Option Nat} {ρ ρ' : Nat → Int} {θ : Nat → Nat} {nL : Nat} {σ : zf_S}
variable {p : Program} {l : Launch} {e : Env} {R : Room} {s : State} {m : MethodId} {args : Array Value} {below : List Frame} {meth : Method} {c : Code} {H : Heap} {locs : List Loc} {cells slots : Nat} {Q : State → Prop} {cc : ByteArray} {pc : Nat} {ls : Array Slot} {rest : List Value}
theorem zf_nz_ok {g : zf_L} {y : Int32} (hE : zf_okE σ.1 ρ) (hF : zf_okF σ.2.1 ρ) (hy : y.toInt = zf_v ρ g) (h : zf_nz σ g = true) : ¬ y = 0 := by
  intro e0
  have e1 : y.toInt = 0 := by rw [e0]; rfl
  unfold zf_nz at h
  rw [Bool.or_eq_true] at h
  rcases h with h | h
  · have := zf_ge_of hE hF h; rw [zf_v_add, zf_v_con] at this; omega
  · have := zf_ge_of hE hF h; rw [zf_v_add, zf_v_mul, zf_v_con] at this; omega
theorem zf_psh_lo {n0 : Nat} {r : zf_R} {σ' : zf_S} (hp : zf_psh n0 σ r = some σ') : σ'.2.2.2.1 = σ.2.2.2.1 := by
  unfold zf_psh at hp
  split at hp
  · cases hp; rfl
  · split at hp
    · rename_i s1 hs
      cases hp
      unfold zf_new at hs
      split at hs
      · cases hs; rfl
      · cases hs
    · cases hp
theorem zf_ifC (hx : p.tables.exec = Jvm.exec) (hb : c.code = cc) {cd : ClassFile.Cond} {x : Int32} {off : Int} {tgt : Nat} (hdg : decode cc pc = .ok (.ifCond cd off, 3)) (ht : (pc : Int) + off = (tgt : Int))
    (kt : zf_cH cd x.toInt 0 → W p l e R s m args below meth c H locs cells slots Q (F0 m tgt ls rest)) (kf : ¬ zf_cH cd x.toInt 0 → W p l e R s m args below meth c H locs cells slots Q (F0 m (pc + 3) ls rest)) : W p l e R s m args below meth c H locs cells slots Q (F0 m pc ls (.int x :: rest)) := by
  have e0 : (0 : Int32).toInt = 0 := by decide
  cases cd with
  | eq => exact lv_if_eq hx hb hdg ht (fun h => kt (by show x.toInt = 0; rw [h]; exact e0)) (fun h => kf (fun q => h (Int32.toInt_inj.mp (q.trans e0.symm))))
  | ne => exact lv_if_ne hx hb hdg ht (fun h => kt (fun q => h (Int32.toInt_inj.mp (q.trans e0.symm)))) (fun h => kf (fun q => q (by show x.toInt = 0; rw [h]; exact e0)))
  | lt => exact lv_if_lt hx hb hdg ht (fun h => kt (by have := Int32.lt_iff_toInt_lt.mp h; rw [e0] at this; exact this)) (fun h => kf (fun q => h (Int32.lt_iff_toInt_lt.mpr (by rw [e0]; exact q))))
  | ge => exact lv_if_ge hx hb hdg ht (fun h => kt (by have := Int32.le_iff_toInt_le.mp h; rw [e0] at this; exact this)) (fun h => kf (fun q => h (Int32.le_iff_toInt_le.mpr (by rw [e0]; exact q))))
  | gt => exact lv_if_gt hx hb hdg ht (fun h => kt (by have := Int32.lt_iff_toInt_lt.mp h; rw [e0] at this; exact this)) (fun h => kf (fun q => h (Int32.lt_iff_toInt_lt.mpr (by rw [e0]; exact q))))
  | le => exact lv_if_le hx hb hdg ht (fun h => kt (by have := Int32.le_iff_toInt_le.mp h; rw [e0] at this; exact this)) (fun h => kf (fun q => h (Int32.le_iff_toInt_le.mpr (by rw [e0]; exact q))))
theorem zf_ifI (hx : p.tables.exec = Jvm.exec) (hb : c.code = cc) {cd : ClassFile.Cond} {x y : Int32} {off : Int} {tgt : Nat} (hdg : decode cc pc = .ok (.if_icmp cd off, 3)) (ht : (pc : Int) + off = (tgt : Int))
    (kt : zf_cH cd x.toInt y.toInt → W p l e R s m args below meth c H locs cells slots Q (F0 m tgt ls rest)) (kf : ¬ zf_cH cd x.toInt y.toInt → W p l e R s m args below meth c H locs cells slots Q (F0 m (pc + 3) ls rest)) : W p l e R s m args below meth c H locs cells slots Q (F0 m pc ls (.int y :: .int x :: rest)) := by
  cases cd with
  | eq => exact lv_icmp_eq hx hb hdg ht (fun h => kt (by show x.toInt = y.toInt; rw [h])) (fun h => kf (fun q => h (Int32.toInt_inj.mp q)))
  | ne => exact lv_icmp_ne hx hb hdg ht (fun h => kt (fun q => h (Int32.toInt_inj.mp q))) (fun h => kf (fun q => q (by show x.toInt = y.toInt; rw [h])))
  | lt => exact lv_icmp_lt hx hb hdg ht (fun h => kt (Int32.lt_iff_toInt_lt.mp h)) (fun h => kf (fun q => h (Int32.lt_iff_toInt_lt.mpr q)))
  | ge => exact lv_icmp_ge hx hb hdg ht (fun h => kt (Int32.le_iff_toInt_le.mp h)) (fun h => kf (fun q => h (Int32.le_iff_toInt_le.mpr q)))
  | gt => exact lv_icmp_gt hx hb hdg ht (fun h => kt (Int32.lt_iff_toInt_lt.mp h)) (fun h => kf (fun q => h (Int32.lt_iff_toInt_lt.mpr q)))
  | le => exact lv_icmp_le hx hb hdg ht (fun h => kt (Int32.le_iff_toInt_le.mp h)) (fun h => kf (fun q => h (Int32.le_iff_toInt_le.mpr q)))
theorem zf_bin_ok (hx : p.tables.exec = Jvm.exec) (hb : c.code = cc) {i : Instr} (hdg : decode cc pc = .ok (i, 1)) {F : Nat → zf_E → zf_L → zf_L → zf_R} (hF : zf_bin i = some F) {E : zf_E} {n : Nat} {f g : zf_L} {x y : Int32} (hE : zf_okE E ρ) (ex : x.toInt = zf_v ρ f) (ey : y.toInt = zf_v ρ g)
    (k : ∀ z : Int32, zf_res n ρ (F n E f g) z → W p l e R s m args below meth c H locs cells slots Q (F0 m (pc + 1) ls (.int z :: rest))) : W p l e R s m args below meth c H locs cells slots Q (F0 m pc ls (.int y :: .int x :: rest)) := by
  unfold zf_bin at hF
  split at hF
  · cases hF; exact lv_iadd hx hb hdg (k _ (zf_oadd hE ex ey))
  · cases hF; exact lv_isub hx hb hdg (k _ (zf_osub hE ex ey))
  · cases hF; exact lv_imul hx hb hdg (k _ (zf_omul hE ex ey))
  · cases hF; exact lv_iand hx hb hdg (k _ (zf_oand hE ex ey))
  · cases hF; exact lv_ior hx hb hdg (k _ (zf_oor hE ex ey))
  · cases hF; exact lv_ixor hx hb hdg (k _ (zf_any_ok _ _ _))
  · cases hF; exact lv_ishl hx hb hdg (k _ (zf_oshl hE ex ey))
  · cases hF; exact lv_ishr hx hb hdg (k _ (zf_oshr hE ex))
  · cases hF; exact lv_iushr hx hb hdg rfl (k _ (zf_oushr hE ex ey))
  · cases hF
end ZV
section ZU
variable {Sg : Nat → Option Nat} {n0 r0 nL : Nat} {ρ0 : Nat → Int} {θ0 : Nat → Nat} {Wd : va_W → Heap → List Loc → Prop}
variable {p : Program} {l : Launch} {e : Env} {R : Room} {s : State} {m : MethodId} {args : Array Value} {below : List Frame} {meth : Method} {c : Code} {cells slots : Nat} {Q : State → Prop} {cc : ByteArray} {pc len : Nat} {σ : zf_S}
/-- the machine's walk, as a goal -/
abbrev zf_W (p : Program) (l : Launch) (e : Env) (R : Room) (s : State) (m : MethodId) (args : Array Value) (below : List Frame) (meth : Method) (c : Code) (cells slots : Nat) (Q : State → Prop) : Nat → Heap → List Loc → Array Slot → List Value → Prop :=
  fun pc H locs ls st => W p l e R s m args below meth c H locs cells slots Q (F0 m pc ls st)
theorem zf_f2_c {α β : Type} {R : α → β → Prop} {a : α} {x : List α} {y : List β} (h : zf_f2 R (a :: x) y) : ∃ b y', y = b :: y' ∧ R a b ∧ zf_f2 R x y' := by
  cases y with
  | nil => exact h.elim
  | cons b y' => exact ⟨b, y', rfl, h.1, h.2⟩
theorem zf_c1 {ρ : Nat → Int} {θ : Nat → Nat} {a : zf_A} {v : Value} (hc : zf_c2 a = false) (h : zf_vok Sg ρ θ a v) : v.category = 1 := by
  match a, hc, h with
  | .inl f, _, ⟨x, e1, _⟩ => rw [e1]; rfl
  | .inr (some q), _, ⟨e1, _⟩ => rw [e1]; rfl
theorem zi_con1 {n : Int} (h1 : -1 ≤ n) (h2 : n ≤ 5) : (Int32.ofInt n).toInt = n := by
  rw [Int32.toInt_ofInt]; exact Kit.bmod32 (by omega) (by omega)
theorem zi_con8 {n : Int} (h1 : -128 ≤ n) (h2 : n ≤ 127) : ((Int8.ofInt n).toInt32).toInt = n := by
  rw [Int8.toInt_toInt32, Int8.toInt_ofInt, show Int8.size = 256 from rfl, Int.bmod_def]; omega
theorem zi_con16 {n : Int} (h1 : -32768 ≤ n) (h2 : n ≤ 32767) : ((Int16.ofInt n).toInt32).toInt = n := by
  rw [Int16.toInt_toInt32, Int16.toInt_ofInt, show Int16.size = 65536 from rfl, Int.bmod_def]; omega
theorem zi_conI {n : Int} (h1 : -2147483648 ≤ n) (h2 : n ≤ 2147483647) : (Int32.ofInt n).toInt = n := by
  rw [Int32.toInt_ofInt]; exact Kit.bmod32 (by omega) (by omega)
/-- two ways: each is followed where it can be -/
theorem zf_alt_ok {Wf : Nat → Heap → List Loc → Array Slot → List Value → Prop} {q : Nat} {fs : List zf_L} (hk : ∀ r ∈ zf_alt q fs σ, zf_K Sg n0 r0 nL ρ0 θ0 Wd Wf r.1 r.2) {ρ : Nat → Int} {θ : Nat → Nat} {ws : va_W} {H : Heap} {locs : List Loc} {ls : Array Slot} {st : List Value}
    (hρ : ∀ i, i < n0 → ρ i = ρ0 i) (hθ : ∀ i, i < r0 → θ i = θ0 i) (hW : Wd ws H locs) (h : zf_sat Sg ρ θ nL σ ls st ws) (hf : ∀ f ∈ fs, 0 ≤ zf_v ρ f) : Wf q H locs ls st := by
  obtain ⟨σ', e1, h1⟩ := zf_asm_ok h hf
  have hm : (q, σ') ∈ zf_alt q fs σ := by unfold zf_alt; rw [e1]; exact List.mem_cons_self
  exact hk _ hm ρ θ ws H locs ls st hρ hθ hW h1
theorem zf_go1_ok {Wf : Nat → Heap → List Loc → Array Slot → List Value → Prop} {q : Nat} {r : zf_R} {succs : List (Nat × zf_S)} (hs : zf_go1 q (zf_psh n0 σ r) = some succs) (hk : ∀ r ∈ succs, zf_K Sg n0 r0 nL ρ0 θ0 Wd Wf r.1 r.2) {ρ : Nat → Int} {θ : Nat → Nat} {ws : va_W} {H : Heap} {locs : List Loc} {ls : Array Slot} {st : List Value}
    (hρ : ∀ i, i < n0 → ρ i = ρ0 i) (hθ : ∀ i, i < r0 → θ i = θ0 i) (hW : Wd ws H locs) (h : zf_sat Sg ρ θ nL σ ls st ws) {z : Int32} (hz : zf_res σ.1.length ρ r z) : Wf q H locs ls (.int z :: st) := by
  unfold zf_go1 at hs
  split at hs
  · rename_i σ' hp
    cases hs
    obtain ⟨ρ', h1, h2⟩ := zf_psh_ok h hz hp
    exact hk _ List.mem_cons_self ρ' θ ws H locs ls _ (fun i hi => (h1 i hi).trans (hρ i hi)) hθ hW h2
  · cases hs
theorem zf_sw_ok {Wf : Nat → Heap → List Loc → Array Slot → List Value → Prop} {f : zf_L} : ∀ {offs : List Int} {v : Int} {r : List (Nat × zf_S)}, zf_sw pc σ f v offs = some r → (∀ q ∈ r, zf_K Sg n0 r0 nL ρ0 θ0 Wd Wf q.1 q.2) →
    ∀ (j : Nat) (o : Int), offs[j]? = some o → zf_tok pc o = true ∧ ∀ q ∈ zf_alt (zf_tgt pc o) (zf_cT σ.1 σ.2.1 .eq (zf_sub f (zf_con (v + j)))) σ, zf_K Sg n0 r0 nL ρ0 θ0 Wd Wf q.1 q.2
  | [], _, _, _, _, j, o, h => by simp at h
  | a :: t, v, r, hs, hk, j, o, h => by
    unfold zf_sw at hs
    split at hs
    · rename_i r' h1 h2
      cases hs
      cases j with
      | zero =>
        cases h
        refine ⟨h1, fun q hq => hk q (List.mem_append_left _ ?_)⟩
        have e : v + ((0 : Nat) : Int) = v := by omega
        rwa [e] at hq
      | succ j =>
        have := zf_sw_ok h2 (fun q hq => hk q (List.mem_append_right _ hq)) j o h
        have e : v + 1 + (j : Int) = v + ((j + 1 : Nat) : Int) := by omega
        rwa [e] at this
    · cases hs

set_option maxHeartbeats 4000000 in
theorem zf_s1_ok (hx : p.tables.exec = Jvm.exec) (hb : c.code = cc) {i : Instr} {succs : List (Nat × zf_S)} (hdg : decode cc pc = .ok (i, len)) (hs : zf_s1 n0 nL pc len σ i = some succs)
    (hk : ∀ q ∈ succs, zf_K Sg n0 r0 nL ρ0 θ0 Wd (zf_W p l e R s m args below meth c cells slots Q) q.1 q.2) : zf_K Sg n0 r0 nL ρ0 θ0 Wd (zf_W p l e R s m args below meth c cells slots Q) pc σ := by
  intro ρ θ ws H locs ls st hρ hθ hW h
  obtain ⟨q1, q2, ⟨lv, hl, hlo⟩, hst, hh⟩ := id h
  unfold zf_s1 at hs
  split at hs
  · -- iconst
    split at hs
    · rename_i hc
      simp only [Bool.and_eq_true, zf_le_iff] at hc
      cases hs
      have e : len = 1 := Nat.eq_of_beq_eq_true hc.1.1
      subst e
      exact lv_iconst hx hb hdg rfl (hk _ List.mem_cons_self ρ θ ws H locs ls _ hρ hθ hW (zf_stk_ok h ⟨⟨_, rfl, zi_con1 hc.1.2 hc.2⟩, hst⟩))
    · cases hs
  · -- bipush
    split at hs
    · rename_i hc
      simp only [Bool.and_eq_true, zf_le_iff] at hc
      cases hs
      have e : len = 2 := Nat.eq_of_beq_eq_true hc.1.1
      subst e
      exact lv_bipush hx hb hdg rfl (hk _ List.mem_cons_self ρ θ ws H locs ls _ hρ hθ hW (zf_stk_ok h ⟨⟨_, rfl, zi_con8 hc.1.2 hc.2⟩, hst⟩))
    · cases hs
  · -- sipush
    split at hs
    · rename_i hc
      simp only [Bool.and_eq_true, zf_le_iff] at hc
      cases hs
      have e : len = 3 := Nat.eq_of_beq_eq_true hc.1.1
      subst e
      exact lv_sipush hx hb hdg rfl (hk _ List.mem_cons_self ρ θ ws H locs ls _ hρ hθ hW (zf_stk_ok h ⟨⟨_, rfl, zi_con16 hc.1.2 hc.2⟩, hst⟩))
    · cases hs
  · -- lconst
    split at hs
    · rename_i hc
      cases hs
      have e : len = 1 := Nat.eq_of_beq_eq_true hc
      subst e
      exact lv_lconst hx hb hdg rfl (hk _ List.mem_cons_self ρ θ ws H locs ls _ hρ hθ hW (zf_stk_ok h ⟨⟨_, rfl⟩, hst⟩))
    · cases hs
  · -- iload_n
    split at hs
    · rename_i hc hq
      cases hs
      have e : len = 1 := Nat.eq_of_beq_eq_true hc
      subst e
      obtain ⟨v, hm, hv⟩ := zf_lk_ok hlo hq
      obtain ⟨x, rfl, ex⟩ := hv
      exact lv_iload_n hx hb hdg rfl (hl.2.2 _ hm) (hk _ List.mem_cons_self ρ θ ws H locs ls _ hρ hθ hW (zf_stk_ok h ⟨⟨x, rfl, ex⟩, hst⟩))
    · cases hs
  · -- iload
    split at hs
    · rename_i hc hq
      cases hs
      have e : len = 2 := Nat.eq_of_beq_eq_true hc
      subst e
      obtain ⟨v, hm, hv⟩ := zf_lk_ok hlo hq
      obtain ⟨x, rfl, ex⟩ := hv
      exact lv_iload hx hb hdg (hl.2.2 _ hm) (hk _ List.mem_cons_self ρ θ ws H locs ls _ hρ hθ hW (zf_stk_ok h ⟨⟨x, rfl, ex⟩, hst⟩))
    · cases hs
  · -- aload_n
    split at hs
    · rename_i hc hq
      cases hs
      have e : len = 1 := Nat.eq_of_beq_eq_true hc
      subst e
      obtain ⟨v, hm, hv⟩ := zf_lk_ok hlo hq
      obtain ⟨rfl, ex⟩ := hv
      exact lv_aload_n hx hb hdg rfl (hl.2.2 _ hm) (hk _ List.mem_cons_self ρ θ ws H locs ls _ hρ hθ hW (zf_stk_ok h ⟨⟨rfl, ex⟩, hst⟩))
    · cases hs
  · -- aload
    split at hs
    · rename_i hc hq
      cases hs
      have e : len = 2 := Nat.eq_of_beq_eq_true hc
      subst e
      obtain ⟨v, hm, hv⟩ := zf_lk_ok hlo hq
      obtain ⟨rfl, ex⟩ := hv
      exact lv_aload hx hb hdg (hl.2.2 _ hm) (hk _ List.mem_cons_self ρ θ ws H locs ls _ hρ hθ hW (zf_stk_ok h ⟨⟨rfl, ex⟩, hst⟩))
    · cases hs
  · -- lload_n
    split at hs
    · rename_i hc hq
      cases hs
      have e : len = 1 := Nat.eq_of_beq_eq_true hc
      subst e
      obtain ⟨v, hm, hv⟩ := zf_lk_ok hlo hq
      obtain ⟨x, rfl⟩ := hv
      exact lv_lload_n hx hb hdg rfl (hl.2.2 _ hm) (hk _ List.mem_cons_self ρ θ ws H locs ls _ hρ hθ hW (zf_stk_ok h ⟨⟨x, rfl⟩, hst⟩))
    · cases hs
  · -- istore_n
    split at hs
    · rename_i hc hq
      cases hs
      simp only [Bool.and_eq_true] at hc
      have e : len = 1 := Nat.eq_of_beq_eq_true hc.1
      subst e
      rw [hq] at hst
      obtain ⟨v, st', rfl, hv, hs1⟩ := zf_f2_c hst
      obtain ⟨x, rfl, ex⟩ := hv
      refine lv_istore_n hx hb hdg rfl hl (zf_blt hc.2) rfl (fun ls' hl' => ?_)
      exact hk _ List.mem_cons_self ρ θ ws H locs ls' _ hρ hθ hW ⟨q1, q2, ⟨_, hl', zf_sto_ok hlo ⟨x, rfl, ex⟩⟩, hs1, hh⟩
    · cases hs
  · -- istore
    split at hs
    · rename_i hc hq
      cases hs
      simp only [Bool.and_eq_true] at hc
      have e : len = 2 := Nat.eq_of_beq_eq_true hc.1
      subst e
      rw [hq] at hst
      obtain ⟨v, st', rfl, hv, hs1⟩ := zf_f2_c hst
      obtain ⟨x, rfl, ex⟩ := hv
      refine lv_istore hx hb hdg hl (zf_blt hc.2) rfl (fun ls' hl' => ?_)
      exact hk _ List.mem_cons_self ρ θ ws H locs ls' _ hρ hθ hW ⟨q1, q2, ⟨_, hl', zf_sto_ok hlo ⟨x, rfl, ex⟩⟩, hs1, hh⟩
    · cases hs
  · -- astore_n
    split at hs
    · rename_i hc hq
      cases hs
      simp only [Bool.and_eq_true] at hc
      have e : len = 1 := Nat.eq_of_beq_eq_true hc.1
      subst e
      rw [hq] at hst
      obtain ⟨v, st', rfl, hv, hs1⟩ := zf_f2_c hst
      obtain ⟨rfl, ex⟩ := hv
      refine lv_astore_n hx hb hdg rfl hl (zf_blt hc.2) rfl (fun ls' hl' => ?_)
      exact hk _ List.mem_cons_self ρ θ ws H locs ls' _ hρ hθ hW ⟨q1, q2, ⟨_, hl', zf_sto_ok hlo ⟨rfl, ex⟩⟩, hs1, hh⟩
    · cases hs
  · -- astore
    split at hs
    · rename_i hc hq
      cases hs
      simp only [Bool.and_eq_true] at hc
      have e : len = 2 := Nat.eq_of_beq_eq_true hc.1
      subst e
      rw [hq] at hst
      obtain ⟨v, st', rfl, hv, hs1⟩ := zf_f2_c hst
      obtain ⟨rfl, ex⟩ := hv
      refine lv_astore hx hb hdg hl (zf_blt hc.2) rfl (fun ls' hl' => ?_)
      exact hk _ List.mem_cons_self ρ θ ws H locs ls' _ hρ hθ hW ⟨q1, q2, ⟨_, hl', zf_sto_ok hlo ⟨rfl, ex⟩⟩, hs1, hh⟩
    · cases hs
  · -- iinc
    split at hs
    · rename_i hc hq
      simp only [Bool.and_eq_true, zf_le_iff] at hc
      have e : len = 3 := Nat.eq_of_beq_eq_true hc.1.1.1
      subst e
      obtain ⟨v, hm, hv⟩ := zf_lk_ok hlo hq
      obtain ⟨x, rfl, ex⟩ := hv
      split at hs
      · rename_i σ' hp
        split at hs
        · rename_i g t hg
          cases hs
          have hz := zf_oadd (n := σ.1.length) q1 ex ((zi_conI hc.1.2 hc.2).trans (zf_v_con ρ _).symm)
          obtain ⟨ρ', h1, h2⟩ := zf_psh_ok h hz hp
          obtain ⟨r1, r2, ⟨lv2, r3, r4⟩, r5, r6⟩ := h2
          obtain ⟨v2, hm2, -⟩ := zf_lk_ok r4 (by rw [zf_psh_lo hp]; exact hq)
          have a1 := (r3.2.2 _ hm2).symm.trans (hl.2.2 (_, Value.int x) hm)
          cases a1
          obtain ⟨kk, hkk, ekk⟩ := List.getElem_of_mem hm2
          have hkk2 : lv2[kk]? = some (_, Value.int x) := List.getElem?_eq_some_iff.mpr ⟨hkk, ekk⟩
          rw [hg] at r5
          obtain ⟨v', st', e3, hv', r5⟩ := zf_f2_c r5
          cases e3
          refine lv_iinc hx hb hdg r3 hkk2 rfl (zf_blt hc.1.1.2) rfl (fun ls' hl' => ?_)
          exact hk _ List.mem_cons_self ρ' θ ws H locs ls' _ (fun i hi => (h1 i hi).trans (hρ i hi)) hθ hW ⟨r1, r2, ⟨_, hl', zf_sto_ok r4 hv'⟩, r5, r6⟩
        · cases hs
      · cases hs
    · cases hs
  · -- ineg
    split at hs
    · rename_i hc hq
      have e : len = 1 := Nat.eq_of_beq_eq_true hc
      subst e
      rw [hq] at hst
      obtain ⟨v, st', rfl, hv, hs1⟩ := zf_f2_c hst
      obtain ⟨x, rfl, ex⟩ := hv
      exact lv_ineg hx hb hdg (zf_go1_ok hs hk hρ hθ hW (zf_stk_ok h hs1) (zf_oneg q1 ex))
    · cases hs
  · -- i2b
    split at hs
    · rename_i hc hq
      have e : len = 1 := Nat.eq_of_beq_eq_true hc
      subst e
      rw [hq] at hst
      obtain ⟨v, st', rfl, hv, hs1⟩ := zf_f2_c hst
      obtain ⟨x, rfl, ex⟩ := hv
      exact lv_i2b hx hb hdg rfl (zf_go1_ok hs hk hρ hθ hW (zf_stk_ok h hs1) (zf_oi2b q1 ex))
    · cases hs
  · -- idiv
    split at hs
    · rename_i hc hq
      have e : len = 1 := Nat.eq_of_beq_eq_true hc
      subst e
      split at hs
      · rename_i hnz
        rw [hq] at hst
        obtain ⟨v, st', rfl, hv, hs1⟩ := zf_f2_c hst
        obtain ⟨y, rfl, ey⟩ := hv
        obtain ⟨v, st', rfl, hv, hs2⟩ := zf_f2_c hs1
        obtain ⟨x, rfl, ex⟩ := hv
        exact lv_idiv hx hb hdg (zf_nz_ok q1 q2 ey hnz) (zf_go1_ok hs hk hρ hθ hW (zf_stk_ok h hs2) (zf_any_ok _ _ _))
      · cases hs
    · cases hs
  · -- irem
    split at hs
    · rename_i hc hq
      have e : len = 1 := Nat.eq_of_beq_eq_true hc
      subst e
      split at hs
      · rename_i hnz
        rw [hq] at hst
        obtain ⟨v, st', rfl, hv, hs1⟩ := zf_f2_c hst
        obtain ⟨y, rfl, ey⟩ := hv
        obtain ⟨v, st', rfl, hv, hs2⟩ := zf_f2_c hs1
        obtain ⟨x, rfl, ex⟩ := hv
        exact lv_irem hx hb hdg (zf_nz_ok q1 q2 ey hnz) (zf_go1_ok hs hk hρ hθ hW (zf_stk_ok h hs2) (zf_orem q1 ex ey))
      · cases hs
    · cases hs
  · -- i2l
    split at hs
    · rename_i hc hq
      have e : len = 1 := Nat.eq_of_beq_eq_true hc
      subst e
      cases hs
      rw [hq] at hst
      obtain ⟨v, st', rfl, hv, hs1⟩ := zf_f2_c hst
      obtain ⟨x, rfl, ex⟩ := hv
      exact lv_i2l hx hb hdg rfl (hk _ List.mem_cons_self ρ θ ws H locs ls _ hρ hθ hW (zf_stk_ok h ⟨⟨_, rfl⟩, hs1⟩))
    · cases hs
  · -- ladd
    split at hs
    · rename_i hc hq
      have e : len = 1 := Nat.eq_of_beq_eq_true hc
      subst e
      cases hs
      rw [hq] at hst
      obtain ⟨v, st', rfl, hv, hs1⟩ := zf_f2_c hst
      obtain ⟨y, rfl⟩ := hv
      obtain ⟨v, st', rfl, hv, hs2⟩ := zf_f2_c hs1
      obtain ⟨x, rfl⟩ := hv
      exact lv_ladd hx hb hdg (hk _ List.mem_cons_self ρ θ ws H locs ls _ hρ hθ hW (zf_stk_ok h ⟨⟨_, rfl⟩, hs2⟩))
    · cases hs
  · -- lmul
    split at hs
    · rename_i hc hq
      have e : len = 1 := Nat.eq_of_beq_eq_true hc
      subst e
      cases hs
      rw [hq] at hst
      obtain ⟨v, st', rfl, hv, hs1⟩ := zf_f2_c hst
      obtain ⟨y, rfl⟩ := hv
      obtain ⟨v, st', rfl, hv, hs2⟩ := zf_f2_c hs1
      obtain ⟨x, rfl⟩ := hv
      exact lv_lmul hx hb hdg (hk _ List.mem_cons_self ρ θ ws H locs ls _ hρ hθ hW (zf_stk_ok h ⟨⟨_, rfl⟩, hs2⟩))
    · cases hs
  · -- lor
    split at hs
    · rename_i hc hq
      have e : len = 1 := Nat.eq_of_beq_eq_true hc
      subst e
      cases hs
      rw [hq] at hst
      obtain ⟨v, st', rfl, hv, hs1⟩ := zf_f2_c hst
      obtain ⟨y, rfl⟩ := hv
      obtain ⟨v, st', rfl, hv, hs2⟩ := zf_f2_c hs1
      obtain ⟨x, rfl⟩ := hv
      exact lv_lor hx hb hdg (hk _ List.mem_cons_self ρ θ ws H locs ls _ hρ hθ hW (zf_stk_ok h ⟨⟨_, rfl⟩, hs2⟩))
    · cases hs
  · -- lshl
    split at hs
    · rename_i hc hq
      have e : len = 1 := Nat.eq_of_beq_eq_true hc
      subst e
      cases hs
      rw [hq] at hst
      obtain ⟨v, st', rfl, hv, hs1⟩ := zf_f2_c hst
      obtain ⟨y, rfl, ey⟩ := hv
      obtain ⟨v, st', rfl, hv, hs2⟩ := zf_f2_c hs1
      obtain ⟨x, rfl⟩ := hv
      exact lv_lshl hx hb hdg rfl (hk _ List.mem_cons_self ρ θ ws H locs ls _ hρ hθ hW (zf_stk_ok h ⟨⟨_, rfl⟩, hs2⟩))
    · cases hs
  · -- lcmp
    split at hs
    · rename_i hc hq
      have e : len = 1 := Nat.eq_of_beq_eq_true hc
      subst e
      rw [hq] at hst
      obtain ⟨v, st', rfl, hv, hs1⟩ := zf_f2_c hst
      obtain ⟨y, rfl⟩ := hv
      obtain ⟨v, st', rfl, hv, hs2⟩ := zf_f2_c hs1
      obtain ⟨x, rfl⟩ := hv
      exact W.lcmp hx hb hdg (zf_go1_ok hs hk hρ hθ hW (zf_stk_ok h hs2) (zf_ocmp _ _ x y))
    · cases hs
  · -- dup
    split at hs
    · rename_i hc hq
      have e : len = 1 := Nat.eq_of_beq_eq_true hc
      subst e
      split at hs
      · rename_i hc2
        cases hs
        rw [hq] at hst
        obtain ⟨v, st', rfl, hv, hs1⟩ := zf_f2_c hst
        exact lv_dup hx hb hdg (zf_c1 hc2 hv) (hk _ List.mem_cons_self ρ θ ws H locs ls _ hρ hθ hW (zf_stk_ok h ⟨hv, hv, hs1⟩))
      · cases hs
    · cases hs
  · -- dup2
    split at hs
    · rename_i hc hq
      have e : len = 1 := Nat.eq_of_beq_eq_true hc
      subst e
      split at hs
      · rename_i hc2
        rw [Bool.or_eq_false_iff] at hc2
        cases hs
        rw [hq] at hst
        obtain ⟨v, st', rfl, hv, hs1⟩ := zf_f2_c hst
        obtain ⟨v2, st', rfl, hv2, hs2⟩ := zf_f2_c hs1
        exact lv_dup2_11 hx hb hdg (zf_c1 hc2.1 hv) (zf_c1 hc2.2 hv2) (hk _ List.mem_cons_self ρ θ ws H locs ls _ hρ hθ hW (zf_stk_ok h ⟨hv, hv2, hv, hv2, hs2⟩))
      · cases hs
    · cases hs
  · -- pop
    split at hs
    · rename_i hc hq
      have e : len = 1 := Nat.eq_of_beq_eq_true hc
      subst e
      split at hs
      · rename_i hc2
        cases hs
        rw [hq] at hst
        obtain ⟨v, st', rfl, hv, hs1⟩ := zf_f2_c hst
        exact lv_pop hx hb hdg (zf_c1 hc2 hv) (hk _ List.mem_cons_self ρ θ ws H locs ls _ hρ hθ hW (zf_stk_ok h hs1))
      · cases hs
    · cases hs
  · -- goto
    split at hs
    · rename_i hc
      simp only [Bool.and_eq_true] at hc
      cases hs
      have e : len = 3 := Nat.eq_of_beq_eq_true hc.1
      subst e
      exact lv_goto hx hb hdg (zf_tgt_ok hc.2) (hk _ List.mem_cons_self ρ θ ws H locs ls _ hρ hθ hW h)
    · cases hs
  · -- ifCond
    split at hs
    · rename_i hc hq
      have e : len = 3 := Nat.eq_of_beq_eq_true hc
      subst e
      rw [hq] at hst
      obtain ⟨v, st', rfl, hv, hs1⟩ := zf_f2_c hst
      obtain ⟨x, rfl, ex⟩ := hv
      have ex0 := ex.symm.trans (Int.sub_zero x.toInt).symm
      unfold zf_brz at hs
      split at hs
      · rename_i ht
        split at hs
        · cases hs
          refine zf_ifC hx hb hdg (zf_tgt_ok ht) (fun hc => ?_) (fun hc => ?_)
          · exact zf_alt_ok (fun r hr => hk r (List.mem_append_left _ hr)) hρ hθ hW (zf_stk_ok h hs1) (zf_cT_ok q1 q2 ex0 hc)
          · have hc : ¬ x.toInt = 0 := hc
            rcases (by omega : 0 < x.toInt ∨ x.toInt < 0) with h1 | h1
            · exact zf_alt_ok (fun r hr => hk r (List.mem_append_right _ (List.mem_append_left _ hr))) hρ hθ hW (zf_stk_ok h hs1) (zf_cT_ok (c := .gt) q1 q2 ex0 h1)
            · exact zf_alt_ok (fun r hr => hk r (List.mem_append_right _ (List.mem_append_right _ hr))) hρ hθ hW (zf_stk_ok h hs1) (zf_cT_ok (c := .lt) q1 q2 ex0 h1)
        · cases hs
          refine zf_ifC hx hb hdg (zf_tgt_ok ht) (fun hc => ?_) (fun hc => ?_)
          · have hc : x.toInt ≠ 0 := hc
            rcases (by omega : 0 < x.toInt ∨ x.toInt < 0) with h1 | h1
            · exact zf_alt_ok (fun r hr => hk r (List.mem_append_right _ (List.mem_append_left _ hr))) hρ hθ hW (zf_stk_ok h hs1) (zf_cT_ok (c := .gt) q1 q2 ex0 h1)
            · exact zf_alt_ok (fun r hr => hk r (List.mem_append_right _ (List.mem_append_right _ hr))) hρ hθ hW (zf_stk_ok h hs1) (zf_cT_ok (c := .lt) q1 q2 ex0 h1)
          · exact zf_alt_ok (fun r hr => hk r (List.mem_append_left _ hr)) hρ hθ hW (zf_stk_ok h hs1) (zf_cT_ok (c := .eq) q1 q2 ex0 (Classical.not_not.mp hc))
        · cases hs
          refine zf_ifC hx hb hdg (zf_tgt_ok ht) (fun hc => ?_) (fun hc => ?_)
          · exact zf_alt_ok (fun r hr => hk r (List.mem_append_left _ hr)) hρ hθ hW (zf_stk_ok h hs1) (zf_cT_ok q1 q2 ex0 hc)
          · exact zf_alt_ok (fun r hr => hk r (List.mem_append_right _ hr)) hρ hθ hW (zf_stk_ok h hs1) (zf_cT_ok q1 q2 ex0 (zf_cH_not hc))
      · cases hs
    · cases hs
  · -- if_icmp
    split at hs
    · rename_i hc hq
      have e : len = 3 := Nat.eq_of_beq_eq_true hc
      subst e
      rw [hq] at hst
      obtain ⟨v, st', rfl, hv, hs1⟩ := zf_f2_c hst
      obtain ⟨y, rfl, ey⟩ := hv
      obtain ⟨v, st', rfl, hv, hs2⟩ := zf_f2_c hs1
      obtain ⟨x, rfl, ex⟩ := hv
      unfold zf_bra at hs
      split at hs
      · rename_i ht
        cases hs
        refine zf_ifI hx hb hdg (zf_tgt_ok ht) (fun hc => ?_) (fun hc => ?_)
        · exact zf_alt_ok (fun r hr => hk r (List.mem_append_left _ hr)) hρ hθ hW (zf_stk_ok h hs2) (zf_cT_ok q1 q2 (by rw [zf_v_sub, ← ex, ← ey]) hc)
        · exact zf_alt_ok (fun r hr => hk r (List.mem_append_right _ hr)) hρ hθ hW (zf_stk_ok h hs2) (zf_cT_ok q1 q2 (by rw [zf_v_sub, ← ex, ← ey]) (zf_cH_not hc))
      · cases hs
    · cases hs
  · -- if_acmp
    rename_i cnd off
    split at hs
    · rename_i hc hq
      simp only [Bool.and_eq_true] at hc
      have e : len = 3 := Nat.eq_of_beq_eq_true hc.1
      subst e
      cases hs
      rw [hq] at hst
      obtain ⟨v, st', rfl, hv, hs1⟩ := zf_f2_c hst
      obtain ⟨rfl, ey⟩ := hv
      obtain ⟨v, st', rfl, hv, hs2⟩ := zf_f2_c hs1
      obtain ⟨rfl, ex⟩ := hv
      have k1 := hk _ List.mem_cons_self ρ θ ws H locs ls _ hρ hθ hW (zf_stk_ok h hs2)
      have k2 := hk _ (List.mem_cons_of_mem _ List.mem_cons_self) ρ θ ws H locs ls _ hρ hθ hW (zf_stk_ok h hs2)
      cases cnd with
      | eq => exact lv_acmp_eq (rx := some _) (ry := some _) hx hb hdg (zf_tgt_ok hc.2) (fun _ => k1) (fun _ => k2)
      | ne => exact lv_acmp_ne (rx := some _) (ry := some _) hx hb hdg (zf_tgt_ok hc.2) (fun _ => k1) (fun _ => k2)
    · cases hs
  · -- tableswitch
    rename_i dflt lo hi offs
    split at hs
    · rename_i hc hq
      simp only [Bool.and_eq_true, zf_le_iff] at hc
      obtain ⟨⟨c1, c2⟩, c3⟩ := hc
      have c2 := Nat.eq_of_beq_eq_true c2
      rw [hq] at hst
      obtain ⟨v, st', rfl, hv, hs1⟩ := zf_f2_c hst
      obtain ⟨x, rfl, ex⟩ := hv
      split at hs
      · rename_i r hr
        cases hs
        by_cases h1 : x.toInt < lo
        · refine lv_tableOut hx hb hdg (Or.inl h1) (zf_tgt_ok c1) ?_
          exact zf_alt_ok (fun r hr => hk r (List.mem_append_left _ (List.mem_append_left _ hr))) hρ hθ hW (zf_stk_ok h hs1) (zf_cT_ok (c := .lt) (x := x.toInt) (y := lo) q1 q2 (by rw [zf_v_sub, zf_v_con, ← ex]) h1)
        · by_cases h2 : hi < x.toInt
          · refine lv_tableOut hx hb hdg (Or.inr h2) (zf_tgt_ok c1) ?_
            exact zf_alt_ok (fun r hr => hk r (List.mem_append_left _ (List.mem_append_right _ hr))) hρ hθ hW (zf_stk_ok h hs1) (zf_cT_ok (c := .gt) (x := x.toInt) (y := hi) q1 q2 (by rw [zf_v_sub, zf_v_con, ← ex]) h2)
          · have hj : (x.toInt - lo).toNat < offs.size := by omega
            have ho : offs[(x.toInt - lo).toNat]? = some offs[(x.toInt - lo).toNat] := Array.getElem?_eq_getElem hj
            obtain ⟨t1, t2⟩ := zf_sw_ok hr (fun q hq => hk q (List.mem_append_right _ hq)) (x.toInt - lo).toNat offs[(x.toInt - lo).toNat] (by rw [Array.getElem?_toList]; exact ho)
            refine lv_tableIn hx hb hdg h1 h2 ho (zf_tgt_ok t1) ?_
            exact zf_alt_ok t2 hρ hθ hW (zf_stk_ok h hs1) (zf_cT_ok (c := .eq) (x := x.toInt) (y := lo + (x.toInt - lo).toNat) q1 q2 (by rw [zf_v_sub, zf_v_con, ← ex]) (by show x.toInt = _; omega))
      · cases hs
    · cases hs
  · -- two numbers
    split at hs
    · rename_i F g f t hF hc hq
      have e : len = 1 := Nat.eq_of_beq_eq_true hc
      subst e
      rw [hq] at hst
      obtain ⟨v, st', rfl, hv, hs1⟩ := zf_f2_c hst
      obtain ⟨y, rfl, ey⟩ := hv
      obtain ⟨v, st', rfl, hv, hs2⟩ := zf_f2_c hs1
      obtain ⟨x, rfl, ex⟩ := hv
      have goal : ∀ z : Int32, zf_res σ.1.length ρ (F σ.1.length σ.1 f g) z → W p l e R s m args below meth c H locs cells slots Q (F0 m (pc + 1) ls (.int z :: st')) := fun z hz => zf_go1_ok hs hk hρ hθ hW (zf_stk_ok h hs2) hz
      exact zf_bin_ok hx hb hdg hF q1 ex ey goal
    · cases hs
end ZU
