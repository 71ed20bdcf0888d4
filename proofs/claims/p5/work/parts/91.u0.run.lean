/-! ===== fields of Key's constants; runs that may end at a state ===== -/
/-- field j of a constant of Key: sort, first, second -/
def fx_kf (j : Nat) : xe_F := fun us hp v hp' => ∃ i, i < 24 ∧ us = [.ref (200 + i)] ∧ hp' = hp ∧ v = some (.int ((zkF.getD j ("", "", "", [])).2.2.2.getD i 0))
theorem xe_crG {p : Program} {l : Launch} {e : Env} {R : Room} {s : State} {m : MethodId} {args : Array Value} {below : List Frame} {meth : Method} {c : Code} {cells slots : Nat} {Q : State → Prop} {cc : ByteArray} {nL index B0 al sw : Nat} {D : va_G} {A : Nat → Prop} {k : Nat → ClassId} {ad : Nat → Nat} {own : String} {Ts : List Cond} {GT : List zf_G} {SC : List Nat} {RF : List (Nat × Nat × Nat)} {Sg : Nat → Option Nat} {θ : Nat → Nat} {w0 : va_W}
    (S : CallFix p m c cc nL s args Ts own) (hE : zEx B0 ad al sw Sg w0 s) (hAB : ∀ q, A q → B0 ≤ q) (hth : xe_th ad Sg θ) {j : Nat} (hq : zkF.getD j ("", "", "", []) ∈ zkF) {o nm : String} (ho : (zkF.getD j ("", "", "", [])).1 = o) (hnm : (zkF.getD j ("", "", "", [])).2.1 = nm) (hd : (zkF.getD j ("", "", "", [])).2.2.1 = "I") (hlink : (Cond.fieldLink own index o nm "I").before args s = true) :
    xe_CR p l e R s m args below meth c cells slots Q cc D A s.heap Sg k GT SC RF θ nL (.getfield index) 1 (fx_kf j) := by
  intro H locs ws us vs rest pc ls hp v hp' hP hD hS ht hcc hus hn hfv hdg hls hcat kk
  obtain ⟨i, hi, rfl, rfl, rfl⟩ := hfv
  obtain ⟨_, st0, rfl, ⟨rfl, o0⟩, hs0⟩ := zf_f2_c hus
  cases xe_nil hs0
  have hai : θ (200 + i) = ad i := (hth.2 i hi).1
  show W p l e R s m args below meth c H locs cells slots Q (F0 m pc ls (.ref (θ (200 + i)) :: rest))
  rw [hai]
  refine va_getE (E := RX2) (nm := zkN) (F := zkF) (ad := ad) (q := zkF.getD j ("", "", "", [])) (ref := o) S.1 S.2.1 (hE.2.2.2.1.narrow hAB) hi hS S.2.2.2.1 hq (by rw [hnm, hd]; exact hlink) (by rw [ho]; exact fun _ h9 => h9) hdg ?_
  exact kk ws H locs ht hcc ⟨⟨rfl, trivial⟩, trivial⟩ hP hD hS xe_I_rf
theorem kf_of {j i : Nat} {hp : xe_H} {x : Int32} (hi : i < 24) (hx : (zkF.getD j ("", "", "", [])).2.2.2.getD i 0 = x) : fx_kf j [.ref (200 + i)] hp (some (.int x)) hp := ⟨i, hi, rfl, rfl, by rw [hx]⟩
/-- a run's end: an answer, or a state -/
abbrev xe_Y := (Option Value × xe_H) ⊕ xe_X
def xe_runE (GT : List zf_G) (SC : List Nat) (RF : List (Nat × Nat × Nat)) (nL : Nat) (fg fp : zf_ft) (sg : List (Nat × Nat)) (lc : List (Nat × Int64)) (cv cs : List (Nat × Nat × xe_F)) (ins : List (Nat × Nat × Instr)) (E9 : xe_Y) : Nat → xe_X → Prop
  | 0, s => E9 = .inr s
  | n + 1, s => E9 = .inr s ∨ ∃ x, xe_il s.1 ins = some x ∧ ((∃ v, xe_r x.1 x.2 s.2.2.1 = some v ∧ E9 = .inl (v, s.2.2.2)) ∨ ∃ s', xe_st GT SC RF nL fg fp sg lc cv cs x s s' ∧ xe_runE GT SC RF nL fg fp sg lc cv cs ins E9 n s')
section XEG
variable {p : Program} {l : Launch} {e : Env} {R : Room} {s : State} {m : MethodId} {args : Array Value} {below : List Frame} {meth : Method} {c : Code} {cells slots : Nat} {Q : State → Prop} {cc : ByteArray} {D : va_G} {A : Nat → Prop} {H0 : Heap} {Sg : Nat → Option Nat} {k : Nat → ClassId} {GT : List zf_G} {SC : List Nat} {RF : List (Nat × Nat × Nat)} {θ : Nat → Nat} {nL : Nat} {fg fp : zf_ft} {sg : List (Nat × Nat)} {lc : List (Nat × Int64)} {cv cs : List (Nat × Nat × xe_F)} {ins : List (Nat × Nat × Instr)} {wz : va_W}
theorem xe_runE_s {E9 : xe_Y} {n : Nat} {x0 : xe_X} : xe_runE GT SC RF nL fg fp sg lc cv cs ins E9 (n + 1) x0 ↔ (E9 = .inr x0 ∨ ∃ x, xe_il x0.1 ins = some x ∧ ((∃ v, xe_r x.1 x.2 x0.2.2.1 = some v ∧ E9 = .inl (v, x0.2.2.2)) ∨ ∃ s', xe_st GT SC RF nL fg fp sg lc cv cs x x0 s' ∧ xe_runE GT SC RF nL fg fp sg lc cv cs ins E9 n s')) := Iff.rfl
theorem xe_runE_ok (G : xe_G p l e R s m args below meth c cells slots Q cc D A H0 Sg k θ fg fp sg lc)
    (hcv : ∀ j q, (j, q) ∈ cv → xe_CR p l e R s m args below meth c cells slots Q cc D A H0 Sg k GT SC RF θ nL (.invokevirtual j) q.1 q.2) (hcs : ∀ j q, (j, q) ∈ cs → xe_CR p l e R s m args below meth c cells slots Q cc D A H0 Sg k GT SC RF θ nL (xe_in j q.1).1 (xe_in j q.1).2 q.2)
    (hins : ∀ x ∈ ins, decode cc x.1 = .ok (x.2.2, x.2.1)) {E9 : xe_Y}
    (hret : ∀ (v : Option Value) (hp' : xe_H), E9 = .inl (v, hp') → ∀ (ws : va_W) (H : Heap) (locs : List Loc) (ls : Array Slot) (pc : Nat) (i : Instr), (va_P D vwCl ws H ∧ va_D A ws ∧ va_S A H0 H locs ∧ zf_typ Sg k GT ws ∧ xe_I θ SC wz ws) → xe_c Sg θ GT SC RF ws hp' → zf_f2 (xe_v Sg θ) v.toList (v.map (xe_m θ)).toList → decode cc pc = .ok (i, 1) → zf_rv i (v.map (xe_m θ)) → W p l e R s m args below meth c H locs cells slots Q (F0 m pc ls (v.map (xe_m θ)).toList))
    (hend : ∀ y : xe_X, E9 = .inr y → xe_K p l e R s m args below meth c cells slots Q D A H0 Sg k GT SC RF θ nL wz y) :
    ∀ (n : Nat) (x : xe_X), xe_runE GT SC RF nL fg fp sg lc cv cs ins E9 n x → ∀ (ws : va_W) (H : Heap) (locs : List Loc) (ls : Array Slot) (stR : List Value), (va_P D vwCl ws H ∧ va_D A ws ∧ va_S A H0 H locs ∧ zf_typ Sg k GT ws ∧ xe_I θ SC wz ws) → ((∃ lv, lv_has ls nL lv ∧ xe_los Sg θ x.2.1 lv) ∧ zf_f2 (xe_v Sg θ) x.2.2.1 stR ∧ xe_c Sg θ GT SC RF ws x.2.2.2) → W p l e R s m args below meth c H locs cells slots Q (F0 m x.1 ls stR) := by
  intro n
  induction n with
  | zero => intro x h; exact hend x h
  | succ n ih =>
    intro x h ws H locs ls stR hW hsat
    rcases xe_runE_s.mp h with h | ⟨y, hil, h⟩
    · exact hend x h ws H locs ls stR hW hsat
    have hdg : decode cc x.1 = .ok (y.2, y.1) := hins (x.1, y) (xe_il_ok hil)
    rcases h with ⟨v, hu, he⟩ | ⟨s', hs, hrun⟩
    · obtain ⟨-, hst, hcc⟩ := hsat
      have hret' := hret v x.2.2.2 he
      unfold xe_r at hu
      split at hu
      · rename_i x0 e1 e2 e3
        cases hu
        rw [e2] at hst
        obtain ⟨_, st0, rfl, ⟨rfl, o0⟩, hs0⟩ := zf_f2_c hst
        cases xe_nil hs0
        rw [e1, Nat.eq_of_beq_eq_true e3] at hdg
        exact hret' ws H locs ls _ _ hW hcc ⟨⟨rfl, o0⟩, trivial⟩ hdg (Or.inl ⟨rfl, _, rfl⟩)
      · rename_i g0 e1 e2 e3
        cases hu
        rw [e2] at hst
        obtain ⟨_, st0, rfl, ⟨rfl, o0⟩, hs0⟩ := zf_f2_c hst
        cases xe_nil hs0
        rw [e1, Nat.eq_of_beq_eq_true e3] at hdg
        exact hret' ws H locs ls _ _ hW hcc ⟨⟨rfl, o0⟩, trivial⟩ hdg (Or.inr (Or.inl ⟨rfl, _, rfl⟩))
      · rename_i e1 e2 e3
        cases hu
        rw [e2] at hst
        cases xe_nil hst
        rw [e1, Nat.eq_of_beq_eq_true e3] at hdg
        exact hret' ws H locs ls _ _ hW hcc trivial hdg (Or.inr (Or.inr ⟨rfl, rfl⟩))
      · cases hu
    · rcases hs with h1 | ⟨e1, e2, js, e4⟩ | ⟨e3, h8, hc⟩
      · exact xe_1_ok G hdg h1 (fun ws H locs ls stR hW hs => ih s' hrun ws H locs ls stR hW hs) ws H locs ls stR hW hsat
      · obtain ⟨⟨lv, hl, hlo⟩, hst, hcc⟩ := hsat
        rw [← e1]
        refine ih s' hrun ws H locs ls stR hW ⟨⟨lv, hl, fun j a h => hlo j a ?_⟩, by rw [e2]; exact hst, by rw [e2]; exact hcc⟩
        rw [e4] at h
        exact xe_kp_ok h
      · obtain ⟨⟨lv, hl, hlo⟩, hst, hcc⟩ := hsat
        rw [e3] at hdg
        rcases hc with ⟨j, e9, q, hq, rfl, hle, u, hp9, hu, rfl⟩ | ⟨j, e9, q, hq, rfl, hle, u, hp9, hu, rfl⟩ | ⟨j, n9, f9, e9, hq, hle, u, hp9, hu, rfl⟩
        · rw [e9] at hdg
          obtain ⟨x1, y1, rfl, hx1, hy1⟩ := xe_cut q.2.1 hst
          refine hcv q.1 q.2 hq H locs ws _ _ y1 x.1 ls x.2.2.2 u hp9 hW.1 hW.2.1 hW.2.2.1 hW.2.2.2.1 hcc hx1 (by rw [List.length_take]; omega) hu hdg hl.1 (xe_c8 hy1 h8) (fun ws' H1 locs1 ht' hc' hv' hP' hD' hS' hI' => ?_)
          exact ih _ hrun ws' H1 locs1 ls _ ⟨hP', hD', hS', ht', xe_I_tr hW.2.2.2.2 hI'⟩ ⟨⟨lv, hl, hlo⟩, zf_f2_app hv' hy1, hc'⟩
        · rw [e9] at hdg
          obtain ⟨x1, y1, rfl, hx1, hy1⟩ := xe_cut q.2.1 hst
          have hn8 : q.2.1 < 1000 := by
            have h9 := xe_l8 x.2.2.1
            omega
          have hin : xe_in q.1 q.2.1 = (.invokestatic q.1, q.2.1) := by
            unfold xe_in
            rw [zf_blt' hn8]
          have hC := hcs q.1 q.2 hq
          rw [hin] at hC
          refine hC H locs ws _ _ y1 x.1 ls x.2.2.2 u hp9 hW.1 hW.2.1 hW.2.2.1 hW.2.2.2.1 hcc hx1 (by rw [List.length_take]; omega) hu hdg hl.1 (xe_c8 hy1 h8) (fun ws' H1 locs1 ht' hc' hv' hP' hD' hS' hI' => ?_)
          exact ih _ hrun ws' H1 locs1 ls _ ⟨hP', hD', hS', ht', xe_I_tr hW.2.2.2.2 hI'⟩ ⟨⟨lv, hl, hlo⟩, zf_f2_app hv' hy1, hc'⟩
        · rw [e9] at hdg
          have hin : xe_in j (n9 + 1000) = (.getfield j, n9) := by
            unfold xe_in
            have hb : Nat.blt (n9 + 1000) 1000 = false := by
              cases hb : Nat.blt (n9 + 1000) 1000
              · rfl
              · exact absurd (zf_blt hb) (by omega)
            rw [hb]
            show (Instr.getfield j, n9 + 1000 - 1000) = _
            rw [Nat.add_sub_cancel]
          have hC := hcs j (n9 + 1000, f9) hq
          rw [hin] at hC
          obtain ⟨x1, y1, rfl, hx1, hy1⟩ := xe_cut n9 hst
          refine hC H locs ws _ _ y1 x.1 ls x.2.2.2 u hp9 hW.1 hW.2.1 hW.2.2.1 hW.2.2.2.1 hcc hx1 (by rw [List.length_take]; omega) hu hdg hl.1 (xe_c8 hy1 h8) (fun ws' H1 locs1 ht' hc' hv' hP' hD' hS' hI' => ?_)
          exact ih _ hrun ws' H1 locs1 ls _ ⟨hP', hD', hS', ht', xe_I_tr hW.2.2.2.2 hI'⟩ ⟨⟨lv, hl, hlo⟩, zf_f2_app hv' hy1, hc'⟩
end XEG
section XEP
variable {GT : List zf_G} {SC : List Nat} {RF : List (Nat × Nat × Nat)} {nL : Nat} {fg fp : zf_ft} {sg : List (Nat × Nat)} {lc : List (Nat × Int64)} {cv cs : List (Nat × Nat × xe_F)} {ins : List (Nat × Nat × Instr)} {E9 : xe_Y}
theorem ye_1 {s s' : xe_X} {x : Nat × Instr} (hil : xe_il s.1 ins = some x) (hst : xe_st GT SC RF nL fg fp sg lc cv cs x s s') (r : ∃ n, xe_runE GT SC RF nL fg fp sg lc cv cs ins E9 n s') : ∃ n, xe_runE GT SC RF nL fg fp sg lc cv cs ins E9 n s := by
  obtain ⟨n, hn⟩ := r
  exact ⟨n + 1, xe_runE_s.mpr (Or.inr ⟨x, hil, Or.inr ⟨s', hst, hn⟩⟩)⟩
theorem ye_go : ∀ (j : Nat) {s s' : xe_X}, xe_n GT SC RF nL fg fp sg lc ins j s = some s' → (∃ n, xe_runE GT SC RF nL fg fp sg lc cv cs ins E9 n s') → ∃ n, xe_runE GT SC RF nL fg fp sg lc cv cs ins E9 n s
  | 0, s, s', h, r => by
    unfold xe_n at h
    split at h
    · cases h
    · rename_i x hil
      exact ye_1 hil (Or.inl h) r
  | j + 1, s, s', h, r => by
    unfold xe_n at h
    split at h
    · cases h
    · rename_i x hil
      split at h
      · rename_i s1 h1
        exact ye_1 hil (Or.inl h1) (ye_go j h r)
      · cases h
theorem ye_bT (j : Nat) {s A B : xe_X} {b : Bool} (hb : b = true) (h : xe_n GT SC RF nL fg fp sg lc ins j s = some (bif b then A else B)) (r : ∃ n, xe_runE GT SC RF nL fg fp sg lc cv cs ins E9 n A) : ∃ n, xe_runE GT SC RF nL fg fp sg lc cv cs ins E9 n s := by
  subst hb
  exact ye_go j h r
theorem ye_bF (j : Nat) {s A B : xe_X} {b : Bool} (hb : b = false) (h : xe_n GT SC RF nL fg fp sg lc ins j s = some (bif b then A else B)) (r : ∃ n, xe_runE GT SC RF nL fg fp sg lc cv cs ins E9 n B) : ∃ n, xe_runE GT SC RF nL fg fp sg lc cv cs ins E9 n s := by
  subst hb
  exact ye_go j h r
theorem ye_end {s : xe_X} {x : Nat × Instr} {v : Option Value} {hp' : xe_H} (hil : xe_il s.1 ins = some x) (hr : xe_r x.1 x.2 s.2.2.1 = some v) (hh : s.2.2.2 = hp') : ∃ n, xe_runE GT SC RF nL fg fp sg lc cv cs ins (.inl (v, hp')) n s := ⟨0 + 1, xe_runE_s.mpr (Or.inr ⟨x, hil, Or.inl ⟨v, hr, by rw [hh]⟩⟩)⟩
theorem ye_at {s : xe_X} : ∃ n, xe_runE GT SC RF nL fg fp sg lc cv cs ins (.inr s) n s := ⟨0 + 1, xe_runE_s.mpr (Or.inl rfl)⟩
theorem ye_vir {s : xe_X} {j n : Nat} {f : xe_F} (hil : xe_il s.1 ins = some (3, .invokevirtual j)) (h8 : (s.2.2.1.map fun v => v.category).sum ≤ 8) (hq : (j, n, f) ∈ cv) (hle : n ≤ s.2.2.1.length) {v1 : Option Value} {hp1 : xe_H} (hf : f (s.2.2.1.take n) s.2.2.2 v1 hp1) (r : ∃ n9, xe_runE GT SC RF nL fg fp sg lc cv cs ins E9 n9 (s.1 + 3, s.2.1, v1.toList ++ s.2.2.1.drop n, hp1)) : ∃ n, xe_runE GT SC RF nL fg fp sg lc cv cs ins E9 n s :=
  ye_1 hil (Or.inr (Or.inr ⟨rfl, h8, Or.inl ⟨j, rfl, (j, n, f), hq, rfl, hle, v1, hp1, hf, rfl⟩⟩)) r
theorem ye_sta {s : xe_X} {j n : Nat} {f : xe_F} (hil : xe_il s.1 ins = some (3, .invokestatic j)) (h8 : (s.2.2.1.map fun v => v.category).sum ≤ 8) (hq : (j, n, f) ∈ cs) (hle : n ≤ s.2.2.1.length) {v1 : Option Value} {hp1 : xe_H} (hf : f (s.2.2.1.take n) s.2.2.2 v1 hp1) (r : ∃ n9, xe_runE GT SC RF nL fg fp sg lc cv cs ins E9 n9 (s.1 + 3, s.2.1, v1.toList ++ s.2.2.1.drop n, hp1)) : ∃ n, xe_runE GT SC RF nL fg fp sg lc cv cs ins E9 n s :=
  ye_1 hil (Or.inr (Or.inr ⟨rfl, h8, Or.inr (Or.inl ⟨j, rfl, (j, n, f), hq, rfl, hle, v1, hp1, hf, rfl⟩)⟩)) r
theorem ye_nrm (js : List Nat) {pc : Nat} {lo : List (Nat × Value)} {st : List Value} {hp : xe_H} {x : Nat × Instr} (hil : xe_il pc ins = some x) (r : ∃ n, xe_runE GT SC RF nL fg fp sg lc cv cs ins E9 n (pc, xe_kp lo js, st, hp)) : ∃ n, xe_runE GT SC RF nL fg fp sg lc cv cs ins E9 n (pc, lo, st, hp) :=
  ye_1 (s' := (pc, xe_kp lo js, st, hp)) hil (Or.inr (Or.inl ⟨rfl, rfl, js, rfl⟩)) r
end XEP
