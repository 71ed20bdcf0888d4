/-! ===== the law's invariant at the start: no men anywhere ===== -/
theorem lv_ok0 : lv_ok [] := ⟨Nat.zero_le _, fun j hj => absurd hj (Nat.not_lt_zero j)⟩
theorem lk_V0 {Sg : Nat → Option Nat} {th tw nm : Nat → Nat} {ws : va_W} (hB : ∀ j : Nat, j < 940 → zf_rd ws (th 2) j (.int 0) ∧ zf_rd ws (th 19) j (.int 0)) (hR : ∀ j : Nat, j < 23 → zf_rd ws (th 24) j (.long (rsv j))) (hF : ∀ j : Nat, j < 2 → zf_rd ws (th 16) j (.int 0) ∧ zf_rd ws (th 35) j (.int 0)) (hG : lk_G th ws) (hM : zf_rd ws (th 20) 0 (.int 0) ∧ zf_rd ws (th 33) 0 (.int 0) ∧ zf_rd ws (th 33) 874 (.int 0)) (hP : zf_rd ws (th 10) 1 (.int 0) ∧ zf_rd ws (th 10) 2 (.int 0)) (T : nu_T Sg th tw nm ws) (hT : ∀ i, i < 13 → zf_rd ws (tw i) 0 (.int 0)) : lk_V Sg th ws := by
  have hN : ∀ i, i < 13 → nu_N tw nm ws i [] := fun i hi => ⟨Nat.zero_le _, hT i hi, fun j hj => absurd hj (Nat.not_lt_zero j)⟩
  exact ⟨⟨⟨fun _ => 0, fun _ => 0, fun j hj => ⟨(hB j hj).1, (hB j hj).2, (show (0 : Int32) &&& 255 = 0 by decide)⟩⟩, hR⟩, ⟨fun j hj => ⟨0, hF j hj⟩, hG⟩, [], [], [], lv_ok0, lv_ok0, lv_ok0, ⟨tw, nm, 0, 0, T, hN 0 (by decide), hN 2 (by decide), hN 3 (by decide), Nat.zero_le _, Nat.zero_le _, hP.1, hP.2, fun t ht => absurd ht (Nat.not_lt_zero t)⟩, ⟨hM.1, fun j hj => absurd hj (Nat.not_lt_zero j)⟩, ⟨hM.2.1, fun j hj => absurd hj (Nat.not_lt_zero j)⟩, hM.2.2, fun j hj => absurd hj (Nat.not_lt_zero j)⟩
/-! ===== the towns of the pool at the start ===== -/
def zc_p1 (q : Nat × Nat × va_E) : Option (Nat × Nat) := if q.1 = 64 then (match q.2.2 with
  | .inr (_, _ :: .ref n9 :: _) => some (q.2.1, n9)
  | _ => none) else none
def zc_p5 (q : Nat × Nat × va_E) : Option Nat := if q.1 = 65 then some q.2.1 else none
def zx_P (T : zc_T) (L9 : List (Nat × Nat)) : Prop := T.filterMap zc_p1 = L9 ∧ T.filterMap zc_p5 = L9.map Prod.snd ∧ ∀ q ∈ T, q.1 = 64 → ∃ r9, q.2.2 = .inr (8, .int 0 :: r9)
theorem zx_nil : zx_P [] [] := ⟨rfl, rfl, fun q hq => by cases hq⟩
theorem zx_app {T1 T2 : zc_T} {L1 L2 : List (Nat × Nat)} (h1 : zx_P T1 L1) (h2 : zx_P T2 L2) : zx_P (T1 ++ T2) (L1 ++ L2) := by
  obtain ⟨a1, a2, a3⟩ := h1
  obtain ⟨b1, b2, b3⟩ := h2
  refine ⟨by rw [List.filterMap_append, a1, b1], by rw [List.filterMap_append, a2, b2, List.map_append], fun q hq => ?_⟩
  rcases List.mem_append.mp hq with h | h
  · exact a3 q h
  · exact b3 q h
theorem zx_town {k : Nat → ClassId} {a0 : Nat} {u : Nat → Nat} : zx_P (zc_town k a0 u) [(a0, u 0)] := by
  refine ⟨rfl, rfl, ?_⟩
  unfold zc_town
  refine zf_ac (fun _ => ⟨_, rfl⟩) (zf_ac (fun h => absurd h (show ¬ (65 : Nat) = 64 by decide)) (zf_ac (fun h => absurd h (show ¬ (66 : Nat) = 64 by decide)) (zf_ac (fun h => absurd h (show ¬ (67 : Nat) = 64 by decide)) (zf_ac (fun h => absurd h (show ¬ (68 : Nat) = 64 by decide)) (zf_ac (fun h => absurd h (show ¬ (69 : Nat) = 64 by decide)) (zf_ac (fun h => absurd h (show ¬ (70 : Nat) = 64 by decide)) (zf_ac (fun h => absurd h (show ¬ (71 : Nat) = 64 by decide)) (zf_ac (fun h => absurd h (show ¬ (72 : Nat) = 64 by decide)) (zf_ac (fun h => absurd h (show ¬ (73 : Nat) = 64 by decide)) (zf_ac (fun h => absurd h (show ¬ (74 : Nat) = 64 by decide)) (zf_ac (fun h => absurd h (show ¬ (75 : Nat) = 64 by decide)) zf_an)))))))))))
theorem zx_sent {k : Nat → ClassId} {o a0 : Nat} {u : Nat → Nat} : zx_P (zc_sent k o a0 u) [] := by
  refine ⟨rfl, rfl, ?_⟩
  unfold zc_sent
  exact zf_ac (fun h => absurd h (show ¬ (76 : Nat) = 64 by decide)) (zf_ac (fun h => absurd h (show ¬ (77 : Nat) = 64 by decide)) (zf_ac (fun h => absurd h (show ¬ (78 : Nat) = 64 by decide)) (zf_ac (fun h => absurd h (show ¬ (79 : Nat) = 64 by decide)) (zf_ac (fun h => absurd h (show ¬ (80 : Nat) = 64 by decide)) zf_an))))
theorem zx_s1 : ∀ T : zc_T, ((T.filterMap zc_p1).map Prod.fst).Sublist (T.map fun q => q.2.1)
  | [] => List.Sublist.slnil
  | q :: t => by
    have ih := zx_s1 t
    rw [List.filterMap_cons]
    cases h : zc_p1 q with
    | none => exact List.Sublist.cons _ ih
    | some z =>
      have e : z.1 = q.2.1 := by
        unfold zc_p1 at h
        split at h
        · split at h
          · cases h
            rfl
          · cases h
        · cases h
      show (z.1 :: (t.filterMap zc_p1).map Prod.fst).Sublist (q.2.1 :: t.map fun q => q.2.1)
      rw [e]
      exact List.Sublist.cons_cons _ ih
theorem zx_s5 : ∀ T : zc_T, (T.filterMap zc_p5).Sublist (T.map fun q => q.2.1)
  | [] => List.Sublist.slnil
  | q :: t => by
    have ih := zx_s5 t
    rw [List.filterMap_cons]
    cases h : zc_p5 q with
    | none => exact List.Sublist.cons _ ih
    | some z =>
      have e : z = q.2.1 := by
        unfold zc_p5 at h
        split at h
        · exact (Option.some.inj h).symm
        · cases h
      show (z :: t.filterMap zc_p5).Sublist (q.2.1 :: t.map fun q => q.2.1)
      rw [e]
      exact List.Sublist.cons_cons _ ih
theorem zx_nd : ∀ l9 : List Nat, (∀ i j a : Nat, l9[i]? = some a → l9[j]? = some a → i = j) → l9.Nodup
  | [], _ => List.nodup_nil
  | x :: t, h => by
    refine List.nodup_cons.mpr ⟨fun hm => ?_, zx_nd t (fun i j a h1 h2 => Nat.succ.inj (h (i + 1) (j + 1) a h1 h2))⟩
    obtain ⟨j, hj⟩ := List.getElem?_of_mem hm
    exact absurd (h 0 (j + 1) x rfl hj) (by omega)
theorem zx_inj : ∀ (l9 : List Nat), l9.Nodup → ∀ a b : Nat, a < l9.length → b < l9.length → l9.getD a 0 = l9.getD b 0 → a = b
  | [], _, a, b, ha, _, _ => absurd ha (Nat.not_lt_zero a)
  | x :: t, h, 0, 0, _, _, _ => rfl
  | x :: t, h, 0, b + 1, _, hb, e => by
    exfalso
    have hb : b < t.length := Nat.lt_of_succ_lt_succ hb
    have e : x = t.getD b 0 := e
    rw [List.getD_eq_getElem?_getD, List.getElem?_eq_getElem hb] at e
    exact (List.nodup_cons.mp h).1 (by rw [e]; exact List.getElem_mem hb)
  | x :: t, h, a + 1, 0, ha, _, e => by
    exfalso
    have ha : a < t.length := Nat.lt_of_succ_lt_succ ha
    have e : t.getD a 0 = x := e
    rw [List.getD_eq_getElem?_getD, List.getElem?_eq_getElem ha] at e
    exact (List.nodup_cons.mp h).1 (by rw [← e]; exact List.getElem_mem ha)
  | x :: t, h, a + 1, b + 1, ha, hb, e => by
    rw [zx_inj t (List.nodup_cons.mp h).2 a b (Nat.lt_of_succ_lt_succ ha) (Nat.lt_of_succ_lt_succ hb) e]
theorem zx_map {g : Nat × Nat → Nat} (hg : g (0, 0) = 0) : ∀ (L9 : List (Nat × Nat)) (a : Nat), (L9.map g).getD a 0 = g (L9.getD a (0, 0))
  | [], a => hg.symm
  | x :: t, 0 => rfl
  | x :: t, a + 1 => zx_map hg t a
def zx_i : Nat → Nat
  | 0 => 12
  | 1 => 11
  | 2 => 1
  | 3 => 0
  | i + 4 => 10 - i
theorem zx_ii {i j : Nat} (hi : i < 13) (hj : j < 13) (h : zx_i i = zx_i j) : i = j := by
  have f : ∀ i, i < 13 → (i = 0 ∧ zx_i i = 12) ∨ (i = 1 ∧ zx_i i = 11) ∨ (i = 2 ∧ zx_i i = 1) ∨ (i = 3 ∧ zx_i i = 0) ∨ (4 ≤ i ∧ zx_i i = 10 - (i - 4)) := fun i hi => by
    match i, hi with
    | 0, _ => exact .inl ⟨rfl, rfl⟩
    | 1, _ => exact .inr (.inl ⟨rfl, rfl⟩)
    | 2, _ => exact .inr (.inr (.inl ⟨rfl, rfl⟩))
    | 3, _ => exact .inr (.inr (.inr (.inl ⟨rfl, rfl⟩)))
    | i + 4, _ => exact .inr (.inr (.inr (.inr ⟨by omega, rfl⟩)))
  have a1 := f i hi
  have a2 := f j hj
  omega
theorem zx_il {i : Nat} (hi : i < 13) : zx_i i < 13 := by
  match i, hi with
  | 0, _ => decide
  | 1, _ => decide
  | 2, _ => decide
  | 3, _ => decide
  | i + 4, h => exact (show 10 - i < 13 by omega)
/-- the links of the class's towns at the start, by a list of all towns -/
def zx_K (u : Nat → Nat) (f f2 : Nat → Option Nat) (L9 : List (Nat × Nat)) : Prop := L9.length = 13 ∧ u 3 = (L9.getD 12 (0, 0)).1 ∧ u 4 = (L9.getD 11 (0, 0)).1 ∧ f2 0 = some (L9.getD 1 (0, 0)).1 ∧ f2 1 = some (L9.getD 0 (0, 0)).1 ∧ ∀ j, j < 9 → f j = some (L9.getD (10 - j) (0, 0)).1
theorem zx_T {Sg : Nat → Option Nat} {k : Nat → ClassId} {th : Nat → Nat} {X9 P9 : zc_T} {A : Nat → Prop} {L9 : List (Nat × Nat)} (hsing : ∀ g, g < 37 → g < 64 → Sg (th g) = some g) (ht : zf_typ Sg k zGT (zc_w (X9 ++ P9))) (hD : va_D A (zc_w (X9 ++ P9))) (hX : zx_P P9 L9) (hl : L9.length = 13) (h3 : zf_rd (zc_w (X9 ++ P9)) (th 0) 3 (.ref (L9.getD 12 (0, 0)).1)) (h4 : zf_rd (zc_w (X9 ++ P9)) (th 0) 4 (.ref (L9.getD 11 (0, 0)).1)) (hk : ∀ j, j < 2 → zf_rd (zc_w (X9 ++ P9)) (th 14) j (.ref (L9.getD (1 - j) (0, 0)).1)) (hr : ∀ j, j < 9 → zf_rd (zc_w (X9 ++ P9)) (th 11) j (.ref (L9.getD (10 - j) (0, 0)).1)) : nu_T Sg th (fun i => (L9.getD (zx_i i) (0, 0)).1) (fun i => (L9.getD (zx_i i) (0, 0)).2) (zc_w (X9 ++ P9)) ∧ ∀ i, i < 13 → zf_rd (zc_w (X9 ++ P9)) (L9.getD (zx_i i) (0, 0)).1 0 (.int 0) := by
  obtain ⟨x1, x5, x0⟩ := hX
  have ref : ∀ {a g i h v : Nat}, Sg a = some g → g < 128 → zf_sp (zf_gi zGT g).2.2 i = some (.inr (some h)) → zf_rd (zc_w (X9 ++ P9)) a i (.ref v) → Sg v = some h := fun ha hg hs hv => by
    obtain ⟨b9, r1, r2⟩ := px_ref ht ha hg hs
    have e9 := zf_rd_fun hD r1 hv
    injection e9 with e9
    rw [← e9]
    exact r2
  have hpos : ∀ i, i < 13 → zf_rd (zc_w (X9 ++ P9)) (L9.getD (zx_i i) (0, 0)).1 0 (.int 0) ∧ zf_rd (zc_w (X9 ++ P9)) (L9.getD (zx_i i) (0, 0)).1 1 (.ref (L9.getD (zx_i i) (0, 0)).2) := fun i hi => by
    have hm : L9.getD (zx_i i) (0, 0) ∈ L9 := by
      have hlt : zx_i i < L9.length := by rw [hl]; exact zx_il hi
      rw [List.getD_eq_getElem?_getD, List.getElem?_eq_getElem hlt]
      exact List.getElem_mem hlt
    generalize L9.getD (zx_i i) (0, 0) = z at hm ⊢
    rw [← x1] at hm
    obtain ⟨q, hq, e⟩ := List.mem_filterMap.mp hm
    obtain ⟨g, a, en⟩ := q
    have h64 : g = 64 := by
      unfold zc_p1 at e
      split at e
      · assumption
      · cases e
    obtain ⟨r9, er⟩ := x0 _ hq h64
    have er : en = .inr (8, .int 0 :: r9) := er
    subst er
    obtain ⟨pos, hp⟩ := zc_at (T := X9 ++ P9) (g := g) (a := a) (List.mem_append.mpr (.inr hq))
    unfold zc_p1 at e
    rw [if_pos h64] at e
    match r9, e, hp with
    | .ref n9 :: r8, e, hp =>
      have e : some (a, n9) = some z := e
      cases e
      exact ⟨⟨pos, _, hp, rfl⟩, ⟨pos, _, hp, rfl⟩⟩
  have g0 := hsing 0 (by decide) (by decide)
  have g11 := hsing 11 (by decide) (by decide)
  have g14 := hsing 14 (by decide) (by decide)
  have hS : ∀ i, i < 13 → Sg (L9.getD (zx_i i) (0, 0)).1 = some 64 := fun i hi => by
    match i, hi with
    | 0, _ => exact ref g0 (by decide) (i := 3) rfl h3
    | 1, _ => exact ref g0 (by decide) (i := 4) rfl h4
    | 2, _ => exact ref g14 (by decide) (i := 0) rfl (hk 0 (by decide))
    | 3, _ => exact ref g14 (by decide) (i := 1) rfl (hk 1 (by decide))
    | j + 4, h =>
      have hs : zf_sp (zf_gi zGT 11).2.2 j = some (.inr (some 64)) := by
        match j, h with
        | 0, _ => rfl
        | 1, _ => rfl
        | 2, _ => rfl
        | 3, _ => rfl
        | 4, _ => rfl
        | 5, _ => rfl
        | 6, _ => rfl
        | 7, _ => rfl
        | 8, _ => rfl
      exact ref g11 (by decide) hs (hr j (by omega))
  have nd : ((X9 ++ P9).map fun q => q.2.1).Nodup := zx_nd _ (fun i j a h1 h2 => by
    rw [List.getElem?_map] at h1 h2
    obtain ⟨q1, e1, e2⟩ := Option.map_eq_some_iff.mp h1
    obtain ⟨q2, e3, e4⟩ := Option.map_eq_some_iff.mp h2
    refine hD.1 i j q1.2 q2.2 ?_ ?_ (e2.trans e4.symm)
    · show ((X9 ++ P9).map fun q => q.2)[i]? = _
      rw [List.getElem?_map, e1]; rfl
    · show ((X9 ++ P9).map fun q => q.2)[j]? = _
      rw [List.getElem?_map, e3]; rfl)
  have ndP : (P9.map fun q => q.2.1).Nodup := by
    rw [List.map_append] at nd
    exact (List.nodup_append.mp nd).2.1
  have n1 : (L9.map Prod.fst).Nodup := by rw [← x1]; exact ndP.sublist (zx_s1 P9)
  have n5 : (L9.map Prod.snd).Nodup := by rw [← x5]; exact ndP.sublist (zx_s5 P9)
  refine ⟨⟨fun i hi => ⟨hS i hi, ref (hS i hi) (by decide) (i := 1) rfl (hpos i hi).2, (hpos i hi).2⟩, fun i j hi hj e => ?_, fun i j hi hj e => ?_, h3, h4, fun j hj => ?_, fun j hj => ?_⟩, fun i hi => (hpos i hi).1⟩
  · refine zx_ii hi hj (zx_inj _ n1 _ _ (by rw [List.length_map, hl]; exact zx_il hi) (by rw [List.length_map, hl]; exact zx_il hj) ?_)
    rw [zx_map rfl, zx_map rfl]
    exact e
  · refine zx_ii hi hj (zx_inj _ n5 _ _ (by rw [List.length_map, hl]; exact zx_il hi) (by rw [List.length_map, hl]; exact zx_il hj) ?_)
    rw [zx_map rfl, zx_map rfl]
    exact e
  · match j, hj with
    | 0, _ => exact hk 0 (by decide)
    | 1, _ => exact hk 1 (by decide)
  · have e : zx_i (4 + j) = 10 - j := by
      rw [Nat.add_comm 4 j]
      rfl
    show zf_rd _ _ j (.ref (L9.getD (zx_i (4 + j)) (0, 0)).1)
    rw [e]
    exact hr j hj
