/-! ===== image and restore: by the place asked for, and by what is kept there ===== -/
section LKZ
variable {p : Program} {l : Launch} {e : Env} {s : State} {m : MethodId} {below : List Frame} {meth : Method} {c : Code} {Q : State → Prop} {b L : Nat} {xs : Nat → Int32} {D : va_G} {k : Nat → ClassId} {az : Nat → Nat} {al sw : Nat} {Sg : Nat → Option Nat} {th : Nat → Nat} {cells slots pc : Nat} {i : Int32} {H : Heap} {locs : List Loc} {ls : Array Slot} {M M1 M2 : zf_M} {ws w1 w2 : va_W} {t a : Int32}
def lk_zf (kd : Nat) (z : Int) : zf_H := (kd, kd, ([(0, 1)], 0), .inl ([], z))
def lk_entV (M : zf_M) (lo hi : Int) (g kd : Nat) (z : Int) : Bool := decide (M.1.1 = [(lo, hi)]) && M.1.2.1.isEmpty && decide (M.1.2.2.2.2.1 = lk_st 1 g) && Nat.blt kd 37 && M.1.2.2.2.2.2.all (fun h => lk_js.any (fun j => lk_eq h (lk_fl j)) || lk_eq h (lk_zf kd z))
theorem lk_as0 (a t : Int32) : lk_as [a] t 0 = a.toInt := rfl
theorem lk_vK (ρ : Nat → Int) : zf_v ρ ([(0, 1)], 0) = ρ 0 := zf_v_sym ρ 0
theorem lk_nof {kd : Nat} {z : Int} {P : Prop} (h : M.1.2.2.2.2.2.all (fun h => !(lk_eq h (lk_zf kd z))) = true) : ∀ h ∈ M.1.2.2.2.2.2, lk_eq h (lk_zf kd z) = true → P := fun x hx e => by
  have := List.all_eq_true.mp h x hx
  rw [e] at this
  cases this
theorem lk_preV {lo hi : Int} {g kd : Nat} {z : Int} (hsing : ∀ g, g < 37 → g < 64 → Sg (th g) = some g) (hF : lk_F Sg ws) (hck : lk_entV M lo hi g kd z = true) (hg : lk_g g = true) (ha : lo ≤ a.toInt ∧ a.toInt ≤ hi) (hz : ∀ h ∈ M.1.2.2.2.2.2, lk_eq h (lk_zf kd z) = true → (0 ≤ a.toInt ∧ ∃ x : Int32, x.toInt = z ∧ zf_rd ws (th kd) a.toInt.toNat (.int x))) :
    zf_pre Sg (lk_as [a] t) th M (([a].map Value.int).reverse ++ [.ref (th g)]) ws := by
  unfold lk_entV at hck
  simp only [Bool.and_eq_true, decide_eq_true_eq] at hck
  obtain ⟨⟨⟨⟨c1, c2⟩, c4⟩, c6⟩, c5⟩ := hck
  have hg' : g = 0 ∨ g = 18 := by
    unfold lk_g at hg
    rw [Bool.or_eq_true] at hg
    exact hg.imp Nat.eq_of_beq_eq_true Nat.eq_of_beq_eq_true
  refine ⟨?_, ?_, ?_, ?_⟩
  · rw [c1]
    intro x
    match x with
    | 0 => exact ha
    | x + 1 => exact lk_rng [a] t (x + 1)
  · intro f hf
    rw [List.isEmpty_iff.mp c2] at hf
    cases hf
  · rw [c4]
    unfold lk_st
    refine zf_f2_app (zf_f2_rev ?_) ⟨⟨rfl, ?_⟩, trivial⟩
    · exact lk_f2 _ [a] 0 (fun j x hx => by rw [Nat.zero_add]; exact lk_at_a [a] t hx)
    · rcases hg' with rfl | rfl
      · exact hsing 0 (by decide) (by decide)
      · exact hsing 18 (by decide) (by decide)
  · intro h hh
    have := List.all_eq_true.mp c5 h hh
    simp only [Bool.or_eq_true, List.any_eq_true] at this
    rcases this with ⟨j, hj, e9⟩ | e9
    · cases lk_eq_ok e9
      refine (zf_hokF (h := lk_fl j) (by show ¬ 1000 + j < 1000; omega)).mpr ?_
      have e : (lk_fl j).1 - 1000 = j := by show 1000 + j - 1000 = j; omega
      rw [e]
      exact hF j hj
    · obtain ⟨h0, x, hx, hr⟩ := hz h hh e9
      cases lk_eq_ok e9
      have hk := zf_blt c6
      refine (zf_hokT (h := lk_zf kd z) (show kd < 1000 by omega)).mpr ⟨hsing kd hk (by omega), ?_, .int x, ?_, ⟨x, rfl, hx⟩⟩
      · show 0 ≤ zf_v (lk_as [a] t) ([(0, 1)], 0)
        rw [lk_vK]; exact h0
      · show zf_rd ws (th kd) (zf_v (lk_as [a] t) ([(0, 1)], 0)).toNat (.int x)
        rw [lk_vK]; exact hr
def lk_ckV (M1 M2 : zf_M) : Bool := lk_js.all (lk_fk M1) && lk_js.all (lk_fk M2) && lk_kp M1 18 ([], 2) ([], 2) && lk_kp M2 18 ([], 2) ([], 2) && lk_kp M1 1 ([], 1) ([], 1) && lk_kp M2 1 ([], 1) ([], 1) && zf_tyo (some .int) M1 && zf_tyo (some .int) M2
theorem lk_twoV {ρ : Nat → Int} (hck : lk_ckV M1 M2 = true) (hsing : ∀ g, g < 37 → g < 64 → Sg (th g) = some g) (hW : lg_W Sg k th ws t) {v1 v2 : Option Value} (p1 : zf_post Sg k zGT ρ th M1 ws v1 w1) (p2 : zf_post Sg k zGT ρ th M2 w1 v2 w2) : lg_W Sg k th w2 t := by
  unfold lk_ckV at hck
  simp only [Bool.and_eq_true] at hck
  obtain ⟨⟨⟨⟨⟨⟨⟨c1, c2⟩, c3⟩, c4⟩, c5⟩, c6⟩, c7⟩, c8⟩ := hck
  have s1 : Sg (th 1) = some 1 := hsing 1 (by decide) (by decide)
  have s18 : Sg (th 18) = some 18 := hsing 18 (by decide) (by decide)
  exact ⟨p2.2.1, lk_kp_ok c6 p2.2.2 s1 (show (1 : Int) ≤ 1 by decide) (show (1 : Int) ≤ 1 by decide) (lk_kp_ok c5 p1.2.2 s1 (show (1 : Int) ≤ 1 by decide) (show (1 : Int) ≤ 1 by decide) hW.2.1), lk_kp_ok c4 p2.2.2 s18 (show (2 : Int) ≤ 2 by decide) (show (2 : Int) ≤ 2 by decide) (lk_kp_ok c3 p1.2.2 s18 (show (2 : Int) ≤ 2 by decide) (show (2 : Int) ≤ 2 by decide) hW.2.2.1), lk_flag c2 (lk_flag c1 hW.2.2.2 p1) p2⟩
/-- behind a call that keeps at place a: there lies 1 -/
def lk_zw (M : zf_M) (kd : Nat) : Bool := Nat.blt kd 37 && Nat.blt 0 M.1.1.length && Nat.ble 64 M.1.2.2.1 && M.2.2.all (fun o => o.2.2.2.2.2.2.any (fun h => lk_eq h (lk_zf kd 1))) && M.2.1.all (fun q => !(Nat.beq q.1 kd) || (decide (q.2.1 = ([(0, 1)], 0)) && decide (q.2.2 = ([(0, 1)], 0))))
theorem lk_zw_ok {kd : Nat} (hck : lk_zw M kd = true) (hsing : ∀ g, g < 37 → g < 64 → Sg (th g) = some g) {v : Option Value} (h0 : 0 ≤ a.toInt) (p1 : zf_post Sg k zGT (lk_as [a] t) th M ws v w1) :
    zf_rd w1 (th kd) a.toInt.toNat (.int 1) ∧ ∀ (j : Nat) (u : Value), (j : Int) ≠ a.toInt → zf_rd ws (th kd) j u → zf_rd w1 (th kd) j u := by
  unfold lk_zw at hck
  simp only [Bool.and_eq_true] at hck
  obtain ⟨⟨⟨⟨c1, c2⟩, c3⟩, c4⟩, c5⟩ := hck
  have c1 := zf_blt c1
  have c2 := zf_blt c2
  have c3 := Nat.le_of_ble_eq_true c3
  obtain ⟨⟨o, ho, ρ1, θ1, a1, b1, -, -, g1, -⟩, -, fr⟩ := p1
  refine ⟨?_, ?_⟩
  · have := List.all_eq_true.mp c4 o ho
    rw [List.any_eq_true] at this
    obtain ⟨h, hh, e9⟩ := this
    have q := g1 h hh
    rw [lk_eq_ok e9] at q
    obtain ⟨-, -, u, d1, x, rfl, d2⟩ := (zf_hokT (h := lk_zf kd 1) (show kd < 1000 by omega)).mp q
    have d1 : zf_rd w1 (θ1 kd) (zf_v ρ1 ([(0, 1)], 0)).toNat (.int x) := d1
    rw [lk_vK, a1 0 c2, lk_as0, b1 kd (by omega)] at d1
    have d2 : x.toInt = 1 := d2
    have : x = 1 := Int32.toInt_inj.mp (d2.trans (by decide))
    rw [this] at d1
    exact d1
  · intro j u hj hr
    refine fr _ kd j u (hsing kd c1 (by omega)) ?_ hr
    rintro ⟨q, hq, e1, e2, e3⟩
    have := List.all_eq_true.mp c5 q hq
    rw [Bool.or_eq_true] at this
    rcases this with h9 | h9
    · rw [e1] at h9; simp at h9
    · simp only [Bool.and_eq_true, decide_eq_true_eq] at h9
      rw [h9.1, lk_vK, lk_as0] at e2
      rw [h9.2, lk_vK, lk_as0] at e3
      omega
theorem lk_ansC {ρ : Nat → Int} {z : Int} (hc : M.2.2.all (fun o => decide (o.1 = some (.inl ([], z)))) = true) {x : Int32} (p1 : zf_post Sg k zGT ρ th M ws (some (.int x)) w1) : x.toInt = z := by
  obtain ⟨⟨o, ho, ρ1, θ1, -, -, -, -, -, r⟩, -, -⟩ := p1
  have := of_decide_eq_true (List.all_eq_true.mp hc o ho)
  rw [this] at r
  obtain ⟨y, e, h⟩ := r
  cases e
  exact h
theorem lk_callP {g idx : Nat} {as : List Int32} {rest : List Value} (h1 : lk_CR p l e s m below meth c Q b D k Sg th cells slots idx M) (hty : zf_tyo (some .int) M = true) (hP : va_P D vwCl ws H) (hD : va_D (lk_A s) ws) (hS : va_S (lk_A s) s.heap H locs) (ht : zf_typ Sg k zGT ws) (hpre : zf_pre Sg (lk_as as t) th M ((as.map Value.int).reverse ++ [.ref (th g)]) ws) (hl : lv_has ls 7 (lk_lv th b i)) (hdg : decode code pc = .ok (.invokevirtual idx, 3)) (hcat : (rest.map fun v => v.category).sum ≤ 8)
    (kk : ∀ (x : Int32) (ws' : va_W) (H1 : Heap) (locs1 : List Loc), zf_post Sg k zGT (lk_as as t) th M ws (some (.int x)) ws' → va_P D vwCl ws' H1 → va_D (lk_A s) ws' → va_S (lk_A s) s.heap H1 locs1 → W p l e room_1 s m #[Value.ref b] below meth c H1 locs1 cells slots Q (F0 m (pc + 3) ls (.int x :: rest))) :
    W p l e room_1 s m #[Value.ref b] below meth c H locs cells slots Q (F0 m pc ls ((as.map Value.int).reverse ++ .ref (th g) :: rest)) := by
  refine lk_stk (st' := ((as.map Value.int).reverse ++ [.ref (th g)]) ++ rest) (by rw [List.append_assoc]; rfl) ?_
  refine h1 H locs ws (lk_as as t) th _ rest pc ls hP hD hS ht (fun _ _ => rfl) hpre hdg hl.1 hcat (fun v ws' H1 locs1 p1 hP1 hD1 hS1 => ?_)
  obtain ⟨x, rfl⟩ := lk_ans hty p1
  exact kk x ws' H1 locs1 p1 hP1 hD1 hS1
theorem lk_runP (C0 : lw_At p s m meth c b L xs) (hL : L ≤ 3072) (h0 : 0 ≤ i.toInt) (h6 : i.toInt + 6 ≤ (L : Int)) {i1 i2 : Nat} (hd : lk_dk (lk_caseI pc 1 i1 i2) = true) (hck : lk_ckV M1 M2 = true) (h1 : lk_CR p l e s m below meth c Q b D k Sg th cells slots i1 M1) (h2 : lk_CR p l e s m below meth c Q b D k Sg th cells slots i2 M2) (hP : va_P D vwCl ws H) (hD : va_D (lk_A s) ws) (hS : va_S (lk_A s) s.heap H locs) (hW : lg_W Sg k th ws t) (hl : lv_has ls 7 (lk_lv th b i))
    (q1 : zf_pre Sg (lk_as (lk_vs xs i 1 1) t) th M1 (((lk_vs xs i 1 1).map Value.int).reverse ++ [.ref (th 0)]) ws) (q2 : ∀ x w1, zf_post Sg k zGT (lk_as (lk_vs xs i 1 1) t) th M1 ws (some (.int x)) w1 → zf_pre Sg (lk_as (lk_vs xs i 1 1) t) th M2 (((lk_vs xs i 1 1).map Value.int).reverse ++ [.ref (th 18)]) w1)
    (kk : ∀ x1 w1 x2 w2 H locs, zf_post Sg k zGT (lk_as (lk_vs xs i 1 1) t) th M1 ws (some (.int x1)) w1 → zf_post Sg k zGT (lk_as (lk_vs xs i 1 1) t) th M2 w1 (some (.int x2)) w2 → va_P D vwCl w2 H → va_D (lk_A s) w2 → va_S (lk_A s) s.heap H locs → W p l e room_1 s m #[Value.ref b] below meth c H locs cells slots Q (F0 m lk_E ls [])) : W p l e room_1 s m #[Value.ref b] below meth c H locs cells slots Q (F0 m pc ls []) := by
  obtain ⟨hx, hb, hr, hml, hown, hts, hX, hbl, hlocks, hgv, hfit⟩ := id C0
  unfold lk_ckV at hck
  simp only [Bool.and_eq_true] at hck
  obtain ⟨⟨⟨⟨⟨⟨⟨c1, c2⟩, c3⟩, c4⟩, c5⟩, c6⟩, c7⟩, c8⟩ := hck
  simp only [lk_dk, lk_caseI, List.all_cons, List.all_append, List.all_nil, Bool.and_eq_true, decide_eq_true_eq] at hd
  obtain ⟨d0, a1, d1, d2, d3, a2, d4, d5, d6, -⟩ := hd
  refine lv_aload_n hx hb d0 rfl (lv_at hl 3 rfl) ?_
  refine lk_args C0 hL h0 h6 hS hl 1 (pc + 1) 1 _ a1 (by omega) ?_
  refine lk_callP h1 c7 hP hD hS hW.1 q1 hl d1 (Nat.zero_le _) (fun x1 w1 H locs p1 hP hD hS => ?_)
  refine lk_at (pc' := pc + 4 + 6 * 1) (by omega) ?_
  refine lv_pop hx hb d2 rfl ?_
  refine lk_at (pc' := pc + 5 + 6 * 1) (by omega) ?_
  refine lv_aload_n hx hb d3 rfl (lv_at hl 2 rfl) ?_
  refine lk_at (pc' := pc + 6 + 6 * 1) (by omega) ?_
  refine lk_args C0 hL h0 h6 hS hl 1 (pc + 6 + 6 * 1) 1 _ a2 (by omega) ?_
  refine lk_at (pc' := pc + 6 + 12 * 1) (by omega) ?_
  refine lk_callP h2 c8 hP hD hS p1.2.1 (q2 x1 w1 p1) hl d4 (Nat.zero_le _) (fun x2 w2 H locs p2 hP hD hS => ?_)
  refine lk_at (pc' := pc + 9 + 12 * 1) (by omega) ?_
  refine lv_pop hx hb d5 rfl ?_
  refine lk_at (pc' := pc + 10 + 12 * 1) (by omega) ?_
  refine lv_goto (tgt := lk_E) hx hb d6 (by omega) ?_
  exact kk x1 w1 x2 w2 H locs p1 p2 hP hD hS
theorem lk_runC (C0 : lw_At p s m meth c b L xs) (hL : L ≤ 3072) (h0 : 0 ≤ i.toInt) (h6 : i.toInt + 6 ≤ (L : Int)) {i1 i2 : Nat} (hd : lk_dk (lk_cmpI pc 1 i1 i2) = true) (hck : lk_ckV M1 M2 = true) {z : Int} (z1 : M1.2.2.all (fun o => decide (o.1 = some (.inl ([], z)))) = true) (z2 : M2.2.2.all (fun o => decide (o.1 = some (.inl ([], z)))) = true) (h1 : lk_CR p l e s m below meth c Q b D k Sg th cells slots i1 M1) (h2 : lk_CR p l e s m below meth c Q b D k Sg th cells slots i2 M2) (hP : va_P D vwCl ws H) (hD : va_D (lk_A s) ws) (hS : va_S (lk_A s) s.heap H locs) (hW : lg_W Sg k th ws t) (hl : lv_has ls 7 (lk_lv th b i))
    (q1 : zf_pre Sg (lk_as (lk_vs xs i 1 1) t) th M1 (((lk_vs xs i 1 1).map Value.int).reverse ++ [.ref (th 0)]) ws) (q2 : ∀ x w1, zf_post Sg k zGT (lk_as (lk_vs xs i 1 1) t) th M1 ws (some (.int x)) w1 → zf_pre Sg (lk_as (lk_vs xs i 1 1) t) th M2 (((lk_vs xs i 1 1).map Value.int).reverse ++ [.ref (th 18)]) w1)
    (kk : ∀ x1 w1 x2 w2 H locs, zf_post Sg k zGT (lk_as (lk_vs xs i 1 1) t) th M1 ws (some (.int x1)) w1 → zf_post Sg k zGT (lk_as (lk_vs xs i 1 1) t) th M2 w1 (some (.int x2)) w2 → va_P D vwCl w2 H → va_D (lk_A s) w2 → va_S (lk_A s) s.heap H locs → W p l e room_1 s m #[Value.ref b] below meth c H locs cells slots Q (F0 m lk_E ls [])) : W p l e room_1 s m #[Value.ref b] below meth c H locs cells slots Q (F0 m pc ls []) := by
  obtain ⟨hx, hb, hr, hml, hown, hts, hX, hbl, hlocks, hgv, hfit⟩ := id C0
  unfold lk_ckV at hck
  simp only [Bool.and_eq_true] at hck
  obtain ⟨⟨⟨⟨⟨⟨⟨c1, c2⟩, c3⟩, c4⟩, c5⟩, c6⟩, c7⟩, c8⟩ := hck
  simp only [lk_dk, lk_cmpI, List.all_cons, List.all_append, List.all_nil, Bool.and_eq_true, decide_eq_true_eq] at hd
  obtain ⟨d0, a1, d1, d3, a2, d4, d5, -⟩ := hd
  refine lv_aload_n hx hb d0 rfl (lv_at hl 3 rfl) ?_
  refine lk_args C0 hL h0 h6 hS hl 1 (pc + 1) 1 _ a1 (by omega) ?_
  refine lk_callP h1 c7 hP hD hS hW.1 q1 hl d1 (Nat.zero_le _) (fun x1 w1 H locs p1 hP hD hS => ?_)
  refine lk_at (pc' := pc + 4 + 6 * 1) (by omega) ?_
  refine lv_aload_n hx hb d3 rfl (lv_at hl 2 rfl) ?_
  refine lk_at (pc' := pc + 5 + 6 * 1) (by omega) ?_
  refine lk_args C0 hL h0 h6 hS hl 1 (pc + 5 + 6 * 1) 1 _ a2 (by omega) ?_
  refine lk_at (pc' := pc + 5 + 12 * 1) (by omega) ?_
  refine lk_callP h2 c8 hP hD hS p1.2.1 (q2 x1 w1 p1) hl d4 (lk_c1 x1) (fun x2 w2 H locs p2 hP hD hS => ?_)
  refine lk_at (pc' := pc + 8 + 12 * 1) (by omega) ?_
  refine lv_icmp_eq (tgt := lk_E) hx hb d5 (by omega) (fun _ => kk x1 w1 x2 w2 H locs p1 p2 hP hD hS) (fun hne => ?_)
  exact absurd (Int32.toInt_inj.mp ((lk_ansC z1 p1).trans (lk_ansC z2 p2).symm)) hne
/-- a place of what is kept holds 0 or 1 -/
theorem lk_z01 {A : Nat → Prop} (hD : va_D A ws) (ht : zf_typ Sg k zGT ws) (hsing : ∀ g, g < 37 → g < 64 → Sg (th g) = some g) {j : Nat} (hj : j < 2) {z : Int32} (hr : zf_rd ws (th 16) j (.int z)) : z.toInt = 0 ∨ z.toInt = 1 := by
  obtain ⟨q, e, h1, h2⟩ := ht _ 16 (hsing 16 (by decide) (by decide)) (by decide)
  have hs : zf_sp (zf_gi zGT 16).2.2 j = some (.inl (0, 1)) := by
    match j, hj with
    | 0, _ => rfl
    | 1, _ => rfl
  obtain ⟨v, h3, x, rfl, h4, h5⟩ := h2.2 j _ hs
  have h9 := zf_rd_fun hD hr ⟨q, e, h1, h3⟩
  cases h9
  have h4 : (0 : Int) ≤ z.toInt := h4
  have h5 : z.toInt ≤ (1 : Int) := h5
  omega
end LKZ
