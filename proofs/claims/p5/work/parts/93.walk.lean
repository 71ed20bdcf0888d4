/-! ===== the law's walk: arguments out of the script, a call on each side ===== -/
def lk_E : Nat := 1384
abbrev lk_A (s : State) : Nat → Prop := fun q : Nat => s.heap.size ≤ q
def lk_lv (th : Nat → Nat) (b : Nat) (i : Int32) : List (Nat × Value) := [(4, .int i), (3, .ref (th 36)), (2, .ref (th 18)), (1, .ref (th 0)), (0, .ref b)]
def lk_K (p : Program) (l : Launch) (e : Env) (s : State) (m : MethodId) (below : List Frame) (meth : Method) (c : Code) (Q : State → Prop) (b : Nat) (D : va_G) (k : Nat → ClassId) (Sg : Nat → Option Nat) (th : Nat → Nat) (cells slots : Nat) (i : Int32) (pc : Nat) : Prop :=
  ∀ (ws : va_W) (H : Heap) (locs : List Loc) (ls : Array Slot) (t : Int32), va_P D vwCl ws H → va_D (lk_A s) ws → va_S (lk_A s) s.heap H locs → lg_W Sg k th ws t → lk_V Sg th ws → lv_has ls 7 (lk_lv th b i) → W p l e room_1 s m #[Value.ref b] below meth c H locs cells slots Q (F0 m pc ls [])
def lk_dk (x : List (Nat × Instr × Nat)) : Bool := x.all (fun x => decide (decode code x.1 = .ok (x.2.1, x.2.2)))
def lk_argI (pc c9 : Nat) : List (Nat × Instr × Nat) := [(pc, .aload_n 0, 1), (pc + 1, .iload 4, 2), (pc + 3, .iconst (c9 : Int), 1), (pc + 4, .iadd, 1), (pc + 5, .iaload, 1)]
def lk_argsI : Nat → Nat → Nat → List (Nat × Instr × Nat)
  | _, _, 0 => []
  | pc, c9, n + 1 => lk_argI pc c9 ++ lk_argsI (pc + 6) (c9 + 1) n
def lk_vs (xs : Nat → Int32) (i : Int32) : Nat → Nat → List Int32
  | _, 0 => []
  | c9, n + 1 => xs (i + Int32.ofInt (c9 : Int)).toNatClampNeg :: lk_vs xs i (c9 + 1) n
theorem lk_vs_len (xs : Nat → Int32) (i : Int32) : ∀ (n c9 : Nat), (lk_vs xs i c9 n).length = n
  | 0, _ => rfl
  | n + 1, c9 => by show (lk_vs xs i (c9 + 1) n).length + 1 = n + 1; rw [lk_vs_len xs i n (c9 + 1)]
theorem lk_ix {i : Int32} {L c9 : Nat} (h0 : 0 ≤ i.toInt) (h6 : i.toInt + 6 ≤ (L : Int)) (hL : L ≤ 3072) (hc : c9 ≤ 5) : vp_in (i + Int32.ofInt (c9 : Int)) L := by
  have e : (Int32.ofInt (c9 : Int)).toInt = (c9 : Int) := zi_con1 (by omega) (by omega)
  have e2 : (i + Int32.ofInt (c9 : Int)).toInt = i.toInt + (c9 : Int) := by
    rw [Kit.i32_add (by omega) (by omega), e]
  exact (zi_in (by omega) (by omega)).1
section LK
variable {p : Program} {l : Launch} {e : Env} {s : State} {m : MethodId} {below : List Frame} {meth : Method} {c : Code} {Q : State → Prop} {b L : Nat} {xs : Nat → Int32} {D : va_G} {k : Nat → ClassId} {az : Nat → Nat} {al sw : Nat} {Sg : Nat → Option Nat} {th : Nat → Nat} {cells slots pc : Nat} {i : Int32} {H : Heap} {locs : List Loc} {ls : Array Slot} {st : List Value}
theorem lk_at {pc' : Nat} {R : Room} {args : Array Value} (h : pc = pc') (kk : W p l e R s m args below meth c H locs cells slots Q (F0 m pc' ls st)) : W p l e R s m args below meth c H locs cells slots Q (F0 m pc ls st) := by
  rw [h]; exact kk
theorem lk_stk {st' : List Value} {R : Room} {args : Array Value} (h : st = st') (kk : W p l e R s m args below meth c H locs cells slots Q (F0 m pc ls st')) : W p l e R s m args below meth c H locs cells slots Q (F0 m pc ls st) := by
  rw [h]; exact kk
theorem lk_arg (C0 : lw_At p s m meth c b L xs) (hL : L ≤ 3072) (h0 : 0 ≤ i.toInt) (h6 : i.toInt + 6 ≤ (L : Int)) {c9 : Nat} (hc : c9 ≤ 5) (hS : va_S (lk_A s) s.heap H locs) (hl : lv_has ls 7 (lk_lv th b i)) (hd : lk_dk (lk_argI pc c9) = true)
    (kk : W p l e room_1 s m #[Value.ref b] below meth c H locs cells slots Q (F0 m (pc + 6) ls (.int (xs (i + Int32.ofInt (c9 : Int)).toNatClampNeg) :: st))) : W p l e room_1 s m #[Value.ref b] below meth c H locs cells slots Q (F0 m pc ls st) := by
  obtain ⟨hx, hb, hr, hml, hown, hts, hX, hbl, hlocks, hgv, hfit⟩ := C0
  simp only [lk_dk, lk_argI, List.all_cons, List.all_nil, Bool.and_eq_true, decide_eq_true_eq] at hd
  obtain ⟨d0, d1, d2, d3, d4, -⟩ := hd
  refine lv_aload_n hx hb d0 rfl (lv_at hl 4 rfl) ?_
  refine lv_iload hx hb d1 (lv_at hl 0 rfl) ?_
  refine lv_iconst (v := Int32.ofInt (c9 : Int)) hx hb d2 rfl ?_
  refine lv_iadd hx hb d3 ?_
  exact va_sld hx hb hX hbl (Nat.not_le.mpr hbl) hS (lk_ix h0 h6 hL hc) d4 kk
theorem lk_args (C0 : lw_At p s m meth c b L xs) (hL : L ≤ 3072) (h0 : 0 ≤ i.toInt) (h6 : i.toInt + 6 ≤ (L : Int)) (hS : va_S (lk_A s) s.heap H locs) (hl : lv_has ls 7 (lk_lv th b i)) : ∀ (n pc c9 : Nat) (st : List Value), lk_dk (lk_argsI pc c9 n) = true → c9 + n ≤ 6 →
    W p l e room_1 s m #[Value.ref b] below meth c H locs cells slots Q (F0 m (pc + 6 * n) ls (((lk_vs xs i c9 n).map Value.int).reverse ++ st)) → W p l e room_1 s m #[Value.ref b] below meth c H locs cells slots Q (F0 m pc ls st) := by
  intro n
  induction n with
  | zero =>
    intro pc c9 st _ _ kk
    exact kk
  | succ n ih =>
    intro pc c9 st hd hc kk
    have hd' : lk_dk (lk_argI pc c9) = true ∧ lk_dk (lk_argsI (pc + 6) (c9 + 1) n) = true := by
      unfold lk_dk at hd ⊢
      rw [show lk_argsI pc c9 (n + 1) = lk_argI pc c9 ++ lk_argsI (pc + 6) (c9 + 1) n from rfl, List.all_append, Bool.and_eq_true] at hd
      exact hd
    refine lk_arg C0 hL h0 h6 (c9 := c9) (by omega) hS hl hd'.1 ?_
    refine ih (pc + 6) (c9 + 1) _ hd'.2 (by omega) ?_
    refine lk_at (pc' := pc + 6 * (n + 1)) (by omega) (lk_stk ?_ kk)
    show _ = ((Value.int (xs (i + Int32.ofInt (c9 : Int)).toNatClampNeg)) :: (lk_vs xs i (c9 + 1) n).map Value.int).reverse ++ st
    rw [List.reverse_cons, List.append_assoc]
    rfl
abbrev lk_CR (p : Program) (l : Launch) (e : Env) (s : State) (m : MethodId) (below : List Frame) (meth : Method) (c : Code) (Q : State → Prop) (b : Nat) (D : va_G) (k : Nat → ClassId) (Sg : Nat → Option Nat) (th : Nat → Nat) (cells slots : Nat) (idx : Nat) (M : zf_M) : Prop := zf_CR p l e room_1 s m #[Value.ref b] below meth c cells slots Q code D vwCl (lk_A s) s.heap Sg k zGT th 7 (.invokevirtual idx) 3 M
theorem lk_c1 (x : Int32) : (([Value.int x]).map fun v => v.category).sum ≤ 8 := show (1 : Nat) ≤ 8 by decide
/-- a call of either side, its arguments on the stack -/
theorem lk_call {n g idx : Nat} {M : zf_M} {as : List Int32} {rest : List Value} {t : Int32} {ws : va_W} (hC : lh_C s D k az al sw Sg th) (h1 : lk_CR p l e s m below meth c Q b D k Sg th cells slots idx M) (he : lk_ent M n g = true) (hg : lk_g g = true) (hty : zf_tyo (some .int) M = true) (hn : as.length = n) (hP : va_P D vwCl ws H) (hD : va_D (lk_A s) ws) (hS : va_S (lk_A s) s.heap H locs) (ht : zf_typ Sg k zGT ws) (hF : lk_F Sg ws) (hr : zf_rd ws (th (lk_sz g).2.1) (lk_sz g).2.2.2.toNat (.int t)) (hl : lv_has ls 7 (lk_lv th b i)) (hdg : decode code pc = .ok (.invokevirtual idx, 3)) (hcat : (rest.map fun v => v.category).sum ≤ 8)
    (kk : ∀ (x : Int32) (ws' : va_W) (H1 : Heap) (locs1 : List Loc), zf_post Sg k zGT (lk_as as t) th M ws (some (.int x)) ws' → va_P D vwCl ws' H1 → va_D (lk_A s) ws' → va_S (lk_A s) s.heap H1 locs1 → W p l e room_1 s m #[Value.ref b] below meth c H1 locs1 cells slots Q (F0 m (pc + 3) ls (.int x :: rest))) :
    W p l e room_1 s m #[Value.ref b] below meth c H locs cells slots Q (F0 m pc ls ((as.map Value.int).reverse ++ .ref (th g) :: rest)) := by
  refine lk_stk (st' := ((as.map Value.int).reverse ++ [.ref (th g)]) ++ rest) (by rw [List.append_assoc]; rfl) ?_
  refine h1 H locs ws (lk_as as t) th _ rest pc ls hP hD hS ht (fun _ _ => rfl) (lk_pre hD ht hC.2.2.2 hF he hg hr hn) hdg hl.1 hcat (fun v ws' H1 locs1 p1 hP1 hD1 hS1 => ?_)
  obtain ⟨x, rfl⟩ := lk_ans hty p1
  exact kk x ws' H1 locs1 p1 hP1 hD1 hS1
def lk_caseI (pc n i1 i2 : Nat) : List (Nat × Instr × Nat) := (pc, .aload_n 1, 1) :: (lk_argsI (pc + 1) 1 n ++ ((pc + 1 + 6 * n, .invokevirtual i1, 3) :: (pc + 4 + 6 * n, .pop, 1) :: (pc + 5 + 6 * n, .aload_n 2, 1) :: (lk_argsI (pc + 6 + 6 * n) 1 n ++ [(pc + 6 + 12 * n, .invokevirtual i2, 3), (pc + 9 + 12 * n, .pop, 1), (pc + 10 + 12 * n, .goto ((lk_E : Int) - ((pc + 10 + 12 * n : Nat) : Int)), 3)])))
theorem lk_mid {n : Nat} {szd cmp : Bool} {M1 M2 : zf_M} (hck : lk_ck n szd cmp M1 M2 = true) : lk_ent M1 n 0 = true ∧ lk_ent M2 n 18 = true ∧ lk_js.all (lk_fk M1) = true ∧ lk_kp M1 18 ([], 2) ([], 2) = true ∧ zf_tyo (some .int) M1 = true ∧ zf_tyo (some .int) M2 = true := by
  unfold lk_ck at hck
  simp only [Bool.and_eq_true] at hck
  obtain ⟨⟨⟨⟨⟨⟨⟨⟨⟨⟨c1, c2⟩, c3⟩, c4⟩, c5⟩, c6⟩, c7⟩, c8⟩, c9⟩, c10⟩, c11⟩ := hck
  exact ⟨c1, c2, c3, c5, c8, c9⟩
theorem lk_case (C0 : lw_At p s m meth c b L xs) (hC : lh_C s D k az al sw Sg th) (hL : L ≤ 3072) (h0 : 0 ≤ i.toInt) (h6 : i.toInt + 6 ≤ (L : Int)) {n i1 i2 : Nat} {M1 M2 : zf_M} {szd : Bool} (hn : n ≤ 5) (hd : lk_dk (lk_caseI pc n i1 i2) = true) (hck : lk_ck n szd false M1 M2 = true) (hkz : (lk_kv M1 && lk_kv M2) = true) (h1 : lk_CR p l e s m below meth c Q b D k Sg th cells slots i1 M1) (h2 : lk_CR p l e s m below meth c Q b D k Sg th cells slots i2 M2)
    (kk : lk_K p l e s m below meth c Q b D k Sg th cells slots i lk_E) : lk_K p l e s m below meth c Q b D k Sg th cells slots i pc := by
  intro ws H locs ls t hP hD hS hW hZ hl
  obtain ⟨hx, hb, hr, hml, hown, hts, hX, hbl, hlocks, hgv, hfit⟩ := id C0
  obtain ⟨c1, c2, c3, c5, c8, c9⟩ := lk_mid hck
  simp only [lk_dk, lk_caseI, List.all_cons, List.all_append, List.all_nil, Bool.and_eq_true, decide_eq_true_eq] at hd
  obtain ⟨d0, a1, d1, d2, d3, a2, d4, d5, d6, -⟩ := hd
  refine lv_aload_n hx hb d0 rfl (lv_at hl 3 rfl) ?_
  refine lk_args C0 hL h0 h6 hS hl n (pc + 1) 1 _ a1 (by omega) ?_
  refine lk_call hC h1 c1 rfl c8 (lk_vs_len xs i n 1) hP hD hS hW.1 hW.2.2.2 hW.2.1 hl d1 (Nat.zero_le _) (fun x1 w1 H locs p1 hP hD hS => ?_)
  refine lk_at (pc' := pc + 4 + 6 * n) (by omega) ?_
  refine lv_pop hx hb d2 rfl ?_
  refine lk_at (pc' := pc + 5 + 6 * n) (by omega) ?_
  refine lv_aload_n hx hb d3 rfl (lv_at hl 2 rfl) ?_
  refine lk_at (pc' := pc + 6 + 6 * n) (by omega) ?_
  refine lk_args C0 hL h0 h6 hS hl n (pc + 6 + 6 * n) 1 _ a2 (by omega) ?_
  refine lk_at (pc' := pc + 6 + 12 * n) (by omega) ?_
  refine lk_call hC h2 c2 rfl c9 (lk_vs_len xs i n 1) hP hD hS p1.2.1 (lk_flag c3 hW.2.2.2 p1) (lk_kp_ok c5 p1.2.2 (hC.2.2.2 18 (by decide) (by decide)) (show (2 : Int) ≤ 2 by decide) (show (2 : Int) ≤ 2 by decide) hW.2.2.1) hl d4 (Nat.zero_le _) (fun x2 w2 H locs p2 hP hD hS => ?_)
  refine lk_at (pc' := pc + 9 + 12 * n) (by omega) ?_
  refine lv_pop hx hb d5 rfl ?_
  refine lk_at (pc' := pc + 10 + 12 * n) (by omega) ?_
  refine lv_goto (tgt := lk_E) hx hb d6 (by omega) ?_
  obtain ⟨t', hW', -⟩ := lk_two hck hC.2.2.2 hW p1 p2
  exact kk w2 H locs ls t' hP hD hS hW' (lk_Vk hC.2.2.2 (lk_a2 hkz).2 p2.2.2 (lk_Vk hC.2.2.2 (lk_a2 hkz).1 p1.2.2 hZ)) hl
def lk_cmpI (pc n i1 i2 : Nat) : List (Nat × Instr × Nat) := (pc, .aload_n 1, 1) :: (lk_argsI (pc + 1) 1 n ++ ((pc + 1 + 6 * n, .invokevirtual i1, 3) :: (pc + 4 + 6 * n, .aload_n 2, 1) :: (lk_argsI (pc + 5 + 6 * n) 1 n ++ [(pc + 5 + 12 * n, .invokevirtual i2, 3), (pc + 8 + 12 * n, .if_icmp .eq ((lk_E : Int) - ((pc + 8 + 12 * n : Nat) : Int)), 3)])))
theorem lk_cmp (C0 : lw_At p s m meth c b L xs) (hC : lh_C s D k az al sw Sg th) (hL : L ≤ 3072) (h0 : 0 ≤ i.toInt) (h6 : i.toInt + 6 ≤ (L : Int)) {n i1 i2 : Nat} {M1 M2 : zf_M} {szd : Bool} (hn : n ≤ 5) (hd : lk_dk (lk_cmpI pc n i1 i2) = true) (hck : lk_ck n szd true M1 M2 = true) (hkz : (lk_kv M1 && lk_kv M2) = true) (h1 : lk_CR p l e s m below meth c Q b D k Sg th cells slots i1 M1) (h2 : lk_CR p l e s m below meth c Q b D k Sg th cells slots i2 M2)
    (kk : lk_K p l e s m below meth c Q b D k Sg th cells slots i lk_E) : lk_K p l e s m below meth c Q b D k Sg th cells slots i pc := by
  intro ws H locs ls t hP hD hS hW hZ hl
  obtain ⟨hx, hb, hr, hml, hown, hts, hX, hbl, hlocks, hgv, hfit⟩ := id C0
  obtain ⟨c1, c2, c3, c5, c8, c9⟩ := lk_mid hck
  simp only [lk_dk, lk_cmpI, List.all_cons, List.all_append, List.all_nil, Bool.and_eq_true, decide_eq_true_eq] at hd
  obtain ⟨d0, a1, d1, d3, a2, d4, d5, -⟩ := hd
  refine lv_aload_n hx hb d0 rfl (lv_at hl 3 rfl) ?_
  refine lk_args C0 hL h0 h6 hS hl n (pc + 1) 1 _ a1 (by omega) ?_
  refine lk_call hC h1 c1 rfl c8 (lk_vs_len xs i n 1) hP hD hS hW.1 hW.2.2.2 hW.2.1 hl d1 (Nat.zero_le _) (fun x1 w1 H locs p1 hP hD hS => ?_)
  refine lk_at (pc' := pc + 4 + 6 * n) (by omega) ?_
  refine lv_aload_n hx hb d3 rfl (lv_at hl 2 rfl) ?_
  refine lk_at (pc' := pc + 5 + 6 * n) (by omega) ?_
  refine lk_args C0 hL h0 h6 hS hl n (pc + 5 + 6 * n) 1 _ a2 (by omega) ?_
  refine lk_at (pc' := pc + 5 + 12 * n) (by omega) ?_
  refine lk_call hC h2 c2 rfl c9 (lk_vs_len xs i n 1) hP hD hS p1.2.1 (lk_flag c3 hW.2.2.2 p1) (lk_kp_ok c5 p1.2.2 (hC.2.2.2 18 (by decide) (by decide)) (show (2 : Int) ≤ 2 by decide) (show (2 : Int) ≤ 2 by decide) hW.2.2.1) hl d4 (lk_c1 x1) (fun x2 w2 H locs p2 hP hD hS => ?_)
  refine lk_at (pc' := pc + 8 + 12 * n) (by omega) ?_
  obtain ⟨t', hW', hv⟩ := lk_two hck hC.2.2.2 hW p1 p2
  refine lv_icmp_eq (tgt := lk_E) hx hb d5 (by omega) (fun _ => kk w2 H locs ls t' hP hD hS hW' (lk_Vk hC.2.2.2 (lk_a2 hkz).2 p2.2.2 (lk_Vk hC.2.2.2 (lk_a2 hkz).1 p1.2.2 hZ)) hl) (fun hne => ?_)
  have h9 := hv rfl
  cases h9
  exact absurd rfl hne
end LK
