/-! ===== the three calls through the law's own methods ===== -/
theorem zg_T {own C : String} {idx : Nat} {y : MethodName} {c : ByteArray} {n : Nat} {r : Option FieldType} (h1 : Cond.methodLink own idx y ∈ lw_tbl) (h2 : Cond.instanceMethod y ∈ lw_tbl) (h3 : Cond.selects C y y ∈ lw_tbl) (h4 : Cond.initialized C ∈ lw_tbl) (hc : Cond.code y c n r ∈ lw_tbl) : GoodIn lw_tbl (wsV own idx C y (zw y c n r)) := fun w hw =>
  ⟨(List.mem_cons.mp (zg_L (k := Cond.initialized C) h1 h2 h3 h4 hc w hw).1).elim (fun e => e ▸ h4) lw_up, (zg_L (k := Cond.initialized C) h1 h2 h3 h4 hc w hw).2⟩
theorem zg_TS {own : String} {idx : Nat} {y : MethodName} {c : ByteArray} {n : Nat} {hh : List (Nat × Nat × Nat × Nat)} (h1 : Cond.methodLink own idx y ∈ lw_tbl) (h2 : Cond.static y ∈ lw_tbl) (h3 : Cond.initialized y.cls ∈ lw_tbl) (hc : Cond.codeWith y c n (some .int) hh ∈ lw_tbl) : GoodIn lw_tbl (va_wsS own idx y (zwL y c n hh)) := by
  have q : GoodIn (Cond.initialized y.cls :: lw_g) (([.methodLink own idx y, .static y, .initialized y.cls] : List Cond) ++ (Cond.codeWith y c n (some .int) hh :: lw_g)) :=
    zg_all (List.forall_mem_cons.mpr ⟨List.mem_filter.mpr ⟨h1, rfl⟩, List.forall_mem_cons.mpr ⟨List.mem_filter.mpr ⟨h2, rfl⟩, List.forall_mem_cons.mpr ⟨List.mem_filter.mpr ⟨h3, rfl⟩, fun _ h => by cases h⟩⟩⟩) (List.mem_filter.mpr ⟨hc, rfl⟩)
  exact fun w hw => ⟨(List.mem_cons.mp (q w hw).1).elim (fun e => e ▸ h3) lw_up, (q w hw).2⟩
def lk_entW (M : zf_M) (n : Nat) : Bool := decide (M.1.1 = List.replicate n lk_full) && M.1.2.1.isEmpty && decide (M.1.2.2.2.2.1 = .inr (some (36, 36)) :: lk_st n 0) && M.1.2.2.2.2.2.isEmpty
def lk_ckW (n : Nat) (M1 M2 : zf_M) : Bool := lk_entW M1 n && lk_ent M2 n 18 && lk_js.all (lk_fk M1) && lk_js.all (lk_fk M2) && lk_kp M1 18 ([], 2) ([], 2) && lk_kp M1 1 ([], 1) ([], 1) && lk_kp M2 1 ([], 1) ([], 1) && lk_kp M2 18 ([], 2) ([], 2) && zf_tyo (some .int) M1 && zf_tyo (some .int) M2
def lk_wrapI (pc n i1 i2 : Nat) : List (Nat × Instr × Nat) := (pc, .aload_n 1, 1) :: (lk_argsI (pc + 1) 1 n ++ ((pc + 1 + 6 * n, .aload_n 3, 1) :: (pc + 2 + 6 * n, .invokestatic i1, 3) :: (pc + 5 + 6 * n, .istore 5, 2) :: (pc + 7 + 6 * n, .aload_n 2, 1) :: (lk_argsI (pc + 8 + 6 * n) 1 n ++ [(pc + 8 + 12 * n, .invokevirtual i2, 3), (pc + 11 + 12 * n, .istore 6, 2), (pc + 13 + 12 * n, .goto ((lk_E : Int) - ((pc + 13 + 12 * n : Nat) : Int)), 3)])))
section LKW
variable {p : Program} {l : Launch} {e : Env} {s : State} {m : MethodId} {below : List Frame} {meth : Method} {c : Code} {Q : State → Prop} {b L : Nat} {xs : Nat → Int32} {D : va_G} {k : Nat → ClassId} {az : Nat → Nat} {al sw : Nat} {Sg : Nat → Option Nat} {th : Nat → Nat} {cells slots pc : Nat} {i : Int32} {H : Heap} {locs : List Loc} {ls : Array Slot}
theorem lk_zT (C0 : lw_At p s m meth c b L xs) : zT s.heap.size s := by
  obtain ⟨hx, hb, hr, hml, hown, hts, hX, hbl, hlocks, hgv, hfit⟩ := C0
  obtain ⟨ad, al, hE, -⟩ := law_env hts hgv
  exact ⟨⟨hE.1.2.1.2.2.2.2.1, hE.1.2.1.2.2.2.2.2⟩, hE.1.2.2.1.2.2.2, law_dw hts⟩
theorem lk_wcall (C0 : lw_At p s m meth c b L xs) (hC : lh_C s D k az al sw Sg th) {n i1 maxL : Nat} {y : MethodName} {bytes : ByteArray} {hh : List (Nat × Nat × Nat × Nat)} {wsY : List Cond} {rm : Room} {M : zf_M} {as : List Int32} {t : Int32} {ws : va_W} (hM : zl_Con l y wsY rm D k (zTx s.heap.size az al sw) zGT 37 M) (cw : vx_CSW room_1 s #[Value.ref b] RL i1 y bytes maxL (some .int) hh wsY rm 1 6 (n + 2)) (hf : cells + 1 ≤ 601024 ∧ slots + 6 ≤ 7293034) (he : lk_entW M n = true) (hty : zf_tyo (some .int) M = true) (hn : as.length = n) (hP : va_P D vwCl ws H) (hD : va_D (lk_A s) ws) (hS : va_S (lk_A s) s.heap H locs) (ht : zf_typ Sg k zGT ws) (hl : lv_has ls 7 (lk_lv th b i)) (hdg : decode code pc = .ok (.invokestatic i1, 3))
    (kk : ∀ (x : Int32) (ws' : va_W) (H1 : Heap) (locs1 : List Loc), zf_post Sg k zGT (lk_as as t) th M ws (some (.int x)) ws' → va_P D vwCl ws' H1 → va_D (lk_A s) ws' → va_S (lk_A s) s.heap H1 locs1 → W p l e room_1 s m #[Value.ref b] below meth c H1 locs1 (cells + 1) (slots + 6) Q (F0 m (pc + 3) ls [.int x])) :
    W p l e room_1 s m #[Value.ref b] below meth c H locs cells slots Q (F0 m pc ls (.ref (th 36) :: ((as.map Value.int).reverse ++ [.ref (th 0)]))) := by
  have hT := lk_zT C0
  obtain ⟨hx, hb, hr, hml, hown, hts, hX, hbl, hlocks, hgv, hfit⟩ := C0
  have hEx := zTx_ok s.heap.size az al sw
  have hE : zTx s.heap.size az al sw Sg [] s := ⟨hC.2.1, hT⟩
  obtain ⟨hK, -, hone, hsing⟩ := hC
  unfold lk_entW at he
  simp only [Bool.and_eq_true, decide_eq_true_eq] at he
  obtain ⟨⟨⟨c1, c2⟩, c4⟩, c5⟩ := he
  have hpre : zf_pre Sg (lk_as as t) th M (.ref (th 36) :: ((as.map Value.int).reverse ++ [.ref (th 0)])) ws := by
    refine ⟨?_, ?_, ?_, ?_⟩
    · rw [c1]; exact lk_okE1 n _ (lk_rng as t)
    · intro f hf
      rw [List.isEmpty_iff.mp c2] at hf
      cases hf
    · rw [c4]
      refine ⟨⟨rfl, hsing 36 (by decide) (by decide)⟩, ?_⟩
      unfold lk_st
      refine zf_f2_app (zf_f2_rev ?_) ⟨⟨rfl, hsing 0 (by decide) (by decide)⟩, trivial⟩
      rw [← hn]
      exact lk_f2 _ as 0 (fun j x hx => by rw [Nat.zero_add]; exact lk_at_a as t hx)
    · intro h hh
      rw [List.isEmpty_iff.mp c5] at hh
      cases hh
  have hMet := hM Sg ws (lk_as as t) th _ H.size hone hsing ht hpre
  have hAB : ∀ q, lk_A s q → s.heap.size ≤ q := fun _ h => h
  have hA : ∀ q, s.heap.size ≤ q → lk_A s q := fun _ h => h
  have hrun := vx_runSW (rest := []) (locs := locs) (e := e) (below := below) (meth := meth) (cells := cells) (slots := slots) (Ts := lw_tbl) ⟨hx, hb, hml, hown, hts⟩ hMet cw ⟨zf_blind (hEx.1 Sg ws), zf_pass hEx hE hAB hK hP hD hS⟩ (g := F0 m pc ls (.ref (th 36) :: ((as.map Value.int).reverse ++ [.ref (th 0)]))) rfl (by simp [hn]) hl.1 (by rw [List.reverse_reverse, List.append_nil]) (lv_room (rest := []) (ls := ls) (pc := pc) (m := m) (Nat.zero_le _)) hdg hf
  have hFc := va_free hD hS hA (List.range ws.length) (zf_whole ws)
  refine zf_callg hrun hS (fun q _ h => hFc q h) hFc (fun v t1 H1 locs1 ht1 hvm hB hz hk1 hS1 => ?_)
  obtain ⟨ws', z1, z2, z3, z4⟩ := hB
  rw [ht1] at z1
  obtain ⟨hP1, hD1⟩ := zf_back hP hD hS hA hk1 z1 z3
  obtain ⟨x, rfl⟩ := lk_ans hty z4
  exact kk x ws' H1 locs1 z4 hP1 hD1 hS1
theorem lk_wrap (C0 : lw_At p s m meth c b L xs) (hC : lh_C s D k az al sw Sg th) (hL : L ≤ 3072) (h0 : 0 ≤ i.toInt) (h6 : i.toInt + 6 ≤ (L : Int)) {n i1 i2 maxL : Nat} {y : MethodName} {bytes : ByteArray} {hh : List (Nat × Nat × Nat × Nat)} {wsY : List Cond} {rm : Room} {M1 M2 : zf_M} (hn : n ≤ 5) (hd : lk_dk (lk_wrapI pc n i1 i2) = true) (hck : lk_ckW n M1 M2 = true) (hkz : (lk_kv M1 && lk_kv M2) = true) (hM : zl_Con l y wsY rm D k (zTx s.heap.size az al sw) zGT 37 M1) (cw : vx_CSW room_1 s #[Value.ref b] RL i1 y bytes maxL (some .int) hh wsY rm 1 6 (n + 2)) (hf : cells + 1 ≤ 601024 ∧ slots + 6 ≤ 7293034) (h2 : lk_CR p l e s m below meth c Q b D k Sg th (cells + 1) (slots + 6) i2 M2)
    (kk : lk_K p l e s m below meth c Q b D k Sg th (cells + 1) (slots + 6) i lk_E) : lk_K p l e s m below meth c Q b D k Sg th cells slots i pc := by
  intro ws H locs ls t hP hD hS hW hZ hl
  obtain ⟨hx, hb, hr, hml, hown, hts, hX, hbl, hlocks, hgv, hfit⟩ := id C0
  unfold lk_ckW at hck
  simp only [Bool.and_eq_true] at hck
  obtain ⟨⟨⟨⟨⟨⟨⟨⟨⟨c1, c2⟩, c3⟩, c4⟩, c5⟩, c6⟩, c7⟩, c8⟩, c9⟩, c10⟩ := hck
  simp only [lk_dk, lk_wrapI, List.all_cons, List.all_append, List.all_nil, Bool.and_eq_true, decide_eq_true_eq] at hd
  obtain ⟨d0, a1, d1, d2, d3, d4, a2, d5, d6, d7, -⟩ := hd
  have s1 : Sg (th 1) = some 1 := hC.2.2.2 1 (by decide) (by decide)
  have s18 : Sg (th 18) = some 18 := hC.2.2.2 18 (by decide) (by decide)
  refine lv_aload_n hx hb d0 rfl (lv_at hl 3 rfl) ?_
  refine lk_args C0 hL h0 h6 hS hl n (pc + 1) 1 _ a1 (by omega) ?_
  refine lv_aload_n hx hb d1 rfl (lv_at hl 1 rfl) ?_
  refine lk_at (pc' := pc + 2 + 6 * n) (by omega) ?_
  refine lk_wcall (t := t) C0 hC hM cw hf c1 c9 (lk_vs_len xs i n 1) hP hD hS hW.1 hl d2 (fun x1 w1 H locs p1 hP hD hS => ?_)
  refine lk_at (pc' := pc + 5 + 6 * n) (by omega) ?_
  refine lv_istore (lv' := (5, .int x1) :: lk_lv th b i) hx hb d3 hl (by decide) rfl (fun ls hl => ?_)
  have hl : lv_has ls 7 (lk_lv th b i) := lv_sub hl [1, 2, 3, 4, 5] rfl
  refine lk_at (pc' := pc + 7 + 6 * n) (by omega) ?_
  refine lv_aload_n hx hb d4 rfl (lv_at hl 2 rfl) ?_
  refine lk_at (pc' := pc + 8 + 6 * n) (by omega) ?_
  refine lk_args C0 hL h0 h6 hS hl n (pc + 8 + 6 * n) 1 _ a2 (by omega) ?_
  refine lk_at (pc' := pc + 8 + 12 * n) (by omega) ?_
  have hF1 := lk_flag c3 hW.2.2.2 p1
  have r18 := lk_kp_ok c5 p1.2.2 s18 (show (2 : Int) ≤ 2 by decide) (show (2 : Int) ≤ 2 by decide) hW.2.2.1
  refine lk_call hC h2 c2 rfl c10 (lk_vs_len xs i n 1) hP hD hS p1.2.1 hF1 r18 hl d5 (Nat.zero_le _) (fun x2 w2 H locs p2 hP hD hS => ?_)
  refine lk_at (pc' := pc + 11 + 12 * n) (by omega) ?_
  refine lv_istore (lv' := (6, .int x2) :: lk_lv th b i) hx hb d6 hl (by decide) rfl (fun ls hl => ?_)
  have hl : lv_has ls 7 (lk_lv th b i) := lv_sub hl [1, 2, 3, 4, 5] rfl
  refine lk_at (pc' := pc + 13 + 12 * n) (by omega) ?_
  refine lv_goto (tgt := lk_E) hx hb d7 (by omega) ?_
  refine kk w2 H locs ls t hP hD hS ⟨p2.2.1, ?_, ?_, lk_flag c4 hF1 p2⟩ (lk_Vk hC.2.2.2 (lk_a2 hkz).2 p2.2.2 (lk_Vk hC.2.2.2 (lk_a2 hkz).1 p1.2.2 hZ)) hl
  · exact lk_kp_ok c7 p2.2.2 s1 (show (1 : Int) ≤ 1 by decide) (show (1 : Int) ≤ 1 by decide) (lk_kp_ok c6 p1.2.2 s1 (show (1 : Int) ≤ 1 by decide) (show (1 : Int) ≤ 1 by decide) hW.2.1)
  · exact lk_kp_ok c8 p2.2.2 s18 (show (2 : Int) ≤ 2 by decide) (show (2 : Int) ≤ 2 by decide) r18
end LKW
