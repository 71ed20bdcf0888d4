/-! ===== calls of the law by which the men of the class are known besides ===== -/
section LKN
variable {p : Program} {l : Launch} {e : Env} {s : State} {m : MethodId} {below : List Frame} {meth : Method} {c : Code} {Q : State → Prop} {b L : Nat} {xs : Nat → Int32} {D : va_G} {k : Nat → ClassId} {az : Nat → Nat} {al sw : Nat} {Sg : Nat → Option Nat} {th : Nat → Nat} {cells slots pc : Nat} {i : Int32}
theorem lk_caseN (C0 : lw_At p s m meth c b L xs) (hC : lh_C s D k az al sw Sg th) (hL : L ≤ 3072) (h0 : 0 ≤ i.toInt) (h6 : i.toInt + 6 ≤ (L : Int)) {n i1 i2 maxL : Nat} {M1 M2 : zf_M} {szd : Bool} {y : MethodName} {wsY : List Cond} {rm : Room} {bytes : ByteArray} {ret : Option FieldType} (hn : n ≤ 5) (hd : lk_dk (lk_caseI pc n i1 i2) = true) (hck : lk_ck n szd false M1 M2 = true) (hkz : (lk_ku M1 && lk_kv M2) = true)
    (hM1 : zf_Con l y wsY rm D k (zEx s.heap.size az al sw) zGT 37 M1) (cw : CallW room_1 s #[Value.ref b] RL RX12 i1 y bytes maxL ret wsY rm 0 0 n) (hcs : cells + 0 ≤ room_1.cells ∧ slots + 0 ≤ room_1.slots)
    (hN : ∀ (ws : va_W) (sz : Nat) (tw nm : Nat → Nat) (nsv k0 k1 : List (List Int32)) (f9 s9 : Nat), zf_typ Sg k zGT ws → nu_C Sg th tw nm ws nsv k0 k1 f9 s9 → Met l y wsY rm (va_Pc (((lk_vs xs i 1 n).map Value.int).reverse ++ [Value.ref (th 0)]).reverse (g_pr D k (zEx s.heap.size az al sw Sg ws) sz ws)) (zf_Q (fun _ t => nu_Q D k Sg th tw nm nsv k0 k1 (va_A ws sz) t) (va_A ws sz)) 0 0 (va_A ws sz))
    (h2 : lk_CR p l e s m below meth c Q b D k Sg th cells slots i2 M2)
    (kk : lk_K p l e s m below meth c Q b D k Sg th cells slots i lk_E) : lk_K p l e s m below meth c Q b D k Sg th cells slots i pc := by
  intro ws H locs ls t hP hD hS hW hZ hl
  obtain ⟨hx, hb, hr, hml, hown, hts, hX, hbl, hlocks, hgv, hfit⟩ := id C0
  have hsing := hC.2.2.2
  have hone := hC.2.2.1
  obtain ⟨c1, c2, c3, c5, c8, c9⟩ := lk_mid hck
  simp only [lk_dk, lk_caseI, List.all_cons, List.all_append, List.all_nil, Bool.and_eq_true, decide_eq_true_eq] at hd
  obtain ⟨d0, a1, d1, d2, d3, a2, d4, d5, d6, -⟩ := hd
  obtain ⟨z1, z2, nsv, k0, k1, o1, o2, o3, ⟨tw, nm, f9, s9, hNC⟩, hrC⟩ := id hZ
  refine lv_aload_n hx hb d0 rfl (lv_at hl 3 rfl) ?_
  refine lk_args C0 hL h0 h6 hS hl n (pc + 1) 1 _ a1 (by omega) ?_
  have hM := hM1 Sg ws (lk_as (lk_vs xs i 1 n) t) th (((lk_vs xs i 1 n).map Value.int).reverse ++ [Value.ref (th 0)]) H.size hone hsing hW.1 (lk_pre hD hW.1 hsing hW.2.2.2 c1 rfl hW.2.1 (lk_vs_len xs i n 1))
  refine lk_both (as := lk_vs xs i 1 n) (t := t) (M := M1) (g := 0) (ci := 10) (rest := []) C0 hC hM (hN ws H.size tw nm nsv k0 k1 f9 s9 hW.1 hNC) cw hcs rfl rfl (by decide +kernel) (by decide) c8 (lk_vs_len xs i n 1) hP hD hS hW.1 hl d1 (Nat.zero_le _) (fun x1 w1 H locs st hst hDv p1 hb2 hP hD hS => ?_)
  obtain ⟨wn, n1, n2, n3, f7, s7, n4⟩ := hb2
  rw [hst] at n1
  have hN1 := nu_mv hsing hP n1 hDv n2 p1.2.1 n3 n4
  have hku := (lk_a2 hkz).1
  unfold lk_ku at hku
  rw [Bool.and_eq_true, Bool.and_eq_true] at hku
  have hV1 : lk_V Sg th w1 := ⟨lk_Bk hsing hku.1.1 p1.2.2 z1, lk_Zk hsing hku.1.2 p1.2.2 z2, nsv, k0, k1, o1, o2, o3, ⟨tw, nm, f7, s7, hN1⟩, nr_Cf o1.1 o2.1 o3.1 hsing hku.2 p1.2.2 hrC⟩
  refine lk_at (pc' := pc + 4 + 6 * n) (by omega) ?_
  refine lv_pop hx hb d2 rfl ?_
  refine lk_at (pc' := pc + 5 + 6 * n) (by omega) ?_
  refine lv_aload_n hx hb d3 rfl (lv_at hl 2 rfl) ?_
  refine lk_at (pc' := pc + 6 + 6 * n) (by omega) ?_
  refine lk_args C0 hL h0 h6 hS hl n (pc + 6 + 6 * n) 1 _ a2 (by omega) ?_
  refine lk_at (pc' := pc + 6 + 12 * n) (by omega) ?_
  refine lk_call hC h2 c2 rfl c9 (lk_vs_len xs i n 1) hP hD hS p1.2.1 (lk_flag c3 hW.2.2.2 p1) (lk_kp_ok c5 p1.2.2 (hsing 18 (by decide) (by decide)) (show (2 : Int) ≤ 2 by decide) (show (2 : Int) ≤ 2 by decide) hW.2.2.1) hl d4 (Nat.zero_le _) (fun x2 w2 H locs p2 hP hD hS => ?_)
  refine lk_at (pc' := pc + 9 + 12 * n) (by omega) ?_
  refine lv_pop hx hb d5 rfl ?_
  refine lk_at (pc' := pc + 10 + 12 * n) (by omega) ?_
  refine lv_goto (tgt := lk_E) hx hb d6 (by omega) ?_
  obtain ⟨t', hW', -⟩ := lk_two hck hsing hW p1 p2
  exact kk w2 H locs ls t' hP hD hS hW' (lk_Vk hsing (lk_a2 hkz).2 p2.2.2 hV1) hl
end LKN
