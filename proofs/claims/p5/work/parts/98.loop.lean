/-! ===== the law's loop ===== -/
def R_law : String := "RungMoneyLaw"
def lw_P (b : Addr) (xs : List Int32) (args : Array Value) (s : State) : Prop := args = #[.ref b] ∧ s.IntsAt b xs ∧ xs.length ≤ 3072 ∧ (Jvm.Cond.and given_1 narrow_1).before args s = true ∧ heapFits s = true
def lw_Q (_ : Array Value) (s : State) (o : Outcome) (t : State) : Prop := o = .returned (some (.int 1)) ∧ Framed s o t [] 601024 7293034
def lw_Z (below : List Frame) (a : Array Value) (s : State) : State → Prop := fun t => ∃ o, t.status = .running ∧ Ended t below o ∧ lw_Q a s o t
theorem lw_ret {p : Program} {l : Launch} {e : Env} {s : State} {m : MethodId} {below : List Frame} {meth : Method} {c : Code} {b : Nat} (hx : p.tables.exec = Jvm.exec) (hb : c.code = code) (hr : meth.sig.returnType = ret) (hlocks : meth.locks = false) {pc : Nat} {H : Heap} {ls : Array Slot} (hdg : decode code pc = .ok (.ireturn, 1)) : W p l e room_1 s m #[Value.ref b] below meth c H [] 601024 7293034 (lw_Z below #[Value.ref b] s) (F0 m pc ls [.int 1]) := by
  intro T hT X
  obtain ⟨fs, hret, hrun, hended, hW, hframe⟩ := X.leave (v := some (.int 1)) (hlocks := hlocks) (fun h => by rw [hr] at h; cases h)
  have hmeth' : T.vm.method? m = some meth := X.method'
  refine ⟨T.setFrames fs, ?_, .returned (some (.int 1)), hrun, hended, rfl, ⟨_, rfl⟩, hW, hframe⟩
  jvm_step X.here [X.here.top, hx, hb, hdg, hmeth', hr, ret, narrow_b1]
  (try refine ⟨rfl, ?_⟩); (try refine ⟨rfl, ?_⟩)
  first | (intro acts; rw [hret _ acts rfl rfl rfl]) | rw [hret _ _ rfl rfl rfl]
  exact Steps.refl _
theorem dL_law_23 : decode code 23 = .ok (.iload 4, 2) := by decide +kernel
theorem dL_law_25 : decode code 25 = .ok (.aload_n 0, 1) := by decide +kernel
theorem dL_law_26 : decode code 26 = .ok (.arraylength, 1) := by decide +kernel
theorem dL_law_27 : decode code 27 = .ok (.bipush 6, 2) := by decide +kernel
theorem dL_law_29 : decode code 29 = .ok (.isub, 1) := by decide +kernel
theorem dL_law_30 : decode code 30 = .ok (.if_icmp .gt 1360, 3) := by decide +kernel
theorem dL_law_33 : decode code 33 = .ok (.aload_n 0, 1) := by decide +kernel
theorem dL_law_34 : decode code 34 = .ok (.iload 4, 2) := by decide +kernel
theorem dL_law_36 : decode code 36 = .ok (.iaload, 1) := by decide +kernel
theorem dL_law_37 : decode code 37 = .ok (.bipush 63, 2) := by decide +kernel
theorem dL_law_39 : decode code 39 = .ok (.iand, 1) := by decide +kernel
theorem dL_law_40 : decode code 40 = .ok (.tableswitch 1344 0 42 #[188, 261, 286, 299, 312, 352, 389, 426, 463, 488, 537, 574, 611, 648, 673, 710, 723, 748, 761, 774, 811, 824, 837, 862, 875, 915, 928, 965, 978, 991, 1004, 1017, 1030, 1058, 1083, 1120, 1181, 1206, 1231, 1244, 1269, 1294, 1319], 188) := by decide +kernel
theorem dL_law_1384 : decode code 1384 = .ok (.iinc 4 6, 3) := by decide +kernel
theorem dL_law_1387 : decode code 1387 = .ok (.goto (-1364), 3) := by decide +kernel
theorem dL_law_1390 : decode code 1390 = .ok (.iconst 1, 1) := by decide +kernel
theorem dL_law_1391 : decode code 1391 = .ok (.ireturn, 1) := by decide +kernel
theorem lk_sw : ∀ j, j < 43 → ∃ t ∈ lk_T, (#[188, 261, 286, 299, 312, 352, 389, 426, 463, 488, 537, 574, 611, 648, 673, 710, 723, 748, 761, 774, 811, 824, 837, 862, 875, 915, 928, 965, 978, 991, 1004, 1017, 1030, 1058, 1083, 1120, 1181, 1206, 1231, 1244, 1269, 1294, 1319] : Array Int)[j]? = some ((t : Int) - 40) := by decide +kernel
section LKL
variable {p : Program} {l : Launch} {e : Env} {s : State} {m : MethodId} {below : List Frame} {meth : Method} {c : Code} {Q : State → Prop} {b L : Nat} {xs : Nat → Int32} {D : va_G} {k : Nat → ClassId} {az : Nat → Nat} {al sw : Nat} {Sg : Nat → Option Nat} {th : Nat → Nat} {cells slots : Nat} {i : Int32}
theorem lk_inc (C0 : lw_At p s m meth c b L xs) {cs sl : Nat} (kk : lk_K p l e s m below meth c Q b D k Sg th cs sl (i + Int32.ofInt 6) 23) (h1 : cells ≤ cs) (h2 : slots ≤ sl) : lk_K p l e s m below meth c Q b D k Sg th cells slots i lk_E := by
  intro ws H locs ls t hP hD hS hW hZ hl
  obtain ⟨hx, hb, hr, hml, hown, hts, hX, hbl, hlocks, hgv, hfit⟩ := C0
  refine lv_iinc (v := i + Int32.ofInt 6) (lv' := lk_lv th b (i + Int32.ofInt 6)) hx hb dL_law_1384 hl (k := 0) rfl rfl (by decide) rfl (fun ls hl => ?_)
  refine lv_goto (tgt := 23) hx hb dL_law_1387 (by decide) ?_
  exact W.widen h1 h2 (kk ws H locs ls t hP hD hS hW hZ hl)
/-- the head: out, or into a case -/
theorem lk_top (hlt : l.stackTraces = false) (C0 : lw_At p s m meth c b L xs) (hC : lh_C s D k az al sw Sg th) (hL : L ≤ 3072) (h0 : 0 ≤ i.toInt) (hcs : cells + 1 ≤ 601024 ∧ slots + 6 ≤ 7293034)
    (k0 : i.toInt + 6 ≤ (L : Int) → lk_K p l e s m below meth c (lw_Z below #[Value.ref b] s) b D k Sg th cells slots i lk_E) (k1 : i.toInt + 6 ≤ (L : Int) → lk_K p l e s m below meth c (lw_Z below #[Value.ref b] s) b D k Sg th (cells + 1) (slots + 6) i lk_E) : lk_K p l e s m below meth c (lw_Z below #[Value.ref b] s) b D k Sg th cells slots i 23 := by
  intro ws H locs ls t hP hD hS hW hZ hl
  obtain ⟨hx, hb, hr, hml, hown, hts, hX, hbl, hlocks, hgv, hfit⟩ := id C0
  have hbA : ¬ lk_A s b := Nat.not_le.mpr hbl
  have eL : (Int32.ofNat L).toInt = (L : Int) := nI_toInt (by omega)
  have e6 : (Int32.ofNat L - 6).toInt = (L : Int) - 6 := by
    have : (6 : Int32).toInt = 6 := by decide
    rw [Kit.i32_sub (by omega) (by omega), eL, this]
  refine lv_iload hx hb dL_law_23 (lv_at hl 0 rfl) ?_
  refine lv_aload_n hx hb dL_law_25 rfl (lv_at hl 4 rfl) ?_
  refine va_slen hx hb hX hbl hbA hS dL_law_26 ?_
  refine lv_bipush (v := 6) hx hb dL_law_27 (by decide) ?_
  refine lv_isub hx hb dL_law_29 ?_
  refine lv_icmp_gt (tgt := 1390) hx hb dL_law_30 (by decide) (fun _ => ?_) (fun h9 => ?_)
  · refine lv_iconst (v := 1) hx hb dL_law_1390 (by decide) ?_
    refine va_forget (fun q hq => hS.2.2 q hq) ?_
    refine W.widen (k := 601024) (n := 7293034) (by omega) (by omega) ?_
    exact lw_ret hx hb hr hlocks dL_law_1391
  · have h6 : i.toInt + 6 ≤ (L : Int) := by
      have : ¬ ((Int32.ofNat L - 6).toInt < i.toInt) := fun q => h9 (Int32.lt_iff_toInt_lt.mpr q)
      omega
    obtain ⟨n1, -⟩ := zi_in (i := i) (n := L) h0 (by omega)
    refine lv_aload_n hx hb dL_law_33 rfl (lv_at hl 4 rfl) ?_
    refine lv_iload hx hb dL_law_34 (lv_at hl 0 rfl) ?_
    refine va_sld hx hb hX hbl hbA hS n1 dL_law_36 ?_
    refine lv_bipush (v := 63) hx hb dL_law_37 (by decide) ?_
    refine lv_iand hx hb dL_law_39 ?_
    refine lv_topi (fun v _ => ?_)
    have hK := ks_all hlt C0 hC hL h0 h6 hcs (k0 h6) (k1 h6)
    by_cases hv : v.toInt < 0 ∨ 42 < v.toInt
    · exact lv_tableOut (tgt := lk_E) hx hb dL_law_40 hv (by decide) (k0 h6 ws H locs ls t hP hD hS hW hZ hl)
    · obtain ⟨t9, ht9, ho⟩ := lk_sw (v.toInt - 0).toNat (by omega)
      exact lv_tableIn (tgt := t9) hx hb dL_law_40 (fun q => hv (Or.inl q)) (fun q => hv (Or.inr q)) ho (by omega) (hK t9 ht9 ws H locs ls t hP hD hS hW hZ hl)
theorem lk_loop (hlt : l.stackTraces = false) (C0 : lw_At p s m meth c b L xs) (hC : lh_C s D k az al sw Sg th) (hL : L ≤ 3072) : ∀ (N I : Nat) (i : Int32), i.toInt = (I : Int) → L < I + N → I ≤ 3072 → lk_K p l e s m below meth c (lw_Z below #[Value.ref b] s) b D k Sg th (213 + I) (13817 + 6 * I) i 23 := by
  intro N
  induction N with
  | zero =>
    intro I i hi hN hI
    exact lk_top hlt C0 hC hL (by omega) ⟨by omega, by omega⟩ (fun h => by omega) (fun h => by omega)
  | succ N ih =>
    intro I i hi hN hI
    have go : i.toInt + 6 ≤ (L : Int) → lk_K p l e s m below meth c (lw_Z below #[Value.ref b] s) b D k Sg th (213 + (I + 6)) (13817 + 6 * (I + 6)) (i + Int32.ofInt 6) 23 := by
      intro h6
      refine ih (I + 6) (i + Int32.ofInt 6) ?_ (by omega) (by omega)
      have : (Int32.ofInt 6).toInt = 6 := by decide
      rw [Kit.i32_add (by omega) (by omega), this, hi]
      omega
    exact lk_top hlt C0 hC hL (by omega) ⟨by omega, by omega⟩ (fun h => lk_inc C0 (go h) (by omega) (by omega)) (fun h => lk_inc C0 (go h) (by omega) (by omega))
end LKL
