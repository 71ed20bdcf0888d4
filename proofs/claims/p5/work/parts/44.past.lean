set_option maxRecDepth 20000 in
theorem ggX5_init_X10_init : GoodIn wsX5_init wsX10_init := goodIn_r _ [9, 10, 2, 3, 11, 12, 13, 14, 15, 16, 17, 18, 19, 20, 21, 22, 23, 24, 25, 26, 27, 28, 29, 30, 31, 32, 33, 34, 35, 36, 40, 41, 42, 43, 44, 45, 46, 47, 48, 49, 50, 51, 52, 53, 54, 55, 56] (by decide +kernel) (by decide +kernel)
theorem dX5_init_0 : decode cX5_init 0 = .ok (.aload_n 0, 1) := by decide +kernel
theorem dX5_init_1 : decode cX5_init 1 = .ok (.invokespecial 3, 3) := by decide +kernel
theorem dX5_init_4 : decode cX5_init 4 = .ok (.aload_n 0, 1) := by decide +kernel
theorem dX5_init_5 : decode cX5_init 5 = .ok (.bipush 9, 2) := by decide +kernel
theorem dX5_init_7 : decode cX5_init 7 = .ok (.anewarray 9, 3) := by decide +kernel
theorem dX5_init_10 : decode cX5_init 10 = .ok (.putfield 11, 3) := by decide +kernel
theorem dX5_init_13 : decode cX5_init 13 = .ok (.iconst 0, 1) := by decide +kernel
theorem dX5_init_14 : decode cX5_init 14 = .ok (.istore_n 1, 1) := by decide +kernel
theorem dX5_init_15 : decode cX5_init 15 = .ok (.iload_n 1, 1) := by decide +kernel
theorem dX5_init_16 : decode cX5_init 16 = .ok (.bipush 9, 2) := by decide +kernel
theorem dX5_init_18 : decode cX5_init 18 = .ok (.if_icmp .ge 22, 3) := by decide +kernel
theorem dX5_init_21 : decode cX5_init 21 = .ok (.aload_n 0, 1) := by decide +kernel
theorem dX5_init_22 : decode cX5_init 22 = .ok (.getfield 11, 3) := by decide +kernel
theorem dX5_init_25 : decode cX5_init 25 = .ok (.iload_n 1, 1) := by decide +kernel
theorem dX5_init_26 : decode cX5_init 26 = .ok (.new 9, 3) := by decide +kernel
theorem dX5_init_29 : decode cX5_init 29 = .ok (.dup, 1) := by decide +kernel
theorem dX5_init_30 : decode cX5_init 30 = .ok (.invokespecial 15, 3) := by decide +kernel
theorem dX5_init_33 : decode cX5_init 33 = .ok (.aastore, 1) := by decide +kernel
theorem dX5_init_34 : decode cX5_init 34 = .ok (.iinc 1 1, 3) := by decide +kernel
theorem dX5_init_37 : decode cX5_init 37 = .ok (.goto (-22), 3) := by decide +kernel
theorem dX5_init_40 : decode cX5_init 40 = .ok (.return_, 1) := by decide +kernel
theorem inX5_init_X5 : ∀ w ∈ wsX50, w ∈ wsX5_init := by decide +kernel
theorem inX5_init_X10 : ∀ w ∈ wsX100, w ∈ wsX5_init := by decide +kernel
theorem zc_gX {B0 : Nat} {ad : Nat → Nat} {al : Nat} {w0 wr wc : va_W} {s : State} {H : Heap} {locs : List Loc} {A : Nat → Prop} (hE : gX B0 ad al w0 s) (hAB : ∀ q, A q → B0 ≤ q) (hS : va_S A s.heap H locs) (hD : va_D A (wr ++ wc)) :
    ∀ U : State, U.heap = H → s.WarmedH U.vm → gX B0 ad al wc U := by
  intro U hU hW
  refine ⟨⟨by rw [hU]; exact Nat.le_trans hE.1.1 hS.1, ?_, gEw_warm hW hE.1.2.2⟩, ?_⟩
  · rw [hU]
    exact gEh_moved hW.alike (gEh_kept hE.1.2.1 (fun a h1 h2 => hS.2.1 a h1 (fun z => h2 (hAB a z))))
  · intro c hc
    obtain ⟨j, hj, e⟩ := List.getElem_of_mem hc
    exact hAB _ (hD.2 (wr.length + j) c (by rw [List.getElem?_append_right (by omega), show wr.length + j - wr.length = j by omega, List.getElem?_eq_getElem hj, e]))
theorem zc_Cv_of {l : Launch} {y : MethodName} {wsY : List Cond} {rm : Room} {D : va_G} {k : Nat → ClassId} {E : State → Prop} {av : List Value} {ws : va_W} {w1 : (Nat → Nat) → va_W} {mc ms : Nat} (h : g_Cv l y wsY rm D k E av ws w1 mc ms) : zc_Cv l y wsY rm D k E av ws w1 (fun _ => True) mc ms := h
theorem zc_upr {f : Nat → Option Nat} {i q : Nat} {P : Nat → Prop} (h : ∀ j, j < i → ∃ a, f j = some a ∧ P a) (hq : P q) : ∀ j, j < i + 1 → ∃ a, va_up f i (some q) j = some a ∧ P a := by
  intro j hj
  by_cases e : j = i
  · exact ⟨q, by simp [va_up, e], hq⟩
  · obtain ⟨a, h1, h2⟩ := h j (by omega)
    exact ⟨a, by simp [va_up, e, h1], h2⟩
set_option maxHeartbeats 4000000 in
set_option maxRecDepth 100000 in
theorem zP_init (l : Launch) (D : va_G) (k : Nat → ClassId) (B0 : Nat) (ad : Nat → Nat) (al : Nat) (az : Nat → Nat) (h0 : Nat) : zc_Cv (S := Nat × (Nat → Option Nat) × zc_T) l yX5_init wsX5_init ({ frames := 3, cells := 109, slots := 1368, locals := 52 }) D k (gX B0 ad al [(h0, .inr (3, [.null, .int 0, .int 0]))]) [.ref h0] [(h0, .inr (3, [.null, .int 0, .int 0]))] (fun u => [(h0, .inr (3, [.ref u.1, .int 0, .int 0])), (u.1, .inl (k 4, 9, .inr (.inr (.inr (.inr u.2.1)))))] ++ zc_w u.2.2) (fun u => zc_ok az k u.2.2 ∧ zc_big u.2.2 ∧ ∀ i, i < 9 → ∃ a, u.2.1 i = some a ∧ zc_in az u.2.2 64 a) 109 1368 := by
  intro sz
  refine Met.ofW (cc := cX5_init) (maxL := 2) (ret := none) (by decide) rfl ?_
  intro p e s m args below meth c s₁ B hml hv
  obtain ⟨rfl, hsz, hP, hK, hD0, hE⟩ := hv
  have hx := B.exec
  have hb := B.bytes
  have hr := B.returns
  have hts := atoms_spec (ws := wsX5_init) B.pre
  have hown : s.vm.findClass RX5 = some m.cls := findClass_of_methodNamed B.named
  have hlocks := B.notSynchronized
  have hin : meth.name = "<init>" := (name_of_methodNamed B.named B.method).1
  subst hsz
  have hD := hD0.self (sz := s.heap.size)
  generalize hAe : va_A [(h0, .inr (3, [.null, .int 0, .int 0]))] s.heap.size = A at hD ⊢
  have hA : ∀ q : Nat, s.heap.size ≤ q → A q := fun q h => by rw [← hAe]; exact Or.inr h
  have hS : va_S A s.heap s.heap [] := va_S.rf
  have hP : va_P D vwCl [(h0, .inr (3, [.null, .int 0, .int 0]))] s.heap := hP
  have hl := lv_entry ([.ref h0]) (n := 2) (Nat.le_of_ble_eq_true rfl)
  rw [lg_entry_eq]
  generalize (lg_sl ([.ref h0]) ++ List.replicate (2 - (lg_sl ([.ref h0])).length) Slot.unset).toArray = ls at hl ⊢
  have hl : lv_has ls 2 [(0, .ref h0)] := hl
  have hAB := gX_AB hE hAe
  have hEn := hE.1.2.1.1.narrow hAB
  refine lv_aload_n hx hb dX5_init_0 rfl (lv_at hl 0 rfl) ?_
  refine W.objInit hx hb hown (hts (.methodLink RX5 3 objectInit) (by decide +kernel)) (hts (.instanceMethod objectInit) (by decide +kernel)) (hts (.code objectInit ⟨#[0xb1]⟩ 1 none) (by decide +kernel)) rfl (by rw [hml]; exact hl.1) rfl dX5_init_1 (Nat.le_of_ble_eq_true rfl) (Nat.le_of_ble_eq_true rfl) ?_
  refine W.eq (g2 := F0 m 4 ls []) rfl ?_
  refine lv_aload_n hx hb dX5_init_4 rfl (lv_at hl 0 rfl) ?_
  refine lv_bipush (v := 9) hx hb dX5_init_5 (by decide) ?_
  refine va_newq (C := "RungMoney$Town") hx hb hown (hts (.classLink RX5 9 RX10) (by decide +kernel)) hE.1.2.2.1.1 hK hP hD hS hA (by decide) rfl (by decide) (Nat.le_of_ble_eq_true rfl) (Nat.le_of_ble_eq_true rfl) dX5_init_7 (fun q1 cA2 H hK9 hP hD hS => ?_)
  obtain rfl := g_clsO (cA := k 4) (cB := cA2) (C := "RungMoney$Town") 4 7 hK9 rfl rfl
  have hP : va_P D vwCl [(h0, .inr (3, [.null, .int 0, .int 0])), (q1, .inl (k 4, 9, .inr (.inr (.inr (.inr (fun _ => none))))))] H := hP
  have hD : va_D A [(h0, .inr (3, [.null, .int 0, .int 0])), (q1, .inl (k 4, 9, .inr (.inr (.inr (.inr (fun _ => none))))))] := hD
  refine W.widen (k := 1) (n := 9) (Nat.le_of_ble_eq_true rfl) (Nat.le_of_ble_eq_true rfl) ?_
  refine va_putF (D := D) (ci := 3) (v := .ref q1) (ty := .array (.object "RungMoney$Town")) (C := RX5) (T := TX5) (N := 3) hx hb hts inX5_init_X5 tyX5 tyX5_ok nmX5 hown hK hP hD hS 0 rfl rfl 0 (by decide) (hts (.fieldLink RX5 11 "RungMoney$Past" "ring" "[LRungMoney$Town;") (by decide +kernel)) (fun _ h9 => h9) rfl hin rfl (by decide +kernel) rfl rfl (Nat.le_of_ble_eq_true rfl) dX5_init_10 (fun H locs hP hD hS => ?_)
  have hP : va_P D vwCl [(h0, .inr (3, [.ref q1, .int 0, .int 0])), (q1, .inl (k 4, 9, .inr (.inr (.inr (.inr (fun _ => none))))))] H := hP
  have hD : va_D A [(h0, .inr (3, [.ref q1, .int 0, .int 0])), (q1, .inl (k 4, 9, .inr (.inr (.inr (.inr (fun _ => none))))))] := hD
  refine lv_iconst (v := 0) hx hb dX5_init_13 (by decide) ?_
  refine lv_istore_n (lv' := [(1, .int 0), (0, .ref h0)]) hx hb dX5_init_14 rfl hl (by decide) rfl (fun ls hl => ?_)
  have key : ∀ n i : Nat, i + n = 9 → ∀ (H : Heap) (locs : List Loc) (ls : Array Slot) (f : Nat → Option Nat) (T : zc_T), va_P D vwCl ([(h0, .inr (3, [.ref q1, .int 0, .int 0])), (q1, .inl (k 4, 9, .inr (.inr (.inr (.inr f)))))] ++ zc_w T) H → va_D A ([(h0, .inr (3, [.ref q1, .int 0, .int 0])), (q1, .inl (k 4, 9, .inr (.inr (.inr (.inr f)))))] ++ zc_w T) → va_S A s.heap H locs → lv_has ls 2 [(1, .int (nI i)), (0, .ref h0)] → zc_ok az k T → zc_big T → (∀ j, j < i → ∃ a, f j = some a ∧ zc_in az T 64 a) →
      W p l e ({ frames := 3, cells := 109, slots := 1368, locals := 52 }) s m [.ref h0].toArray below meth c H locs (1 + 12 * i) (9 + 151 * i) (MQ below (va_Qv (fun u : Nat × (Nat → Option Nat) × zc_T => zc_ok az k u.2.2 ∧ zc_big u.2.2 ∧ ∀ i, i < 9 → ∃ a, u.2.1 i = some a ∧ zc_in az u.2.2 64 a) (fun u t => g_po D k A ([(h0, .inr (3, [.ref u.1, .int 0, .int 0])), (u.1, .inl (k 4, 9, .inr (.inr (.inr (.inr u.2.1)))))] ++ zc_w u.2.2) t) A) [.ref h0].toArray s 109 1368 A) (F0 m 15 ls []) := by
    intro n
    induction n with
    | zero =>
      intro i hi H locs ls f T hP hD hS hl hok hbig hf
      obtain rfl : i = 9 := by omega
      have hl : lv_has ls 2 [(1, .int 9), (0, .ref h0)] := hl
      refine lv_iload_n hx hb dX5_init_15 rfl (lv_at hl 0 rfl) ?_
      refine lv_bipush (v := 9) hx hb dX5_init_16 (by decide) ?_
      refine lv_icmp_ge (tgt := 40) hx hb dX5_init_18 (by decide) (fun _ => ?_) (fun h9 => absurd (by decide) h9)
      exact zc_vret hx hb hr hlocks hK (q1, f, T) ⟨hok, hbig, hf⟩ hP hD hS dX5_init_40 ⟨by decide, by decide⟩
    | succ n ih =>
      intro i hi H locs ls f T hP hD hS hl hok hbig hf
      refine lv_iload_n hx hb dX5_init_15 rfl (lv_at hl 0 rfl) ?_
      refine lv_bipush (v := 9) hx hb dX5_init_16 (by decide) ?_
      refine lv_icmp_ge (tgt := 40) hx hb dX5_init_18 (by decide) (fun h9 => absurd h9 (fun z => absurd ((nI_leI (a := 9) (b := i) (by omega) (by omega)).mp z) (by omega))) (fun _ => ?_)
      refine lv_aload_n hx hb dX5_init_21 rfl (lv_at hl 1 rfl) ?_
      refine va_get (D := D) (ci := 3) (v := .ref q1) (C := RX5) (T := TX5) (N := 3) hx hb hts inX5_init_X5 hown hK hP 0 rfl rfl 0 (by decide) (hts (.fieldLink RX5 11 "RungMoney$Past" "ring" "[LRungMoney$Town;") (by decide +kernel)) (fun _ h9 => h9) rfl dX5_init_22 ?_
      refine lv_iload_n hx hb dX5_init_25 rfl (lv_at hl 0 rfl) ?_
      refine va_new (ci := 8) (fs := [.int 0, .null, .null, .null, .null, .int 0, .int 0, .int 0, .int 0]) (C := RX10) (T := TX10) (N := 9) hx hb hts inX5_init_X10 tyX10 tyX10_ok hown (hts (.classLink RX5 9 RX10) (by decide +kernel)) (hts (.instantiable RX10 9) (by decide +kernel)) (hts (.initialized RX10) (by decide +kernel)) hK hP hD hS hA rfl (by decide +kernel) (by show 1 + 12 * i + 1 ≤ 109; omega) (by show 9 + 151 * i + 9 ≤ 1368; omega) dX5_init_26 (fun q3 H hP hD hS => ?_)
      refine lv_dup hx hb dX5_init_29 rfl ?_
      refine zc_vIN (As := []) (rest := [.ref q3, .int (nI i), .ref q1]) (wr := [(h0, .inr (3, [.ref q1, .int 0, .int 0])), (q1, .inl (k 4, 9, .inr (.inr (.inr (.inr f)))))] ++ zc_w T) ⟨hx, hb, hml, hown, hts⟩ (zc_Cv_of (cT_init l D k B0 ad al q3)) ⟨va_cnB 0 hts ggX5_init_X10_init rfl rfl rfl hE.1.2.2.2.2.2.2.2.1 (hts (.initialized RX10) (by decide +kernel)) (by decide +kernel) ⟨Nat.le_of_ble_eq_true rfl, Nat.le_of_ble_eq_true rfl⟩, rfl, hts (.instanceMethod yX10_init) (by decide +kernel)⟩ gX_ok (zc_gX hE hAB hS hD) hK hP hD hS hA rfl hl.1 rfl (Nat.le_of_ble_eq_true rfl) dX5_init_30 ⟨by show 1 + 12 * i + 1 + 11 ≤ 109; omega, by show 9 + 151 * i + 9 + 142 ≤ 1368; omega⟩ (fun u H locs _ hP hD hS => ?_)
      have hP : va_P D vwCl (([(h0, .inr (3, [.ref q1, .int 0, .int 0])), (q1, .inl (k 4, 9, .inr (.inr (.inr (.inr f)))))] ++ zc_w T) ++ zc_w (zc_town k q3 u)) H := hP
      have hD : va_D A (([(h0, .inr (3, [.ref q1, .int 0, .int 0])), (q1, .inl (k 4, 9, .inr (.inr (.inr (.inr f)))))] ++ zc_w T) ++ zc_w (zc_town k q3 u)) := hD
      have hP := hP.swap
      have hD := hD.swap
      rw [List.append_assoc, ← zc_w_app] at hP hD
      refine va_astq (r := (RX10, TX10, 9)) hx hb hK hP hD hS 1 4 2 8 rfl rfl rfl rfl (vp_in_nI (by omega) (by decide)) dX5_init_33 (fun H locs hP hD hS => ?_)
      have hP : va_P D vwCl ([(h0, .inr (3, [.ref q1, .int 0, .int 0])), (q1, .inl (k 4, 9, .inr (.inr (.inr (.inr (va_up f i (some q3)))))))] ++ zc_w (zc_town k q3 u ++ T)) H := by rw [nI_clamp (by omega)] at hP; exact hP
      have hD : va_D A ([(h0, .inr (3, [.ref q1, .int 0, .int 0])), (q1, .inl (k 4, 9, .inr (.inr (.inr (.inr (va_up f i (some q3)))))))] ++ zc_w (zc_town k q3 u ++ T)) := by rw [nI_clamp (by omega)] at hD; exact hD
      refine lv_iinc (v := (nI (i + 1))) (lv' := [(1, .int (nI (i + 1))), (0, .ref h0)]) hx hb dX5_init_34 hl (k := 0) rfl (nI_1 i) (by decide) rfl (fun ls hl => ?_)
      refine lv_goto (tgt := 15) hx hb dX5_init_37 (by decide) ?_
      refine W.widen (k := 1 + 12 * (i + 1)) (n := 9 + 151 * (i + 1)) (by omega) (by omega) ?_
      exact ih (i + 1) (by omega) _ _ _ _ _ hP hD hS (lv_sub hl [0, 1] rfl) (zc_ok_app zc_ok_town hok) (zc_big_app zc_big_town hbig) (zc_upr (fun j hj => by obtain ⟨a, h1, h2⟩ := hf j hj; exact ⟨a, h1, zc_in_r h2⟩) (zc_in_l (zc_i 0 rfl)))
  exact key 9 0 rfl _ _ _ (fun _ => none) [] hP hD hS hl (fun q hq => by cases hq) (fun q hq => by cases hq) (fun j hj => by omega)
