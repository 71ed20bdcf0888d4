/-! ===== a method is opened; the class's sentence ===== -/
theorem zp_0 {ρ : Nat → Int} {c9 : Int} (h : 0 ≤ c9) : 0 ≤ zf_v ρ ([], c9) := h
theorem zp_open {l : Launch} {y : MethodName} {wsY wsY' : List Cond} {rm : Room} {cc : ByteArray} {nL B0 sz : Nat} {ret : Option FieldType} {D : va_G} {k : Nat → ClassId} {Ex : (Nat → Option Nat) → va_W → State → Prop} {Sg : Nat → Option Nat} {ws : va_W} {vs : List Value} {Qp : (Nat → Prop) → Option Value → State → Prop} (hy : plainName y.cls = true) (hw : wsY = Cond.code y cc nL ret :: wsY') (hEx : zf_Eo Ex B0) (hcat : (vs.map fun v => v.category).sum ≤ nL)
    (body : ∀ (p : Program) (e : Env) (s : State) (m : MethodId) (below : List Frame) (meth : Method) (c : Code) (A : Nat → Prop) (ls : Array Slot), CallFix p m c cc nL s vs.toArray wsY y.cls → meth.sig.returnType = ret → meth.locks = false → va_K D vwCl (tyz k) s → Ex Sg ws s → (∀ q, A q → B0 ≤ q) → (∀ q, s.heap.size ≤ q → A q) → va_P D vwCl ws s.heap → va_D A ws → va_S A s.heap s.heap [] → lv_has ls nL (lv_args 0 vs) → W p l e rm s m vs.toArray below meth c s.heap [] 0 0 (MQ below (zf_Q (Qp A) A) vs.toArray s 0 0 A) (F0 m 0 ls [])) :
    Met l y wsY rm (va_Pc vs (g_pr D k (Ex Sg ws) sz ws)) (zf_Q (Qp (va_A ws sz)) (va_A ws sz)) 0 0 (va_A ws sz) := by
  refine Met.ofW (cc := cc) (maxL := nL) (ret := ret) hy hw ?_
  intro p e s m args below meth c s₁ B hml hv
  obtain ⟨rfl, hsz, hP, hK, hD0, hE⟩ := hv
  have hts := atoms_spec (ws := wsY) B.pre
  have hown : s.vm.findClass y.cls = some m.cls := findClass_of_methodNamed B.named
  subst hsz
  have hD := hD0.self (sz := s.heap.size)
  have hAB := hEx.2.1 Sg ws s hE
  generalize hAe : va_A ws s.heap.size = A at hD hAB ⊢
  have hA : ∀ q : Nat, s.heap.size ≤ q → A q := fun q h => by rw [← hAe]; exact Or.inr h
  have hl := lv_entry vs (n := nL) (by rw [zf_lgl]; exact hcat)
  rw [lg_entry_eq]
  exact body p e s m below meth c A _ ⟨B.exec, B.bytes, hml, hown, hts⟩ B.returns B.notSynchronized hK hE hAB hA hP hD va_S.rf hl

def zm_X8_copyN : zf_M := (([((-2147483648), 2147483647)], [], 66, [], [.inr (some (76, 65)), .inr (some (76, 64))], [(76, 65, ([], 5), .inl ([(0, 1)], 0))]), [(77, ([], 0), ([], 39)), (78, ([], 0), ([], 39)), (79, ([], 0), ([], 39)), (76, ([], 4), ([], 5))], [(none, ([((-2147483648), 2147483647)], [], 66, [], [], [(76, 64, ([], 5), .inl ([(0, 1)], 0))]))])
def zu_X8_copyN : List zf_U := [(2, ([((-2147483648), 2147483647), (0, 40)], [], 66, [(0, .inr (some (76, 64))), (1, .inr (some (76, 65))), (2, .inl ([(1, 1)], 0))], [], [(76, 65, ([], 5), .inl ([(0, 1)], 0))]), ([(1, (-1))], 41), 0)]
set_option maxRecDepth 100000 in
set_option maxHeartbeats 4000000 in
theorem kc_X8_copyN (l : Launch) (D : va_G) (k : Nat → ClassId) (B0 : Nat) (ad : Nat → Nat) (al sw : Nat) : zf_Con l yX8_copy (zw yX8_copy cX8_copy 3 none) ({ frames := 0, cells := 0, slots := 0, locals := 0 }) D k (zEx B0 ad al sw) zGT 37 zm_X8_copyN := by
  have hEx := zEx_ok B0 ad al sw
  refine zf_mk (cc := cX8_copy) (nL := 3) (ret := none) (Ms := []) (fg := [(11, 6, 0, .inl (0, 0)), (15, 6, 1, .inl (0, 0)), (19, 6, 2, .inl (0, 0)), (29, 6, 4, .inl (0, 0)), (33, 6, 5, .inl (0, 0))]) (fp := [(29, 6, 4, .inl ((-2147483648), 2147483647)), (33, 6, 5, .inl ((-2147483648), 2147483647))]) (ins := zn_X8_copy) (cuts := zu_X8_copyN) (fuel := 3000) (by decide) rfl hEx (by decide +kernel) (by decide +kernel) (by decide +kernel) (by decide +kernel) ?_
  intro p e s m args below meth c Q Sg w0 A θ0 S hK hE hAB hA hone hsing
  refine ⟨?_, ?_, ?_⟩
  · exact zf_ac ((fun H locs ws a q0 fs v rest pc ls hP he hv hdg kk => va_get (D := D) (ci := 6) (C := RX8) (T := TX8) (N := 6) (own := RX8) S.1 S.2.1 S.2.2.2.2 (zg_in inW_X8) S.2.2.2.1 hK hP q0 he rfl 0 (by decide) (S.2.2.2.2 (.fieldLink RX8 11 "RungMoney$Sentence" "parts" "[LRungMoney$Key;") (List.mem_cons_of_mem _ zw_313)) (fun _ h9 => h9) hv hdg kk)) (zf_ac ((fun H locs ws a q0 fs v rest pc ls hP he hv hdg kk => va_get (D := D) (ci := 6) (C := RX8) (T := TX8) (N := 6) (own := RX8) S.1 S.2.1 S.2.2.2.2 (zg_in inW_X8) S.2.2.2.1 hK hP q0 he rfl 1 (by decide) (S.2.2.2.2 (.fieldLink RX8 15 "RungMoney$Sentence" "signs" "[I") (List.mem_cons_of_mem _ zw_314)) (fun _ h9 => h9) hv hdg kk)) (zf_ac ((fun H locs ws a q0 fs v rest pc ls hP he hv hdg kk => va_get (D := D) (ci := 6) (C := RX8) (T := TX8) (N := 6) (own := RX8) S.1 S.2.1 S.2.2.2.2 (zg_in inW_X8) S.2.2.2.1 hK hP q0 he rfl 2 (by decide) (S.2.2.2.2 (.fieldLink RX8 19 "RungMoney$Sentence" "numbers" "[I") (List.mem_cons_of_mem _ zw_315)) (fun _ h9 => h9) hv hdg kk)) (zf_ac ((fun H locs ws a q0 fs v rest pc ls hP he hv hdg kk => va_get (D := D) (ci := 6) (C := RX8) (T := TX8) (N := 6) (own := RX8) S.1 S.2.1 S.2.2.2.2 (zg_in inW_X8) S.2.2.2.1 hK hP q0 he rfl 4 (by decide) (S.2.2.2.2 (.fieldLink RX8 29 "RungMoney$Sentence" "size" "I") (List.mem_cons_of_mem _ zw_317)) (fun _ h9 => h9) hv hdg kk)) (zf_ac ((fun H locs ws a q0 fs v rest pc ls hP he hv hdg kk => va_get (D := D) (ci := 6) (C := RX8) (T := TX8) (N := 6) (own := RX8) S.1 S.2.1 S.2.2.2.2 (zg_in inW_X8) S.2.2.2.1 hK hP q0 he rfl 5 (by decide) (S.2.2.2.2 (.fieldLink RX8 33 "RungMoney$Sentence" "ones" "I") (List.mem_cons_of_mem _ zw_318)) (fun _ h9 => h9) hv hdg kk)) zf_an))))
  · exact zf_ac ((fun H locs ws a q0 fs v rest pc ls hP hD hS he hl hv hdg kk => by obtain ⟨x, rfl, h1, h2⟩ := hv; exact va_put (D := D) (ci := 6) (v := .int x) (ty := .int) (C := RX8) (T := TX8) (N := 6) (own := RX8) S.1 S.2.1 S.2.2.2.2 (zg_in inW_X8) tyX8 tyX8_ok nmX8 S.2.2.2.1 hK hP hD hS q0 he rfl 4 (by decide) (S.2.2.2.2 (.fieldLink RX8 29 "RungMoney$Sentence" "size" "I") (List.mem_cons_of_mem _ zw_317)) (fun _ h9 => h9) rfl (by decide +kernel) rfl rfl hl hdg kk)) (zf_ac ((fun H locs ws a q0 fs v rest pc ls hP hD hS he hl hv hdg kk => by obtain ⟨x, rfl, h1, h2⟩ := hv; exact va_put (D := D) (ci := 6) (v := .int x) (ty := .int) (C := RX8) (T := TX8) (N := 6) (own := RX8) S.1 S.2.1 S.2.2.2.2 (zg_in inW_X8) tyX8 tyX8_ok nmX8 S.2.2.2.1 hK hP hD hS q0 he rfl 5 (by decide) (S.2.2.2.2 (.fieldLink RX8 33 "RungMoney$Sentence" "ones" "I") (List.mem_cons_of_mem _ zw_318)) (fun _ h9 => h9) rfl (by decide +kernel) rfl rfl hl hdg kk)) zf_an)
  · exact zf_crl (xs := []) (by decide +kernel) (zf_an)


def sn_eff : zf_F := [(1, ([], 1), ([], 1)), (0, ([], 14), ([], 14)), (77, ([], 0), ([], 39)), (78, ([], 0), ([], 39)), (79, ([], 0), ([], 39)), (76, ([], 4), ([], 5))]
def zm_S9f : zf_M := (([], [], 64, [], [], []), sn_eff, [(some (.inl ([(0, 1)], 0)), ([((-2147483648), 2147483647)], [], 64, [], [], [(3, 3, ([], 10), .inl ([(0, (-1))], (-1)))]))])
def zm_S9s : zf_M := (([((-2147483648), 2147483647)], [], 66, [], [], []), sn_eff, [(some (.inl ([(0, 1)], 0)), ([((-2147483648), 2147483647)], [], 66, [], [], []))])
set_option maxRecDepth 100000 in
set_option maxHeartbeats 4000000 in
theorem zR_X12_sentence (l : Launch) (D : va_G) (k : Nat → ClassId) (B0 : Nat) (ad : Nat → Nat) (al sw : Nat) : zf_Rl l yX12_sentence (zw yX12_sentence cX12_sentence 2 (some .int)) ({ frames := 37, cells := 0, slots := 0, locals := 1070 }) cX12_sentence 2 D k zGT 37 B0 [zm_X8_read, zm_X8_copyN] [(10, 10, 0, .inl (0, 0)), (21, 10, 1, .inl (0, 0)), (37, 10, 3, .inl (0, 0)), (47, 10, 5, .inl (0, 0)), (51, 10, 6, .inl (0, 0)), (122, 5, 9, .inl (0, 0)), (128, 5, 10, .inl (0, 0)), (343, 6, 5, .inl (0, 0))] [(115, 7, 1, .inl ((-2147483648), 2147483647)), (125, 10, 14, .inl ((-2147483648), 2147483647))] zn_X12_sentence (zEx B0 ad al sw) := by
  have hEx := zEx_ok B0 ad al sw
  intro p e s m args below meth c Q Sg w0 A θ0 S hK hE hAB hA hone hsing
  refine ⟨?_, ?_, ?_⟩
  · exact zf_ac ((fun H locs ws a q0 fs v rest pc ls hP he hv hdg kk => va_get (D := D) (ci := 10) (C := RX12) (T := TX12) (N := 18) (own := RX12) S.1 S.2.1 S.2.2.2.2 (zg_in inW_X12) S.2.2.2.1 hK hP q0 he rfl 0 (by decide) (S.2.2.2.2 (.fieldLink RX12 10 "RungMoney" "tape" "LRungMoney$Tape;") (List.mem_cons_of_mem _ zw_399)) (fun _ h9 => h9) hv hdg kk)) (zf_ac ((fun H locs ws a q0 fs v rest pc ls hP he hv hdg kk => va_get (D := D) (ci := 10) (C := RX12) (T := TX12) (N := 18) (own := RX12) S.1 S.2.1 S.2.2.2.2 (zg_in inW_X12) S.2.2.2.1 hK hP q0 he rfl 1 (by decide) (S.2.2.2.2 (.fieldLink RX12 21 "RungMoney" "reader" "LRungMoney$Reader;") (List.mem_cons_of_mem _ zw_400)) (fun _ h9 => h9) hv hdg kk)) (zf_ac ((fun H locs ws a q0 fs v rest pc ls hP he hv hdg kk => va_get (D := D) (ci := 10) (C := RX12) (T := TX12) (N := 18) (own := RX12) S.1 S.2.1 S.2.2.2.2 (zg_in inW_X12) S.2.2.2.1 hK hP q0 he rfl 3 (by decide) (S.2.2.2.2 (.fieldLink RX12 37 "RungMoney" "town" "LRungMoney$Town;") (List.mem_cons_of_mem _ zw_402)) (fun _ h9 => h9) hv hdg kk)) (zf_ac ((fun H locs ws a q0 fs v rest pc ls hP he hv hdg kk => va_get (D := D) (ci := 10) (C := RX12) (T := TX12) (N := 18) (own := RX12) S.1 S.2.1 S.2.2.2.2 (zg_in inW_X12) S.2.2.2.1 hK hP q0 he rfl 5 (by decide) (S.2.2.2.2 (.fieldLink RX12 47 "RungMoney" "sentence" "LRungMoney$Sentence;") (List.mem_cons_of_mem _ zw_404)) (fun _ h9 => h9) hv hdg kk)) (zf_ac ((fun H locs ws a q0 fs v rest pc ls hP he hv hdg kk => va_get (D := D) (ci := 10) (C := RX12) (T := TX12) (N := 18) (own := RX12) S.1 S.2.1 S.2.2.2.2 (zg_in inW_X12) S.2.2.2.1 hK hP q0 he rfl 6 (by decide) (S.2.2.2.2 (.fieldLink RX12 51 "RungMoney" "spareSentence" "LRungMoney$Sentence;") (List.mem_cons_of_mem _ zw_405)) (fun _ h9 => h9) hv hdg kk)) (zf_ac ((fun H locs ws a q0 fs v rest pc ls hP he hv hdg kk => va_get (D := D) (ci := 5) (C := RX7) (T := TX7) (N := 11) (own := RX12) S.1 S.2.1 S.2.2.2.2 (zg_in inW_X7) S.2.2.2.1 hK hP q0 he rfl 9 (by decide) (S.2.2.2.2 (.fieldLink RX12 122 "RungMoney$Reader" "fault" "I") (List.mem_cons_of_mem _ zw_167)) (fun _ h9 => h9) hv hdg kk)) (zf_ac ((fun H locs ws a q0 fs v rest pc ls hP he hv hdg kk => va_get (D := D) (ci := 5) (C := RX7) (T := TX7) (N := 11) (own := RX12) S.1 S.2.1 S.2.2.2.2 (zg_in inW_X7) S.2.2.2.1 hK hP q0 he rfl 10 (by decide) (S.2.2.2.2 (.fieldLink RX12 128 "RungMoney$Reader" "place" "I") (List.mem_cons_of_mem _ zw_169)) (fun _ h9 => h9) hv hdg kk)) (zf_ac ((fun H locs ws a q0 fs v rest pc ls hP he hv hdg kk => va_get (D := D) (ci := 6) (C := RX8) (T := TX8) (N := 6) (own := RX12) S.1 S.2.1 S.2.2.2.2 (zg_in inW_X8) S.2.2.2.1 hK hP q0 he rfl 5 (by decide) (S.2.2.2.2 (.fieldLink RX12 343 "RungMoney$Sentence" "ones" "I") (List.mem_cons_of_mem _ zw_319)) (fun _ h9 => h9) hv hdg kk)) zf_an)))))))
  · exact zf_ac ((fun H locs ws a q0 fs v rest pc ls hP hD hS he hl hv hdg kk => by obtain ⟨x, rfl, h1, h2⟩ := hv; exact va_put (D := D) (ci := 7) (v := .int x) (ty := .int) (C := RX9) (T := TX9) (N := 2) (own := RX12) S.1 S.2.1 S.2.2.2.2 (zg_in inW_X9) tyX9 tyX9_ok nmX9 S.2.2.2.1 hK hP hD hS q0 he rfl 1 (by decide) (S.2.2.2.2 (.fieldLink RX12 115 "RungMoney$Tape" "size" "I") (List.mem_cons_of_mem _ zw_136)) (fun _ h9 => h9) rfl (by decide +kernel) rfl rfl hl hdg kk)) (zf_ac ((fun H locs ws a q0 fs v rest pc ls hP hD hS he hl hv hdg kk => by obtain ⟨x, rfl, h1, h2⟩ := hv; exact va_put (D := D) (ci := 10) (v := .int x) (ty := .int) (C := RX12) (T := TX12) (N := 18) (own := RX12) S.1 S.2.1 S.2.2.2.2 (zg_in inW_X12) tyX12 tyX12_ok nmX12 S.2.2.2.1 hK hP hD hS q0 he rfl 14 (by decide) (S.2.2.2.2 (.fieldLink RX12 125 "RungMoney" "faultKind" "I") (List.mem_cons_of_mem _ zw_413)) (fun _ h9 => h9) rfl (by decide +kernel) rfl rfl hl hdg kk)) zf_an)
  · exact zf_crl (xs := [(.invokevirtual 339, 3, 0), (.invokevirtual 340, 3, 1)]) (by decide +kernel) (zf_ac (zf_crV S hEx hE hAB hA hK hone hsing (kc_X8_read l D k B0 ad al sw) (cwV 2 S.2.2.2.2 (zg_V zw_1102 zw_1103 zw_1104 zw_102 zw_1105) rfl rfl rfl (by decide +kernel) ⟨(Nat.le_of_ble_eq_true rfl), (Nat.le_of_ble_eq_true rfl)⟩) ⟨(Nat.le_of_ble_eq_true rfl), (Nat.le_of_ble_eq_true rfl)⟩ 6 rfl rfl (ar := [.inr (some (64, 65)), .inr (some (3, 3))]) rfl rfl (by decide +kernel)) (zf_ac (zf_crV S hEx hE hAB hA hK hone hsing (kc_X8_copyN l D k B0 ad al sw) (cwV 1 S.2.2.2.2 (zg_V zw_1169 zw_1170 zw_1171 zw_102 zw_1172) rfl rfl rfl (by decide +kernel) ⟨(Nat.le_of_ble_eq_true rfl), (Nat.le_of_ble_eq_true rfl)⟩) ⟨(Nat.le_of_ble_eq_true rfl), (Nat.le_of_ble_eq_true rfl)⟩ 6 rfl rfl (ar := [.inr (some (76, 65))]) rfl rfl (by decide +kernel)) zf_an))
set_option maxRecDepth 100000 in
set_option maxHeartbeats 4000000 in
theorem kr_S9f : zf_run 0 64 37 2 zGT zm_S9f [zm_X8_read, zm_X8_copyN] [(10, 10, 0, .inl (0, 0)), (21, 10, 1, .inl (0, 0)), (37, 10, 3, .inl (0, 0)), (47, 10, 5, .inl (0, 0)), (51, 10, 6, .inl (0, 0)), (122, 5, 9, .inl (0, 0)), (128, 5, 10, .inl (0, 0)), (343, 6, 5, .inl (0, 0))] [(115, 7, 1, .inl ((-2147483648), 2147483647)), (125, 10, 14, .inl ((-2147483648), 2147483647))] zn_X12_sentence [] none 3000 15 ([], [], 64, [(0, .inr (some (0, 0)))], [.inl ([], 0)], []) = true := by decide +kernel
set_option maxRecDepth 100000 in
set_option maxHeartbeats 4000000 in
theorem kr_S9s : zf_run 1 66 37 2 zGT zm_S9s [zm_X8_read, zm_X8_copyN] [(10, 10, 0, .inl (0, 0)), (21, 10, 1, .inl (0, 0)), (37, 10, 3, .inl (0, 0)), (47, 10, 5, .inl (0, 0)), (51, 10, 6, .inl (0, 0)), (122, 5, 9, .inl (0, 0)), (128, 5, 10, .inl (0, 0)), (343, 6, 5, .inl (0, 0))] [(115, 7, 1, .inl ((-2147483648), 2147483647)), (125, 10, 14, .inl ((-2147483648), 2147483647))] zn_X12_sentence [] none 3000 15 ([((-2147483648), 2147483647)], [], 66, [(0, .inr (some (0, 0)))], [.inl ([], 1)], [(0, 0, ([], 5), .inr (some (76, 65))), (0, 0, ([], 6), .inr (some (76, 64))), (76, 64, ([], 5), .inl ([(0, 1)], 0))]) = true := by decide +kernel
theorem dX12_sentence_0 : decode cX12_sentence 0 = .ok (.aload_n 0, 1) := by decide +kernel
theorem dX12_sentence_1 : decode cX12_sentence 1 = .ok (.getfield 51, 3) := by decide +kernel
theorem dX12_sentence_4 : decode cX12_sentence 4 = .ok (.aload_n 0, 1) := by decide +kernel
theorem dX12_sentence_5 : decode cX12_sentence 5 = .ok (.getfield 21, 3) := by decide +kernel
theorem dX12_sentence_8 : decode cX12_sentence 8 = .ok (.aload_n 0, 1) := by decide +kernel
theorem dX12_sentence_9 : decode cX12_sentence 9 = .ok (.getfield 37, 3) := by decide +kernel
theorem dX12_sentence_12 : decode cX12_sentence 12 = .ok (.invokevirtual 339, 3) := by decide +kernel
def sn_Pre (Sg : Nat → Option Nat) (k : Nat → ClassId) (th : Nat → Nat) (B : Nat → Int32) (n9 : Nat) (nsv : List (List Int32)) (sp nm : Nat) (ws : va_W) : Prop := n9 ≤ 940 ∧ zf_typ Sg k zGT ws ∧ zf_rd ws (th 1) 1 (.int (Int32.ofNat n9)) ∧ (∀ i, i < 940 → zf_rd ws (th 2) i (.int (B i))) ∧ zf_rd ws (th 0) 3 (.ref sp) ∧ Sg sp = some 64 ∧ zf_rd ws sp 1 (.ref nm) ∧ zf_rd ws sp 0 (.int (Int32.ofNat nsv.length)) ∧ (∀ j, j < nsv.length → zf_rd ws nm j (.long (c32 (nsv.getD j [])))) ∧ lv_ok nsv
def zf_up2 (th : Nat → Nat) (a b : Nat) : Nat → Nat := fun i => if i = 64 then a else if i = 65 then b else th i
theorem zf_up2_lt {th : Nat → Nat} {a b g : Nat} (h : g < 64) : zf_up2 th a b g = th g := by
  unfold zf_up2
  rw [if_neg (by omega), if_neg (by omega)]
set_option maxRecDepth 100000 in
set_option maxHeartbeats 4000000 in
theorem kt_X12_sentence (l : Launch) (D : va_G) (k : Nat → ClassId) (B0 : Nat) (ad : Nat → Nat) (al sw : Nat) {Sg : Nat → Option Nat} {ws : va_W} {th : Nat → Nat} (sz : Nat) (hone : ∀ a g, Sg a = some g → g < 64 → a = th g) (hsing : ∀ g, g < 37 → g < 64 → Sg (th g) = some g) {B : Nat → Int32} {n9 sp nm : Nat} {nsv : List (List Int32)} (hpre : sn_Pre Sg k th B n9 nsv sp nm ws) :
    Met l yX12_sentence (zw yX12_sentence cX12_sentence 2 (some .int)) ({ frames := 37, cells := 0, slots := 0, locals := 1070 }) (va_Pc [.ref (th 0)] (g_pr D k (zEx B0 ad al sw Sg ws) sz ws)) (zf_Q (fun v _ => ∃ r : sv_rs, sv_ends B n9 nsv (0, 0, [], false) r ∧ v = some (.int (sv_ans r))) (va_A ws sz)) 0 0 (va_A ws sz) := by
  obtain ⟨hn9, ht, hsz9, hby, h03, s64, h641, hm0, hmn, O⟩ := hpre
  have hEx := zEx_ok B0 ad al sw
  refine zp_open (Qp := fun _ v _ => ∃ r : sv_rs, sv_ends B n9 nsv (0, 0, [], false) r ∧ v = some (.int (sv_ans r))) (by decide) rfl hEx (Nat.le_of_ble_eq_true rfl) ?_
  intro p e s m below meth c A ls S hr hlocks hK hE hAB hA hP hD hS hl
  have hx := S.1
  have hb := S.2.1
  have hl : lv_has ls 2 [(0, .ref (th 0))] := hl
  have g0 : Sg (th 0) = some 0 := hsing 0 (by decide) (by decide)
  have g3 : Sg (th 3) = some 3 := hsing 3 (by decide) (by decide)
  obtain ⟨q0, en, pe, pt⟩ := ht _ 0 g0 (by decide)
  obtain ⟨fs, rfl, hfl⟩ := zf_obj pt rfl rfl
  obtain ⟨_, h1, b1, rfl, s1⟩ := pt.2 1 (.inr (some 3)) rfl
  obtain ⟨_, h3, b3, rfl, s3⟩ := pt.2 3 (.inr (some 64)) rfl
  obtain ⟨_, h5, so, rfl, s5⟩ := pt.2 5 (.inr (some 76)) rfl
  obtain ⟨_, h6, sn, rfl, s6⟩ := pt.2 6 (.inr (some 76)) rfl
  have e1 : b1 = th 3 := hone b1 3 s1 (by decide)
  subst e1
  have e3 : sp = b3 := by
    have h9 := zf_rd_fun hD h03 ⟨q0, _, pe, h3⟩
    cases h9
    rfl
  subst e3
  refine lv_aload_n hx hb dX12_sentence_0 rfl (lv_at hl 0 rfl) ?_
  refine va_get (D := D) (ci := 10) (C := RX12) (T := TX12) (N := 18) (own := RX12) S.1 S.2.1 S.2.2.2.2 (zg_in inW_X12) S.2.2.2.1 hK hP q0 pe rfl 6 (by decide) (S.2.2.2.2 (.fieldLink RX12 51 "RungMoney" "spareSentence" "LRungMoney$Sentence;") (List.mem_cons_of_mem _ zw_405)) (fun _ h9 => h9) h6 dX12_sentence_1 ?_
  refine lv_aload_n hx hb dX12_sentence_4 rfl (lv_at hl 0 rfl) ?_
  refine va_get (D := D) (ci := 10) (C := RX12) (T := TX12) (N := 18) (own := RX12) S.1 S.2.1 S.2.2.2.2 (zg_in inW_X12) S.2.2.2.1 hK hP q0 pe rfl 1 (by decide) (S.2.2.2.2 (.fieldLink RX12 21 "RungMoney" "reader" "LRungMoney$Reader;") (List.mem_cons_of_mem _ zw_400)) (fun _ h9 => h9) h1 dX12_sentence_5 ?_
  refine lv_aload_n hx hb dX12_sentence_8 rfl (lv_at hl 0 rfl) ?_
  refine va_get (D := D) (ci := 10) (C := RX12) (T := TX12) (N := 18) (own := RX12) S.1 S.2.1 S.2.2.2.2 (zg_in inW_X12) S.2.2.2.1 hK hP q0 pe rfl 3 (by decide) (S.2.2.2.2 (.fieldLink RX12 37 "RungMoney" "town" "LRungMoney$Town;") (List.mem_cons_of_mem _ zw_402)) (fun _ h9 => h9) h3 dX12_sentence_9 ?_
  -- the reading: both contracts
  obtain ⟨θx, hp, x1, x2, x2n, x3, x4⟩ := px_world (ad := ad) ht hone hsing hE.2.2.2.1.2 hE.2.2.1.2.1 s64 s6
  have i1 : hp.1 1 1 = Int32.ofNat n9 := px_int hD x4 (g := 1) (i := 1) rfl rfl (by rw [x1 1 (by decide)]; exact hsz9)
  have i2 : ∀ i, i < 940 → hp.1 2 i = B i := fun i hi => px_int hD x4 (g := 2) (i := i) rfl (px_spx hi) (by rw [x1 2 (by decide)]; exact hby i hi)
  have i64 : hp.1 64 0 = Int32.ofNat nsv.length := px_int hD x4 (g := 64) (i := 0) rfl rfl (by rw [x2]; exact hm0)
  have e65 : θx 65 = nm := by
    have h9 := (x4.2 (64, 1, 65) (List.mem_of_getElem? (i := 3) rfl)).2.2.2.1
    have h9 : zf_rd ws (θx 64) 1 (.ref (θx 65)) := h9
    rw [x2] at h9
    cases zf_rd_fun hD h641 h9
    rfl
  have i65 : ∀ j, j < nsv.length → hp.2 65 j = c32 (nsv.getD j []) := fun j hj => px_long hD x4 (g := 65) (i := j) rfl (px_spx (show j < 6 by have := O.1; omega)) (by rw [e65]; exact hmn j hj)
  have hrun := cv_read (B := B) (I := hp.1) (L := hp.2) hn9 O i1 i2 ⟨i64, i65⟩
  have hMc := Met_room (r2 := ({ frames := 36, cells := 0, slots := 0, locals := 1040 } : Room)) (kc_X8_read l D k B0 ad al sw Sg ws (fun _ => 0) (zf_up2 th sn sp) [.ref sp, .ref (th 3), .ref sn] s.heap.size (fun a g h1 h2 => by rw [zf_up2_lt h2]; exact hone a g h1 h2) (fun g h1 h2 => by rw [zf_up2_lt h2]; exact hsing g h1 h2) ht ⟨lp_zr rfl, fun f hf => (by cases hf), ⟨⟨rfl, s64⟩, ⟨rfl, g3⟩, ⟨rfl, s6⟩, trivial⟩, fun h hh => (by cases hh)⟩) (by decide) (by decide) (by decide) (by decide)
  have hus : zf_f2 (xe_v Sg θx) [.ref 64, .ref 3, .ref 76] [.ref sp, .ref (th 3), .ref sn] := by
    refine ⟨⟨?_, ?_⟩, ⟨?_, ?_⟩, ⟨?_, ?_⟩, trivial⟩
    · show Value.ref sp = Value.ref (θx 64)
      rw [x2]
    · show Sg (θx 64) = some (xe_k 64)
      rw [x2]; exact s64
    · show Value.ref (th 3) = Value.ref (θx 3)
      rw [x1 3 (by decide)]
    · show Sg (θx 3) = some (xe_k 3)
      rw [x1 3 (by decide)]; exact g3
    · show Value.ref sn = Value.ref (θx 76)
      rw [x2n]
    · show Sg (θx 76) = some (xe_k 76)
      rw [x2n]; exact s6
  have cw : CallW ({ frames := 37, cells := 0, slots := 0, locals := 1070 } : Room) s ([.ref (th 0)] : List Value).toArray RX12 RX8 339 yX8_read cX8_read 3 (some .boolean) (zw yX8_read cX8_read 3 (some .boolean)) ({ frames := 36, cells := 0, slots := 0, locals := 1040 }) 0 0 2 := (cwV 2 S.2.2.2.2 (zg_V zw_1102 zw_1103 zw_1104 zw_102 zw_1105) rfl rfl rfl (by decide +kernel) ⟨(Nat.le_of_ble_eq_true rfl), (Nat.le_of_ble_eq_true rfl)⟩)
  rcases hrun with ⟨q, hq1, I', L', fx, z9, z10⟩ | ⟨o', ho', hq1, I', L', fx, z9, z10⟩
  · have hMx := kx_X8_read9 l D k B0 ad al sw Sg ws θx [.ref 64, .ref 3, .ref 76] [.ref sp, .ref (th 3), .ref sn] s.heap.size hp _ (I', L') x3 (px_typ ht) x4 hus fx
    refine zp_call (cells := 0) (slots := 0) (As := [.ref (th 3), .ref sp]) (b := sn) (g := 76) (ci := 6) (rest := []) S hEx hE hAB hA hK (Met_two hMc hMx) cw ⟨Nat.le_of_ble_eq_true rfl, Nat.le_of_ble_eq_true rfl⟩ rfl rfl (by decide +kernel) s6 rfl hP hD hS ht hl.1 (Nat.zero_le _) dX12_sentence_12 (fun v' t H1 locs1 ht1 hB hDD hS1 => ?_)
    obtain ⟨⟨wa, a1, a2, a3, a4⟩, rfl, c0, wb, c1, c2, c3, c4, c5, c6⟩ := hB
    rw [ht1] at a1 c1
    have hq := px_get a1 c1 a3 c3 a4.2.1 c4 c5 (g := 3) (i := 10) rfl rfl rfl
    have hq : zf_rd wa (θx 3) 10 (.int (I' 3 10)) := hq
    rw [x1 3 (by decide), z10] at hq
    refine zp_run (M := zm_S9f) (σ := ([], [], 64, [(0, .inr (some (0, 0)))], [.inl ([], 0)], [])) (ρ := fun _ => 0) (θ := th) hEx (by decide +kernel) (zR_X12_sentence l D k B0 ad al sw) S hK hE hAB hA hone hsing rfl (by decide +kernel) kr_S9f a1 (hDD _ a1 a3) hS1 a4.2.1 ⟨lp_zr rfl, fun g hg => (by cases hg), ⟨_, hl, ⟨⟨rfl, ⟨rfl, g0⟩⟩, trivial⟩⟩, ⟨⟨0, rfl, rfl⟩, trivial⟩, fun h hh => (by cases hh)⟩ zf_an (fun H locs w2 ls pc i v hP2 hD2 hS2 hpost hdg hrv => ?_)
    obtain ⟨rfl, v, rfl⟩ := zt_ri (by decide +kernel) hpost hrv
    refine W.iret hx hb hr (fun t ht' hW => ⟨⟨_, rfl, .inl q, hq1, ?_⟩, hS2.F ht'⟩) hS2.2.2 hdg hlocks
    obtain ⟨⟨o, ho, ρ1, θ1, y1, y2, -, -, y5, y6⟩, -, hfr⟩ := hpost
    cases List.mem_singleton.mp ho
    obtain ⟨-, -, z, d1, x, rfl, d2⟩ := (zf_hokT (h := (3, 3, ([], 10), .inl ([(0, (-1))], (-1)))) (show (3 : Nat) < 1000 by decide)).mp (y5 _ List.mem_cons_self)
    have d1 : zf_rd w2 (θ1 3) 10 (.int x) := d1
    rw [y2 3 (by decide)] at d1
    have hk : zf_rd w2 (th 3) 10 (.int (Int32.ofNat q.2)) := by
      refine hfr _ 3 10 _ g3 ?_ hq
      rintro ⟨u, hu, u1, u2, u3⟩
      have hall : sn_eff.all (fun q => !(Nat.beq q.1 3)) = true := by decide
      have := List.all_eq_true.mp hall u hu
      rw [u1] at this
      exact absurd this (by decide)
    have ex := zf_rd_fun hD2 d1 hk
    cases ex
    obtain ⟨y, e9, y7⟩ := y6
    cases e9
    have d2 : (Int32.ofNat q.2).toInt = zf_v ρ1 ([(0, (-1))], (-1)) := d2
    have y7 : v.toInt = zf_v ρ1 ([(0, 1)], 0) := y7
    have f1 : zf_v ρ1 ([(0, (-1))], (-1)) = (-1) * ρ1 0 + (-1) := rfl
    have f2 : zf_v ρ1 ([(0, 1)], 0) = ρ1 0 := zf_v_sym ρ1 0
    rw [f1] at d2
    rw [f2] at y7
    have hq0 := zi_lo (Int32.ofNat q.2)
    have hq1 := zi_hi (Int32.ofNat q.2)
    have em : (Int32.ofInt (-1)).toInt = -1 := by decide
    have hv0 := zi_lo v
    have hv1 := zi_hi v
    have e9 : v = Int32.ofInt (-1) - Int32.ofNat q.2 := by
      refine Int32.toInt_inj.mp ?_
      rw [Kit.i32_sub (by rw [em]; omega) (by rw [em]; omega), em]
      omega
    rw [e9]
    rfl
  · have hMx := kx_X8_read9 l D k B0 ad al sw Sg ws θx [.ref 64, .ref 3, .ref 76] [.ref sp, .ref (th 3), .ref sn] s.heap.size hp _ (I', L') x3 (px_typ ht) x4 hus fx
    refine zp_call (cells := 0) (slots := 0) (As := [.ref (th 3), .ref sp]) (b := sn) (g := 76) (ci := 6) (rest := []) S hEx hE hAB hA hK (Met_two hMc hMx) cw ⟨Nat.le_of_ble_eq_true rfl, Nat.le_of_ble_eq_true rfl⟩ rfl rfl (by decide +kernel) s6 rfl hP hD hS ht hl.1 (Nat.zero_le _) dX12_sentence_12 (fun v' t H1 locs1 ht1 hB hDD hS1 => ?_)
    obtain ⟨⟨wa, a1, a2, a3, a4⟩, rfl, c0, wb, c1, c2, c3, c4, c5, c6⟩ := hB
    rw [ht1] at a1 c1
    have hq := px_get a1 c1 a3 c3 a4.2.1 c4 c5 (g := 76) (i := 5) rfl rfl rfl
    have hq : zf_rd wa (θx 76) 5 (.int (I' 76 5)) := hq
    rw [x2n, z10] at hq
    have k0 : ∀ (i9 : Nat) (v9 : Value), zf_rd ws (th 0) i9 v9 → zf_rd wa (th 0) i9 v9 := fun i9 v9 h9 => by
      refine a4.2.2 _ 0 i9 _ g0 ?_ h9
      rintro ⟨u, hu, u1, u2, u3⟩
      have hall : zm_X8_read.2.1.all (fun q => !(Nat.beq q.1 0)) = true := by decide
      have := List.all_eq_true.mp hall u hu
      rw [u1] at this
      exact absurd this (by decide)
    have k5 := k0 5 _ ⟨q0, _, pe, h5⟩
    have k6 := k0 6 _ ⟨q0, _, pe, h6⟩
    have hone2 : ∀ a g, Sg a = some g → g < 64 → a = zf_up2 th sn so g := fun a g h1 h2 => by rw [zf_up2_lt h2]; exact hone a g h1 h2
    have hsing2 : ∀ g, g < 37 → g < 64 → Sg (zf_up2 th sn so g) = some g := fun g h1 h2 => by rw [zf_up2_lt h2]; exact hsing g h1 h2
    refine zp_run (M := zm_S9s) (σ := ([((-2147483648), 2147483647)], [], 66, [(0, .inr (some (0, 0)))], [.inl ([], 1)], [(0, 0, ([], 5), .inr (some (76, 65))), (0, 0, ([], 6), .inr (some (76, 64))), (76, 64, ([], 5), .inl ([(0, 1)], 0))])) (ρ := fun _ => (Int32.ofNat o').toInt) (θ := zf_up2 th sn so) hEx (by decide +kernel) (zR_X12_sentence l D k B0 ad al sw) S hK hE hAB hA hone2 hsing2 rfl (by decide +kernel) kr_S9s a1 (hDD _ a1 a3) hS1 a4.2.1 ⟨?_, fun g hg => (by cases hg), ⟨_, hl, ⟨⟨rfl, ⟨rfl, g0⟩⟩, trivial⟩⟩, ⟨⟨1, rfl, rfl⟩, trivial⟩, ?_⟩ zf_an (fun H locs w2 ls pc i v hP2 hD2 hS2 hpost hdg hrv => ?_)
    · intro x
      match x with
      | 0 => exact ⟨zi_lo _, zi_hi _⟩
      | x + 1 => exact ⟨zi_lo _, zi_hi _⟩
    · refine zf_ac ((zf_hokT (show (0 : Nat) < 1000 by decide)).mpr ⟨g0, zp_0 (by decide), _, k5, ⟨rfl, s5⟩⟩) (zf_ac ((zf_hokT (show (0 : Nat) < 1000 by decide)).mpr ⟨g0, zp_0 (by decide), _, k6, ⟨rfl, s6⟩⟩) (zf_ac ((zf_hokT (show (76 : Nat) < 1000 by decide)).mpr ⟨s6, zp_0 (by decide), _, hq, ⟨_, rfl, (zf_v_sym (fun _ => (Int32.ofNat o').toInt) 0).symm⟩⟩) zf_an))
    obtain ⟨rfl, v, rfl⟩ := zt_ri (by decide +kernel) hpost hrv
    refine W.iret hx hb hr (fun t ht' hW => ⟨⟨_, rfl, .inr o', hq1, ?_⟩, hS2.F ht'⟩) hS2.2.2 hdg hlocks
    obtain ⟨⟨o, ho, ρ1, θ1, y1, y2, -, -, y5, y6⟩, -, hfr⟩ := hpost
    cases List.mem_singleton.mp ho
    obtain ⟨y, e9, y7⟩ := y6
    cases e9
    have y7 : v.toInt = zf_v ρ1 ([(0, 1)], 0) := y7
    have f2 : zf_v ρ1 ([(0, 1)], 0) = ρ1 0 := zf_v_sym ρ1 0
    rw [f2, y1 0 (by decide)] at y7
    have e9 : v = Int32.ofNat o' := Int32.toInt_inj.mp y7
    rw [e9]
    rfl
