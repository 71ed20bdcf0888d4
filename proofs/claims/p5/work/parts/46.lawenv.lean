/-! ===== what the Statement gives of the start: Key's constants, the tables' words ===== -/
def kFl : List Cond := flatC (Jvm.Cond.and given_1 narrow_1)
def kNm24 : List String := ["OTHER", "MAN", "LADDER", "DEBT", "ROT", "PAYS", "SAWS", "SPLICES", "CLIMBS", "BURNS", "PAINTS", "TAXES", "WINTER", "OR", "AND", "NOT", "GONE", "BEARS", "FALSE", "OF", "LONG", "LOOKS", "WORTH", "NUMBER"]
def kAll : Term := .static RX2 "ALL" "[LRungMoney$Key;"
theorem km_L : ∀ i, i < kNm.length → Cond.laysStatic RX2 (kNm.getD i "") kD ∈ lw_tbl := by decide +kernel
theorem km_E : ∀ i, i < kNm24.length → Cond.exactly (.static RX2 (kNm24.getD i "") kD) RX2 ∈ kFl := by decide +kernel
theorem km_E10 : ∀ i, i < kNm.length → Cond.exactly (.static RX2 (kNm.getD i "") kD) RX2 ∈ kFl := by decide +kernel
theorem km_N0 : ∀ j, j < kNm.length → 0 ≠ j → (Cond.not (.eq (.static RX2 (kNm.getD 0 "") kD) (.static RX2 (kNm.getD j "") kD)) ∈ kFl ∨ Cond.not (.eq (.static RX2 (kNm.getD j "") kD) (.static RX2 (kNm.getD 0 "") kD)) ∈ kFl) := by decide +kernel
theorem km_N1 : ∀ j, j < kNm.length → 1 ≠ j → (Cond.not (.eq (.static RX2 (kNm.getD 1 "") kD) (.static RX2 (kNm.getD j "") kD)) ∈ kFl ∨ Cond.not (.eq (.static RX2 (kNm.getD j "") kD) (.static RX2 (kNm.getD 1 "") kD)) ∈ kFl) := by decide +kernel
theorem km_N2 : ∀ j, j < kNm.length → 2 ≠ j → (Cond.not (.eq (.static RX2 (kNm.getD 2 "") kD) (.static RX2 (kNm.getD j "") kD)) ∈ kFl ∨ Cond.not (.eq (.static RX2 (kNm.getD j "") kD) (.static RX2 (kNm.getD 2 "") kD)) ∈ kFl) := by decide +kernel
theorem km_N3 : ∀ j, j < kNm.length → 3 ≠ j → (Cond.not (.eq (.static RX2 (kNm.getD 3 "") kD) (.static RX2 (kNm.getD j "") kD)) ∈ kFl ∨ Cond.not (.eq (.static RX2 (kNm.getD j "") kD) (.static RX2 (kNm.getD 3 "") kD)) ∈ kFl) := by decide +kernel
theorem km_N4 : ∀ j, j < kNm.length → 4 ≠ j → (Cond.not (.eq (.static RX2 (kNm.getD 4 "") kD) (.static RX2 (kNm.getD j "") kD)) ∈ kFl ∨ Cond.not (.eq (.static RX2 (kNm.getD j "") kD) (.static RX2 (kNm.getD 4 "") kD)) ∈ kFl) := by decide +kernel
theorem km_N5 : ∀ j, j < kNm.length → 5 ≠ j → (Cond.not (.eq (.static RX2 (kNm.getD 5 "") kD) (.static RX2 (kNm.getD j "") kD)) ∈ kFl ∨ Cond.not (.eq (.static RX2 (kNm.getD j "") kD) (.static RX2 (kNm.getD 5 "") kD)) ∈ kFl) := by decide +kernel
theorem km_N6 : ∀ j, j < kNm.length → 6 ≠ j → (Cond.not (.eq (.static RX2 (kNm.getD 6 "") kD) (.static RX2 (kNm.getD j "") kD)) ∈ kFl ∨ Cond.not (.eq (.static RX2 (kNm.getD j "") kD) (.static RX2 (kNm.getD 6 "") kD)) ∈ kFl) := by decide +kernel
theorem km_N7 : ∀ j, j < kNm.length → 7 ≠ j → (Cond.not (.eq (.static RX2 (kNm.getD 7 "") kD) (.static RX2 (kNm.getD j "") kD)) ∈ kFl ∨ Cond.not (.eq (.static RX2 (kNm.getD j "") kD) (.static RX2 (kNm.getD 7 "") kD)) ∈ kFl) := by decide +kernel
theorem km_N8 : ∀ j, j < kNm.length → 8 ≠ j → (Cond.not (.eq (.static RX2 (kNm.getD 8 "") kD) (.static RX2 (kNm.getD j "") kD)) ∈ kFl ∨ Cond.not (.eq (.static RX2 (kNm.getD j "") kD) (.static RX2 (kNm.getD 8 "") kD)) ∈ kFl) := by decide +kernel
theorem km_N9 : ∀ j, j < kNm.length → 9 ≠ j → (Cond.not (.eq (.static RX2 (kNm.getD 9 "") kD) (.static RX2 (kNm.getD j "") kD)) ∈ kFl ∨ Cond.not (.eq (.static RX2 (kNm.getD j "") kD) (.static RX2 (kNm.getD 9 "") kD)) ∈ kFl) := by decide +kernel
theorem km_N : ∀ i, i < kNm.length → ∀ j, j < kNm.length → i ≠ j → (Cond.not (.eq (.static RX2 (kNm.getD i "") kD) (.static RX2 (kNm.getD j "") kD)) ∈ kFl ∨ Cond.not (.eq (.static RX2 (kNm.getD j "") kD) (.static RX2 (kNm.getD i "") kD)) ∈ kFl) := by
  intro i hi
  match i, hi with
  | 0, _ => exact km_N0
  | 1, _ => exact km_N1
  | 2, _ => exact km_N2
  | 3, _ => exact km_N3
  | 4, _ => exact km_N4
  | 5, _ => exact km_N5
  | 6, _ => exact km_N6
  | 7, _ => exact km_N7
  | 8, _ => exact km_N8
  | 9, _ => exact km_N9
  | n + 10, hi => exact absurd hi (by simp [kNm])
theorem km_A : ∀ j, j < kNm24.length → Cond.eq (.elem kAll (.int (Int32.ofNat j))) (.static RX2 (kNm24.getD j "") kD) ∈ kFl := by decide +kernel
set_option maxHeartbeats 4000000 in
set_option maxRecDepth 100000 in
theorem law_env {args : Array Value} {s : State} (hts : ∀ w ∈ lw_tbl, w.before args s = true) (hgv : (Jvm.Cond.and given_1 narrow_1).before args s = true) : ∃ (ad : Nat → Nat) (al : Nat), gX s.heap.size ad al [] s ∧ (Term.static RX2 "OTHER" kD).eval args s none [] s = some (.ref (ad 0)) ∧ kAll.eval args s none [] s = some (.ref al) := by
  have hs : ∀ c ∈ kFl, c.before args s = true := flat_of_before _ hgv
  have hA : ∀ a : Nat, a < s.heap.size → ¬ kA s.heap.size a := fun a h z => absurd h (Nat.not_lt.mpr z)
  have hini : (Cond.initialized RX2).before args s = true := hts _ (by decide +kernel)
  obtain ⟨ad, hEn, hev⟩ := va_Enof2 (E := RX2) (d := kD) (nm := kNm) (F := kF) (A := kA s.heap.size) (fun i hi => hts _ (km_L i hi)) hini (fun i hi => hs _ (km_E10 i hi)) (fun q hq => by cases hq)
    (fun i j hi hj hne => (km_N i hi j hj hne).elim (fun h => Or.inl (hs _ h)) (fun h => Or.inr (hs _ h))) hA
  have h0 : (Term.static RX2 "OTHER" kD).eval args s none [] s = some (.ref (ad 0)) := hev 0 (by decide)
  obtain ⟨al, c9, cell9, k9, q1, -⟩ := Cond.exactly_spec (hs (Cond.exactly kAll "[LRungMoney$Key;") (by decide +kernel))
  have hZ : va_Z RX2 "ALL" "[LRungMoney$Key;" (.ref al) (kA s.heap.size) s s.heap := va_Zref (hts _ (by decide +kernel)) hini q1 hA
  have hel : ∀ j : Nat, j < 24 → (Term.elem kAll (.int (Int32.ofNat j))).eval args s none [] s = some (((Term.elem kAll (.int (Int32.ofNat j))).eval args s none [] s).getD .null) := by
    intro j hj
    obtain ⟨a, c8, cell8, k8, z1, -⟩ := Cond.exactly_spec (hs _ (km_E j hj))
    rw [va_eqv (hs _ (km_A j hj)) z1]
    rfl
  have he0 : (Term.elem kAll (.int (Int32.ofNat 0))).eval args s none [] s = some (.ref (ad 0)) := va_eqv (hs _ (km_A 0 (by decide))) h0
  obtain ⟨t, ht, hT⟩ := va_Tof (tm := kAll) (ty := .object "RungMoney$Key") (N := 24) (A := kA s.heap.size) (by decide) (hs _ (by decide +kernel)) (va_eqt (hs (Cond.eq (.length kAll) (.int 24)) (by decide +kernel))) hel hA
  have hta : t = al := by
    have e := ht.symm.trans q1
    simpa using e
  subst hta
  have hc0 : (Cond.eq (.field (.static RX2 "OTHER" kD) RX2 "code" "J") (.long 0)).before args s = true := hs _ (by decide +kernel)
  have hcode : va_OF RX2 "code" "J" (.long 0) (ad 0) (kA s.heap.size) s s.heap := (va_Efof (N := 1) (E := RX2) (d0 := kD) (o := RX2) (n := "code") (d := "J") (nm := kNm) (v := fun _ => .long 0) (tm := fun _ => .long 0) (ad := ad) (fun i hi => hev i (Nat.lt_trans hi (by decide))) (fun i hi => by have hi0 : i = 0 := Nat.lt_one_iff.mp hi; subst hi0; exact hc0) (fun _ _ => rfl) hA) 0 (by decide)
  refine ⟨ad, t, ⟨⟨Nat.le_refl _, ⟨hEn, hZ, ⟨_, ?_, hT⟩, hcode, vx_Zqof (hts _ (by decide +kernel)) (hts _ (by decide +kernel)) (hs _ (by decide +kernel)) hA, vx_Zqof (hts _ (by decide +kernel)) (hts _ (by decide +kernel)) (hs _ (by decide +kernel)) hA⟩, ?_⟩, fun c h => by cases h⟩, h0, ht⟩
  · show ((Term.elem kAll (.int (Int32.ofNat 0))).eval args s none [] s).getD .null = .ref (ad 0)
    rw [he0]; rfl
  · exact ⟨⟨va_AO.of (hts _ (by decide +kernel)), va_AO.of (hts _ (by decide +kernel)), va_AO.of (hts _ (by decide +kernel)), va_Nw.of rfl (hts _ (by decide +kernel))⟩, va_Nw.of rfl (hts _ (by decide +kernel)), va_Nw.of rfl (hts _ (by decide +kernel)), va_Nw.of rfl (hts _ (by decide +kernel)), va_Nw.of rfl (hts _ (by decide +kernel)), va_Nw.of rfl (hts _ (by decide +kernel)), va_Nw.of rfl (hts _ (by decide +kernel))⟩
theorem law_ka {args : Array Value} {s : State} {ty : FieldType} (h : (Cond.arrayClass ty).before args s = true) (hp : refKind ty = false) : ∃ cA : ClassId, ArrOfT s cA ty ∧ va_RA s cA ty := by
  obtain ⟨cA, kA, comp, h1, h2, h3⟩ := Cond.arrayClass_spec h
  refine ⟨cA, fun n z => ⟨fun k h => (by cases h), kA, h2, comp, h3⟩, ?_⟩
  cases ty <;> first | exact h1 | (simp [refKind] at hp)
theorem law_ko {args : Array Value} {s : State} {C : String} (h : (Cond.arrayOver (.object C)).before args s = true) : ∃ cA : ClassId, ArrOfT s cA (.object C) ∧ va_RA s cA (.object C) := by
  obtain ⟨comp, cA, k, h1, h2, h3, h4, h5⟩ := Cond.arrayOver_spec h
  exact ⟨cA, fun n z => ⟨fun k h => (by cases h), k, h3, comp, h4⟩, k, comp, h3, h4, h1, h5⟩
set_option maxHeartbeats 4000000 in
theorem law_k {args : Array Value} {s : State} (hts : ∀ w ∈ lw_tbl, w.before args s = true) : ∃ k : Nat → ClassId, ∀ (i : Nat) (q : ClassId × FieldType), (tyz k)[i]? = some q → ArrOfT s q.1 q.2 ∧ va_RA s q.1 q.2 := by
  obtain ⟨c0, h0⟩ := law_ka (hts (.arrayClass .int) (by decide +kernel)) rfl
  obtain ⟨c1, h1⟩ := law_ka (hts (.arrayClass .long) (by decide +kernel)) rfl
  obtain ⟨c2, h2⟩ := law_ka (hts (.arrayClass .boolean) (by decide +kernel)) rfl
  obtain ⟨c3, h3⟩ := law_ka (hts (.arrayClass .byte) (by decide +kernel)) rfl
  obtain ⟨c4, h4⟩ := law_ko (hts (.arrayOver (.object "RungMoney$Town")) (by decide +kernel))
  obtain ⟨c5, h5⟩ := law_ko (hts (.arrayOver (.object "RungMoney$Sentence")) (by decide +kernel))
  obtain ⟨c6, h6⟩ := law_ko (hts (.arrayOver (.object "RungMoney$Key")) (by decide +kernel))
  refine ⟨fun i => if i = 0 then c0 else if i = 1 then c1 else if i = 2 then c2 else if i = 3 then c3 else if i = 4 then c4 else if i = 5 then c5 else c6, ?_⟩
  intro i q h
  match i, h with
  | 0, h => cases h; exact h0
  | 1, h => cases h; exact h1
  | 2, h => cases h; exact h2
  | 3, h => cases h; exact h3
  | 4, h => cases h; exact h4
  | 5, h => cases h; exact h5
  | 6, h => cases h; exact h6
  | n + 7, h => simp [tyz] at h
/-! ===== the 24 constants with their fields, the rows ===== -/
theorem zm_L : ∀ i, i < zkN.length → Cond.laysStatic RX2 (zkN.getD i "") zkD ∈ lw_tbl := by decide +kernel
theorem zm_E : ∀ i, i < zkN.length → Cond.exactly (.static RX2 (zkN.getD i "") zkD) RX2 ∈ kFl := by decide +kernel
theorem zm_F : ∀ q ∈ zkF, ∀ i, i < zkN.length → Cond.eq (.field (.static RX2 (zkN.getD i "") zkD) q.1 q.2.1 q.2.2.1) (.int (q.2.2.2.getD i 0)) ∈ kFl := by decide +kernel
theorem zm_A : ∀ j, j < 24 → Cond.eq (.elem kAll (.int (Int32.ofNat j))) (.static RX2 (zkN.getD j "") zkD) ∈ kFl := by decide +kernel
def zkW : List Int32 := [0, 0, 0, 0, 0, 1, 2, 3, 4, 5, 6, 7, 0, 0, 0, 0, 8, 9, 10, 11, 12, 13, 14, 0]
def kSw : Term := .static "RungMoney$1" "$SwitchMap$RungMoney$Key" "[I"
theorem zm_C : ∀ i, i < 24 → Cond.eq (.field (.static RX2 (zkN.getD i "") zkD) RX2 "code" "J") (.long (zkC.getD i 0)) ∈ kFl := by decide +kernel
theorem zm_W : ∀ j, j < 24 → Cond.eq (.elem kSw (.int (Int32.ofNat j))) (.int (zkW.getD j 0)) ∈ kFl := by decide +kernel
theorem zk_Fn {o n d : String} {v v' : Value} {t : Nat} {A : Nat → Prop} {U : State} {H : Heap} (h : va_OF o n d v t A U H) (h' : va_OF o n d v' t A U H) : v = v' := by
  obtain ⟨cf, k, i, f, cell, h1, h2, h3, h4, h5, -⟩ := h
  obtain ⟨cf', k', i', f', cell', g1, g2, g3, g4, g5, -⟩ := h'
  have e1 := Option.some.inj (h1.symm.trans g1)
  have e2 := Option.some.inj (h3.symm.trans g3)
  cases e1
  cases e2
  exact Option.some.inj (h5.symm.trans g5)
theorem zk_ne {s : State} (hfit : heapFits s = true) {ty : FieldType} {t N a : Nat} {f : Nat → Value} {A : Nat → Prop} (hT : va_T ty t N f A s s.heap) {o n d : String} {v : Value} (hO : va_OF o n d v a A s s.heap) (hv : fits ty v = false) : t ≠ a := by
  rintro rfl
  obtain ⟨cell, h1, h2, -⟩ := hT
  obtain ⟨cf, k, i, fd, cell', g1, g2, g3, g4, g5, -⟩ := hO
  have e2 := Option.some.inj (h1.symm.trans g3)
  subst e2
  have hF : s.Fit := (heapFits'_iff s).mp hfit
  have h3 := hF _ _ h1 _ _ g5
  obtain ⟨hs, kk, hk, comp, hkind⟩ := h2
  have h4 : s.slotType? cell.cls cell.vm fd.slot = some ty := by
    unfold State.slotType?
    cases hvm : cell.vm <;> first | exact absurd hvm (hs _) | simp [hk, hkind]
  unfold State.fitsSlot at h3
  rw [h4] at h3
  dsimp only at h3
  rw [hv] at h3
  cases h3
def zkF1 (i : Nat) : List (String × String × String × List Int32) := zkF.map (fun q => (q.1, q.2.1, q.2.2.1, [q.2.2.2.getD i 0]))
set_option maxHeartbeats 4000000 in
set_option maxRecDepth 100000 in
theorem law_en {args : Array Value} {s : State} (hts : ∀ w ∈ lw_tbl, w.before args s = true) (hgv : (Jvm.Cond.and given_1 narrow_1).before args s = true) : ∃ az : Nat → Nat, va_En RX2 zkD zkN zkF az (zkA s.heap.size) s s.heap ∧ ∀ i, i < zkN.length → (Term.static RX2 (zkN.getD i "") zkD).eval args s none [] s = some (.ref (az i)) := by
  have hs : ∀ c ∈ kFl, c.before args s = true := flat_of_before _ hgv
  have hA : ∀ a : Nat, a < s.heap.size → ¬ zkA s.heap.size a := fun a h z => absurd h (Nat.not_lt.mpr z)
  have hini : (Cond.initialized RX2).before args s = true := hts _ (by decide +kernel)
  have one : ∀ i : Nat, ∃ t : Nat, i < zkN.length → (va_Z RX2 (zkN.getD i "") zkD (.ref t) (zkA s.heap.size) s s.heap ∧ va_O RX2 t (zkA s.heap.size) s s.heap ∧ ∀ q ∈ zkF, va_OF q.1 q.2.1 q.2.2.1 (.int (q.2.2.2.getD i 0)) t (zkA s.heap.size) s s.heap) ∧ (Term.static RX2 (zkN.getD i "") zkD).eval args s none [] s = some (.ref t) := by
    intro i
    by_cases hi : i < zkN.length
    · obtain ⟨a1, hEn, hev⟩ := va_Enof2 (args := args) (E := RX2) (d := zkD) (nm := [zkN.getD i ""]) (F := zkF1 i) (A := zkA s.heap.size) (fun j hj => by have : j = 0 := Nat.lt_one_iff.mp hj; subst this; exact hts _ (zm_L i hi)) hini (fun j hj => by have : j = 0 := Nat.lt_one_iff.mp hj; subst this; exact hs _ (zm_E i hi))
        (fun q hq j hj => by
          have : j = 0 := Nat.lt_one_iff.mp hj
          subst this
          obtain ⟨q', h1, rfl⟩ := List.mem_map.mp hq
          exact hs _ (zm_F q' h1 i hi))
        (fun j j' hj hj' hne => by have e1 : j = 0 := Nat.lt_one_iff.mp hj; have e2 : j' = 0 := Nat.lt_one_iff.mp hj'; omega) hA
      refine ⟨a1 0, fun _ => ⟨⟨(hEn.1 0 Nat.zero_lt_one).1, (hEn.1 0 Nat.zero_lt_one).2.1, fun q hq => ?_⟩, hev 0 Nat.zero_lt_one⟩⟩
      exact (hEn.1 0 Nat.zero_lt_one).2.2 (q.1, q.2.1, q.2.2.1, [q.2.2.2.getD i 0]) (List.mem_map.mpr ⟨q, hq, rfl⟩)
    · exact ⟨0, fun h => absurd h hi⟩
  refine ⟨fun i => (one i).choose, ⟨fun i hi => ((one i).choose_spec hi).1, ?_⟩, fun i hi => ((one i).choose_spec hi).2⟩
  intro i j hi hj e
  have o1 := ((one i).choose_spec hi).1.2.2 ("java/lang/Enum", "ordinal", "I", [0, 1, 2, 3, 4, 5, 6, 7, 8, 9, 10, 11, 12, 13, 14, 15, 16, 17, 18, 19, 20, 21, 22, 23]) (by decide)
  have o2 := ((one j).choose_spec hj).1.2.2 ("java/lang/Enum", "ordinal", "I", [0, 1, 2, 3, 4, 5, 6, 7, 8, 9, 10, 11, 12, 13, 14, 15, 16, 17, 18, 19, 20, 21, 22, 23]) (by decide)
  have e : (one i).choose = (one j).choose := e
  rw [e] at o1
  have e3 := zk_Fn o1 o2
  have e4 : (([0, 1, 2, 3, 4, 5, 6, 7, 8, 9, 10, 11, 12, 13, 14, 15, 16, 17, 18, 19, 20, 21, 22, 23] : List Int32).getD i 0) = (([0, 1, 2, 3, 4, 5, 6, 7, 8, 9, 10, 11, 12, 13, 14, 15, 16, 17, 18, 19, 20, 21, 22, 23] : List Int32).getD j 0) := by
    injection e3
  have key : ∀ i, i < 24 → ∀ j, j < 24 → (([0, 1, 2, 3, 4, 5, 6, 7, 8, 9, 10, 11, 12, 13, 14, 15, 16, 17, 18, 19, 20, 21, 22, 23] : List Int32).getD i 0) = (([0, 1, 2, 3, 4, 5, 6, 7, 8, 9, 10, 11, 12, 13, 14, 15, 16, 17, 18, 19, 20, 21, 22, 23] : List Int32).getD j 0) → i = j := by decide +kernel
  exact key i hi j hj e4
set_option maxHeartbeats 4000000 in
set_option maxRecDepth 100000 in
theorem law_envZ {args : Array Value} {s : State} (hts : ∀ w ∈ lw_tbl, w.before args s = true) (hgv : (Jvm.Cond.and given_1 narrow_1).before args s = true) (hfit : heapFits s = true) : ∃ (ad : Nat → Nat) (al : Nat) (az : Nat → Nat) (sw : Nat), gX s.heap.size ad al [] s ∧ ad 0 = az 0 ∧ zEh s.heap.size az al sw s s.heap ∧ (∀ i, i < 24 → al ≠ az i) ∧ (∀ i, i < 24 → sw ≠ az i) ∧ al ≠ sw := by
  obtain ⟨ad, al, hX, hO, hAl⟩ := law_env hts hgv
  have hs : ∀ c ∈ kFl, c.before args s = true := flat_of_before _ hgv
  have hA : ∀ a : Nat, a < s.heap.size → ¬ zkA s.heap.size a := fun a h z => absurd h (Nat.not_lt.mpr z)
  have hini : (Cond.initialized RX2).before args s = true := hts _ (by decide +kernel)
  obtain ⟨az, hEn, hev⟩ := law_en hts hgv
  have h0 : (Term.static RX2 "OTHER" kD).eval args s none [] s = some (.ref (az 0)) := hev 0 (by decide)
  have e0 : ad 0 = az 0 := by
    have e := hO.symm.trans h0
    simpa using e
  have hZ : va_Z RX2 "ALL" "[LRungMoney$Key;" (.ref al) (zkA s.heap.size) s s.heap := va_Zref (hts _ (by decide +kernel)) hini hAl hA
  have hel : ∀ j : Nat, j < 24 → (Term.elem kAll (.int (Int32.ofNat j))).eval args s none [] s = some (.ref (az j)) := fun j hj => va_eqv (hs _ (zm_A j hj)) (hev j hj)
  obtain ⟨t, ht, hT⟩ := va_Tof (tm := kAll) (ty := .object "RungMoney$Key") (N := 24) (f := fun i => .ref (az i)) (A := zkA s.heap.size) (by decide) (hs _ (by decide +kernel)) (va_eqt (hs (Cond.eq (.length kAll) (.int 24)) (by decide +kernel))) hel hA
  have hta : t = al := by
    have e := ht.symm.trans hAl
    simpa using e
  subst hta
  have helw : ∀ j : Nat, j < 24 → (Term.elem kSw (.int (Int32.ofNat j))).eval args s none [] s = some (.int (zkW.getD j 0)) := fun j hj => va_eqv (hs _ (zm_W j hj)) rfl
  obtain ⟨sw, hw, hTw⟩ := va_Tof (tm := kSw) (ty := .int) (N := 24) (f := fun i => .int (zkW.getD i 0)) (A := zkA s.heap.size) (by decide) (hs _ (by decide +kernel)) (va_eqt (hs (Cond.eq (.length kSw) (.int 24)) (by decide +kernel))) helw hA
  have hZw : va_Z "RungMoney$1" "$SwitchMap$RungMoney$Key" "[I" (.ref sw) (zkA s.heap.size) s s.heap := va_Zref (hts _ (by decide +kernel)) (hts _ (by decide +kernel)) hw hA
  have hEf : va_Ef 24 RX2 "code" "J" (fun i => .long (zkC.getD i 0)) az (zkA s.heap.size) s s.heap := va_Efof (N := 24) (E := RX2) (d0 := zkD) (o := RX2) (n := "code") (d := "J") (nm := zkN) (v := fun i => .long (zkC.getD i 0)) (tm := fun i => .long (zkC.getD i 0)) (ad := az) (fun i hi => hev i hi) (fun i hi => hs _ (zm_C i hi)) (fun i hi => rfl) hA
  refine ⟨ad, t, az, sw, hX, e0, ⟨hEn, hZ, hT, hZw, ⟨_, hTw⟩, ⟨fun i => zkC.getD i 0, rfl⟩, hEf⟩, fun i hi => zk_ne hfit hT (hEf i hi) rfl, fun i hi => zk_ne hfit hTw (hEf i hi) rfl, ?_⟩
  rintro rfl
  obtain ⟨c1, g1, -, -, -, -, g2, -⟩ := hT
  obtain ⟨c2, g3, -, -, -, -, g4, -⟩ := hTw
  cases Option.some.inj (g1.symm.trans g3)
  have z := Option.some.inj ((g2 0 (by decide)).symm.trans (g4 0 (by decide)))
  cases z
