/-! ===== what the Statement gives of the start: Key's constants, the tables' words ===== -/
def kFl : List Cond := flatC (Jvm.Cond.and given_1 narrow_1)
def kNm24 : List String := ["OTHER", "MAN", "LADDER", "DEBT", "ROT", "PAYS", "SAWS", "SPLICES", "CLIMBS", "BURNS", "PAINTS", "TAXES", "WINTER", "OR", "AND", "NOT", "GONE", "BEARS", "FALSE", "OF", "LONG", "LOOKS", "WORTH", "NUMBER"]
def kAll : Term := .static RX2 "ALL" "[LRungMoney$Key;"
theorem km_L : ∀ i, i < kNm.length → Cond.laysStatic RX2 (kNm.getD i "") kD ∈ lw_tbl := by decide +kernel
theorem km_E : ∀ i, i < kNm24.length → Cond.exactly (.static RX2 (kNm24.getD i "") kD) RX2 ∈ kFl := by decide +kernel
theorem km_E10 : ∀ i, i < kNm.length → Cond.exactly (.static RX2 (kNm.getD i "") kD) RX2 ∈ kFl := by decide +kernel
theorem km_N0 : ∀ j, j < kNm.length → 0 ≠ j → (Cond.not (.eq (.static RX2 (kNm.getD 0 "") kD) (.static RX2 (kNm.getD j "") kD)) ∈ kFl ∨ Cond.not (.eq (.static RX2 (kNm.getD j "") kD) (.static RX2 (kNm.getD 0 "") kD)) ∈ kFl) := by decide +kernel
theorem km_N1 : ∀ j, j < kNm.length → 1 ≠ j → (Cond.not (.eq (.static RX2 (kNm.getD 1 "") kD) (.static RX2 (kNm.getD j "") kD)) ∈ kFl ∨ Cond.not (.eq (.static RX2 (kNm.getD j "") kD) (.static RX2 (kNm.getD 1 "") kD)) ∈ kFl) := by decide +kernel
theorem km_N2 : ∀ j, j < kNm.length → 2 ≠ j → (Cond.not (.eq (.static RX2 (kNm.getD 2 "") kD) (.static RX2 (kNm.getD j "") kD)) ∈ kFl ∨ Cond.not (.eq (.static RX2 (kNm.getD j "") kD) (.static RX2 (kNm.getD 2 "") kD)) ∈ kFl) := by decide +kernel
theorem km_N3 : ∀ j, j < kNm.length → 3 ≠ j → (Cond.not (.eq (.static RX2 (kNm.getD 3 "") kD) (.static RX2 (kNm.getD j "") kD)) ∈ kFl ∨ Cond.not (.eq (.static RX2 (kNm.getD j "") kD) (.static RX2 (kNm.getD 3 "") kD)) ∈ kFl) := by decide +kernel
theorem km_N4 : ∀ j, j < kNm.length → 4 ≠ j → (Cond.not (.eq (.static RX2 (kNm.getD 4 "") kD) (.static RX2 (kNm.getD j "") kD)) ∈ kFl ∨ Cond.not (.eq (.static RX2 (kNm.getD j "") kD) (.static RX2 (kNm.getD 4 "") kD)) ∈ kFl) := by decide +kernel
theorem km_N5 : ∀ j, j < kNm.length → 5 ≠ j → (Cond.not (.eq (.static RX2 (kNm.getD 5 "") kD) (.static RX2 (kNm.getD j "") kD)) ∈ kFl ∨ Cond.not (.eq (.static RX2 (kNm.getD j "") kD) (.static RX2 (kNm.getD 5 "") kD)) ∈ kFl) := by decide +kernel
theorem km_N6 : ∀ j, j < kNm.length → 6 ≠ j → (Cond.not (.eq (.static RX2 (kNm.getD 6 "") kD) (.static RX2 (kNm.getD j "") kD)) ∈ kFl ∨ Cond.not (.eq (.static RX2 (kNm.getD j "") kD) (.static RX2 (kNm.getD 6 "") kD)) ∈ kFl) := by decide +kernel
theorem km_N7 : ∀ j, j < kNm.length → 7 ≠ j → (Cond.not (.eq (.static RX2 (kNm.getD 7 "") kD) (.static RX2 (kNm.getD j "") kD)) ∈ kFl ∨ Cond.not (.eq (.static RX2 (kNm.getD j "") kD) (.static RX2 (kNm.getD 7 "") kD)) ∈ kFl) := by decide +kernel
theorem km_N8 : ∀ j, j < kNm.length → 8 ≠ j → (Cond.not (.eq (.static RX2 (kNm.getD 8 "") kD) (.static RX2 (kNm.getD j "") kD)) ∈ kFl ∨ Cond.not (.eq (.static RX2 (kNm.getD j "") kD) (.static RX2 (kNm.getD 8 "") kD)) ∈ kFl) := by decide +kernel
theorem km_N9 : ∀ j, j < kNm.length → 9 ≠ j → (Cond.not (.eq (.static RX2 (kNm.getD 9 "") kD) (.static RX2 (kNm.getD j "") kD)) ∈ kFl ∨ Cond.not (.eq (.static RX2 (kNm.getD j "") kD) (.static RX2 (kNm.getD 9 "") kD)) ∈ kFl) := by decide +kernel
theorem km_N : ∀ i, i < kNm.length → ∀ j, j < kNm.length → i ≠ j → (Cond.not (.eq (.static RX2 (kNm.getD i "") kD) (.static RX2 (kNm.getD j "") kD)) ∈ kFl ∨ Cond.not (.eq (.static RX2 (kNm.getD j "") kD) (.static RX2 (kNm.getD i "") kD)) ∈ kFl) := by
  intro i hi
  match i, hi with
  | 0, _ => exact km_N0
  | 1, _ => exact km_N1
  | 2, _ => exact km_N2
  | 3, _ => exact km_N3
  | 4, _ => exact km_N4
  | 5, _ => exact km_N5
  | 6, _ => exact km_N6
  | 7, _ => exact km_N7
  | 8, _ => exact km_N8
  | 9, _ => exact km_N9
  | n + 10, hi => exact absurd hi (by simp [kNm])
theorem km_A : ∀ j, j < kNm24.length → Cond.eq (.elem kAll (.int (Int32.ofNat j))) (.static RX2 (kNm24.getD j "") kD) ∈ kFl := by decide +kernel
set_option maxHeartbeats 4000000 in
set_option maxRecDepth 100000 in
theorem law_env {args : Array Value} {s : State} (hts : ∀ w ∈ lw_tbl, w.before args s = true) (hgv : (Jvm.Cond.and given_1 narrow_1).before args s = true) : ∃ (ad : Nat → Nat) (al : Nat), gX s.heap.size ad al [] s ∧ (Term.static RX2 "OTHER" kD).eval args s none [] s = some (.ref (ad 0)) ∧ kAll.eval args s none [] s = some (.ref al) := by
  have hs : ∀ c ∈ kFl, c.before args s = true := flat_of_before _ hgv
  have hA : ∀ a : Nat, a < s.heap.size → ¬ kA s.heap.size a := fun a h z => absurd h (Nat.not_lt.mpr z)
  have hini : (Cond.initialized RX2).before args s = true := hts _ (by decide +kernel)
  obtain ⟨ad, hEn, hev⟩ := va_Enof2 (E := RX2) (d := kD) (nm := kNm) (F := kF) (A := kA s.heap.size) (fun i hi => hts _ (km_L i hi)) hini (fun i hi => hs _ (km_E10 i hi)) (fun q hq => by cases hq)
    (fun i j hi hj hne => (km_N i hi j hj hne).elim (fun h => Or.inl (hs _ h)) (fun h => Or.inr (hs _ h))) hA
  have h0 : (Term.static RX2 "OTHER" kD).eval args s none [] s = some (.ref (ad 0)) := hev 0 (by decide)
  obtain ⟨al, c9, cell9, k9, q1, -⟩ := Cond.exactly_spec (hs (Cond.exactly kAll "[LRungMoney$Key;") (by decide +kernel))
  have hZ : va_Z RX2 "ALL" "[LRungMoney$Key;" (.ref al) (kA s.heap.size) s s.heap := va_Zref (hts _ (by decide +kernel)) hini q1 hA
  have hel : ∀ j : Nat, j < 24 → (Term.elem kAll (.int (Int32.ofNat j))).eval args s none [] s = some (((Term.elem kAll (.int (Int32.ofNat j))).eval args s none [] s).getD .null) := by
    intro j hj
    obtain ⟨a, c8, cell8, k8, z1, -⟩ := Cond.exactly_spec (hs _ (km_E j hj))
    rw [va_eqv (hs _ (km_A j hj)) z1]
    rfl
  have he0 : (Term.elem kAll (.int (Int32.ofNat 0))).eval args s none [] s = some (.ref (ad 0)) := va_eqv (hs _ (km_A 0 (by decide))) h0
  obtain ⟨t, ht, hT⟩ := va_Tof (tm := kAll) (ty := .object "RungMoney$Key") (N := 24) (A := kA s.heap.size) (by decide) (hs _ (by decide +kernel)) (va_eqt (hs (Cond.eq (.length kAll) (.int 24)) (by decide +kernel))) hel hA
  have hta : t = al := by
    have e := ht.symm.trans q1
    simpa using e
  subst hta
  have hc0 : (Cond.eq (.field (.static RX2 "OTHER" kD) RX2 "code" "J") (.long 0)).before args s = true := hs _ (by decide +kernel)
  have hcode : va_OF RX2 "code" "J" (.long 0) (ad 0) (kA s.heap.size) s s.heap := (va_Efof (N := 1) (E := RX2) (d0 := kD) (o := RX2) (n := "code") (d := "J") (nm := kNm) (v := fun _ => .long 0) (tm := fun _ => .long 0) (ad := ad) (fun i hi => hev i (Nat.lt_trans hi (by decide))) (fun i hi => by have hi0 : i = 0 := Nat.lt_one_iff.mp hi; subst hi0; exact hc0) (fun _ _ => rfl) hA) 0 (by decide)
  refine ⟨ad, t, ⟨⟨Nat.le_refl _, ⟨hEn, hZ, ⟨_, ?_, hT⟩, hcode, vx_Zqof (hts _ (by decide +kernel)) (hts _ (by decide +kernel)) (hs _ (by decide +kernel)) hA, vx_Zqof (hts _ (by decide +kernel)) (hts _ (by decide +kernel)) (hs _ (by decide +kernel)) hA⟩, ?_⟩, fun c h => by cases h⟩, h0, ht⟩
  · show ((Term.elem kAll (.int (Int32.ofNat 0))).eval args s none [] s).getD .null = .ref (ad 0)
    rw [he0]; rfl
  · exact ⟨⟨va_AO.of (hts _ (by decide +kernel)), va_AO.of (hts _ (by decide +kernel)), va_AO.of (hts _ (by decide +kernel)), va_Nw.of rfl (hts _ (by decide +kernel))⟩, va_Nw.of rfl (hts _ (by decide +kernel)), va_Nw.of rfl (hts _ (by decide +kernel)), va_Nw.of rfl (hts _ (by decide +kernel)), va_Nw.of rfl (hts _ (by decide +kernel)), va_Nw.of rfl (hts _ (by decide +kernel)), va_Nw.of rfl (hts _ (by decide +kernel))⟩
theorem law_ka {args : Array Value} {s : State} {ty : FieldType} (h : (Cond.arrayClass ty).before args s = true) (hp : refKind ty = false) : ∃ cA : ClassId, ArrOfT s cA ty ∧ va_RA s cA ty := by
  obtain ⟨cA, kA, comp, h1, h2, h3⟩ := Cond.arrayClass_spec h
  refine ⟨cA, fun n z => ⟨fun k h => (by cases h), kA, h2, comp, h3⟩, ?_⟩
  cases ty <;> first | exact h1 | (simp [refKind] at hp)
theorem law_ko {args : Array Value} {s : State} {C : String} (h : (Cond.arrayOver (.object C)).before args s = true) : ∃ cA : ClassId, ArrOfT s cA (.object C) ∧ va_RA s cA (.object C) := by
  obtain ⟨comp, cA, k, h1, h2, h3, h4, h5⟩ := Cond.arrayOver_spec h
  exact ⟨cA, fun n z => ⟨fun k h => (by cases h), k, h3, comp, h4⟩, k, comp, h3, h4, h1, h5⟩
set_option maxHeartbeats 4000000 in
theorem law_k {args : Array Value} {s : State} (hts : ∀ w ∈ lw_tbl, w.before args s = true) : ∃ k : Nat → ClassId, ∀ (i : Nat) (q : ClassId × FieldType), (tyz k)[i]? = some q → ArrOfT s q.1 q.2 ∧ va_RA s q.1 q.2 := by
  obtain ⟨c0, h0⟩ := law_ka (hts (.arrayClass .int) (by decide +kernel)) rfl
  obtain ⟨c1, h1⟩ := law_ka (hts (.arrayClass .long) (by decide +kernel)) rfl
  obtain ⟨c2, h2⟩ := law_ka (hts (.arrayClass .boolean) (by decide +kernel)) rfl
  obtain ⟨c3, h3⟩ := law_ka (hts (.arrayClass .byte) (by decide +kernel)) rfl
  obtain ⟨c4, h4⟩ := law_ko (hts (.arrayOver (.object "RungMoney$Town")) (by decide +kernel))
  obtain ⟨c5, h5⟩ := law_ko (hts (.arrayOver (.object "RungMoney$Sentence")) (by decide +kernel))
  obtain ⟨c6, h6⟩ := law_ko (hts (.arrayOver (.object "RungMoney$Key")) (by decide +kernel))
  refine ⟨fun i => if i = 0 then c0 else if i = 1 then c1 else if i = 2 then c2 else if i = 3 then c3 else if i = 4 then c4 else if i = 5 then c5 else c6, ?_⟩
  intro i q h
  match i, h with
  | 0, h => cases h; exact h0
  | 1, h => cases h; exact h1
  | 2, h => cases h; exact h2
  | 3, h => cases h; exact h3
  | 4, h => cases h; exact h4
  | 5, h => cases h; exact h5
  | 6, h => cases h; exact h6
  | n + 7, h => simp [tyz] at h
/-! ===== the 24 constants with their fields, the rows ===== -/
theorem zm_L : ∀ i, i < zkN.length → Cond.laysStatic RX2 (zkN.getD i "") zkD ∈ lw_tbl := by decide +kernel
theorem zm_E : ∀ i, i < zkN.length → Cond.exactly (.static RX2 (zkN.getD i "") zkD) RX2 ∈ kFl := by decide +kernel
theorem zm_N0 : ∀ j, j < zkN.length → 0 ≠ j → (Cond.not (.eq (.static RX2 (zkN.getD 0 "") zkD) (.static RX2 (zkN.getD j "") zkD)) ∈ kFl ∨ Cond.not (.eq (.static RX2 (zkN.getD j "") zkD) (.static RX2 (zkN.getD 0 "") zkD)) ∈ kFl) := by decide +kernel
theorem zm_N1 : ∀ j, j < zkN.length → 1 ≠ j → (Cond.not (.eq (.static RX2 (zkN.getD 1 "") zkD) (.static RX2 (zkN.getD j "") zkD)) ∈ kFl ∨ Cond.not (.eq (.static RX2 (zkN.getD j "") zkD) (.static RX2 (zkN.getD 1 "") zkD)) ∈ kFl) := by decide +kernel
theorem zm_N2 : ∀ j, j < zkN.length → 2 ≠ j → (Cond.not (.eq (.static RX2 (zkN.getD 2 "") zkD) (.static RX2 (zkN.getD j "") zkD)) ∈ kFl ∨ Cond.not (.eq (.static RX2 (zkN.getD j "") zkD) (.static RX2 (zkN.getD 2 "") zkD)) ∈ kFl) := by decide +kernel
theorem zm_N3 : ∀ j, j < zkN.length → 3 ≠ j → (Cond.not (.eq (.static RX2 (zkN.getD 3 "") zkD) (.static RX2 (zkN.getD j "") zkD)) ∈ kFl ∨ Cond.not (.eq (.static RX2 (zkN.getD j "") zkD) (.static RX2 (zkN.getD 3 "") zkD)) ∈ kFl) := by decide +kernel
theorem zm_N4 : ∀ j, j < zkN.length → 4 ≠ j → (Cond.not (.eq (.static RX2 (zkN.getD 4 "") zkD) (.static RX2 (zkN.getD j "") zkD)) ∈ kFl ∨ Cond.not (.eq (.static RX2 (zkN.getD j "") zkD) (.static RX2 (zkN.getD 4 "") zkD)) ∈ kFl) := by decide +kernel
theorem zm_N5 : ∀ j, j < zkN.length → 5 ≠ j → (Cond.not (.eq (.static RX2 (zkN.getD 5 "") zkD) (.static RX2 (zkN.getD j "") zkD)) ∈ kFl ∨ Cond.not (.eq (.static RX2 (zkN.getD j "") zkD) (.static RX2 (zkN.getD 5 "") zkD)) ∈ kFl) := by decide +kernel
theorem zm_N6 : ∀ j, j < zkN.length → 6 ≠ j → (Cond.not (.eq (.static RX2 (zkN.getD 6 "") zkD) (.static RX2 (zkN.getD j "") zkD)) ∈ kFl ∨ Cond.not (.eq (.static RX2 (zkN.getD j "") zkD) (.static RX2 (zkN.getD 6 "") zkD)) ∈ kFl) := by decide +kernel
theorem zm_N7 : ∀ j, j < zkN.length → 7 ≠ j → (Cond.not (.eq (.static RX2 (zkN.getD 7 "") zkD) (.static RX2 (zkN.getD j "") zkD)) ∈ kFl ∨ Cond.not (.eq (.static RX2 (zkN.getD j "") zkD) (.static RX2 (zkN.getD 7 "") zkD)) ∈ kFl) := by decide +kernel
theorem zm_N8 : ∀ j, j < zkN.length → 8 ≠ j → (Cond.not (.eq (.static RX2 (zkN.getD 8 "") zkD) (.static RX2 (zkN.getD j "") zkD)) ∈ kFl ∨ Cond.not (.eq (.static RX2 (zkN.getD j "") zkD) (.static RX2 (zkN.getD 8 "") zkD)) ∈ kFl) := by decide +kernel
theorem zm_N9 : ∀ j, j < zkN.length → 9 ≠ j → (Cond.not (.eq (.static RX2 (zkN.getD 9 "") zkD) (.static RX2 (zkN.getD j "") zkD)) ∈ kFl ∨ Cond.not (.eq (.static RX2 (zkN.getD j "") zkD) (.static RX2 (zkN.getD 9 "") zkD)) ∈ kFl) := by decide +kernel
theorem zm_N10 : ∀ j, j < zkN.length → 10 ≠ j → (Cond.not (.eq (.static RX2 (zkN.getD 10 "") zkD) (.static RX2 (zkN.getD j "") zkD)) ∈ kFl ∨ Cond.not (.eq (.static RX2 (zkN.getD j "") zkD) (.static RX2 (zkN.getD 10 "") zkD)) ∈ kFl) := by decide +kernel
theorem zm_N11 : ∀ j, j < zkN.length → 11 ≠ j → (Cond.not (.eq (.static RX2 (zkN.getD 11 "") zkD) (.static RX2 (zkN.getD j "") zkD)) ∈ kFl ∨ Cond.not (.eq (.static RX2 (zkN.getD j "") zkD) (.static RX2 (zkN.getD 11 "") zkD)) ∈ kFl) := by decide +kernel
theorem zm_N12 : ∀ j, j < zkN.length → 12 ≠ j → (Cond.not (.eq (.static RX2 (zkN.getD 12 "") zkD) (.static RX2 (zkN.getD j "") zkD)) ∈ kFl ∨ Cond.not (.eq (.static RX2 (zkN.getD j "") zkD) (.static RX2 (zkN.getD 12 "") zkD)) ∈ kFl) := by decide +kernel
theorem zm_N13 : ∀ j, j < zkN.length → 13 ≠ j → (Cond.not (.eq (.static RX2 (zkN.getD 13 "") zkD) (.static RX2 (zkN.getD j "") zkD)) ∈ kFl ∨ Cond.not (.eq (.static RX2 (zkN.getD j "") zkD) (.static RX2 (zkN.getD 13 "") zkD)) ∈ kFl) := by decide +kernel
theorem zm_N14 : ∀ j, j < zkN.length → 14 ≠ j → (Cond.not (.eq (.static RX2 (zkN.getD 14 "") zkD) (.static RX2 (zkN.getD j "") zkD)) ∈ kFl ∨ Cond.not (.eq (.static RX2 (zkN.getD j "") zkD) (.static RX2 (zkN.getD 14 "") zkD)) ∈ kFl) := by decide +kernel
theorem zm_N15 : ∀ j, j < zkN.length → 15 ≠ j → (Cond.not (.eq (.static RX2 (zkN.getD 15 "") zkD) (.static RX2 (zkN.getD j "") zkD)) ∈ kFl ∨ Cond.not (.eq (.static RX2 (zkN.getD j "") zkD) (.static RX2 (zkN.getD 15 "") zkD)) ∈ kFl) := by decide +kernel
theorem zm_N16 : ∀ j, j < zkN.length → 16 ≠ j → (Cond.not (.eq (.static RX2 (zkN.getD 16 "") zkD) (.static RX2 (zkN.getD j "") zkD)) ∈ kFl ∨ Cond.not (.eq (.static RX2 (zkN.getD j "") zkD) (.static RX2 (zkN.getD 16 "") zkD)) ∈ kFl) := by decide +kernel
theorem zm_N17 : ∀ j, j < zkN.length → 17 ≠ j → (Cond.not (.eq (.static RX2 (zkN.getD 17 "") zkD) (.static RX2 (zkN.getD j "") zkD)) ∈ kFl ∨ Cond.not (.eq (.static RX2 (zkN.getD j "") zkD) (.static RX2 (zkN.getD 17 "") zkD)) ∈ kFl) := by decide +kernel
theorem zm_N18 : ∀ j, j < zkN.length → 18 ≠ j → (Cond.not (.eq (.static RX2 (zkN.getD 18 "") zkD) (.static RX2 (zkN.getD j "") zkD)) ∈ kFl ∨ Cond.not (.eq (.static RX2 (zkN.getD j "") zkD) (.static RX2 (zkN.getD 18 "") zkD)) ∈ kFl) := by decide +kernel
theorem zm_N19 : ∀ j, j < zkN.length → 19 ≠ j → (Cond.not (.eq (.static RX2 (zkN.getD 19 "") zkD) (.static RX2 (zkN.getD j "") zkD)) ∈ kFl ∨ Cond.not (.eq (.static RX2 (zkN.getD j "") zkD) (.static RX2 (zkN.getD 19 "") zkD)) ∈ kFl) := by decide +kernel
theorem zm_N20 : ∀ j, j < zkN.length → 20 ≠ j → (Cond.not (.eq (.static RX2 (zkN.getD 20 "") zkD) (.static RX2 (zkN.getD j "") zkD)) ∈ kFl ∨ Cond.not (.eq (.static RX2 (zkN.getD j "") zkD) (.static RX2 (zkN.getD 20 "") zkD)) ∈ kFl) := by decide +kernel
theorem zm_N21 : ∀ j, j < zkN.length → 21 ≠ j → (Cond.not (.eq (.static RX2 (zkN.getD 21 "") zkD) (.static RX2 (zkN.getD j "") zkD)) ∈ kFl ∨ Cond.not (.eq (.static RX2 (zkN.getD j "") zkD) (.static RX2 (zkN.getD 21 "") zkD)) ∈ kFl) := by decide +kernel
theorem zm_N22 : ∀ j, j < zkN.length → 22 ≠ j → (Cond.not (.eq (.static RX2 (zkN.getD 22 "") zkD) (.static RX2 (zkN.getD j "") zkD)) ∈ kFl ∨ Cond.not (.eq (.static RX2 (zkN.getD j "") zkD) (.static RX2 (zkN.getD 22 "") zkD)) ∈ kFl) := by decide +kernel
theorem zm_N23 : ∀ j, j < zkN.length → 23 ≠ j → (Cond.not (.eq (.static RX2 (zkN.getD 23 "") zkD) (.static RX2 (zkN.getD j "") zkD)) ∈ kFl ∨ Cond.not (.eq (.static RX2 (zkN.getD j "") zkD) (.static RX2 (zkN.getD 23 "") zkD)) ∈ kFl) := by decide +kernel
theorem zm_N : ∀ i, i < zkN.length → ∀ j, j < zkN.length → i ≠ j → (Cond.not (.eq (.static RX2 (zkN.getD i "") zkD) (.static RX2 (zkN.getD j "") zkD)) ∈ kFl ∨ Cond.not (.eq (.static RX2 (zkN.getD j "") zkD) (.static RX2 (zkN.getD i "") zkD)) ∈ kFl) := by
  intro i hi
  match i, hi with
  | 0, _ => exact zm_N0
  | 1, _ => exact zm_N1
  | 2, _ => exact zm_N2
  | 3, _ => exact zm_N3
  | 4, _ => exact zm_N4
  | 5, _ => exact zm_N5
  | 6, _ => exact zm_N6
  | 7, _ => exact zm_N7
  | 8, _ => exact zm_N8
  | 9, _ => exact zm_N9
  | 10, _ => exact zm_N10
  | 11, _ => exact zm_N11
  | 12, _ => exact zm_N12
  | 13, _ => exact zm_N13
  | 14, _ => exact zm_N14
  | 15, _ => exact zm_N15
  | 16, _ => exact zm_N16
  | 17, _ => exact zm_N17
  | 18, _ => exact zm_N18
  | 19, _ => exact zm_N19
  | 20, _ => exact zm_N20
  | 21, _ => exact zm_N21
  | 22, _ => exact zm_N22
  | 23, _ => exact zm_N23
  | n + 24, hi => exact absurd hi (by simp [zkN])
theorem zm_F : ∀ q ∈ zkF, ∀ i, i < zkN.length → Cond.eq (.field (.static RX2 (zkN.getD i "") zkD) q.1 q.2.1 q.2.2.1) (.int (q.2.2.2.getD i 0)) ∈ kFl := by decide +kernel
theorem zm_A : ∀ j, j < 24 → Cond.eq (.elem kAll (.int (Int32.ofNat j))) (.static RX2 (zkN.getD j "") zkD) ∈ kFl := by decide +kernel
def zkC : List Int64 := [0, 13358, 403837106, 136276, 18932, 526131, 624371, 20950846643, 113554515, 2804179, 538229395, 21029043, 781668530, 498, 1476, 14836, 245189, 2262611, 6337125, 486, 409031, 13090163, 24627848, 492210354]
def zkW : List Int32 := [0, 0, 0, 0, 0, 1, 2, 3, 4, 5, 6, 7, 0, 0, 0, 0, 8, 9, 10, 11, 12, 13, 14, 0]
def kSw : Term := .static "RungMoney$1" "$SwitchMap$RungMoney$Key" "[I"
theorem zm_C : ∀ i, i < 24 → Cond.eq (.field (.static RX2 (zkN.getD i "") zkD) RX2 "code" "J") (.long (zkC.getD i 0)) ∈ kFl := by decide +kernel
theorem zm_W : ∀ j, j < 24 → Cond.eq (.elem kSw (.int (Int32.ofNat j))) (.int (zkW.getD j 0)) ∈ kFl := by decide +kernel
set_option maxHeartbeats 4000000 in
set_option maxRecDepth 100000 in
theorem law_envZ {args : Array Value} {s : State} (hts : ∀ w ∈ lw_tbl, w.before args s = true) (hgv : (Jvm.Cond.and given_1 narrow_1).before args s = true) : ∃ (ad : Nat → Nat) (al : Nat) (az : Nat → Nat) (sw : Nat), gX s.heap.size ad al [] s ∧ ad 0 = az 0 ∧ zEh s.heap.size az al sw s s.heap := by
  obtain ⟨ad, al, hX, hO, hAl⟩ := law_env hts hgv
  have hs : ∀ c ∈ kFl, c.before args s = true := flat_of_before _ hgv
  have hA : ∀ a : Nat, a < s.heap.size → ¬ zkA s.heap.size a := fun a h z => absurd h (Nat.not_lt.mpr z)
  have hini : (Cond.initialized RX2).before args s = true := hts _ (by decide +kernel)
  obtain ⟨az, hEn, hev⟩ := va_Enof2 (E := RX2) (d := zkD) (nm := zkN) (F := zkF) (A := zkA s.heap.size) (fun i hi => hts _ (zm_L i hi)) hini (fun i hi => hs _ (zm_E i hi)) (fun q hq i hi => hs _ (zm_F q hq i hi))
    (fun i j hi hj hne => (zm_N i hi j hj hne).elim (fun h => Or.inl (hs _ h)) (fun h => Or.inr (hs _ h))) hA
  have h0 : (Term.static RX2 "OTHER" kD).eval args s none [] s = some (.ref (az 0)) := hev 0 (by decide)
  have e0 : ad 0 = az 0 := by
    have e := hO.symm.trans h0
    simpa using e
  have hZ : va_Z RX2 "ALL" "[LRungMoney$Key;" (.ref al) (zkA s.heap.size) s s.heap := va_Zref (hts _ (by decide +kernel)) hini hAl hA
  have hel : ∀ j : Nat, j < 24 → (Term.elem kAll (.int (Int32.ofNat j))).eval args s none [] s = some (.ref (az j)) := fun j hj => va_eqv (hs _ (zm_A j hj)) (hev j hj)
  obtain ⟨t, ht, hT⟩ := va_Tof (tm := kAll) (ty := .object "RungMoney$Key") (N := 24) (f := fun i => .ref (az i)) (A := zkA s.heap.size) (by decide) (hs _ (by decide +kernel)) (va_eqt (hs (Cond.eq (.length kAll) (.int 24)) (by decide +kernel))) hel hA
  have hta : t = al := by
    have e := ht.symm.trans hAl
    simpa using e
  subst hta
  have helw : ∀ j : Nat, j < 24 → (Term.elem kSw (.int (Int32.ofNat j))).eval args s none [] s = some (.int (zkW.getD j 0)) := fun j hj => va_eqv (hs _ (zm_W j hj)) rfl
  obtain ⟨sw, hw, hTw⟩ := va_Tof (tm := kSw) (ty := .int) (N := 24) (f := fun i => .int (zkW.getD i 0)) (A := zkA s.heap.size) (by decide) (hs _ (by decide +kernel)) (va_eqt (hs (Cond.eq (.length kSw) (.int 24)) (by decide +kernel))) helw hA
  have hZw : va_Z "RungMoney$1" "$SwitchMap$RungMoney$Key" "[I" (.ref sw) (zkA s.heap.size) s s.heap := va_Zref (hts _ (by decide +kernel)) (hts _ (by decide +kernel)) hw hA
  refine ⟨ad, t, az, sw, hX, e0, hEn, hZ, hT, hZw, ⟨_, hTw⟩, fun i => zkC.getD i 0, ?_⟩
  exact va_Efof (N := 24) (E := RX2) (d0 := zkD) (o := RX2) (n := "code") (d := "J") (nm := zkN) (v := fun i => .long (zkC.getD i 0)) (tm := fun i => .long (zkC.getD i 0)) (ad := az) (fun i hi => hev i hi) (fun i hi => hs _ (zm_C i hi)) (fun i hi => rfl) hA
