/-! ===== the class reads a token ===== -/
def fp (S : Nat → Nat → Bool) (I I' : Nat → Nat → Int32) : Prop := ∀ g i, S g i = false → I' g i = I g i
def fpl (S : Nat → Nat → Bool) (L L' : Nat → Nat → Int64) : Prop := ∀ g i, S g i = false → L' g i = L g i
theorem fp.rf {S : Nat → Nat → Bool} {I : Nat → Nat → Int32} : fp S I I := fun _ _ _ => rfl
theorem fpl.rf {S : Nat → Nat → Bool} {L : Nat → Nat → Int64} : fpl S L L := fun _ _ _ => rfl
theorem fp.tr {S : Nat → Nat → Bool} {I J K : Nat → Nat → Int32} (h : fp S I J) (h2 : fp S J K) : fp S I K := fun g i q => (h2 g i q).trans (h g i q)
theorem fpl.tr {S : Nat → Nat → Bool} {I J K : Nat → Nat → Int64} (h : fpl S I J) (h2 : fpl S J K) : fpl S I K := fun g i q => (h2 g i q).trans (h g i q)
theorem fp.mono {S S' : Nat → Nat → Bool} {I J : Nat → Nat → Int32} (h : fp S I J) (hs : ∀ g i, S' g i = false → S g i = false) : fp S' I J := fun g i q => h g i (hs g i q)
theorem fpl.mono {S S' : Nat → Nat → Bool} {I J : Nat → Nat → Int64} (h : fpl S I J) (hs : ∀ g i, S' g i = false → S g i = false) : fpl S' I J := fun g i q => h g i (hs g i q)
theorem nb2 {g i g' i' : Nat} {S : Nat → Nat → Bool} (hg : S g i = true) (q : S g' i' = false) : (Nat.beq g' g && Nat.beq i' i) = false := by
  cases hb : (Nat.beq g' g && Nat.beq i' i)
  · rfl
  · rw [Bool.and_eq_true] at hb
    rw [Nat.eq_of_beq_eq_true hb.1, Nat.eq_of_beq_eq_true hb.2, hg] at q
    cases q
theorem fp.up {S : Nat → Nat → Bool} {I J : Nat → Nat → Int32} {g i : Nat} {x : Int32} (h : fp S I J) (hg : S g i = true) : fp S I (xu J g i x) := fun g' i' q => by
  rw [xu_ne (nb2 hg q)]
  exact h g' i' q
theorem fpl.up {S : Nat → Nat → Bool} {I J : Nat → Nat → Int64} {g i : Nat} {x : Int64} (h : fpl S I J) (hg : S g i = true) : fpl S I (xul J g i x) := fun g' i' q => by
  rw [xul_ne (nb2 hg q)]
  exact h g' i' q
/-- comparisons as those of whole numbers -/
def icmp (c : ClassFile.Cond) (a b : Int) : Bool := match c with
  | .eq => decide (a = b)
  | .ne => decide (¬ a = b)
  | .lt => decide (a < b)
  | .ge => decide (b ≤ a)
  | .gt => decide (b < a)
  | .le => decide (a ≤ b)
theorem dec_iff {p q : Prop} [Decidable p] [Decidable q] (h : p ↔ q) : decide p = decide q := by
  by_cases hp : p
  · rw [decide_eq_true hp, decide_eq_true (h.mp hp)]
  · rw [decide_eq_false hp, decide_eq_false (fun hq => hp (h.mpr hq))]
theorem xc {c : ClassFile.Cond} {x y : Int32} : xe_cmp c x y = icmp c x.toInt y.toInt := by
  cases c
  · exact dec_iff Int32.toInt_inj.symm
  · exact dec_iff (not_congr Int32.toInt_inj.symm)
  · exact dec_iff Int32.lt_iff_toInt_lt
  · exact dec_iff Int32.le_iff_toInt_le
  · exact dec_iff Int32.lt_iff_toInt_lt
  · exact dec_iff Int32.le_iff_toInt_le
theorem tx_sm_iff {c : Int32} : tx_sm c = true ↔ 97 ≤ c.toInt ∧ c.toInt ≤ 122 := by
  unfold tx_sm
  rw [Bool.and_eq_true, decide_eq_true_eq, decide_eq_true_eq, Int32.le_iff_toInt_le, Int32.le_iff_toInt_le]
  exact Iff.rfl
theorem tx_dg_iff {c : Int32} : tx_dg c = true ↔ 48 ≤ c.toInt ∧ c.toInt ≤ 57 := by
  unfold tx_dg
  rw [Bool.and_eq_true, decide_eq_true_eq, decide_eq_true_eq, Int32.le_iff_toInt_le, Int32.le_iff_toInt_le]
  exact Iff.rfl
theorem tx_sd {c : Int32} (h : tx_sm c = true) : tx_dg c = false := by
  cases hd : tx_dg c
  · rfl
  · have h1 := tx_sm_iff.mp h
    have h2 := tx_dg_iff.mp hd
    omega
theorem tx_ds {c : Int32} (h : tx_dg c = true) : tx_sm c = false := by
  cases hd : tx_sm c
  · rfl
  · rw [tx_sd hd] at h; cases h
theorem al_sm {r : List Int32} (h : r.all tx_an = true) : (r.filter tx_dg).length = 0 ↔ r.all tx_sm = true := by
  rw [List.all_eq_true] at h ⊢
  rw [List.length_eq_zero_iff, List.filter_eq_nil_iff]
  constructor
  · intro q c hc
    have h1 := h c hc
    unfold tx_an at h1
    rw [Bool.or_eq_true] at h1
    rcases h1 with h1 | h1
    · exact h1
    · exact absurd h1 (q c hc)
  · intro q c hc hd
    rw [tx_sd (q c hc)] at hd
    cases hd
theorem al_dg {r : List Int32} (h : r.all tx_an = true) : (r.filter tx_sm).length = 0 ↔ r.all tx_dg = true := by
  rw [List.all_eq_true] at h ⊢
  rw [List.length_eq_zero_iff, List.filter_eq_nil_iff]
  constructor
  · intro q c hc
    have h1 := h c hc
    unfold tx_an at h1
    rw [Bool.or_eq_true] at h1
    rcases h1 with h1 | h1
    · exact absurd h1 (q c hc)
    · exact h1
  · intro q c hc hd
    rw [tx_ds (q c hc)] at hd
    cases hd
theorem fil_all {P : Int32 → Bool} {r : List Int32} (h : r.all P = true) : r.filter P = r := List.filter_eq_self.mpr (List.all_eq_true.mp h)
theorem sp_isBlank1 {c : Int32} {I : Nat → Nat → Int32} {L : Nat → Nat → Int64} (h : tx_bl c = true) : fx_X7_isBlank [.int c] (I, L) (some (.int 1)) (I, L) := by
  by_cases e : c = 32
  · exact mk_X7_isBlank (Or.inr rfl) (pt_X7_isBlank_0 (decide_eq_true e))
  · have e2 : c = 10 := by
      unfold tx_bl at h
      rw [decide_eq_false e, Bool.false_or] at h
      exact of_decide_eq_true h
    exact mk_X7_isBlank (Or.inr rfl) (pt_X7_isBlank_2 (decide_eq_false e) (decide_eq_false (fun q => q e2)))
theorem sp_isBlank0 {c : Int32} {I : Nat → Nat → Int32} {L : Nat → Nat → Int64} (h : tx_bl c = false) : fx_X7_isBlank [.int c] (I, L) (some (.int 0)) (I, L) := by
  unfold tx_bl at h
  rw [Bool.or_eq_false_iff] at h
  exact mk_X7_isBlank (Or.inl rfl) (pt_X7_isBlank_1 h.1 (decide_eq_true (of_decide_eq_false h.2)))
def SRun (g i : Nat) : Bool := Nat.beq g 3 && (Nat.beq i 3 || Nat.beq i 6)
def SRn4 (g i : Nat) : Bool := Nat.beq g 3 && (Nat.beq i 3 || Nat.beq i 6 || Nat.beq i 4)
def LRun (g i : Nat) : Bool := Nat.beq g 3 && Nat.beq i 5
theorem sp_runL {B : Nat → Int32} {n q : Nat} (hn : n ≤ 940) : ∀ (k j : Nat) {I : Nat → Nat → Int32} {L : Nat → Nat → Int64}, q + j + k = n →
    I 3 3 = Int32.ofNat (q + j) → I 1 1 = Int32.ofNat n → (∀ i, i < 940 → I 2 i = B i) → L 3 5 = c32 ((bs B q j).filter tx_sm) → I 3 6 = c10 ((bs B q j).filter tx_dg) →
    ∃ (j' : Nat) (I' : Nat → Nat → Int32) (L' : Nat → Nat → Int64) (l3 : Int32), q + j' = tx_go tx_an B k (q + j) ∧ I' 3 3 = Int32.ofNat (q + j') ∧ L' 3 5 = c32 ((bs B q j').filter tx_sm) ∧ I' 3 6 = c10 ((bs B q j').filter tx_dg) ∧ fp SRun I I' ∧ fpl LRun L L' ∧
      ∀ v hp9, (∃ n, xr_X7_readRun n (141, [(0, .ref 3), (1, .int (Int32.ofNat ((bs B q j').filter tx_sm).length)), (2, .int (Int32.ofNat ((bs B q j').filter tx_dg).length)), (3, .int l3)], [], (I', L')) v hp9) →
        ∃ n, xr_X7_readRun n (6, [(0, .ref 3), (1, .int (Int32.ofNat ((bs B q j).filter tx_sm).length)), (2, .int (Int32.ofNat ((bs B q j).filter tx_dg).length)), (3, .int 1)], [], (I, L)) v hp9 := by
  intro k
  induction k with
  | zero =>
    intro j I L hk h3 h1 hB hw hd
    refine ⟨j, I, L, 1, rfl, h3, hw, hd, fp.rf, fpl.rf, fun v hp9 r => ?_⟩
    refine pt_X7_readRun_2 (by decide) ?_ r
    rw [h3, h1, xn (by omega) (by omega)]
    exact decide_eq_true (by omega)
  | succ k ih =>
    intro j I L hk h3 h1 hB hw hd
    have hge : xe_cmp .ge (I 3 3) (I 1 1) = false := by
      rw [h3, h1, xn (by omega) (by omega)]
      exact decide_eq_false (by omega)
    have hib : xe_ib (I 3 3) 940 = true := by rw [h3]; exact xib (by omega) (by omega)
    have hc : I 2 ((I 3 3).toInt.toNat) = B (q + j) := by rw [h3, tin (by omega)]; exact hB _ (by omega)
    have e1 : ∀ c : Int32, (Int32.ofNat ((bs B q j).filter tx_sm).length) + 1 = Int32.ofNat (((bs B q j).filter tx_sm ++ [c]).length) := fun c => by rw [List.length_append]; exact ti1 _
    have e2 : ∀ c : Int32, (Int32.ofNat ((bs B q j).filter tx_dg).length) + 1 = Int32.ofNat (((bs B q j).filter tx_dg ++ [c]).length) := fun c => by rw [List.length_append]; exact ti1 _
    cases hs : tx_sm (B (q + j)) with
    | true =>
      have hi := tx_sm_iff.mp hs
      have han : tx_an (B (q + j)) = true := by unfold tx_an; rw [hs]; rfl
      have f1 : (bs B q (j + 1)).filter tx_sm = (bs B q j).filter tx_sm ++ [B (q + j)] := by
        show (bs B q j ++ [B (q + j)]).filter tx_sm = _
        rw [List.filter_append]; simp [hs]
      have f2 : (bs B q (j + 1)).filter tx_dg = (bs B q j).filter tx_dg := by
        show (bs B q j ++ [B (q + j)]).filter tx_dg = _
        rw [List.filter_append]; simp [tx_sd hs]
      obtain ⟨j', I', L', l3, a1, a2, a3, a4, a5, a6, a7⟩ := ih (j + 1) (I := xu I 3 3 (I 3 3 + 1)) (L := xul L 3 5 (L 3 5 * 32 + (I 2 ((I 3 3).toInt.toNat) - 97 + 1).toInt64)) (by omega) (by rw [xu_eq, h3]; exact ti1 _) (by rw [xu_ne rfl]; exact h1) (fun i hi => by rw [xu_ne rfl]; exact hB i hi) (by rw [xul_eq, hw, hc, f1, c32_s]) (by rw [xu_ne rfl, f2]; exact hd)
      refine ⟨j', I', L', l3, ?_, a2, a3, a4, (fp.up fp.rf rfl).tr a5, (fpl.up fpl.rf rfl).tr a6, fun v hp9 r => ?_⟩
      · rw [tx_go_T han]; exact a1
      · refine pt_X7_readRun_9 (by decide) hge hib ?_ ?_ ?_
        · rw [hc, xc]; exact decide_eq_false (by show ¬ (B (q + j)).toInt < 97; omega)
        · rw [hc, xc]; exact decide_eq_false (by show ¬ 122 < (B (q + j)).toInt; omega)
        · have h9 := a7 v hp9 r
          rw [f1, f2, ← e1] at h9
          exact h9
    | false =>
      cases hdd : tx_dg (B (q + j)) with
      | true =>
        have hi := tx_dg_iff.mp hdd
        have han : tx_an (B (q + j)) = true := by unfold tx_an; rw [hdd, Bool.or_true]
        have f1 : (bs B q (j + 1)).filter tx_sm = (bs B q j).filter tx_sm := by
          show (bs B q j ++ [B (q + j)]).filter tx_sm = _
          rw [List.filter_append]; simp [hs]
        have f2 : (bs B q (j + 1)).filter tx_dg = (bs B q j).filter tx_dg ++ [B (q + j)] := by
          show (bs B q j ++ [B (q + j)]).filter tx_dg = _
          rw [List.filter_append]; simp [hdd]
        obtain ⟨j', I', L', l3, a1, a2, a3, a4, a5, a6, a7⟩ := ih (j + 1) (I := xu (xu I 3 6 (I 3 6 * 10 + (I 2 ((I 3 3).toInt.toNat) - 48))) 3 3 (I 3 3 + 1)) (L := L) (by omega) (by rw [xu_eq, h3]; exact ti1 _) (by rw [xu_ne rfl, xu_ne rfl]; exact h1) (fun i hi => by rw [xu_ne rfl, xu_ne rfl]; exact hB i hi) (by rw [f1]; exact hw) (by rw [xu_ne rfl, xu_eq, hd, hc, f2, c10_s])
        refine ⟨j', I', L', l3, ?_, a2, a3, a4, (fp.up (fp.up fp.rf rfl) rfl).tr a5, a6, fun v hp9 r => ?_⟩
        · rw [tx_go_T han]; exact a1
        · refine pt_X7_readRun_5 (by decide) hge hib ?_ ?_ ?_ ?_
          · rw [hc, xc]; exact decide_eq_true (by show (B (q + j)).toInt < 97; omega)
          · rw [hc, xc]; exact decide_eq_false (by show ¬ (B (q + j)).toInt < 48; omega)
          · rw [hc, xc]; exact decide_eq_false (by show ¬ 57 < (B (q + j)).toInt; omega)
          · have h9 := a7 v hp9 r
            rw [f1, f2, ← e2] at h9
            exact h9
      | false =>
        have han : tx_an (B (q + j)) = false := by unfold tx_an; rw [hs, hdd]; rfl
        refine ⟨j, I, L, 0, ?_, h3, hw, hd, fp.rf, fpl.rf, fun v hp9 r => ?_⟩
        · rw [tx_go_F han]
        · have r6 := pt_X7_readRun_1 (l1 := Int32.ofNat ((bs B q j).filter tx_sm).length) (l2 := Int32.ofNat ((bs B q j).filter tx_dg).length) (l3 := 0) (I := I) (L := L) (by decide) r
          have n1 : ¬ (97 ≤ (B (q + j)).toInt ∧ (B (q + j)).toInt ≤ 122) := fun h => by rw [tx_sm_iff.mpr h] at hs; cases hs
          have n2 : ¬ (48 ≤ (B (q + j)).toInt ∧ (B (q + j)).toInt ≤ 57) := fun h => by rw [tx_dg_iff.mpr h] at hdd; cases hdd
          by_cases q1 : (B (q + j)).toInt < 97
          · by_cases q2 : (B (q + j)).toInt < 48
            · exact pt_X7_readRun_3 (by decide) hge hib (by rw [hc, xc]; exact decide_eq_true q1) (by rw [hc, xc]; exact decide_eq_true q2) r6
            · exact pt_X7_readRun_4 (by decide) hge hib (by rw [hc, xc]; exact decide_eq_true q1) (by rw [hc, xc]; exact decide_eq_false q2) (by rw [hc, xc]; exact decide_eq_true (by show 57 < (B (q + j)).toInt; omega)) r6
          · exact pt_X7_readRun_7 (by decide) hge hib (by rw [hc, xc]; exact decide_eq_false q1) (by rw [hc, xc]; exact decide_eq_true (by show 122 < (B (q + j)).toInt; omega)) (by rw [hc, xc]; exact decide_eq_false (by show ¬ (B (q + j)).toInt < 48; omega)) (by rw [hc, xc]; exact decide_eq_true (by show 57 < (B (q + j)).toInt; omega)) r6
