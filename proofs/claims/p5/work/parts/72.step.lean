/-! ===== the class's step ===== -/
theorem rk1 {r : List Int32} (h : r.all tx_sm = true) (hl : r.length ≤ 12) : rk r = 1 := by
  unfold rk; rw [h, decide_eq_true hl]; rfl
theorem rk2 {r : List Int32} (h : r.all tx_sm = false) (hd : r.all tx_dg = true) (hl : r.length ≤ 3) : rk r = 2 := by
  unfold rk; rw [h, hd, decide_eq_true hl]; rfl
theorem rk4 {r : List Int32} (h : (r.all tx_sm && decide (r.length ≤ 12)) = false) (hd : (r.all tx_dg && decide (r.length ≤ 3)) = false) : rk r = 4 := by
  unfold rk; rw [h, hd]; rfl
theorem nall {P : Int32 → Bool} {r : List Int32} (h : ¬ r.all P = true) : r.all P = false := by
  cases hb : r.all P
  · rfl
  · exact absurd hb h
theorem sp_readRun {B : Nat → Int32} {n q : Nat} {I : Nat → Nat → Int32} {L : Nat → Nat → Int64} (hn : n ≤ 940) (hq : q ≤ n) (h3 : I 3 3 = Int32.ofNat q) (h1 : I 1 1 = Int32.ofNat n) (hB : ∀ i, i < 940 → I 2 i = B i) (hw : L 3 5 = Int64.ofNat 0) (hd : I 3 6 = 0) :
    ∃ (r : List Int32) (I' : Nat → Nat → Int32) (L' : Nat → Nat → Int64), r = bs B q (tx_go tx_an B (n - q) q - q) ∧ fx_X7_readRun [.ref 3] (I, L) none (I', L') ∧ I' 3 3 = Int32.ofNat (tx_go tx_an B (n - q) q) ∧ I' 3 4 = Int32.ofNat (rk r) ∧ L' 3 5 = (bif Nat.beq (rk r) 1 then c32 r else Int64.ofNat 0) ∧ (rk r = 2 → I' 3 6 = c10 r) ∧ fp SRn4 I I' ∧ fpl LRun L L' := by
  obtain ⟨j', I', L', l3, a1, a2, a3, a4, a5, a6, a7⟩ := sp_runL (B := B) (n := n) (q := q) hn (n - q) 0 (I := I) (L := L) (by omega) h3 h1 hB hw hd
  have a1 : q + j' = tx_go tx_an B (n - q) q := a1
  have hge := tx_go_le tx_an B (n - q) q
  have hj : tx_go tx_an B (n - q) q - q = j' := by omega
  have hall : (bs B q j').all tx_an = true := bs_all (fun i i1 i2 => tx_go_in i1 (by rw [← a1]; exact i2))
  have hlen : (bs B q j').length = j' := bs_len B q j'
  have la : ((bs B q j').filter tx_sm).length ≤ (bs B q j').length := List.length_filter_le _ _
  have lb : ((bs B q j').filter tx_dg).length ≤ (bs B q j').length := List.length_filter_le _ _
  have f4 : fp SRn4 I I' := a5.mono (fun g i h => by
    unfold SRn4 at h
    unfold SRun
    cases hg : Nat.beq g 3
    · rfl
    · rw [hg, Bool.true_and] at h
      rw [Bool.or_eq_false_iff] at h
      rw [Bool.true_and]
      exact h.1)
  rw [hj]
  have go : ∀ {v : Option Value} {hp9 : xe_H}, xe_rt none v → (∃ n, xr_X7_readRun n (141, [(0, .ref 3), (1, .int (Int32.ofNat ((bs B q j').filter tx_sm).length)), (2, .int (Int32.ofNat ((bs B q j').filter tx_dg).length)), (3, .int l3)], [], (I', L')) v hp9) → fx_X7_readRun [.ref 3] (I, L) v hp9 := fun hr r => mk_X7_readRun hr (pt_X7_readRun_0 (a7 _ _ r))
  by_cases hb0 : ((bs B q j').filter tx_dg).length = 0
  · have hsm := (al_sm hall).mp hb0
    have fil := fil_all hsm
    by_cases ha : ((bs B q j').filter tx_sm).length ≤ 12
    · have hrk : rk (bs B q j') = 1 := rk1 hsm (by rw [fil] at ha; exact ha)
      refine ⟨_, xu I' 3 4 1, L', rfl, go trivial (pt_X7_readRun_16 ?_ ?_), ?_, ?_, ?_, ?_, f4.up rfl, a6⟩
      · rw [show (0 : Int32) = Int32.ofNat 0 from rfl, xn (by omega) (by omega)]; exact decide_eq_false (fun h => h hb0)
      · rw [show (12 : Int32) = Int32.ofNat 12 from rfl, xn (by omega) (by omega)]; exact decide_eq_false (by omega)
      · rw [xu_ne rfl, a2, a1]
      · rw [xu_eq, hrk]; rfl
      · rw [a3, fil, hrk]; rfl
      · rw [hrk]; intro h; cases h
    · have hrk : rk (bs B q j') = 4 := rk4 (by rw [hsm, decide_eq_false (by rw [fil] at ha; exact ha)]; rfl) (by rw [decide_eq_false (by rw [fil] at ha; omega), Bool.and_false])
      refine ⟨_, xu I' 3 4 4, xul L' 3 5 (Int64.ofNat 0), rfl, go trivial (pt_X7_readRun_13 ?_ ?_ ?_), ?_, ?_, ?_, ?_, f4.up rfl, a6.up rfl⟩
      · rw [show (0 : Int32) = Int32.ofNat 0 from rfl, xn (by omega) (by omega)]; exact decide_eq_false (fun h => h hb0)
      · rw [show (12 : Int32) = Int32.ofNat 12 from rfl, xn (by omega) (by omega)]; exact decide_eq_true (by omega)
      · rw [show (0 : Int32) = Int32.ofNat 0 from rfl, xn (by omega) (by omega)]; exact decide_eq_true (by omega)
      · rw [xu_ne rfl, a2, a1]
      · rw [xu_eq, hrk]; rfl
      · rw [xul_eq, hrk]; rfl
      · rw [hrk]; intro h; cases h
  · have hns : (bs B q j').all tx_sm = false := nall (fun h => hb0 ((al_sm hall).mpr h))
    by_cases ha0 : ((bs B q j').filter tx_sm).length = 0
    · have hdg := (al_dg hall).mp ha0
      have fil := fil_all hdg
      by_cases hb3 : ((bs B q j').filter tx_dg).length ≤ 3
      · have hrk : rk (bs B q j') = 2 := rk2 hns hdg (by rw [fil] at hb3; exact hb3)
        refine ⟨_, xu I' 3 4 2, L', rfl, go trivial (pt_X7_readRun_12 ?_ ?_ ?_), ?_, ?_, ?_, ?_, f4.up rfl, a6⟩
        · rw [show (0 : Int32) = Int32.ofNat 0 from rfl, xn (by omega) (by omega)]; exact decide_eq_true hb0
        · rw [show (0 : Int32) = Int32.ofNat 0 from rfl, xn (by omega) (by omega)]; exact decide_eq_false (fun h => h ha0)
        · rw [show (3 : Int32) = Int32.ofNat 3 from rfl, xn (by omega) (by omega)]; exact decide_eq_false (by omega)
        · rw [xu_ne rfl, a2, a1]
        · rw [xu_eq, hrk]; rfl
        · rw [a3, List.length_eq_zero_iff.mp ha0, hrk]; rfl
        · intro _; rw [xu_ne rfl, a4, fil]
      · have hrk : rk (bs B q j') = 4 := rk4 (by rw [hns]; rfl) (by rw [decide_eq_false (by rw [fil] at hb3; exact hb3), Bool.and_false])
        refine ⟨_, xu I' 3 4 4, xul L' 3 5 (Int64.ofNat 0), rfl, go trivial (pt_X7_readRun_11 ?_ ?_ ?_), ?_, ?_, ?_, ?_, f4.up rfl, a6.up rfl⟩
        · rw [show (0 : Int32) = Int32.ofNat 0 from rfl, xn (by omega) (by omega)]; exact decide_eq_true hb0
        · rw [show (0 : Int32) = Int32.ofNat 0 from rfl, xn (by omega) (by omega)]; exact decide_eq_false (fun h => h ha0)
        · rw [show (3 : Int32) = Int32.ofNat 3 from rfl, xn (by omega) (by omega)]; exact decide_eq_true (by omega)
        · rw [xu_ne rfl, a2, a1]
        · rw [xu_eq, hrk]; rfl
        · rw [xul_eq, hrk]; rfl
        · rw [hrk]; intro h; cases h
    · have hnd : (bs B q j').all tx_dg = false := nall (fun h => ha0 ((al_dg hall).mpr h))
      have hrk : rk (bs B q j') = 4 := rk4 (by rw [hns]; rfl) (by rw [hnd]; rfl)
      refine ⟨_, xu I' 3 4 4, xul L' 3 5 (Int64.ofNat 0), rfl, go trivial (pt_X7_readRun_10 ?_ ?_), ?_, ?_, ?_, ?_, f4.up rfl, a6.up rfl⟩
      · rw [show (0 : Int32) = Int32.ofNat 0 from rfl, xn (by omega) (by omega)]; exact decide_eq_true hb0
      · rw [show (0 : Int32) = Int32.ofNat 0 from rfl, xn (by omega) (by omega)]; exact decide_eq_true ha0
      · rw [xu_ne rfl, a2, a1]
      · rw [xu_eq, hrk]; rfl
      · rw [xul_eq, hrk]; rfl
      · rw [hrk]; intro h; cases h
def SNx (g i : Nat) : Bool := Nat.beq g 3 && Nat.beq i 3
theorem sp_stepL {B : Nat → Int32} {n : Nat} (hn : n ≤ 940) : ∀ (k p : Nat) {I : Nat → Nat → Int32} {L : Nat → Nat → Int64}, p + k = n → I 3 3 = Int32.ofNat p → I 1 1 = Int32.ofNat n → (∀ i, i < 940 → I 2 i = B i) →
    ∃ I' : Nat → Nat → Int32, I' 3 3 = Int32.ofNat (tx_go tx_bl B k p) ∧ fp SNx I I' ∧ ∀ v hp9, (∃ n, xr_X7_step n (45, [(0, .ref 3)], [], (I', L)) v hp9) → ∃ n, xr_X7_step n (0, [(0, .ref 3)], [], (I, L)) v hp9 := by
  intro k
  induction k with
  | zero =>
    intro p I L hk h3 h1 hB
    refine ⟨I, h3, fp.rf, fun v hp9 r => pt_X7_step_0 ?_ r⟩
    rw [h3, h1, xn (by omega) (by omega)]
    exact decide_eq_true (by omega)
  | succ k ih =>
    intro p I L hk h3 h1 hB
    have hge : xe_cmp .ge (I 3 3) (I 1 1) = false := by
      rw [h3, h1, xn (by omega) (by omega)]
      exact decide_eq_false (by omega)
    have hib : xe_ib (I 3 3) 940 = true := by rw [h3]; exact xib (by omega) (by omega)
    have hc : I 2 ((I 3 3).toInt.toNat) = B p := by rw [h3, tin (by omega)]; exact hB _ (by omega)
    cases hb : tx_bl (B p) with
    | true =>
      obtain ⟨I', a1, a2, a3⟩ := ih (p + 1) (I := xu I 3 3 (I 3 3 + 1)) (L := L) (by omega) (by rw [xu_eq, h3]; exact ti1 _) (by rw [xu_ne rfl]; exact h1) (fun i hi => by rw [xu_ne rfl]; exact hB i hi)
      refine ⟨I', by rw [tx_go_T hb]; exact a1, (fp.up fp.rf rfl).tr a2, fun v hp9 r => pt_X7_step_1 hge hib (sp_isBlank1 (by rw [hc]; exact hb)) (a3 v hp9 r)⟩
    | false =>
      refine ⟨I, by rw [tx_go_F hb]; exact h3, fp.rf, fun v hp9 r => pt_X7_step_2 hge hib (sp_isBlank0 (by rw [hc]; exact hb)) r⟩
section TL
variable {B : Nat → Int32} {n lim p : Nat}
theorem tk_ov (h1 : lim ≤ tq B n p) (h2 : lim < n) : tK B n lim p = 4 ∧ tA B n lim p = lim ∧ tN B n lim p = tq B n p ∧ tW B n lim p = [] ∧ tS B n lim p = 0 := by
  have ho : tov B n lim p = true := by unfold tov; rw [decide_eq_true h1, decide_eq_true h2]; rfl
  have hk : tK B n lim p = 4 := by unfold tK; rw [ho]; rfl
  refine ⟨hk, by unfold tA; rw [ho]; rfl, by unfold tN; rw [ho]; rfl, by unfold tW; rw [hk]; rfl, by unfold tS; rw [hk]; rfl⟩
theorem tov_F (h : ¬ (lim ≤ tq B n p ∧ lim < n)) : tov B n lim p = false := by
  unfold tov
  cases hb : (decide (lim ≤ tq B n p) && decide (lim < n))
  · rfl
  · rw [Bool.and_eq_true, decide_eq_true_eq, decide_eq_true_eq] at hb; exact absurd hb h
theorem tk_end (h : ¬ (lim ≤ tq B n p ∧ lim < n)) (h2 : n ≤ tq B n p) : tK B n lim p = 0 ∧ tA B n lim p = tq B n p ∧ tN B n lim p = tq B n p ∧ tW B n lim p = [] ∧ tS B n lim p = 0 := by
  have ho := tov_F h
  have hk : tK B n lim p = 0 := by unfold tK; rw [ho, decide_eq_true h2]; rfl
  refine ⟨hk, by unfold tA; rw [ho]; rfl, by unfold tN; rw [ho, decide_eq_true h2]; rfl, by unfold tW; rw [hk]; rfl, by unfold tS; rw [hk]; rfl⟩
theorem tk_sg (h : ¬ (lim ≤ tq B n p ∧ lim < n)) (h2 : ¬ n ≤ tq B n p) (h3 : te B n p = tq B n p) : tK B n lim p = 3 ∧ tA B n lim p = tq B n p ∧ tN B n lim p = tq B n p + 1 ∧ tW B n lim p = [] ∧ tS B n lim p = B (tq B n p) := by
  have ho := tov_F h
  have hk : tK B n lim p = 3 := by unfold tK; rw [ho, decide_eq_false h2, decide_eq_true h3]; rfl
  refine ⟨hk, by unfold tA; rw [ho]; rfl, by unfold tN; rw [ho, decide_eq_false h2, decide_eq_true h3]; rfl, by unfold tW; rw [hk]; rfl, by unfold tS; rw [hk]; rfl⟩
theorem rk_ne (r : List Int32) : rk r = 1 ∨ rk r = 2 ∨ rk r = 4 := by
  unfold rk
  cases (r.all tx_sm && decide (r.length ≤ 12))
  · cases (r.all tx_dg && decide (r.length ≤ 3))
    · exact Or.inr (Or.inr rfl)
    · exact Or.inr (Or.inl rfl)
  · exact Or.inl rfl
theorem tk_rn (h : ¬ (lim ≤ tq B n p ∧ lim < n)) (h2 : ¬ n ≤ tq B n p) (h3 : ¬ te B n p = tq B n p) : tK B n lim p = rk (tr B n p) ∧ tA B n lim p = tq B n p ∧ tN B n lim p = te B n p ∧ tW B n lim p = (bif Nat.beq (rk (tr B n p)) 1 then tr B n p else []) ∧ tS B n lim p = 0 := by
  have ho := tov_F h
  have hk : tK B n lim p = rk (tr B n p) := by unfold tK; rw [ho, decide_eq_false h2, decide_eq_false h3]; rfl
  refine ⟨hk, by unfold tA; rw [ho]; rfl, by unfold tN; rw [ho, decide_eq_false h2, decide_eq_false h3]; rfl, by unfold tW; rw [hk], ?_⟩
  unfold tS
  rw [hk]
  rcases rk_ne (tr B n p) with e | e | e <;> rw [e] <;> rfl
end TL
def SStep (g i : Nat) : Bool := Nat.beq g 3 && (Nat.beq i 2 || Nat.beq i 3 || Nat.beq i 4 || Nat.beq i 6 || Nat.beq i 7)
/-- the class's token is that at p -/
def EncT (B : Nat → Int32) (n lim p : Nat) (I : Nat → Nat → Int32) (L : Nat → Nat → Int64) : Prop :=
  I 1 1 = Int32.ofNat n ∧ (∀ i, i < 940 → I 2 i = B i) ∧ I 3 1 = Int32.ofNat lim ∧ I 3 2 = Int32.ofNat (tA B n lim p) ∧ I 3 3 = Int32.ofNat (tN B n lim p) ∧ I 3 4 = Int32.ofNat (tK B n lim p) ∧ L 3 5 = c32 (tW B n lim p) ∧ (tK B n lim p = 2 → I 3 6 = tX B n p) ∧ I 3 7 = tS B n lim p
theorem fp_SNx {I J : Nat → Nat → Int32} (h : fp SNx I J) : fp SStep I J := h.mono (fun g i q => by
  unfold SStep at q
  unfold SNx
  cases hg : Nat.beq g 3
  · rfl
  · rw [hg, Bool.true_and] at q
    simp only [Bool.or_eq_false_iff] at q
    rw [Bool.true_and]
    exact q.1.1.1.2)
theorem fp_SRn4 {I J : Nat → Nat → Int32} (h : fp SRn4 I J) : fp SStep I J := h.mono (fun g i q => by
  unfold SStep at q
  unfold SRn4
  cases hg : Nat.beq g 3
  · rfl
  · rw [hg, Bool.true_and] at q
    simp only [Bool.or_eq_false_iff] at q
    rw [Bool.true_and, q.1.1.1.2, q.1.1.2, q.1.2]
    rfl)
theorem sp_step {B : Nat → Int32} {n lim p : Nat} {I : Nat → Nat → Int32} {L : Nat → Nat → Int64} (hn : n ≤ 940) (hl : lim ≤ 940) (hp : p ≤ n) (h1 : I 1 1 = Int32.ofNat n) (hB : ∀ i, i < 940 → I 2 i = B i) (hlim : I 3 1 = Int32.ofNat lim) (h3 : I 3 3 = Int32.ofNat p) :
    ∃ (I' : Nat → Nat → Int32) (L' : Nat → Nat → Int64), fx_X7_step [.ref 3] (I, L) none (I', L') ∧ EncT B n lim p I' L' ∧ fp SStep I I' ∧ fpl LRun L L' := by
  obtain ⟨J, j3, jf, jr⟩ := sp_stepL (B := B) hn (n - p) p (I := I) (L := L) (by omega) h3 h1 hB
  have hle := tx_go_le tx_bl B (n - p) p
  have j3 : J 3 3 = Int32.ofNat (tq B n p) := j3
  have hle : p ≤ tq B n p ∧ tq B n p ≤ p + (n - p) := hle
  have j1 : J 1 1 = Int32.ofNat n := (jf 1 1 rfl).trans h1
  have jl : J 3 1 = Int32.ofNat lim := (jf 3 1 rfl).trans hlim
  have jB : ∀ i, i < 940 → J 2 i = B i := fun i hi => (jf 2 i rfl).trans (hB i hi)
  have go : ∀ {hp9 : xe_H}, (∃ n, xr_X7_step n (45, [(0, .ref 3)], [], (J, L)) none hp9) → fx_X7_step [.ref 3] (I, L) none hp9 := fun r => mk_X7_step trivial (jr _ _ r)
  have fJ := fp_SNx jf
  by_cases hov : lim ≤ tq B n p ∧ lim < n
  · obtain ⟨k1, k2, k3, k4, k5⟩ := tk_ov (B := B) (p := p) hov.1 hov.2
    refine ⟨_, _, go (pt_X7_step_9 ?_ ?_), ⟨?_, ?_, ?_, ?_, ?_, ?_, ?_, ?_, ?_⟩, ?_, ?_⟩
    · rw [j3, jl, xn (by omega) (by omega)]; exact decide_eq_false (by omega)
    · rw [j1, jl, xn (by omega) (by omega)]; exact decide_eq_false (by omega)
    · simp only [xu_ne (show (Nat.beq 1 3 && _) = false from rfl)]; exact j1
    · intro i hi; simp only [xu_ne (show (Nat.beq 2 3 && _) = false from rfl)]; exact jB i hi
    · exact jl
    · rw [k2]; exact jl
    · rw [k3]; exact j3
    · rw [k1]; rfl
    · rw [k4]; rfl
    · rw [k1]; intro h; cases h
    · rw [k5]; rfl
    · exact ((((fJ.up rfl).up rfl).up rfl).up rfl).up rfl
    · exact fpl.rf.up rfl
  · by_cases hen : n ≤ tq B n p
    · obtain ⟨k1, k2, k3, k4, k5⟩ := tk_end hov hen
      have fin : ∀ r : fx_X7_step [.ref 3] (I, L) none (xu (xu (xu (xu J 3 2 (J 3 3)) 3 6 0) 3 7 0) 3 4 0, xul L 3 5 (Int64.ofNat 0)), ∃ (I' : Nat → Nat → Int32) (L' : Nat → Nat → Int64), fx_X7_step [.ref 3] (I, L) none (I', L') ∧ EncT B n lim p I' L' ∧ fp SStep I I' ∧ fpl LRun L L' := fun r => by
        refine ⟨_, _, r, ⟨?_, ?_, ?_, ?_, ?_, ?_, ?_, ?_, ?_⟩, ?_, ?_⟩
        · exact j1
        · intro i hi; exact jB i hi
        · exact jl
        · rw [k2]; exact j3
        · rw [k3]; exact j3
        · rw [k1]; rfl
        · rw [k4]; rfl
        · rw [k1]; intro h; cases h
        · rw [k5]; rfl
        · exact (((fJ.up rfl).up rfl).up rfl).up rfl
        · exact fpl.rf.up rfl
      by_cases hlt : tq B n p < lim
      · exact fin (go (pt_X7_step_5 (by rw [j3, jl, xn (by omega) (by omega)]; exact decide_eq_true hlt) (by rw [j3, j1, xn (by omega) (by omega)]; exact decide_eq_false (by omega))))
      · exact fin (go (pt_X7_step_8 (by rw [j3, jl, xn (by omega) (by omega)]; exact decide_eq_false hlt) (by rw [j1, jl, xn (by omega) (by omega)]; exact decide_eq_true (by omega)) (by rw [j3, j1, xn (by omega) (by omega)]; exact decide_eq_false (by omega))))
    · have hlt : tq B n p < lim := by omega
      obtain ⟨r, I', L', er, c1, c2, c3, c4, c5, c6, c7⟩ := sp_readRun (B := B) (q := tq B n p) (I := xu (xu (xu J 3 2 (J 3 3)) 3 6 0) 3 7 0) (L := xul L 3 5 (Int64.ofNat 0)) hn (by omega) j3 j1 jB rfl rfl
      have c2 : I' 3 3 = Int32.ofNat (te B n p) := c2
      have er : r = tr B n p := er
      have i2 : I' 3 2 = Int32.ofNat (tq B n p) := (c6 3 2 rfl).trans j3
      have i1 : I' 1 1 = Int32.ofNat n := (c6 1 1 rfl).trans j1
      have il : I' 3 1 = Int32.ofNat lim := (c6 3 1 rfl).trans jl
      have iB : ∀ i, i < 940 → I' 2 i = B i := fun i hi => (c6 2 i rfl).trans (jB i hi)
      have i7 : I' 3 7 = 0 := c6 3 7 rfl
      have hte := tx_go_le tx_an B (n - tq B n p) (tq B n p)
      have hte : tq B n p ≤ te B n p ∧ te B n p ≤ tq B n p + (n - tq B n p) := hte
      have fI : fp SStep I I' := (((fJ.up rfl).up rfl).up rfl).tr (fp_SRn4 c6)
      have lI : fpl LRun L L' := (fpl.rf.up rfl).tr c7
      have g1 : xe_cmp .lt (J 3 3) (J 3 1) = true := by rw [j3, jl, xn (by omega) (by omega)]; exact decide_eq_true hlt
      have g2 : xe_cmp .lt (J 3 3) (J 1 1) = true := by rw [j3, j1, xn (by omega) (by omega)]; exact decide_eq_true (by omega)
      by_cases hs : te B n p = tq B n p
      · obtain ⟨k1, k2, k3, k4, k5⟩ := tk_sg hov hen hs
        have er0 : r = [] := by
          rw [er]
          unfold tr
          rw [hs, Nat.sub_self]
          rfl
        refine ⟨_, _, go (pt_X7_step_4 g1 g2 c1 ?_ ?_), ⟨?_, ?_, ?_, ?_, ?_, ?_, ?_, ?_, ?_⟩, ?_, lI⟩
        · rw [c2, i2, xn (by omega) (by omega)]; exact decide_eq_false (fun h => h hs)
        · rw [c2]; exact xib (by omega) (by omega)
        · exact i1
        · exact iB
        · exact il
        · rw [k2]; exact i2
        · rw [k3]
          show I' 3 3 + 1 = _
          rw [c2, hs]
          exact ti1 _
        · rw [k1]; rfl
        · rw [k4]
          show L' 3 5 = _
          rw [c4, er0]
          rfl
        · rw [k1]; intro h; cases h
        · rw [k5]
          show I' 2 ((I' 3 3).toInt.toNat) = _
          rw [c2, hs, tin (by omega)]
          exact iB _ (by omega)
        · exact ((fI.up rfl).up rfl).up rfl
      · obtain ⟨k1, k2, k3, k4, k5⟩ := tk_rn hov hen hs
        refine ⟨_, _, go (pt_X7_step_3 g1 g2 c1 ?_), ⟨i1, iB, il, ?_, ?_, ?_, ?_, ?_, ?_⟩, fI, lI⟩
        · rw [c2, i2, xn (by omega) (by omega)]; exact decide_eq_true hs
        · rw [k2]; exact i2
        · rw [k3]; exact c2
        · rw [k1, ← er]; exact c3
        · rw [k4, c4, er]
          cases Nat.beq (rk (tr B n p)) 1 <;> rfl
        · rw [k1, ← er]; intro h
          unfold tX
          rw [← er]
          exact c5 h
        · rw [k5]; exact i7
