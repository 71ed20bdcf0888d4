/-! ===== two worlds of one heap ===== -/
theorem px_cell (cA : ClassId) (n9 : Nat) (x : (Nat → Int32) ⊕ (Nat → Int64) ⊕ (Nat → UInt32) ⊕ (Nat → UInt64) ⊕ (Nat → Option Nat)) {i : Nat} (hi : i < n9) : (vp_cell cA (n9, x)).slots[i]? = some (zf_el x i) := by
  match x with
  | .inl f => exact arrV_read cA _ hi
  | .inr (.inl f) => exact arrV_read cA _ hi
  | .inr (.inr (.inl f)) => exact arrV_read cA _ hi
  | .inr (.inr (.inr (.inl f))) => exact arrV_read cA _ hi
  | .inr (.inr (.inr (.inr f))) => exact arrV_read cA _ hi
def px_N (g : Nat) : Bool := (zf_gi zGT g).1 || (match vwCl[(zf_gi zGT g).2.1]? with
  | some r => Nat.ble (zf_len (zf_gi zGT g).2.2) r.2.2
  | none => true)
theorem px_Nok : (List.range 128).all px_N = true := by decide +kernel
theorem px_NN {g : Nat} (hg : g < 128) (h1 : (zf_gi zGT g).1 = false) {r : vw_C} (hr : vwCl[(zf_gi zGT g).2.1]? = some r) : zf_len (zf_gi zGT g).2.2 ≤ r.2.2 := by
  have h := List.all_eq_true.mp px_Nok g (List.mem_range.mpr hg)
  unfold px_N at h
  rw [h1, hr, Bool.false_or] at h
  exact Nat.le_of_ble_eq_true h
theorem px_spx {i9 n9 : Nat} {P : zf_P} (h : i9 < n9) : zf_sp [(n9, P)] i9 = some P := by
  unfold zf_sp
  dsimp only
  rw [zf_blt' h]
section PS
variable {Sg : Nat → Option Nat} {k : Nat → ClassId} {D : va_G} {H : Heap} {w1 w2 : va_W} {A1 A2 : Nat → Prop}
theorem px_same (hP1 : va_P D vwCl w1 H) (hP2 : va_P D vwCl w2 H) (hD1 : va_D A1 w1) (hD2 : va_D A2 w2) (t1 : zf_typ Sg k zGT w1) (t2 : zf_typ Sg k xGT w2) {a g i : Nat} {v w : Value} (ha : Sg a = some g) (hg : g < 128) (r1 : zf_rd w1 a i v) (r2 : zf_rd w2 a i w) : v = w := by
  obtain ⟨q1, e1, p1, u1⟩ := r1
  obtain ⟨q2, e2, p2, u2⟩ := r2
  obtain ⟨q3, e3, p3, s1, -⟩ := t1 a g ha hg
  obtain ⟨q4, e4, p4, s2, -⟩ := t2 a g ha hg
  have z1 : q1 = q3 := hD1.1 _ _ _ _ p1 p3 rfl
  subst z1
  have z2 : e1 = e3 := by
    rw [p1] at p3
    exact (Prod.mk.inj (Option.some.inj p3)).2
  subst z2
  have z3 : q2 = q4 := hD2.1 _ _ _ _ p2 p4 rfl
  subst z3
  have z4 : e2 = e4 := by
    rw [p2] at p4
    exact (Prod.mk.inj (Option.some.inj p4)).2
  subst z4
  obtain ⟨g1, g2, g3, -⟩ := px_gi g
  rw [g1, g2, g3] at s2
  have c1 := hP1 _ _ p1
  have c2 := hP2 _ _ p2
  cases hb : (zf_gi zGT g).1 with
  | false =>
    rw [hb] at s1 s2
    obtain ⟨fs1, rfl, l1⟩ := s1
    obtain ⟨fs2, rfl, l2⟩ := s2
    obtain ⟨ra, ka, cell1, h1, -, -, f1⟩ := c1
    obtain ⟨rb, kb, cell2, h2, -, -, f2⟩ := c2
    have er : ra = rb := Option.some.inj (ka.symm.trans kb)
    subst er
    have ec : cell1 = cell2 := Option.some.inj (h1.symm.trans h2)
    subst ec
    have u1 : fs1[i]? = some v := u1
    have u2 : fs2[i]? = some w := u2
    have hi : i < fs1.length := (List.getElem?_eq_some_iff.mp u1).1
    have hN := px_NN hg hb ka
    have b1 := f1 i (by omega)
    have b2 := f2 i (by omega)
    have b3 : vp_V fs1 i = vp_V fs2 i := Option.some.inj (b1.symm.trans b2)
    have b4 : vp_V fs1 i = v := by
      unfold vp_V
      rw [List.getD_eq_getElem?_getD, u1]
      rfl
    have b5 : vp_V fs2 i = w := by
      unfold vp_V
      rw [List.getD_eq_getElem?_getD, u2]
      rfl
    rw [← b4, ← b5, b3]
  | true =>
    rw [hb] at s1 s2
    obtain ⟨x1, rfl⟩ := s1
    obtain ⟨x2, rfl⟩ := s2
    have c1 : H[a]? = some (vp_cell (k (zf_gi zGT g).2.1) (zf_len (zf_gi zGT g).2.2, x1)) := c1
    have c2 : H[a]? = some (vp_cell (k (zf_gi zGT g).2.1) (zf_len (zf_gi zGT g).2.2, x2)) := c2
    have u1 : (if i < zf_len (zf_gi zGT g).2.2 then some (zf_el x1 i) else none) = some v := u1
    have u2 : (if i < zf_len (zf_gi zGT g).2.2 then some (zf_el x2 i) else none) = some w := u2
    by_cases hi : i < zf_len (zf_gi zGT g).2.2
    · rw [if_pos hi] at u1 u2
      have b0 : vp_cell (k (zf_gi zGT g).2.1) (zf_len (zf_gi zGT g).2.2, x1) = vp_cell (k (zf_gi zGT g).2.1) (zf_len (zf_gi zGT g).2.2, x2) := Option.some.inj (c1.symm.trans c2)
      have b1 := px_cell (k (zf_gi zGT g).2.1) _ x1 hi
      have b2 := px_cell (k (zf_gi zGT g).2.1) _ x2 hi
      rw [b0, b2] at b1
      rw [u2, u1] at b1
      exact (Option.some.inj b1).symm
    · rw [if_neg hi] at u1
      cases u1
theorem px_get (hP1 : va_P D vwCl w1 H) (hP2 : va_P D vwCl w2 H) (hD1 : va_D A1 w1) (hD2 : va_D A2 w2) (t1 : zf_typ Sg k zGT w1) (t2 : zf_typ Sg k xGT w2) {θ : Nat → Nat} {hp : xe_H} (hc : xe_c Sg θ xGT xSC xRF w2 hp) {g i : Nat} {q q9 : Int × Int} (hs : xe_el g xSC = true) (hi : zf_sp (zf_gi zGT g).2.2 i = some (.inl q)) (hi2 : zf_sp (zf_gi xGT g).2.2 i = some (.inl q9)) : zf_rd w1 (θ g) i (.int (hp.1 g i)) := by
  obtain ⟨g8, gS, -⟩ := hc.1 g hs
  obtain ⟨q1, e1, p1, p2⟩ := t1 _ g gS g8
  obtain ⟨v, h3, x, rfl, -⟩ := p2.2 i _ hi
  have r1 : zf_rd w1 (θ g) i (.int x) := ⟨q1, e1, p1, h3⟩
  have e9 := px_same hP1 hP2 hD1 hD2 t1 t2 gS g8 r1 (px_rd hc hs hi2)
  rw [← e9]
  exact r1
end PS
