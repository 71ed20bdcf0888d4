/-! ===== the reference reads a SENTENCE ===== -/
def sm_A : List Nat → (Nat → Int32) → Prop
  | [], _ => True
  | a :: t, f => f t.length = Int32.ofNat a ∧ sm_A t f
def sm_f : List Nat → List Bool
  | [] => []
  | a :: t => bif Nat.beq a 20 then false :: sm_f t else bif Nat.beq a 23 then true :: sm_f t else sm_f t
def sm_c : List Nat → Prop
  | [] => True
  | a :: t => (a = 20 ∨ a = 21 ∨ a = 22 ∨ a = 23) ∧ ((a = 21 ∨ a = 22) → ∀ u, t ≠ 20 :: u) ∧ sm_c t
theorem sm_Ac : ∀ {A : List Nat} {f f' : Nat → Int32}, (∀ i, i < A.length → f' i = f i) → sm_A A f → sm_A A f'
  | [], _, _, _, _ => trivial
  | a :: t, f, f', h, q => ⟨(h t.length (by show t.length < t.length + 1; omega)).trans q.1, sm_Ac (A := t) (fun i hi => h i (by show i < t.length + 1; omega)) q.2⟩
theorem sm_fl : ∀ (A : List Nat), (sm_f A).length ≤ A.length
  | [] => Nat.le_refl _
  | a :: t => by
    have h := sm_fl t
    unfold sm_f
    cases Nat.beq a 20 <;> cases Nat.beq a 23 <;> simp only [cond_true, cond_false, List.length_cons] <;> omega
theorem sm_dn : ∀ {A : List Nat}, sm_c A → (∀ u, A ≠ 20 :: u) → sv_dn (sm_f A) = sm_f A
  | [], _, _ => rfl
  | a :: t, hc, hn => by
    obtain ⟨h1, h2, h3⟩ := hc
    rcases h1 with rfl | rfl | rfl | rfl
    · exact absurd rfl (hn t)
    · exact sm_dn (A := t) h3 (h2 (Or.inl rfl))
    · exact sm_dn (A := t) h3 (h2 (Or.inr rfl))
    · rfl
def sm_E (B : Nat → Int32) (n : Nat) (nsv : List (List Int32)) (p : Nat) (A : List Nat) (c_z o_z : Nat) (J : Nat → Nat → Int32) (M : Nat → Nat → Int64) : Prop := EncM B n 200 p J M ∧ lv_TM nsv J M ∧ sm_A A (J 31) ∧ sm_c A ∧ J 18 40 = Int32.ofNat A.length ∧ J 18 41 = Int32.ofNat ((sm_f A).length + 1) ∧ J 18 38 = Int32.ofNat c_z ∧ J 18 39 = Int32.ofNat o_z ∧ J 18 15 = 0
section MV
variable {B : Nat → Int32} {n p c_z o_z : Nat} {J : Nat → Nat → Int32} {M : Nat → Nat → Int64} {nsv : List (List Int32)} {A : List Nat}
theorem mw_isS {cc : Int32} (h6 : sg6 cc = true) (E : EncM B n 200 p J M) : fx_X13_isSign [.int cc, .ref 18] (J, M) (some (.int (b2i (lv_sg B n 200 cc p)))) (J, M) := by
  have e11 : J 18 11 = Int32.ofNat (mK B n 200 p) := E.2.2.2.2.2.1
  obtain ⟨m1, m2, m0, m4, m3⟩ := mK_1 (B := B) (n := n) (lim := 200) (p := p)
  unfold lv_sg
  by_cases hk : mK B n 200 p = 3
  · have hk3 := (m3.mp hk).1
    have g1 : xe_cmp .ne (J 18 11) (3 : Int32) = false := (cmpN e11 (b := 3) rfl (by omega) (by omega)).trans (decide_eq_false (fun q => q hk))
    have e14 : J 18 14 = tS B n 200 p := E.2.2.2.2.2.2.2.2 hk3
    rw [hk3]
    cases hs : decide (tS B n 200 p = cc) with
    | false => exact mk_X13_isSign (Or.inl rfl) (pt_X13_isSign_1 g1 (by rw [e14]; exact decide_eq_true (of_decide_eq_false hs)))
    | true => exact mk_X13_isSign (Or.inr rfl) (pt_X13_isSign_2 g1 (by rw [e14]; exact decide_eq_false (fun q => q (of_decide_eq_true hs))))
  · have e : (Nat.beq (tK B n 200 p) 3 && decide (tS B n 200 p = cc)) = false := by
      cases hb : Nat.beq (tK B n 200 p) 3 with
      | false => rfl
      | true =>
        show decide (tS B n 200 p = cc) = false
        refine decide_eq_false (fun q => hk (m3.mpr ⟨Nat.eq_of_beq_eq_true hb, ?_⟩))
        rw [q]; exact h6
    rw [e]
    exact mk_X13_isSign (Or.inl rfl) (pt_X13_isSign_0 ((cmpN e11 (b := 3) rfl (by omega) (by omega)).trans (decide_eq_true hk)))
theorem mw_isT {cc : Int32} (h6 : sg6 cc = true) (E : EncM B n 200 p J M) (h : lv_sg B n 200 cc p = true) : fx_X13_isSign [.int cc, .ref 18] (J, M) (some (.int 1)) (J, M) := by
  have q := mw_isS h6 E
  rw [h] at q
  exact q
theorem mw_isF {cc : Int32} (h6 : sg6 cc = true) (E : EncM B n 200 p J M) (h : lv_sg B n 200 cc p = false) : fx_X13_isSign [.int cc, .ref 18] (J, M) (some (.int 0)) (J, M) := by
  have q := mw_isS h6 E
  rw [h] at q
  exact q
theorem sm_code (E : sm_E B n nsv p A c_z o_z J M) (hc : c_z ≤ 50) (a1 a2 a3 : Int32) : ∃ J' : Nat → Nat → Int32, fx_X13_code [.int a3, .int a2, .int a1, .ref 18] (J, M) none (J', M) ∧ sm_E B n nsv p A (c_z + 1) o_z J' M ∧ J' 18 42 = J 18 42 := by
  obtain ⟨E1, T, hA, hC, e40, e41, e38, e39, e15⟩ := E
  have x0 : (3 : Int32) * J 18 38 = Int32.ofNat (3 * c_z) := by rw [e38]; exact tmul 3 c_z
  have x1 : (3 : Int32) * J 18 38 + 1 = Int32.ofNat (3 * c_z + 1) := by rw [x0]; exact ti1 _
  have x2 : (3 : Int32) * J 18 38 + 2 = Int32.ofNat (3 * c_z + 2) := by rw [x0]; exact tadd (3 * c_z) 2
  have b0 : xe_ib ((3 : Int32) * J 18 38) 160 = true := by rw [x0]; exact xib (by omega) (by omega)
  have b1 : xe_ib ((3 : Int32) * J 18 38 + 1) 160 = true := by rw [x1]; exact xib (by omega) (by omega)
  have b2 : xe_ib ((3 : Int32) * J 18 38 + 2) 160 = true := by rw [x2]; exact xib (by omega) (by omega)
  refine ⟨_, mk_X13_code trivial (pt_X13_code_0 b0 b1 b2), ⟨enwM_up (g := 18) (i := 38) (enwM_up (g := 22) (enwM_up (g := 22) (enwM_up (g := 22) E1 rfl) rfl) rfl) rfl, T, hA, hC, e40, e41, ?_, e39, e15⟩, rfl⟩
  show J 18 38 + 1 = _
  rw [e38]
  exact ti1 _
/-- the top is gone -/
theorem sm_top {a : Nat} {t : List Nat} (E : sm_E B n nsv p (a :: t) c_z o_z J M) (hl : t.length < 45) : J 18 40 - 1 = Int32.ofNat t.length ∧ J 31 ((J 18 40 - 1).toInt.toNat) = Int32.ofNat a ∧ xe_ib (J 18 40 - 1) 45 = true ∧ xe_cmp .le (J 18 40) 0 = false := by
  have e40 : J 18 40 = Int32.ofNat (t.length + 1) := E.2.2.2.2.1
  have e1 : J 18 40 - 1 = Int32.ofNat t.length := by rw [e40]; exact tsub (a := t.length + 1) (b := 1) (by omega) (by omega)
  refine ⟨e1, ?_, ?_, (cmpN e40 (b := 0) rfl (by omega) (by omega)).trans (show decide (t.length + 1 ≤ 0) = false from decide_eq_false (by omega))⟩
  · rw [e1, tin (by omega)]
    exact E.2.2.1.1
  · rw [e1]
    exact xib hl (by omega)
theorem sm_pop {a : Nat} {t : List Nat} (E : sm_E B n nsv p (a :: t) c_z o_z J M) (hl : t.length < 45) (ha : sm_f (a :: t) = sm_f t) : sm_E B n nsv p t c_z o_z (xu J 18 40 (J 18 40 - 1)) M := by
  have e1 := (sm_top E hl).1
  obtain ⟨E1, T, hA, hC, e40, e41, e38, e39, e15⟩ := E
  rw [ha] at e41
  exact ⟨enwM_up (g := 18) (i := 40) E1 rfl, T, hA.2, hC.2.2, e1, e41, e38, e39, e15⟩
theorem sm_popN {a : Nat} {b_z : Bool} {t : List Nat} (E : sm_E B n nsv p (a :: t) c_z o_z J M) (hl : t.length < 45) (hf : sm_f (a :: t) = b_z :: sm_f t) : sm_E B n nsv p t c_z o_z (xu (xu J 18 40 (J 18 40 - 1)) 18 41 (J 18 41 - 1)) M := by
  have e1 := (sm_top E hl).1
  have hfl := sm_fl t
  obtain ⟨E1, T, hA, hC, e40, e41, e38, e39, e15⟩ := E
  rw [hf] at e41
  have e41 : J 18 41 = Int32.ofNat ((sm_f t).length + 1 + 1) := e41
  have e2 : J 18 41 - 1 = Int32.ofNat ((sm_f t).length + 1) := by rw [e41]; exact tsub (a := (sm_f t).length + 1 + 1) (b := 1) (by omega) (by omega)
  exact ⟨enwM_up (g := 18) (i := 41) (enwM_up (g := 18) (i := 40) E1 rfl) rfl, T, hA.2, hC.2.2, e1, e2, e38, e39, e15⟩
theorem sm_nots : ∀ (A : List Nat) (c_z : Nat) (J : Nat → Nat → Int32), sm_E B n nsv p A c_z o_z J M → c_z + A.length ≤ 44 → ∃ (A' : List Nat) (c' : Nat) (J' : Nat → Nat → Int32), (∃ n9, xr_X13_nots n9 (0, [(0, .ref 18)], [], (J, M)) none (J', M)) ∧ sm_E B n nsv p A' c' o_z J' M ∧ c' + A'.length = c_z + A.length ∧ (∀ u, A' ≠ 20 :: u) ∧ sm_f A' = sv_dn (sm_f A) ∧ J' 18 42 = J 18 42 := by
  intro A
  induction A with
  | nil =>
    intro c_z J E h
    exact ⟨[], c_z, J, pt_X13_nots_0 ((cmpN E.2.2.2.2.1 (b := 0) rfl (by show (0 : Nat) < _; omega) (by omega)).trans rfl), E, rfl, fun u q => (by cases q), rfl, rfl⟩
  | cons a t ih =>
    intro c_z J E h
    have h : c_z + (t.length + 1) ≤ 44 := h
    obtain ⟨x1, x2, x3, x4⟩ := sm_top E (by omega)
    by_cases ha : a = 20
    · subst ha
      obtain ⟨J1, c1, E1, f1⟩ := sm_code (sm_popN (b_z := false) E (by omega) rfl) (by omega) 20 0 0
      obtain ⟨A', c', J', r, E', g1, g2, g3, g4⟩ := ih (c_z + 1) J1 E1 (by omega)
      exact ⟨A', c', J', pt_X13_nots_2 x4 x3 (by rw [x2]; rfl) c1 r, E', by rw [g1]; show c_z + 1 + t.length = c_z + (t.length + 1); omega, g2, g3, g4.trans f1⟩
    · have hn : ∀ u, a :: t ≠ 20 :: u := fun u q => ha (List.cons.inj q).1
      have ha4 := E.2.2.2.1.1
      exact ⟨a :: t, c_z, J, pt_X13_nots_1 x4 x3 ((cmpN x2 (b := 20) rfl (by omega) (by omega)).trans (decide_eq_true ha)), E, rfl, hn, (sm_dn E.2.2.2.1 hn).symm, rfl⟩
theorem sm_joins {til : Nat} (ht : til = 21 ∨ til = 22) : ∀ (A : List Nat) (c_z : Nat) (J : Nat → Nat → Int32), sm_E B n nsv p A c_z o_z J M → c_z + A.length ≤ 44 → (∀ u, A ≠ 20 :: u) → ∃ (A' : List Nat) (c' : Nat) (J' : Nat → Nat → Int32), (∃ n9, xr_X13_joins n9 (0, [(0, .ref 18), (1, .int (Int32.ofNat til))], [], (J, M)) none (J', M)) ∧ sm_E B n nsv p A' c' o_z J' M ∧ c' + A'.length = c_z + A.length ∧ (∀ u, A' ≠ 20 :: u) ∧ sm_f A' = sm_f A ∧ J' 18 42 = J 18 42 ∧ (til = 22 → A' = [] ∨ ∃ u, A' = 23 :: u) := by
  intro A
  induction A with
  | nil =>
    intro c_z J E h hn
    exact ⟨[], c_z, J, pt_X13_joins_0 ((cmpN E.2.2.2.2.1 (b := 0) rfl (by show (0 : Nat) < _; omega) (by omega)).trans rfl), E, rfl, fun u q => (by cases q), rfl, rfl, fun _ => Or.inl rfl⟩
  | cons a t ih =>
    intro c_z J E h hn
    have h : c_z + (t.length + 1) ≤ 44 := h
    obtain ⟨x1, x2, x3, x4⟩ := sm_top E (by omega)
    obtain ⟨ha4, hb, hC⟩ := E.2.2.2.1
    rcases ha4 with rfl | rfl | rfl | rfl
    · exact absurd rfl (hn t)
    · obtain ⟨J1, c1, E1, f1⟩ := sm_code (sm_pop E (by omega) rfl) (by omega) (J 31 ((J 18 40 - 1).toInt.toNat)) 0 0
      obtain ⟨A', c', J', r, E', g1, g2, g3, g4, g5⟩ := ih (c_z + 1) J1 E1 (by omega) (hb (Or.inl rfl))
      exact ⟨A', c', J', pt_X13_joins_1 x4 x3 (by rw [x2]; rfl) x3 c1 r, E', by rw [g1]; show c_z + 1 + t.length = c_z + (t.length + 1); omega, g2, g3, g4.trans f1, g5⟩
    · rcases ht with rfl | rfl
      · exact ⟨22 :: t, c_z, J, pt_X13_joins_3 x4 x3 (by rw [x2]; rfl) x3 (by rw [x2]; rfl) rfl, E, rfl, hn, rfl, rfl, fun q => (by cases q)⟩
      · obtain ⟨J1, c1, E1, f1⟩ := sm_code (sm_pop E (by omega) rfl) (by omega) (J 31 ((J 18 40 - 1).toInt.toNat)) 0 0
        obtain ⟨A', c', J', r, E', g1, g2, g3, g4, g5⟩ := ih (c_z + 1) J1 E1 (by omega) (hb (Or.inr rfl))
        exact ⟨A', c', J', pt_X13_joins_4 x4 x3 (by rw [x2]; rfl) x3 (by rw [x2]; rfl) rfl x3 c1 r, E', by rw [g1]; show c_z + 1 + t.length = c_z + (t.length + 1); omega, g2, g3, g4.trans f1, g5⟩
    · exact ⟨23 :: t, c_z, J, pt_X13_joins_2 x4 x3 (by rw [x2]; rfl) x3 (by rw [x2]; rfl), E, rfl, hn, rfl, rfl, fun _ => Or.inr ⟨t, rfl⟩⟩
def sm_lv (k_z : Nat) : Int32 := bif Nat.ble 16 k_z then Int32.ofNat (k_z - 16) else Int32.ofInt (-1)
theorem sm_leaf (hp : p ≤ n) (E : EncM B n 200 p J M) : fx_X13_leafOf [.ref 18] (J, M) (some (.int (sm_lv (kyw (tW B n 200 p))))) (J, M) := by
  have hk := kyw_lt (B := B) (lim := 200) hp
  have w16 := mw_isWord (i := 16) (c := 1735356005) (by decide) (by decide) rfl (by decide +kernel) hp E
  have w17 := mw_isWord (i := 17) (c := 422607680115) (by decide) (by decide) rfl (by decide +kernel) hp E
  have w18 := mw_isWord (i := 18) (c := 439721161573) (by decide) (by decide) rfl (by decide +kernel) hp E
  have w19 := mw_isWord (i := 19) (c := 28518) (by decide) (by decide) rfl (by decide +kernel) hp E
  have w20 := mw_isWord (i := 20) (c := 1819242087) (by decide) (by decide) rfl (by decide +kernel) hp E
  have w21 := mw_isWord (i := 21) (c := 465726040947) (by decide) (by decide) rfl (by decide +kernel) hp E
  have w22 := mw_isWord (i := 22) (c := 512970880104) (by decide) (by decide) rfl (by decide +kernel) hp E
  have w23 := mw_isWord (i := 23) (c := 121450625394034) (by decide) (by decide) rfl (by decide +kernel) hp E
  unfold sm_lv
  generalize kyw (tW B n 200 p) = K at *
  by_cases h15 : K < 16
  · rw [nb_bN h15]
    rw [nb_F (a := K) (b := 16) (by omega)] at w16
    rw [nb_F (a := K) (b := 17) (by omega)] at w17
    rw [nb_F (a := K) (b := 18) (by omega)] at w18
    rw [nb_F (a := K) (b := 19) (by omega)] at w19
    rw [nb_F (a := K) (b := 20) (by omega)] at w20
    rw [nb_F (a := K) (b := 21) (by omega)] at w21
    rw [nb_F (a := K) (b := 22) (by omega)] at w22
    rw [nb_F (a := K) (b := 23) (by omega)] at w23
    exact mk_X13_leafOf trivial (pt_X13_leafOf_8 w16 w17 w18 w19 w20 w21 w22 w23)
  · rcases (by omega : K = 16 ∨ K = 17 ∨ K = 18 ∨ K = 19 ∨ K = 20 ∨ K = 21 ∨ K = 22 ∨ K = 23) with rfl | rfl | rfl | rfl | rfl | rfl | rfl | rfl
    · exact mk_X13_leafOf trivial (pt_X13_leafOf_0 w16)
    · exact mk_X13_leafOf trivial (pt_X13_leafOf_1 w16 w17)
    · exact mk_X13_leafOf trivial (pt_X13_leafOf_2 w16 w17 w18)
    · exact mk_X13_leafOf trivial (pt_X13_leafOf_3 w16 w17 w18 w19)
    · exact mk_X13_leafOf trivial (pt_X13_leafOf_4 w16 w17 w18 w19 w20)
    · exact mk_X13_leafOf trivial (pt_X13_leafOf_5 w16 w17 w18 w19 w20 w21)
    · exact mk_X13_leafOf trivial (pt_X13_leafOf_6 w16 w17 w18 w19 w20 w21 w22)
    · exact mk_X13_leafOf trivial (pt_X13_leafOf_7 w16 w17 w18 w19 w20 w21 w22 w23)
/-- an entry is laid on top -/
theorem sm_push {v_z : Nat} (E : sm_E B n nsv p A c_z o_z J M) (hl : A.length < 45) (hv : v_z = 20 ∨ v_z = 21 ∨ v_z = 22 ∨ v_z = 23) (hn : (v_z = 21 ∨ v_z = 22) → ∀ u, A ≠ 20 :: u) : xe_ib (J 18 40) 45 = true ∧ sm_A (v_z :: A) (xu J 31 ((J 18 40).toInt.toNat) (Int32.ofNat v_z) 31) ∧ sm_c (v_z :: A) ∧ J 18 40 + 1 = Int32.ofNat (v_z :: A).length := by
  obtain ⟨E1, T, hA, hC, e40, e41, e38, e39, e15⟩ := E
  have ei : (J 18 40).toInt.toNat = A.length := by rw [e40]; exact tin (by omega)
  refine ⟨by rw [e40]; exact xib hl (by omega), ⟨?_, sm_Ac (fun i hi => ?_) hA⟩, ⟨hv, hn, hC⟩, ?_⟩
  · rw [ei]
    exact xu_eq
  · rw [ei, xu_ne (by rw [nb_F (a := i) (b := A.length) (by omega)]; rfl)]
  · rw [e40]
    exact ti1 _
theorem sm_pushO {v_z : Nat} {b_z : Bool} (E : sm_E B n nsv p A c_z o_z J M) (hl : A.length < 45) (hv : v_z = 20 ∨ v_z = 23) (hf : sm_f (v_z :: A) = b_z :: sm_f A) : sm_E B n nsv p (v_z :: A) c_z o_z (xu (xu (xu J 31 ((J 18 40).toInt.toNat) (Int32.ofNat v_z)) 18 40 (J 18 40 + 1)) 18 41 (J 18 41 + 1)) M := by
  obtain ⟨-, q2, q3, q4⟩ := sm_push E hl (v_z := v_z) (by omega) (fun h => by omega)
  obtain ⟨E1, T, hA, hC, e40, e41, e38, e39, e15⟩ := E
  refine ⟨enwM_up (g := 18) (i := 41) (enwM_up (g := 18) (i := 40) (enwM_up (g := 31) E1 rfl) rfl) rfl, T, q2, q3, q4, ?_, e38, e39, e15⟩
  show J 18 41 + 1 = _
  rw [e41, hf]
  exact ti1 _
theorem sm_pushJ {v_z : Nat} (E : sm_E B n nsv p A c_z o_z J M) (hl : A.length < 45) (hv : v_z = 21 ∨ v_z = 22) (hn : ∀ u, A ≠ 20 :: u) : sm_E B n nsv p (v_z :: A) c_z o_z (xu (xu (xu J 31 ((J 18 40).toInt.toNat) (Int32.ofNat v_z)) 18 40 (J 18 40 + 1)) 18 42 0) M := by
  obtain ⟨-, q2, q3, q4⟩ := sm_push E hl (v_z := v_z) (by omega) (fun _ => hn)
  obtain ⟨E1, T, hA, hC, e40, e41, e38, e39, e15⟩ := E
  refine ⟨enwM_up (g := 18) (i := 42) (enwM_up (g := 18) (i := 40) (enwM_up (g := 31) E1 rfl) rfl) rfl, T, q2, q3, q4, ?_, e38, e39, e15⟩
  show J 18 41 = _
  rw [e41]
  rcases hv with rfl | rfl <;> rfl
theorem mw_adv (hn : n ≤ 940) (hB0 : ∀ i, i < 940 → 0 ≤ (B i).toInt) (hp : p ≤ n) (E : sm_E B n nsv p A c_z o_z J M) : ∃ (J' : Nat → Nat → Int32) (M' : Nat → Nat → Int64), fx_X13_next [.ref 18] (J, M) none (J', M') ∧ sm_E B n nsv (tN B n 200 p) A c_z o_z J' M' ∧ J' 18 42 = J 18 42 := by
  obtain ⟨E1, T, hA, hC, e40, e41, e38, e39, e15⟩ := E
  obtain ⟨h1, h2, h3, -, h5, -⟩ := id E1
  obtain ⟨J', M', a, b, c, d⟩ := sp_next (B := B) (n := n) (lim := 200) (p := tN B n 200 p) hn (by decide) (tN_le hp).2.1 h1 h5 h3 h2 hB0
  exact ⟨J', M', a, ⟨b, ⟨(c 20 0 rfl).trans T.1, fun j hj => (d 23 j rfl).trans (T.2.1 j hj), fun j hj => (d 24 j rfl).trans (T.2.2 j hj)⟩, sm_Ac (fun i _ => c 31 i rfl) hA, hC, (c 18 40 rfl).trans e40, (c 18 41 rfl).trans e41, (c 18 38 rfl).trans e38, (c 18 39 rfl).trans e39, (c 18 15 rfl).trans e15⟩, c 18 42 rfl⟩
theorem sm_one (E : sm_E B n nsv p A c_z o_z J M) : sm_E B n nsv p A c_z (o_z + 1) (xu J 18 39 (J 18 39 + 1)) M := by
  obtain ⟨E1, T, hA, hC, e40, e41, e38, e39, e15⟩ := E
  refine ⟨enwM_up (g := 18) (i := 39) E1 rfl, T, hA, hC, e40, e41, e38, ?_, e15⟩
  show J 18 39 + 1 = _
  rw [e39]
  exact ti1 _
theorem sm_42 (E : sm_E B n nsv p A c_z o_z J M) (x : Int32) : sm_E B n nsv p A c_z o_z (xu J 18 42 x) M := by
  obtain ⟨E1, T, hA, hC, e40, e41, e38, e39, e15⟩ := E
  exact ⟨enwM_up (g := 18) (i := 42) E1 rfl, T, hA, hC, e40, e41, e38, e39, e15⟩
theorem sm_18 (E : sm_E B n nsv p A c_z o_z J M) (x : Int32) : sm_E B n nsv p A c_z o_z (xu J 18 18 x) M := by
  obtain ⟨E1, T, hA, hC, e40, e41, e38, e39, e15⟩ := E
  exact ⟨enwM_up (g := 18) (i := 18) E1 rfl, T, hA, hC, e40, e41, e38, e39, e15⟩
theorem cm_3 (h : sv_cm B n p = true) : tK B n 200 p = 3 ∧ sg6 (tS B n 200 p) = true ∧ 60 ≤ (tS B n 200 p).toInt ∧ (tS B n 200 p).toInt ≤ 62 := by
  unfold sv_cm at h
  rw [Bool.or_eq_true, Bool.or_eq_true] at h
  rcases h with (h | h) | h <;> (obtain ⟨h1, h2⟩ := sg_3 h; rw [h2]; exact ⟨h1, by decide, by decide, by decide⟩)
theorem cm_n (h : sv_cm B n p = false) (hk : tK B n 200 p = 3) : ¬ (60 ≤ (tS B n 200 p).toInt ∧ (tS B n 200 p).toInt ≤ 62) := by
  rintro ⟨h1, h2⟩
  unfold sv_cm at h
  rw [Bool.or_eq_false_iff, Bool.or_eq_false_iff] at h
  obtain ⟨⟨q0, q1⟩, q2⟩ := h
  unfold lv_sg at q0 q1 q2
  rw [hk] at q0 q1 q2
  have q0 : decide (tS B n 200 p = 60) = false := q0
  have q1 : decide (tS B n 200 p = 61) = false := q1
  have q2 : decide (tS B n 200 p = 62) = false := q2
  rcases (by omega : (tS B n 200 p).toInt = 60 ∨ (tS B n 200 p).toInt = 61 ∨ (tS B n 200 p).toInt = 62) with e | e | e
  · exact of_decide_eq_false q0 (Int32.toInt_inj.mp (e.trans (by decide)))
  · exact of_decide_eq_false q1 (Int32.toInt_inj.mp (e.trans (by decide)))
  · exact of_decide_eq_false q2 (Int32.toInt_inj.mp (e.trans (by decide)))
def sm_R (B : Nat → Int32) (n : Nat) (nsv : List (List Int32)) (f : xe_F) (J : Nat → Nat → Int32) (M : Nat → Nat → Int64) (r : sv_st ⊕ sv_rs) : Prop := match r with
  | .inr (.inl q) => ∃ (J' : Nat → Nat → Int32) (M' : Nat → Nat → Int64), f [.ref 18] (J, M) (some (.int 0)) (J', M') ∧ J' 18 15 = q.1 ∧ J' 18 16 = Int32.ofNat q.2
  | .inr (.inr _) => False
  | .inl s => s.1 ≤ n ∧ s.2.1 ≤ 20 ∧ ∃ (A' : List Nat) (c' : Nat) (J' : Nat → Nat → Int32) (M' : Nat → Nat → Int64), f [.ref 18] (J, M) (some (.int 1)) (J', M') ∧ sm_E B n nsv s.1 A' c' s.2.1 J' M' ∧ s.2.2.1 = sm_f A' ∧ J' 18 42 = b2i s.2.2.2 ∧ c' + A'.length + (bif s.2.2.2 then 1 else 0) ≤ 2 * s.2.1
theorem sm_lvn {k_z : Nat} (h : k_z < 16) : sm_lv k_z = Int32.ofInt (-1) := by
  unfold sm_lv
  rw [nb_bN h]
  rfl
theorem sm_lvp {k_z : Nat} (h : 16 ≤ k_z) : sm_lv k_z = Int32.ofNat (k_z - 16) := by
  unfold sm_lv
  rw [Nat.ble_eq_true_of_le h]
  rfl
theorem sm_oper (hn : n ≤ 940) (hB0 : ∀ i, i < 940 → 0 ≤ (B i).toInt) (O : lv_ok nsv) (hp : p ≤ n) (E : sm_E B n nsv p A c_z o_z J M) (hb : c_z + A.length ≤ 2 * o_z) (ho : o_z ≤ 20) (h42 : J 18 42 = 0) : sm_R B n nsv fx_X13_operand J M (sv_op B n nsv p o_z (sm_f A)) := by
  obtain ⟨E1, T, hA, hC, e40, e41, e38, e39, e15⟩ := id E
  have a2 : J 18 12 = Int32.ofNat (tA B n 200 p) := E1.2.2.2.1
  have hfl := sm_fl A
  have w15 := mw_isWord (i := 15) (c := 7237492) (by decide) (by decide) rfl (by decide +kernel) hp E1
  have cl := sm_leaf hp E1
  have hk24 := kyw_lt (B := B) (lim := 200) hp
  have hp1 := (tN_le (B := B) (lim := 200) hp).2.1
  obtain ⟨J4, M4, c4, E4, f4⟩ := mw_adv hn hB0 hp (sm_one E)
  have f4 : J4 18 42 = 0 := f4.trans h42
  have g20 : o_z ≠ 20 → xe_cmp .eq (J 18 39) (20 : Int32) = false := fun q => (cmpN e39 (b := 20) rfl (by omega) (by omega)).trans (decide_eq_false q)
  have g20' : o_z = 20 → xe_cmp .eq (J 18 39) (20 : Int32) = true := fun q => (cmpN e39 (b := 20) rfl (by omega) (by omega)).trans (decide_eq_true q)
  have g8 : (sm_f A).length < 8 → xe_cmp .le (J 18 41) (8 : Int32) = true := fun q => (cmpN e41 (b := 8) rfl (by omega) (by omega)).trans (decide_eq_true (by omega))
  have g8' : 8 ≤ (sm_f A).length → xe_cmp .le (J 18 41) (8 : Int32) = false := fun q => (cmpN e41 (b := 8) rfl (by omega) (by omega)).trans (decide_eq_false (by omega))
  cases hs : lv_sg B n 200 40 p with
  | true =>
    have s2 := mw_isT (cc := 40) (by decide) E1 hs
    rw [sg_k hs] at w15
    by_cases hM : o_z = 20 ∨ 8 ≤ (sm_f A).length
    · rw [so_many (Or.inl hs) hM]
      by_cases h20 : o_z = 20
      · exact ⟨_, _, mk_X13_operand (Or.inl rfl) (pt_X13_operand_6 w15 s2 cl (g20' h20) (ms_bad 4)), rfl, a2⟩
      · exact ⟨_, _, mk_X13_operand (Or.inl rfl) (pt_X13_operand_8 w15 s2 cl (g20 h20) (g8' (by omega)) (ms_bad 4)), rfl, a2⟩
    have hM1 : o_z ≠ 20 := fun q => hM (Or.inl q)
    have hM2 : (sm_f A).length < 8 := Nat.lt_of_not_le (fun q => hM (Or.inr q))
    rw [so_br hs hM1 hM2]
    refine ⟨hp1, by show o_z + 1 ≤ 20; omega, 23 :: A, c_z, _, M4, mk_X13_operand (Or.inr rfl) (pt_X13_operand_7 w15 s2 cl (g20 hM1) (g8 hM2) c4 (sm_push E4 (v_z := 23) (by omega) (by omega) (fun h => by omega)).1), sm_pushO (b_z := true) E4 (by omega) (Or.inr rfl) rfl, rfl, f4, by show c_z + (A.length + 1) + 0 ≤ 2 * (o_z + 1); omega⟩
  | false =>
    have s2 := mw_isF (cc := 40) (by decide) E1 hs
    by_cases hlo : kyw (tW B n 200 p) < 15
    · rw [so_no hs hlo]
      rw [nb_F (a := kyw (tW B n 200 p)) (b := 15) (by omega)] at w15
      rw [sm_lvn (by omega)] at cl
      exact ⟨_, _, mk_X13_operand (Or.inl rfl) (pt_X13_operand_19 w15 s2 cl (by decide) (ms_bad 1)), rfl, a2⟩
    by_cases h15 : kyw (tW B n 200 p) = 15
    · rw [h15] at w15
      by_cases hM : o_z = 20 ∨ 8 ≤ (sm_f A).length
      · rw [so_many (Or.inr (by omega)) hM]
        by_cases h20 : o_z = 20
        · exact ⟨_, _, mk_X13_operand (Or.inl rfl) (pt_X13_operand_3 w15 s2 cl (g20' h20) (ms_bad 4)), rfl, a2⟩
        · exact ⟨_, _, mk_X13_operand (Or.inl rfl) (pt_X13_operand_5 w15 s2 cl (g20 h20) (g8' (by omega)) (ms_bad 4)), rfl, a2⟩
      have hM1 : o_z ≠ 20 := fun q => hM (Or.inl q)
      have hM2 : (sm_f A).length < 8 := Nat.lt_of_not_le (fun q => hM (Or.inr q))
      rw [so_not hs h15 hM1 hM2]
      refine ⟨hp1, by show o_z + 1 ≤ 20; omega, 20 :: A, c_z, _, M4, mk_X13_operand (Or.inr rfl) (pt_X13_operand_4 w15 s2 cl (g20 hM1) (g8 hM2) c4 (sm_push E4 (v_z := 20) (by omega) (by omega) (fun h => by omega)).1), sm_pushO (b_z := false) E4 (by omega) (Or.inl rfl) rfl, rfl, f4, by show c_z + (A.length + 1) + 0 ≤ 2 * (o_z + 1); omega⟩
    have h16 : 16 ≤ kyw (tW B n 200 p) := by omega
    rw [nb_F h15] at w15
    rw [sm_lvp h16] at cl
    have r0 : xe_cmp .ge (Int32.ofNat (kyw (tW B n 200 p) - 16)) 0 = true := (cmpN rfl (b := 0) rfl (by omega) (by omega)).trans (show decide (0 ≤ kyw (tW B n 200 p) - 16) = true from decide_eq_true (Nat.zero_le _))
    by_cases hM : o_z = 20 ∨ 8 ≤ (sm_f A).length
    · rw [so_many (Or.inr (by omega)) hM]
      by_cases h20 : o_z = 20
      · exact ⟨_, _, mk_X13_operand (Or.inl rfl) (pt_X13_operand_9 w15 s2 cl r0 (g20' h20) (ms_bad 4)), rfl, a2⟩
      · exact ⟨_, _, mk_X13_operand (Or.inl rfl) (pt_X13_operand_18 w15 s2 cl r0 (g20 h20) (g8' (by omega)) (ms_bad 4)), rfl, a2⟩
    have hM1 : o_z ≠ 20 := fun q => hM (Or.inl q)
    have hM2 : (sm_f A).length < 8 := Nat.lt_of_not_le (fun q => hM (Or.inr q))
    have E5 := sm_42 E4 1
    by_cases h18 : kyw (tW B n 200 p) ≤ 18
    · have hl : sv_leaf B n nsv (kyw (tW B n 200 p)) (tN B n 200 p) = .inr (tN B n 200 p) := by unfold sv_leaf; rw [Nat.ble_eq_true_of_le h18]; rfl
      rw [so_lfT hs h16 hM1 hM2 hl]
      obtain ⟨J5, c5, E6, f6⟩ := sm_code E5 (by omega) (Int32.ofNat (kyw (tW B n 200 p) - 16)) 0 0
      exact ⟨hp1, by show o_z + 1 ≤ 20; omega, A, c_z + 1, J5, M4, mk_X13_operand (Or.inr rfl) (pt_X13_operand_17 w15 s2 cl r0 (g20 hM1) (g8 hM2) c4 ((cmpN rfl (b := 3) rfl (by omega) (by omega)).trans (decide_eq_false (by omega))) c5), E6, rfl, f6, by show c_z + 1 + A.length + 1 ≤ 2 * (o_z + 1); omega⟩
    have r3 : xe_cmp .ge (Int32.ofNat (kyw (tW B n 200 p) - 16)) 3 = true := (cmpN rfl (b := 3) rfl (by omega) (by omega)).trans (decide_eq_true (by omega))
    have n18 := nb_bN (Nat.lt_of_not_le h18)
    by_cases h19 : kyw (tW B n 200 p) = 19
    · have r4 : xe_cmp .ne (Int32.ofNat (kyw (tW B n 200 p) - 16)) 3 = false := (cmpN rfl (b := 3) rfl (by omega) (by omega)).trans (decide_eq_false (by omega))
      have n19 : Nat.beq (kyw (tW B n 200 p)) 19 = true := by rw [h19]; rfl
      obtain ⟨l1, l2⟩ := mw_looks hp1 E5.1 E5.2.1 O
      cases hm : lv_nm B n 200 nsv (tN B n 200 p) with
      | inl f =>
        have hl : sv_leaf B n nsv (kyw (tW B n 200 p)) (tN B n 200 p) = .inl (f, tA B n 200 (tN B n 200 p)) := by unfold sv_leaf; rw [n18, n19, hm]; rfl
        rw [so_lfF hs h16 hM1 hM2 hl]
        obtain ⟨J5, c5, q1, q2⟩ := l1 f hm
        exact ⟨J5, M4, mk_X13_operand (Or.inl rfl) (pt_X13_operand_16 w15 s2 cl r0 (g20 hM1) (g8 hM2) c4 r3 r4 c5), q1, q2⟩
      | inr j =>
        have hl : sv_leaf B n nsv (kyw (tW B n 200 p)) (tN B n 200 p) = .inr (tN B n 200 (tN B n 200 p)) := by unfold sv_leaf; rw [n18, n19, hm]; rfl
        rw [so_lfT hs h16 hM1 hM2 hl]
        obtain ⟨hj, c5⟩ := l2 j hm
        obtain ⟨J6, c6, E6, f6⟩ := sm_code (sm_18 E5 (Int32.ofNat j)) (by omega) (Int32.ofNat (kyw (tW B n 200 p) - 16)) 0 (Int32.ofNat j)
        obtain ⟨J7, M7, c7, E7, f7⟩ := mw_adv hn hB0 hp1 E6
        exact ⟨(tN_le (B := B) (lim := 200) hp1).2.1, by show o_z + 1 ≤ 20; omega, A, c_z + 1, J7, M7, mk_X13_operand (Or.inr rfl) (pt_X13_operand_15 w15 s2 cl r0 (g20 hM1) (g8 hM2) c4 r3 r4 c5 c6 c7), E7, rfl, f7.trans f6, by show c_z + 1 + A.length + 1 ≤ 2 * (o_z + 1); omega⟩
    have r4 : xe_cmp .ne (Int32.ofNat (kyw (tW B n 200 p) - 16)) 3 = true := (cmpN rfl (b := 3) rfl (by omega) (by omega)).trans (decide_eq_true (by omega))
    have n19 : Nat.beq (kyw (tW B n 200 p)) 19 = false := nb_F h19
    have e11 : J4 18 11 = Int32.ofNat (mK B n 200 (tN B n 200 p)) := E4.1.2.2.2.2.2.1
    have a4 : J4 18 12 = Int32.ofNat (tA B n 200 (tN B n 200 p)) := E4.1.2.2.2.1
    obtain ⟨m1, m2, m0, m4, m3⟩ := mK_1 (B := B) (n := n) (lim := 200) (p := tN B n 200 p)
    by_cases hk : mK B n 200 (tN B n 200 p) = 3
    · have hk3 := (m3.mp hk).1
      have e14 : J4 18 14 = tS B n 200 (tN B n 200 p) := E4.1.2.2.2.2.2.2.2.2 hk3
      have r5 : xe_cmp .ne (J4 18 11) (3 : Int32) = false := (cmpN e11 (b := 3) rfl (by omega) (by omega)).trans (decide_eq_false (fun q => q hk))
      cases hc : sv_cm B n (tN B n 200 p) with
      | false =>
        have hl : sv_leaf B n nsv (kyw (tW B n 200 p)) (tN B n 200 p) = .inl (1, tA B n 200 (tN B n 200 p)) := by unfold sv_leaf; rw [n18, n19, hc]; rfl
        rw [so_lfF hs h16 hM1 hM2 hl]
        have hcn := cm_n hc hk3
        by_cases hlt : (tS B n 200 (tN B n 200 p)).toInt < 60
        · have r6 : xe_cmp .lt (J4 18 14) (60 : Int32) = true := by rw [e14, xc]; exact decide_eq_true hlt
          exact ⟨_, _, mk_X13_operand (Or.inl rfl) (pt_X13_operand_11 w15 s2 cl r0 (g20 hM1) (g8 hM2) c4 r3 r4 r5 r6 (ms_bad 1)), rfl, a4⟩
        · have r6 : xe_cmp .lt (J4 18 14) (60 : Int32) = false := by rw [e14, xc]; exact decide_eq_false hlt
          have r7 : xe_cmp .le (J4 18 14) (62 : Int32) = false := by
            rw [e14, xc]
            refine decide_eq_false (fun q => hcn ⟨?_, q⟩)
            have q60 : ¬ (tS B n 200 (tN B n 200 p)).toInt < 60 := hlt
            omega
          exact ⟨_, _, mk_X13_operand (Or.inl rfl) (pt_X13_operand_14 w15 s2 cl r0 (g20 hM1) (g8 hM2) c4 r3 r4 r5 r6 r7 (ms_bad 1)), rfl, a4⟩
      | true =>
        obtain ⟨-, -, b1, b2⟩ := cm_3 hc
        have r6 : xe_cmp .lt (J4 18 14) (60 : Int32) = false := by
          rw [e14, xc]
          refine decide_eq_false (fun q => ?_)
          have q : (tS B n 200 (tN B n 200 p)).toInt < 60 := q
          omega
        have r7 : xe_cmp .le (J4 18 14) (62 : Int32) = true := by rw [e14, xc]; exact decide_eq_true b2
        obtain ⟨J5, M5, c5, E6, f6⟩ := mw_adv hn hB0 hp1 E5
        have hp2 := (tN_le (B := B) (lim := 200) hp1).2.1
        have e5 : J5 18 11 = Int32.ofNat (mK B n 200 (tN B n 200 (tN B n 200 p))) := E6.1.2.2.2.2.2.1
        have a5 : J5 18 12 = Int32.ofNat (tA B n 200 (tN B n 200 (tN B n 200 p))) := E6.1.2.2.2.1
        obtain ⟨u1, u2, u0, u4, u3⟩ := mK_1 (B := B) (n := n) (lim := 200) (p := tN B n 200 (tN B n 200 p))
        cases h2 : Nat.beq (tK B n 200 (tN B n 200 (tN B n 200 p))) 2 with
        | false =>
          have hl : sv_leaf B n nsv (kyw (tW B n 200 p)) (tN B n 200 p) = .inl (1, tA B n 200 (tN B n 200 (tN B n 200 p))) := by unfold sv_leaf; rw [n18, n19, hc, h2]; rfl
          rw [so_lfF hs h16 hM1 hM2 hl]
          exact ⟨_, _, mk_X13_operand (Or.inl rfl) (pt_X13_operand_13 w15 s2 cl r0 (g20 hM1) (g8 hM2) c4 r3 r4 r5 r6 r7 c5 ((cmpN e5 (b := 2) rfl (by omega) (by omega)).trans (decide_eq_false (fun q => nb_ne h2 (u2.mp q)))) (ms_bad 1)), rfl, a5⟩
        | true =>
          have hl : sv_leaf B n nsv (kyw (tW B n 200 p)) (tN B n 200 p) = .inr (tN B n 200 (tN B n 200 (tN B n 200 p))) := by unfold sv_leaf; rw [n18, n19, hc, h2]; rfl
          rw [so_lfT hs h16 hM1 hM2 hl]
          obtain ⟨J6, c6, E7, f7⟩ := sm_code E6 (by omega) (Int32.ofNat (kyw (tW B n 200 p) - 16)) (J4 18 14) (J5 18 14)
          obtain ⟨J7, M7, c7, E8, f8⟩ := mw_adv hn hB0 hp2 E7
          exact ⟨(tN_le (B := B) (lim := 200) hp2).2.1, by show o_z + 1 ≤ 20; omega, A, c_z + 1, J7, M7, mk_X13_operand (Or.inr rfl) (pt_X13_operand_12 w15 s2 cl r0 (g20 hM1) (g8 hM2) c4 r3 r4 r5 r6 r7 c5 ((cmpN e5 (b := 2) rfl (by omega) (by omega)).trans (decide_eq_true (u2.mpr (Nat.eq_of_beq_eq_true h2)))) c6 c7), E8, rfl, (f8.trans f7).trans f6, by show c_z + 1 + A.length + 1 ≤ 2 * (o_z + 1); omega⟩
    · have hc : sv_cm B n (tN B n 200 p) = false := by
        cases hc : sv_cm B n (tN B n 200 p) with
        | false => rfl
        | true =>
          obtain ⟨b1, b2, -⟩ := cm_3 hc
          exact absurd (m3.mpr ⟨b1, b2⟩) hk
      have hl : sv_leaf B n nsv (kyw (tW B n 200 p)) (tN B n 200 p) = .inl (1, tA B n 200 (tN B n 200 p)) := by unfold sv_leaf; rw [n18, n19, hc]; rfl
      rw [so_lfF hs h16 hM1 hM2 hl]
      exact ⟨_, _, mk_X13_operand (Or.inl rfl) (pt_X13_operand_10 w15 s2 cl r0 (g20 hM1) (g8 hM2) c4 r3 r4 ((cmpN e11 (b := 3) rfl (by omega) (by omega)).trans (decide_eq_true hk)) (ms_bad 1)), rfl, a4⟩
theorem sm_beh (hn : n ≤ 940) (hB0 : ∀ i, i < 940 → 0 ≤ (B i).toInt) (hp : p ≤ n) (E : sm_E B n nsv p A c_z o_z J M) (hb : c_z + A.length + 1 ≤ 2 * o_z) (ho : o_z ≤ 20) (h42 : J 18 42 = 1) (h0 : tK B n 200 p ≠ 0) : sm_R B n nsv fx_X13_behind J M (sv_be B n p o_z (sv_dn (sm_f A))) := by
  obtain ⟨A1, c1, J1, r1, E1, g1, g2, g3, g4⟩ := sm_nots A c_z J E (by omega)
  have d1 : fx_X13_nots [.ref 18] (J, M) none (J1, M) := mk_X13_nots trivial r1
  rw [← g3]
  have w14 := mw_isWord (i := 14) (c := 6385252) (by decide) (by decide) rfl (by decide +kernel) hp E1.1
  have w13 := mw_isWord (i := 13) (c := 28530) (by decide) (by decide) rfl (by decide +kernel) hp E1.1
  have hp1 := (tN_le (B := B) (lim := 200) hp).2.1
  by_cases h14 : kyw (tW B n 200 p) = 14
  · obtain ⟨A2, c2, J2, r2, E2, k1, k2, k3, k4, -⟩ := sm_joins (til := 21) (Or.inl rfl) A1 c1 J1 E1 (by omega) g2
    have d2 : fx_X13_joins [.int (21 : Int32), .ref 18] (J1, M) none (J2, M) := mk_X13_joins trivial r2
    have w14b := mw_isWord (i := 14) (c := 6385252) (by decide) (by decide) rfl (by decide +kernel) hp E2.1
    rw [h14] at w14 w14b
    have E3 := sm_pushJ (v_z := 21) E2 (by omega) (Or.inl rfl) k2
    obtain ⟨J3, M3, d3, E4, f4⟩ := mw_adv hn hB0 hp E3
    have e : sv_be B n p o_z (sm_f A1) = .inl (tN B n 200 p, o_z, sm_f A1, false) := by
      unfold sv_be
      rw [nb_F h0, h14]
      rfl
    rw [e]
    exact ⟨hp1, ho, 21 :: A2, c2, J3, M3, mk_X13_behind (Or.inr rfl) (pt_X13_behind_0 d1 w14 w14 d2 w14b (sm_push E2 (v_z := 21) (by omega) (by omega) (fun _ => k2)).1 d3), E4, k3.symm, f4, by show c2 + (A2.length + 1) + 0 ≤ 2 * o_z; omega⟩
  by_cases h13 : kyw (tW B n 200 p) = 13
  · obtain ⟨A2, c2, J2, r2, E2, k1, k2, k3, k4, -⟩ := sm_joins (til := 22) (Or.inr rfl) A1 c1 J1 E1 (by omega) g2
    have d2 : fx_X13_joins [.int (22 : Int32), .ref 18] (J1, M) none (J2, M) := mk_X13_joins trivial r2
    have w14b := mw_isWord (i := 14) (c := 6385252) (by decide) (by decide) rfl (by decide +kernel) hp E2.1
    rw [h13] at w14 w14b w13
    have E3 := sm_pushJ (v_z := 22) E2 (by omega) (Or.inr rfl) k2
    obtain ⟨J3, M3, d3, E4, f4⟩ := mw_adv hn hB0 hp E3
    have e : sv_be B n p o_z (sm_f A1) = .inl (tN B n 200 p, o_z, sm_f A1, false) := by
      unfold sv_be
      rw [nb_F h0, h13]
      rfl
    rw [e]
    exact ⟨hp1, ho, 22 :: A2, c2, J3, M3, mk_X13_behind (Or.inr rfl) (pt_X13_behind_7 d1 w14 w13 w14 d2 w14b (sm_push E2 (v_z := 22) (by omega) (by omega) (fun _ => k2)).1 d3), E4, k3.symm, f4, by show c2 + (A2.length + 1) + 0 ≤ 2 * o_z; omega⟩
  rw [nb_F h14] at w14
  rw [nb_F h13] at w13
  obtain ⟨A2, c2, J2, r2, E2, k1, k2, k3, k4, k5⟩ := sm_joins (til := 22) (Or.inr rfl) A1 c1 J1 E1 (by omega) g2
  have d2 : fx_X13_joins [.int (22 : Int32), .ref 18] (J1, M) none (J2, M) := mk_X13_joins trivial r2
  have a2 : J2 18 12 = Int32.ofNat (tA B n 200 p) := E2.1.2.2.2.1
  have e40 := E2.2.2.2.2.1
  rw [← k3]
  cases hs : lv_sg B n 200 41 p with
  | false =>
    have s2 := mw_isF (cc := 41) (by decide) E2.1 hs
    have e : sv_be B n p o_z (sm_f A2) = .inr (.inl (1, tA B n 200 p)) := by
      unfold sv_be
      rw [nb_F h0, nb_F h13, nb_F h14, hs]
      cases sm_f A2 <;> rfl
    rw [e]
    exact ⟨_, _, mk_X13_behind (Or.inl rfl) (pt_X13_behind_10 d1 w14 w13 d2 s2 (ms_bad 1)), rfl, a2⟩
  | true =>
    have s2 := mw_isT (cc := 41) (by decide) E2.1 hs
    rcases k5 rfl with rfl | ⟨u, rfl⟩
    · have e : sv_be B n p o_z (sm_f []) = .inr (.inl (1, tA B n 200 p)) := by
        unfold sv_be
        rw [nb_F h0, nb_F h13, nb_F h14]
        rfl
      rw [e]
      exact ⟨_, _, mk_X13_behind (Or.inl rfl) (pt_X13_behind_9 d1 w14 w13 d2 s2 ((cmpN e40 (b := 0) rfl (by show (0 : Nat) < _; omega) (by omega)).trans rfl) (ms_bad 1)), rfl, a2⟩
    · have hu : u.length + 1 ≤ 44 := by
        have k1 : c2 + (u.length + 1) = c1 + A1.length := k1
        omega
      have k1 : c2 + (u.length + 1) = c1 + A1.length := k1
      have e : sv_be B n p o_z (sm_f (23 :: u)) = .inl (tN B n 200 p, o_z, sm_f u, true) := by
        show sv_be B n p o_z (true :: sm_f u) = _
        unfold sv_be
        rw [nb_F h0, nb_F h13, nb_F h14, hs]
        rfl
      rw [e]
      have E3 := sm_popN (b_z := true) E2 (by omega) rfl
      obtain ⟨J3, M3, d3, E4, f4⟩ := mw_adv hn hB0 hp E3
      exact ⟨hp1, ho, u, c2, J3, M3, mk_X13_behind (Or.inr rfl) (pt_X13_behind_8 d1 w14 w13 d2 s2 ((cmpN e40 (b := 0) rfl (by show u.length + 1 < _; omega) (by omega)).trans (show decide (¬ u.length + 1 = 0) = true from decide_eq_true (by omega))) d3), E4, rfl, f4.trans (k4.trans (g4.trans h42)), by show c2 + u.length + 1 ≤ 2 * o_z; omega⟩
/-! the text's end: the codes are laid behind the town -/
theorem sm_copy {c_z o_z : Nat} (hc : c_z ≤ 50) : ∀ (k_z i : Nat) (J : Nat → Nat → Int32), i + k_z = 3 * c_z → J 18 38 = Int32.ofNat c_z → J 18 39 = Int32.ofNat o_z → J 18 15 = 0 → ∃ J' : Nat → Nat → Int32, (∃ n9, xr_X13_sentence n9 (146, [(0, .ref 18), (1, .int 0), (2, .int (Int32.ofNat i))], [], (J, M)) (some (.int (Int32.ofNat o_z))) (J', M)) ∧ J' 18 15 = 0 := by
  intro k_z
  induction k_z with
  | zero =>
    intro i J hi h38 h39 h15
    have x0 : (3 : Int32) * J 18 38 = Int32.ofNat (3 * c_z) := by rw [h38]; exact tmul 3 c_z
    refine ⟨J, ?_, h15⟩
    rw [← h39]
    exact pt_X13_sentence_12 ((cmpN rfl x0 (by omega) (by omega)).trans (decide_eq_true (by omega)))
  | succ k_z ih =>
    intro i J hi h38 h39 h15
    have x0 : (3 : Int32) * J 18 38 = Int32.ofNat (3 * c_z) := by rw [h38]; exact tmul 3 c_z
    have x1 : (694 : Int32) + Int32.ofNat i = Int32.ofNat (694 + i) := tadd 694 i
    obtain ⟨J', r, q⟩ := ih (i + 1) (xu J 20 (((694 : Int32) + Int32.ofNat i).toInt.toNat) (J 22 ((Int32.ofNat i).toInt.toNat))) (by omega) h38 h39 h15
    refine ⟨J', pt_X13_sentence_13 ((cmpN rfl x0 (by omega) (by omega)).trans (decide_eq_false (by omega))) (xib (by omega) (by omega)) (by rw [x1]; exact xib (by omega) (by omega)) ?_, q⟩
    rw [ti1]
    exact r
def sv_ans (r : sv_rs) : Int32 := match r with
  | .inl q => Int32.ofInt (-1) - Int32.ofNat q.2
  | .inr o_z => Int32.ofNat o_z
def sv_flt (r : sv_rs) : Int32 := match r with
  | .inl q => q.1
  | .inr _ => 0
theorem sm_loop (hn : n ≤ 940) (hB0 : ∀ i, i < 940 → 0 ≤ (B i).toInt) (O : lv_ok nsv) : ∀ (m_z : Nat) (s : sv_st) (r : sv_rs) (A : List Nat) (c_z : Nat) (J : Nat → Nat → Int32) (M : Nat → Nat → Int64), sv_run B n nsv m_z s = some r → s.1 ≤ n → s.2.1 ≤ 20 → sm_E B n nsv s.1 A c_z s.2.1 J M → s.2.2.1 = sm_f A → J 18 42 = b2i s.2.2.2 → c_z + A.length + (bif s.2.2.2 then 1 else 0) ≤ 2 * s.2.1 →
    ∃ hp9 : xe_H, (∃ n9, xr_X13_sentence n9 (48, [(0, .ref 18), (1, .int 1)], [], (J, M)) (some (.int (sv_ans r))) hp9) ∧ hp9.1 18 15 = sv_flt r := by
  intro m_z
  induction m_z with
  | zero =>
    intro s r A c_z J M h
    cases h
  | succ m_z ih =>
    intro s r A c_z J M h hp ho E hS h42 hb
    obtain ⟨p, o_z, S, w_z⟩ := s
    have hp : p ≤ n := hp
    have ho : o_z ≤ 20 := ho
    have E : sm_E B n nsv p A c_z o_z J M := E
    have hS : S = sm_f A := hS
    subst hS
    unfold sv_run at h
    have n1 : xe_cmp .eq (1 : Int32) 0 = false := by decide
    cases w_z with
    | false =>
      have h42 : J 18 42 = 0 := h42
      have hb : c_z + A.length + 0 ≤ 2 * o_z := hb
      have q := sm_oper hn hB0 O hp E (by omega) ho h42
      rw [sv_1F] at h
      have h2 : xe_cmp .eq (J 18 42) 0 = true := by rw [h42]; decide
      cases hx : sv_op B n nsv p o_z (sm_f A) with
      | inr r2 =>
        rw [hx] at h q
        cases h
        cases r with
        | inl q9 =>
          obtain ⟨J', M', d1, f1, f2⟩ := q
          refine ⟨(J', M'), ?_, f1⟩
          show ∃ n9, xr_X13_sentence n9 (48, [(0, .ref 18), (1, .int 1)], [], (J, M)) (some (.int (Int32.ofInt (-1) - Int32.ofNat q9.2))) (J', M')
          rw [← f2]
          exact pt_X13_sentence_3 n1 h2 h2 d1
        | inr o9 => exact q.elim
      | inl s2 =>
        rw [hx] at h q
        obtain ⟨q1, q2, A', c', J', M', d1, E', q3, q4, q5⟩ := q
        obtain ⟨hp9, u1, u2⟩ := ih s2 r A' c' J' M' h q1 q2 E' q3 q4 q5
        exact ⟨hp9, pt_X13_sentence_2 n1 h2 h2 d1 u1, u2⟩
    | true =>
      have h42 : J 18 42 = 1 := h42
      have hb : c_z + A.length + 1 ≤ 2 * o_z := hb
      have h2 : xe_cmp .eq (J 18 42) 0 = false := by rw [h42]; decide
      have e11 : J 18 11 = Int32.ofNat (mK B n 200 p) := E.1.2.2.2.2.2.1
      obtain ⟨m1, m2, m0, m4, m3⟩ := mK_1 (B := B) (n := n) (lim := 200) (p := p)
      have e1 : sv_1 B n nsv (p, o_z, sm_f A, true) = sv_be B n p o_z (sv_dn (sm_f A)) := rfl
      rw [e1] at h
      by_cases h0 : tK B n 200 p = 0
      · have h3 : xe_cmp .ne (J 18 11) 0 = false := (cmpN e11 (b := 0) rfl (by omega) (by omega)).trans (decide_eq_false (fun q => q (m0.mpr h0)))
        obtain ⟨A1, c1, J1, r1, E1, g1, g2, g3, g4⟩ := sm_nots A c_z J E (by omega)
        obtain ⟨A2, c2, J2, r2, E2, k1, k2, k3, k4, k5⟩ := sm_joins (til := 22) (Or.inr rfl) A1 c1 J1 E1 (by omega) g2
        have d1 : fx_X13_nots [.ref 18] (J, M) none (J1, M) := mk_X13_nots trivial r1
        have d2 : fx_X13_joins [.int (22 : Int32), .ref 18] (J1, M) none (J2, M) := mk_X13_joins trivial r2
        rw [← g3, ← k3] at h
        have e40 := E2.2.2.2.2.1
        rcases k5 rfl with rfl | ⟨u, rfl⟩
        · have e : sv_be B n p o_z (sm_f []) = .inr (.inr o_z) := by
            unfold sv_be
            rw [h0]
            rfl
          rw [e] at h
          cases h
          obtain ⟨J3, r3, q3⟩ := sm_copy (M := M) (c_z := c2) (o_z := o_z) (by omega) (3 * c2) 0 (xu J2 20 693 (J2 18 38)) (by omega) E2.2.2.2.2.2.2.1 E2.2.2.2.2.2.2.2.1 E2.2.2.2.2.2.2.2.2
          exact ⟨(J3, M), pt_X13_sentence_10 n1 h2 h3 d1 d2 ((cmpN e40 (b := 0) rfl (by show (0 : Nat) < _; omega) (by omega)).trans rfl) (pt_X13_sentence_1 (by decide) r3), q3⟩
        · have k1 : c2 + (u.length + 1) = c1 + A1.length := k1
          have e : sv_be B n p o_z (sm_f (23 :: u)) = .inr (.inl (1, tA B n 200 p)) := by
            show sv_be B n p o_z (true :: sm_f u) = _
            unfold sv_be
            rw [h0]
            rfl
          rw [e] at h
          cases h
          have a2 : J2 18 12 = Int32.ofNat (tA B n 200 p) := E2.1.2.2.2.1
          obtain ⟨J9, b9, f1, f2⟩ : ∃ J9 : Nat → Nat → Int32, fx_X13_bad [.int 1, .ref 18] (J2, M) (some (.int 0)) (J9, M) ∧ J9 18 15 = 1 ∧ J9 18 16 = Int32.ofNat (tA B n 200 p) := ⟨_, ms_bad 1, rfl, a2⟩
          refine ⟨(J9, M), ?_, f1⟩
          show ∃ n9, xr_X13_sentence n9 (48, [(0, .ref 18), (1, .int 1)], [], (J, M)) (some (.int (Int32.ofInt (-1) - Int32.ofNat (tA B n 200 p)))) (J9, M)
          rw [← f2]
          exact pt_X13_sentence_11 n1 h2 h3 d1 d2 ((cmpN e40 (b := 0) rfl (by show u.length + 1 < _; omega) (by omega)).trans (show decide (u.length + 1 ≤ 0) = false from decide_eq_false (by omega))) b9
      · have h3 : xe_cmp .ne (J 18 11) 0 = true := (cmpN e11 (b := 0) rfl (by omega) (by omega)).trans (decide_eq_true (fun q => h0 (m0.mp q)))
        have q := sm_beh hn hB0 hp E hb ho h42 h0
        cases hx : sv_be B n p o_z (sv_dn (sm_f A)) with
        | inr r2 =>
          rw [hx] at h q
          cases h
          cases r with
          | inl q9 =>
            obtain ⟨J', M', d1, f1, f2⟩ := q
            refine ⟨(J', M'), ?_, f1⟩
            show ∃ n9, xr_X13_sentence n9 (48, [(0, .ref 18), (1, .int 1)], [], (J, M)) (some (.int (Int32.ofInt (-1) - Int32.ofNat q9.2))) (J', M')
            rw [← f2]
            exact pt_X13_sentence_9 n1 h2 h3 h2 d1
          | inr o9 => exact q.elim
        | inl s2 =>
          rw [hx] at h q
          obtain ⟨q1, q2, A', c', J', M', d1, E', q3, q4, q5⟩ := q
          obtain ⟨hp9, u1, u2⟩ := ih s2 r A' c' J' M' h q1 q2 E' q3 q4 q5
          exact ⟨hp9, pt_X13_sentence_8 n1 h2 h3 h2 d1 u1, u2⟩
theorem sm_text (hn : n ≤ 940) (hB0 : ∀ i, i < 940 → 0 ≤ (B i).toInt) (O : lv_ok nsv) (h2 : J 18 2 = Int32.ofNat n) (hB : ∀ i, i < 940 → J 19 i &&& 255 = B i) (T : lv_TM nsv J M) {r : sv_rs} (hr : sv_ends B n nsv (0, 0, [], false) r) : ∃ hp9 : xe_H, fx_X13_sentence [.ref 18] (J, M) (some (.int (sv_ans r))) hp9 ∧ hp9.1 18 15 = sv_flt r := by
  obtain ⟨m_z, hm⟩ := hr
  have c1 : fx_X13_taken [.int 200, .ref 18] (xu J 18 0 0, M) none (xu (xu (xu (xu (xu J 18 0 0) 18 3 (xu J 18 0 0 18 2)) 18 2 0) 18 4 0) 18 5 200, M) := mk_X13_taken trivial pt_X13_taken_0
  obtain ⟨J2, M2, c2, E2, s3, s4⟩ := sp_next (B := B) (n := n) (lim := 200) (p := 0) (I := xu (xu (xu (xu (xu (xu (xu (xu (xu (xu (xu J 18 0 0) 18 3 (xu J 18 0 0 18 2)) 18 2 0) 18 4 0) 18 5 200) 18 15 0) 18 38 0) 18 39 0) 18 40 0) 18 41 1) 18 42 0) (L := M) hn (by decide) (Nat.zero_le _) h2 rfl rfl hB hB0
  have E : sm_E B n nsv 0 [] 0 0 J2 M2 := ⟨E2, ⟨(s3 20 0 rfl).trans T.1, fun j hj => (s4 23 j rfl).trans (T.2.1 j hj), fun j hj => (s4 24 j rfl).trans (T.2.2 j hj)⟩, trivial, trivial, s3 18 40 rfl, s3 18 41 rfl, s3 18 38 rfl, s3 18 39 rfl, s3 18 15 rfl⟩
  obtain ⟨hp9, u1, u2⟩ := sm_loop hn hB0 O m_z (0, 0, [], false) r [] 0 J2 M2 hm (Nat.zero_le _) (Nat.zero_le _) E rfl (s3 18 42 rfl) (Nat.le_refl _)
  exact ⟨hp9, mk_X13_sentence trivial (pt_X13_sentence_0 c1 c2 u1), u2⟩
end MV
