/-! ===== the reference's town: the men that it reads ===== -/
def lp_XN (g : Option Value → xe_H → Prop) (r : lp_rs) : Prop := match r with
  | .inl q => ∃ hp9 : xe_H, g (some (.int (Int32.ofInt (-1) - Int32.ofNat q.2))) hp9 ∧ hp9.1 18 15 = q.1
  | .inr q => ∃ hp9 : xe_H, g (some (.int (Int32.ofNat q.1))) hp9 ∧ hp9.1 18 15 = 0 ∧ hp9.1 20 0 = Int32.ofNat q.2.1.length ∧ ∀ j, j < q.2.1.length → hp9.2 23 j = c256 (q.2.1.getD j [])
section MTN
variable {L : Nat → Nat → Int64}
theorem mt_L2N {I : Nat → Nat → Int32} : ∀ (k i : Nat) (L : Nat → Nat → Int64), i + k = 6 → ∃ L' : Nat → Nat → Int64, (∀ j, i ≤ j → j < 6 → L' 23 j = L 23 (6 + j)) ∧ (∀ j, j < i ∨ 6 ≤ j → L' 23 j = L 23 j) ∧ ∀ v hp9, (∃ n9, xr_X13_town n9 (188, [(0, .ref 18), (1, .int (0 : Int32))], [], (xu I 20 87 (I 20 1), L')) v hp9) → ∃ n9, xr_X13_town n9 (146, [(0, .ref 18), (1, .int (Int32.ofNat i))], [], (I, L)) v hp9 := by
  intro k
  induction k with
  | zero =>
    intro i L hi
    exact ⟨L, fun j h1 h2 => by omega, fun j _ => rfl, fun v hp9 r => pt_X13_town_10 ((cmpN rfl (b := 6) rfl (by omega) (by omega)).trans (decide_eq_true (by omega))) r⟩
  | succ k ih =>
    intro i L hi
    have ei : (Int32.ofNat i).toInt.toNat = i := tin (by omega)
    have e6 : ((6 : Int32) + Int32.ofNat i).toInt.toNat = 6 + i := mt_ix 6 i (by omega)
    obtain ⟨L', a1, a2, r⟩ := ih (i + 1) (xul L 23 i (L 23 (6 + i))) (by omega)
    refine ⟨L', fun j h1 h2 => ?_, fun j hj => ?_, fun v hp9 r9 => pt_X13_town_11 ((cmpN rfl (b := 6) rfl (by omega) (by omega)).trans (decide_eq_false (by omega))) (mt_ib 6 i (by omega) (by omega)) (xib (by omega) (by omega)) ?_⟩
    · by_cases e : j = i
      · rw [a2 j (by omega), e]
        exact xul_eq
      · rw [a1 j (by omega) h2, xul_ne (by rw [nb_F (a := 6 + j) (b := i) (by omega)]; rfl)]
    · rw [a2 j (by omega), xul_ne (by rw [nb_F (a := j) (b := i) (by omega)]; rfl)]
    · rw [ti1, ei, e6]
      exact r v hp9 r9
theorem mt_L5N : ∀ (k i : Nat) (I : Nat → Nat → Int32), i + k = 36 → ∃ I' : Nat → Nat → Int32, I' 18 15 = I 18 15 ∧ I' 20 0 = I 20 0 ∧ ∃ n9, xr_X13_town n9 (311, [(0, .ref 18), (1, .int (Int32.ofNat i))], [], (I, L)) (some (.int (I 18 19))) (I', L) := by
  intro k
  induction k with
  | zero =>
    intro i I hi
    exact ⟨xu I 18 25 0, rfl, rfl, pt_X13_town_14 (I := I) (L := L) ((cmpN (a := i) rfl (b := 36) rfl (by omega) (by omega)).trans (decide_eq_true (by omega)))⟩
  | succ k ih =>
    intro i I hi
    obtain ⟨I', e, e2, r⟩ := ih (i + 1) (xu I 20 (((139 : Int32) + Int32.ofNat i).toInt.toNat) (I 20 (((51 : Int32) + Int32.ofNat i).toInt.toNat))) (by omega)
    refine ⟨I', e, e2.trans ?_, pt_X13_town_15 ((cmpN rfl (b := 36) rfl (by omega) (by omega)).trans (decide_eq_false (by omega))) (mt_ib 51 i (by omega) (by omega)) (mt_ib 139 i (by omega) (by omega)) ?_⟩
    · rw [show ((139 : Int32) + Int32.ofNat i).toInt.toNat = 139 + i from mt_ix 139 i (by omega)]
      exact xu_ne (by rw [nb_F (a := 0) (b := 139 + i) (by omega)]; rfl)
    · rw [ti1]
      exact r
theorem mt_tailN {I : Nat → Nat → Int32} {st : lp_st} (T : lp_TM st I L) (O : lp_ok st) : ∃ hp9 : xe_H, (∃ n9, xr_X13_town n9 (109, [(0, .ref 18), (1, .int (0 : Int32))], [], (I, L)) (some (.int (I 18 19))) hp9) ∧ hp9.1 18 15 = I 18 15 ∧ hp9.1 20 0 = I 21 0 ∧ ∀ j, j < 6 → hp9.2 23 j = L 23 (6 + j) := by
  obtain ⟨I1, a1, a2, a3, r1⟩ := mt_L1 (L := L) 874 0 I rfl
  obtain ⟨L2, l1, -, r2⟩ := mt_L2N (I := I1) 6 0 L rfl
  have h87 : ∀ j, j < 87 → xu I1 20 87 (I1 20 1) 20 j = I 21 j := fun j hj => by
    rw [xu_ne (by rw [nb_F (a := j) (b := 87) (by omega)]; rfl)]
    exact a1 j (Nat.zero_le _) hj
  obtain ⟨I3, F3, r3⟩ := mt_L3 (L := L2) (nl := st.2.1) O.2.2.1 st.2.1 0 (xu I1 20 87 (I1 20 1)) (Nat.zero_add _) (by rw [h87 1 (by decide)]; exact T.2.2.1) (fun j hj => by rw [h87 (19 + j) (by omega)]; exact T.2.2.2.2.2.2.2 j hj)
  obtain ⟨I5, e5, e6, r5⟩ := mt_L5N (L := L2) 36 0 I3 rfl
  have e19 : I3 18 19 = I 18 19 := (F3 18 19 rfl).trans (a3 18 19 rfl)
  rw [e19] at r5
  exact ⟨_, r1 _ _ (r2 _ _ (r3 _ _ r5)), e5.trans ((F3 18 15 rfl).trans (a3 18 15 rfl)), e6.trans ((F3 20 0 (s20_F (by omega))).trans (h87 0 (by decide))), fun j hj => l1 j (Nat.zero_le _) hj⟩
end MTN
section MUN
variable {B : Nat → Int32} {n : Nat}
theorem mt_textN (hn : n ≤ 940) (hB0 : ∀ i, i < 940 → 0 ≤ (B i).toInt) (l1 : Int32) : ∀ (k p c : Nat) (st : lp_st) (J : Nat → Nat → Int32) (M : Nat → Nat → Int64), n < p + k → p ≤ n → EncM B n 900 p J M → lp_TM st J M → lp_ok st → J 18 19 = Int32.ofNat c → J 18 15 = 0 →
    lp_XN (fun v hp9 => ∃ n9, xr_X13_town n9 (64, [(0, .ref 18), (1, .int l1)], [], (J, M)) v hp9) (lp_tx B n k p c st) := by
  intro k
  induction k with
  | zero => intro p c st J M h1 h2; omega
  | succ k ih =>
    intro p c st J M hk hp E T O e19 e15
    have e11 : J 18 11 = Int32.ofNat (mK B n 900 p) := E.2.2.2.2.2.1
    obtain ⟨m1, m2, m0, m4, m3⟩ := mK_1 (B := B) (n := n) (lim := 900) (p := p)
    cases h0 : Nat.beq (tK B n 900 p) 0 with
    | true =>
      have e : lp_tx B n (k + 1) p c st = .inr (c, st) := by unfold lp_tx; rw [h0]; rfl
      rw [e]
      obtain ⟨hp9, r, e9, e8, e7⟩ := mt_tailN T O
      rw [e19] at r
      exact ⟨hp9, pt_X13_town_3 ((cmpN e11 (b := 0) rfl (by omega) (by omega)).trans (decide_eq_true (m0.mpr (Nat.eq_of_beq_eq_true h0)))) r, e9.trans e15, e8.trans T.1, fun j hj => (e7 j (Nat.lt_of_lt_of_le hj O.1)).trans (T.2.1 j hj)⟩
    | false =>
      have h0' := nb_ne h0
      have g2 : xe_cmp .eq (J 18 11) 0 = false := (cmpN e11 (b := 0) rfl (by omega) (by omega)).trans (decide_eq_false (fun q => h0' (m0.mp q)))
      have hr := ms_line hn hB0 hp E T O
      cases hx : lp_line B n p st with
      | inl q =>
        have e : lp_tx B n (k + 1) p c st = .inl q := by unfold lp_tx; rw [h0, hx]; rfl
        rw [e]
        rw [hx] at hr
        obtain ⟨J1, M1, c1, q1, q2⟩ := hr
        have r := pt_X13_town_6 (l1 := l1) g2 c1
        rw [q2] at r
        exact ⟨_, r, q1⟩
      | inr q =>
        obtain ⟨O1, a1, a2⟩ := lp_line_ok hp O hx
        rw [hx] at hr
        obtain ⟨J1, M1, c1, E1, T1, q1, q2⟩ := hr
        obtain ⟨s1, s2⟩ := ms_sign hn hB0 a2 E1
        cases hs : lp_sg B n q.1 with
        | false =>
          have e : lp_tx B n (k + 1) p c st = .inl (1, tA B n 900 q.1) := by
            unfold lp_tx; rw [h0, hx]
            show (bif lp_sg B n q.1 then lp_tx B n k (tN B n 900 q.1) (c + 1) q.2 else .inl (1, tA B n 900 q.1)) = _
            rw [hs]; rfl
          rw [e]
          obtain ⟨J2, M2, c2, u1, u2⟩ := s1 hs
          have r := pt_X13_town_5 (l1 := l1) g2 c1 c2
          rw [u2] at r
          exact ⟨_, r, u1⟩
        | true =>
          have e : lp_tx B n (k + 1) p c st = lp_tx B n k (tN B n 900 q.1) (c + 1) q.2 := by
            unfold lp_tx; rw [h0, hx]
            show (bif lp_sg B n q.1 then lp_tx B n k (tN B n 900 q.1) (c + 1) q.2 else .inl (1, tA B n 900 q.1)) = _
            rw [hs]
            cases k <;> rfl
          rw [e]
          obtain ⟨J2, M2, c2, E2, F1, F2⟩ := s2 hs
          have h3 : tK B n 900 q.1 = 3 := by
            unfold lp_sg at hs
            rw [Bool.and_eq_true] at hs
            exact Nat.eq_of_beq_eq_true hs.1
          have a3 := lp_adv a2 h3 (by decide) (by decide)
          have n2 := (tN_le (B := B) (lim := 900) a2).2.1
          have i19 : J2 18 19 = Int32.ofNat c := (F1 18 19 rfl).trans (q1.trans e19)
          have T2 := tm_fr T1 F1 F2
          have hh := ih (tN B n 900 q.1) (c + 1) q.2 (xu J2 18 19 (J2 18 19 + 1)) M2 (by omega) n2 (encM_up (g := 18) (i := 19) (x := J2 18 19 + 1) E2 rfl) ⟨T2.1, T2.2.1, T2.2.2.1, T2.2.2.2.1, T2.2.2.2.2.1, T2.2.2.2.2.2.1, T2.2.2.2.2.2.2.1, T2.2.2.2.2.2.2.2⟩ O1 (by show J2 18 19 + 1 = _; rw [i19]; exact ti1 _) ((F1 18 15 rfl).trans (q2.trans e15))
          cases hy : lp_tx B n k (tN B n 900 q.1) (c + 1) q.2 with
          | inl r =>
            rw [hy] at hh
            obtain ⟨hp9, r3, u⟩ := hh
            exact ⟨hp9, pt_X13_town_4 g2 c1 c2 r3, u⟩
          | inr r =>
            rw [hy] at hh
            obtain ⟨hp9, r3, u⟩ := hh
            exact ⟨hp9, pt_X13_town_4 g2 c1 c2 r3, u⟩
theorem mt_townN (hn : n ≤ 940) (hB0 : ∀ i, i < 940 → 0 ≤ (B i).toInt) {J : Nat → Nat → Int32} {M : Nat → Nat → Int64} (h2 : J 18 2 = Int32.ofNat n) (hB : ∀ i, i < 940 → J 19 i &&& 255 = B i) (hR : ∀ j, j < 23 → M 24 j = rsv j) : lp_XN (fun v hp9 => fx_X13_town [.ref 18] (J, M) v hp9) (lp_tx B n (n + 1) 0 0 lp_s0) := by
  have c1 : fx_X13_taken [.int 900, .ref 18] (xu J 18 0 0, M) none (xu (xu (xu (xu (xu J 18 0 0) 18 3 (xu J 18 0 0 18 2)) 18 2 0) 18 4 0) 18 5 900, M) := mk_X13_taken trivial pt_X13_taken_0
  obtain ⟨J1, a1, a2, a3, r1⟩ := mt_L0 (L := M) 87 0 (xu (xu (xu (xu (xu (xu (xu (xu (xu J 18 0 0) 18 3 (xu J 18 0 0 18 2)) 18 2 0) 18 4 0) 18 5 900) 18 15 0) 18 19 0) 18 20 0) 18 21 0) rfl
  obtain ⟨J2, M2, c2, E2, s3, s4⟩ := sp_next (B := B) (n := n) (lim := 900) (p := 0) (I := xu J1 21 2 1) (L := M) hn (by decide) (Nat.zero_le _) ((a3 18 3 rfl).trans h2) (a3 18 4 rfl) (a3 18 5 rfl) (fun i hi => by
    have e : xu J1 21 2 1 19 i = J 19 i := a3 19 i rfl
    rw [e]; exact hB i hi) hB0
  have F : fp lp_S18 (xu J1 21 2 1) J2 := s3.mono (fun g i h => lp_SM h)
  have F2 : fpl lp_L18 M M2 := s4.mono (fun g i h => lp_LMm h)
  have z : ∀ j, j < 87 → j ≠ 2 → xu J1 21 2 1 21 j = 0 := fun j hj h2 => by
    rw [xu_ne (by rw [nb_F h2]; rfl)]
    exact a1 j (Nat.zero_le _) hj
  have T0 : lp_TM lp_s0 (xu J1 21 2 1) M := ⟨z 0 (by decide) (by decide), fun j hj => absurd hj (Nat.not_lt_zero _), z 1 (by decide) (by decide), fun j hj => z (51 + j) (by omega) (by omega), a3 18 20 rfl, a3 18 21 rfl, hR, fun j hj => by rw [z (19 + j) (by omega) (by omega)]; exact ⟨by decide, by decide⟩⟩
  have T2 := tm_fr T0 F F2
  have hh   := mt_textN (B := B) hn hB0 (Int32.ofNat 87) (n + 1) 0 0 lp_s0 J2 M2 (by omega) (Nat.zero_le _) E2 T2 lp_s0_ok ((F 18 19 rfl).trans (a3 18 19 rfl)) ((F 18 15 rfl).trans (a3 18 15 rfl))
  have go : ∀ v hp9, (∃ n9, xr_X13_town n9 (64, [(0, .ref 18), (1, .int (Int32.ofNat 87))], [], (J2, M2)) v hp9) → ∃ n9, xr_X13_town n9 (0, [(0, .ref 18)], [], (J, M)) v hp9 := fun v hp9 r => pt_X13_town_0 c1 (r1 v hp9 (pt_X13_town_1 (by decide) c2 r))
  cases hx : lp_tx B n (n + 1) 0 0 lp_s0 with
  | inl q =>
    rw [hx] at hh
    obtain ⟨hp9, r3, u⟩ := hh
    exact ⟨hp9, mk_X13_town trivial (go _ _ r3), u⟩
  | inr q =>
    rw [hx] at hh
    obtain ⟨hp9, r3, u⟩ := hh
    exact ⟨hp9, mk_X13_town trivial (go _ _ r3), u⟩
end MUN
