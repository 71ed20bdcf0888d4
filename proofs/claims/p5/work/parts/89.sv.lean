/-! ===== a SENTENCE, as a pure machine ===== -/
theorem c10_v : ∀ (k_z : Nat) (r : List Int32), r.all tx_dg = true → r.length ≤ k_z → ∃ v_z : Nat, c10 r = Int32.ofNat v_z ∧ v_z < 10 ^ k_z := by
  intro k_z
  induction k_z with
  | zero =>
    intro r _ hl
    have e0 : r = [] := List.length_eq_zero_iff.mp (by omega)
    subst e0
    exact ⟨0, rfl, Nat.pow_pos (by decide)⟩
  | succ k_z ih =>
    intro r hr hl
    rcases snoc_c r with rfl | ⟨t_z, c_z, rfl⟩
    · exact ⟨0, rfl, Nat.pow_pos (by decide)⟩
    · rw [List.length_append] at hl
      have hl : t_z.length + 1 ≤ k_z + 1 := hl
      obtain ⟨v_z, h1, h2⟩ := ih t_z (all_s hr).1 (by omega)
      have hd := tx_dg_iff.mp (all_s hr).2
      refine ⟨v_z * 10 + (c_z.toInt.toNat - 48), ?_, ?_⟩
      · have e2 : c_z = Int32.ofNat c_z.toInt.toNat := ofn (by omega)
        have e1 : c_z - 48 = Int32.ofNat (c_z.toInt.toNat - 48) := (congrArg (fun x : Int32 => x - 48) e2).trans (tsub (a := c_z.toInt.toNat) (b := 48) (by omega) (by omega))
        have e3 : Int32.ofNat v_z * 10 = Int32.ofNat (v_z * 10) := (Int32.ofNat_mul v_z 10).symm
        rw [c10_s, h1, e1, e3]
        exact tadd _ _
      · rw [Nat.pow_succ]
        omega
theorem rk_2 {r : List Int32} (h : rk r = 2) : r.all tx_dg = true ∧ r.length ≤ 3 := by
  unfold rk at h
  cases hb : (r.all tx_sm && decide (r.length ≤ 12)) with
  | true =>
    rw [hb] at h
    exact absurd (show (1 : Nat) = 2 from h) (by decide)
  | false =>
    rw [hb] at h
    cases hc : (r.all tx_dg && decide (r.length ≤ 3)) with
    | true =>
      rw [Bool.and_eq_true, decide_eq_true_eq] at hc
      exact hc
    | false =>
      rw [hc] at h
      exact absurd (show (4 : Nat) = 2 from h) (by decide)
theorem tX_v {B : Nat → Int32} {n lim p : Nat} (h : tK B n lim p = 2) : ∃ v_z : Nat, tX B n p = Int32.ofNat v_z ∧ v_z < 1000 := by
  have hr : rk (tr B n p) = 2 := by
    by_cases hov : lim ≤ tq B n p ∧ lim < n
    · rw [(tk_ov (B := B) (p := p) hov.1 hov.2).1] at h; omega
    · by_cases hen : n ≤ tq B n p
      · rw [(tk_end hov hen).1] at h; omega
      · by_cases hs : te B n p = tq B n p
        · rw [(tk_sg hov hen hs).1] at h; omega
        · rw [(tk_rn hov hen hs).1] at h; exact h
  exact c10_v 3 _ (rk_2 hr).1 (rk_2 hr).2
abbrev sv_st := Nat × Nat × List Bool × Bool
abbrev sv_rs := (Int32 × Nat) ⊕ Nat
/-- the NOTs on top are gone -/
def sv_dn : List Bool → List Bool
  | [] => []
  | false :: t => sv_dn t
  | true :: t => true :: t
theorem sv_dn_app : ∀ {T S : List Bool}, sv_dn T = [] → sv_dn (T ++ S) = sv_dn S
  | [], _, _ => rfl
  | false :: t, S, h => by
    show sv_dn (t ++ S) = _
    exact sv_dn_app (T := t) h
  | true :: t, _, h => by cases h
section SV
variable (B : Nat → Int32) (n : Nat) (nsv : List (List Int32))
def sv_cm (p : Nat) : Bool := lv_sg B n 200 60 p || lv_sg B n 200 61 p || lv_sg B n 200 62 p
/-- behind a leaf's word: where it ends -/
def sv_leaf (k_z p : Nat) : (Int32 × Nat) ⊕ Nat := bif Nat.ble k_z 18 then .inr p else bif Nat.beq k_z 19 then (match lv_nm B n 200 nsv p with
  | .inl f => .inl (f, tA B n 200 p)
  | .inr _ => .inr (tN B n 200 p)) else bif sv_cm B n p then (bif Nat.beq (tK B n 200 (tN B n 200 p)) 2 then .inr (tN B n 200 (tN B n 200 p)) else .inl (1, tA B n 200 (tN B n 200 p))) else .inl (1, tA B n 200 p)
def sv_op (p o_z : Nat) (S : List Bool) : sv_st ⊕ sv_rs := bif lv_sg B n 200 40 p || Nat.ble 15 (kyw (tW B n 200 p)) then (bif Nat.beq o_z 20 || Nat.ble 8 S.length then .inr (.inl (4, tA B n 200 p)) else bif lv_sg B n 200 40 p then .inl (tN B n 200 p, o_z + 1, true :: S, false) else bif Nat.beq (kyw (tW B n 200 p)) 15 then .inl (tN B n 200 p, o_z + 1, false :: S, false) else match sv_leaf B n nsv (kyw (tW B n 200 p)) (tN B n 200 p) with
  | .inl q => .inr (.inl q)
  | .inr p' => .inl (p', o_z + 1, S, true)) else .inr (.inl (1, tA B n 200 p))
def sv_be (p o_z : Nat) (S : List Bool) : sv_st ⊕ sv_rs := bif Nat.beq (tK B n 200 p) 0 then (match S with
  | [] => .inr (.inr o_z)
  | _ :: _ => .inr (.inl (1, tA B n 200 p))) else bif Nat.beq (kyw (tW B n 200 p)) 13 || Nat.beq (kyw (tW B n 200 p)) 14 then .inl (tN B n 200 p, o_z, S, false) else match S with
  | [] => .inr (.inl (1, tA B n 200 p))
  | _ :: t => bif lv_sg B n 200 41 p then .inl (tN B n 200 p, o_z, t, true) else .inr (.inl (1, tA B n 200 p))
def sv_1 (s : sv_st) : sv_st ⊕ sv_rs := bif s.2.2.2 then sv_be B n s.1 s.2.1 (sv_dn s.2.2.1) else sv_op B n nsv s.1 s.2.1 s.2.2.1
def sv_run : Nat → sv_st → Option sv_rs
  | 0, _ => none
  | m_z + 1, s => match sv_1 B n nsv s with
    | .inr r => some r
    | .inl s' => sv_run m_z s'
def sv_ends (s : sv_st) (r : sv_rs) : Prop := ∃ m_z, sv_run B n nsv m_z s = some r
def sv_go (s s' : sv_st) : Prop := ∃ d_z, ∀ m_z r, sv_run B n nsv m_z s' = some r → sv_run B n nsv (m_z + d_z) s = some r
end SV
section SVL
variable {B : Nat → Int32} {n : Nat} {nsv : List (List Int32)} {s s' s2 : sv_st} {r : sv_rs}
theorem sv_e1 (h : sv_1 B n nsv s = .inr r) : sv_ends B n nsv s r := ⟨1, by unfold sv_run; rw [h]⟩
theorem sv_g1 (h : sv_1 B n nsv s = .inl s') : sv_go B n nsv s s' := ⟨1, fun m_z r hr => by
  show sv_run B n nsv (m_z + 1) s = some r
  unfold sv_run
  rw [h]
  exact hr⟩
theorem sv_gt (h : sv_go B n nsv s s') (h2 : sv_go B n nsv s' s2) : sv_go B n nsv s s2 := by
  obtain ⟨d1, e1⟩ := h
  obtain ⟨d2, e2⟩ := h2
  refine ⟨d2 + d1, fun m_z r hr => ?_⟩
  rw [← Nat.add_assoc]
  exact e1 _ _ (e2 _ _ hr)
theorem sv_ge (h : sv_go B n nsv s s') (h2 : sv_ends B n nsv s' r) : sv_ends B n nsv s r := by
  obtain ⟨d1, e1⟩ := h
  obtain ⟨m1, e2⟩ := h2
  exact ⟨m1 + d1, e1 _ _ e2⟩
theorem sv_g0 : sv_go B n nsv s s := ⟨0, fun _ _ h => h⟩
theorem tK_0 {lim p : Nat} (h : tK B n lim p = 0) : kyw (tW B n lim p) = 0 := by
  cases hk : Nat.beq (kyw (tW B n lim p)) 0 with
  | true => exact Nat.eq_of_beq_eq_true hk
  | false =>
    have := kyw_T hk
    omega
theorem sg_3 {lim p : Nat} {cc : Int32} (h : lv_sg B n lim cc p = true) : tK B n lim p = 3 ∧ tS B n lim p = cc := by
  unfold lv_sg at h
  rw [Bool.and_eq_true, decide_eq_true_eq] at h
  exact ⟨Nat.eq_of_beq_eq_true h.1, h.2⟩
theorem sg_k {lim p : Nat} {cc : Int32} (h : lv_sg B n lim cc p = true) : kyw (tW B n lim p) = 0 := by
  have h3 := (sg_3 h).1
  cases hk : Nat.beq (kyw (tW B n lim p)) 0 with
  | true => exact Nat.eq_of_beq_eq_true hk
  | false =>
    have := kyw_T hk
    omega
/-- what stands behind a whole part: and, or; a sign of the end; else -/
theorem sv_b1 {p o_z : Nat} {S : List Bool} (h : kyw (tW B n 200 p) = 13 ∨ kyw (tW B n 200 p) = 14) : sv_1 B n nsv (p, o_z, S, true) = .inl (tN B n 200 p, o_z, sv_dn S, false) := by
  show sv_be B n p o_z (sv_dn S) = _
  unfold sv_be
  have h0 : Nat.beq (tK B n 200 p) 0 = false := nb_F (fun q => by
    have := tK_0 q
    omega)
  have h1 : (Nat.beq (kyw (tW B n 200 p)) 13 || Nat.beq (kyw (tW B n 200 p)) 14) = true := by
    rcases h with h | h <;> rw [h] <;> rfl
  rw [h0, h1]
  rfl
theorem sv_b2 {p o_z : Nat} {S t : List Bool} (hS : sv_dn S = true :: t) (h : lv_sg B n 200 41 p = true) : sv_1 B n nsv (p, o_z, S, true) = .inl (tN B n 200 p, o_z, t, true) := by
  show sv_be B n p o_z (sv_dn S) = _
  unfold sv_be
  have h0 : Nat.beq (tK B n 200 p) 0 = false := nb_F (fun q => by
    have := (sg_3 h).1
    omega)
  rw [h0, sg_k h, hS, h]
  rfl
theorem sv_b3 {p o_z : Nat} {S t : List Bool} (hS : sv_dn S = true :: t) (h : lv_sg B n 200 41 p = false) (h1 : kyw (tW B n 200 p) ≠ 13) (h2 : kyw (tW B n 200 p) ≠ 14) : sv_1 B n nsv (p, o_z, S, true) = .inr (.inl (1, tA B n 200 p)) := by
  show sv_be B n p o_z (sv_dn S) = _
  unfold sv_be
  rw [hS, nb_F h1, nb_F h2, h]
  cases Nat.beq (tK B n 200 p) 0 <;> rfl
theorem sv_b4 {p o_z : Nat} {S : List Bool} (hS : sv_dn S = []) (h0 : tK B n 200 p = 0) : sv_1 B n nsv (p, o_z, S, true) = .inr (.inr o_z) := by
  show sv_be B n p o_z (sv_dn S) = _
  unfold sv_be
  rw [hS, h0]
  rfl
theorem sv_b5 {p o_z : Nat} {S : List Bool} (hS : sv_dn S = []) (h0 : tK B n 200 p ≠ 0) (h1 : kyw (tW B n 200 p) ≠ 13) (h2 : kyw (tW B n 200 p) ≠ 14) : sv_1 B n nsv (p, o_z, S, true) = .inr (.inl (1, tA B n 200 p)) := by
  show sv_be B n p o_z (sv_dn S) = _
  unfold sv_be
  rw [hS, nb_F h0, nb_F h1, nb_F h2]
  rfl
theorem sv_1F {p o_z : Nat} {S : List Bool} : sv_1 B n nsv (p, o_z, S, false) = sv_op B n nsv p o_z S := rfl
end SVL
