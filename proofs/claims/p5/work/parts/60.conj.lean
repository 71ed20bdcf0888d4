/-! ===== two contracts of one method, put together ===== -/
theorem zq_len {s : State} {below : List Frame} {v : Option Value} (h : Ended s below (.returned v)) : s.frames.length = below.length := by
  cases below with
  | nil => exact congrArg List.length h.2
  | cons f r =>
    cases f with
    | java g =>
      obtain ⟨c, i, len, q1, q2, h⟩ := h
      have h9 := congrArg List.length h
      exact h9
    | native g =>
      have h9 := congrArg List.length (show s.frames = _ from h)
      exact h9
    | proc g =>
      have h9 := congrArg List.length (show s.frames = _ from h)
      exact h9
    | _ => exact congrArg List.length h.2
theorem zq_ended {s : State} {below : List Frame} {o : Outcome} (h : Ended s below o) : ¬ Within s below := by
  rintro ⟨above, h1, h2, h3⟩
  cases o with
  | threw a =>
    have h : s.frames = .throwing a :: below := h
    rw [h1] at h
    have h9 : above ++ below = [Frame.throwing a] ++ below := h
    exact h3 a (List.append_cancel_right h9)
  | returned v =>
    have hl := zq_len h
    rw [h1, List.length_append] at hl
    exact h2 (List.eq_nil_of_length_eq_zero (by omega))
theorem zq_opt {v w : Option Value} {st : List Value} (h : v.toList ++ st = w.toList ++ st) : v = w := by
  have h := List.append_cancel_right h
  cases v <;> cases w <;> simp_all
theorem zq_out {s : State} {below : List Frame} {o1 o2 : Outcome} (h1 : Ended s below o1) (h2 : Ended s below o2) : o1 = o2 := by
  cases o1 with
  | threw a =>
    have e1 : s.frames = .throwing a :: below := h1
    cases o2 with
    | threw b =>
      have e2 : s.frames = .throwing b :: below := h2
      rw [e1] at e2
      cases e2
      rfl
    | returned w =>
      have := zq_len h2
      rw [e1, List.length_cons] at this
      omega
  | returned v =>
    cases o2 with
    | threw b =>
      have e2 : s.frames = .throwing b :: below := h2
      have := zq_len h1
      rw [e2, List.length_cons] at this
      omega
    | returned w =>
      congr 1
      unfold Ended at h1 h2
      cases below with
      | nil => exact h1.1.trans h2.1.symm
      | cons f r =>
        cases f with
        | java g =>
          obtain ⟨c, i, len, q1, q2, h1⟩ := h1
          obtain ⟨c', i', len', q1', q2', h2⟩ := h2
          rw [h1] at h2
          have h9 := (List.cons.inj h2).1
          have h8 := Frame.java.inj h9
          exact zq_opt (JFrame.mk.inj h8).2.2.2.1
        | native g => rw [h1] at h2; simp_all
        | proc g => rw [h1] at h2; simp_all
        | _ => exact h1.1.trans h2.1.symm
theorem Met_and {l : Launch} {y : MethodName} {ws : List Cond} {rm : Room} {P1 P2 : Array Value → State → Prop} {Q1 Q2 : Array Value → State → Outcome → State → Prop} {mc ms mc2 ms2 : Nat} {free free2 : Addr → Prop} (h1 : Met l y ws rm P1 Q1 mc ms free) (h2 : Met l y ws rm P2 Q2 mc2 ms2 free2) :
    Met l y ws rm (fun a s => P1 a s ∧ P2 a s) (fun a st o t => Q1 a st o t ∧ Q2 a st o t) mc ms free := by
  intro p e ha hc hk s m args below hf happ hP hK
  obtain ⟨n1, o1, w1, r1, e1, q1, L, hL⟩ := h1 p e ha hc hk s m args below hf happ hP.1 hK
  obtain ⟨n2, o2, w2, r2, e2, q2, -⟩ := h2 p e ha hc hk s m args below hf happ hP.2 hK
  have hn : n1 = n2 := by
    rcases Nat.lt_trichotomy n1 n2 with h | h | h
    · exact absurd (w2 n1 h) (zq_ended e1)
    · exact h
    · exact absurd (w1 n2 h) (zq_ended e2)
  subst hn
  have ho := zq_out e1 e2
  subst ho
  exact ⟨n1, o1, w1, r1, e1, ⟨q1, q2⟩, L, hL⟩
