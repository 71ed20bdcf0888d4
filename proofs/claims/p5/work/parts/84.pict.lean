/-! ===== two contracts at once; pictures of a world ===== -/
theorem Met_two {l : Launch} {y : MethodName} {ws : List Cond} {rm : Room} {P : Array Value → State → Prop} {B1 B2 : Option Value → State → Prop} {A : Nat → Prop} {mc ms mc2 ms2 : Nat} {free free2 : Addr → Prop} (h1 : Met l y ws rm P (zf_Q B1 A) mc ms free) (h2 : Met l y ws rm P (zf_Q B2 A) mc2 ms2 free2) :
    Met l y ws rm P (zf_Q (fun v t => B1 v t ∧ B2 v t) A) mc ms free := by
  intro p e ha hc hk s m args below hf happ hP hK
  obtain ⟨n1, o1, w1, r1, e1, ⟨q1, q2⟩, L, hL⟩ := Met_and h1 h2 p e ha hc hk s m args below hf happ ⟨hP, hP⟩ hK
  refine ⟨n1, o1, w1, r1, e1, ?_, L, hL⟩
  obtain ⟨⟨v, hv, b1⟩, f1⟩ := q1
  obtain ⟨⟨v', hv', b2⟩, -⟩ := q2
  rw [hv] at hv'
  cases hv'
  exact ⟨⟨v, hv, b1, b2⟩, f1⟩
def px_u (P : zf_P) : zf_P := match P with
  | .inl _ => .inl (-2147483648, 2147483647)
  | P => P
theorem px_sp : ∀ (l : List (Nat × zf_P)) (i : Nat), zf_sp (l.map (fun q => (q.1, (match q.2 with
  | .inl _ => .inl (-2147483648, 2147483647)
  | P => P : zf_P)))) i = (zf_sp l i).map px_u
  | [], _ => rfl
  | (n9, P) :: t, i => by
    rw [List.map_cons]
    unfold zf_sp
    dsimp only
    cases Nat.blt i n9 with
    | true =>
      cases P with
      | inl q => rfl
      | inr q => rfl
    | false => exact px_sp t i
theorem px_len : ∀ (l : List (Nat × zf_P)), zf_len (l.map (fun q => (q.1, (match q.2 with
  | .inl _ => .inl (-2147483648, 2147483647)
  | P => P : zf_P)))) = zf_len l
  | [] => rfl
  | [q] => rfl
  | q :: r :: t => px_len (r :: t)
theorem px_gi (g : Nat) : (zf_gi xGT g).1 = (zf_gi zGT g).1 ∧ (zf_gi xGT g).2.1 = (zf_gi zGT g).2.1 ∧ zf_len (zf_gi xGT g).2.2 = zf_len (zf_gi zGT g).2.2 ∧ ∀ i, zf_sp (zf_gi xGT g).2.2 i = (zf_sp (zf_gi zGT g).2.2 i).map px_u := by
  unfold zf_gi xGT
  rw [List.getD_eq_getElem?_getD, List.getD_eq_getElem?_getD, List.getElem?_map]
  cases zGT[g]? with
  | none => exact ⟨rfl, rfl, rfl, fun _ => rfl⟩
  | some q => exact ⟨rfl, rfl, px_len q.2.2, fun i => px_sp q.2.2 i⟩
theorem px_typ {Sg : Nat → Option Nat} {k : Nat → ClassId} {ws : va_W} (h : zf_typ Sg k zGT ws) : zf_typ Sg k xGT ws := by
  intro a g ha hg
  obtain ⟨q, e, h1, h2, h3⟩ := h a g ha hg
  obtain ⟨g1, g2, g3, g4⟩ := px_gi g
  refine ⟨q, e, h1, ?_, ?_⟩
  · rw [g1, g2, g3]
    exact h2
  · intro i P hP
    rw [g4 i] at hP
    cases hs : zf_sp (zf_gi zGT g).2.2 i with
    | none => rw [hs] at hP; cases hP
    | some P0 =>
      rw [hs] at hP
      cases hP
      obtain ⟨v, h4, h5⟩ := h3 i P0 hs
      refine ⟨v, h4, ?_⟩
      match P0, h5 with
      | .inl q9, ⟨x, e9, _, _⟩ => exact ⟨x, e9, zi_lo x, zi_hi x⟩
      | .inr none, h5 => exact h5
      | .inr (some g9), h5 => exact h5
theorem px_I (ws : va_W) (θ : Nat → Nat) : ∃ I : Nat → Nat → Int32, ∀ (g i : Nat) (x : Int32), zf_rd ws (θ g) i (.int x) → zf_rd ws (θ g) i (.int (I g i)) := by
  have h : ∀ g i : Nat, ∃ y9 : Int32, ∀ x : Int32, zf_rd ws (θ g) i (.int x) → zf_rd ws (θ g) i (.int y9) := fun g i => by
    by_cases q : ∃ x : Int32, zf_rd ws (θ g) i (.int x)
    · obtain ⟨x, hx⟩ := q
      exact ⟨x, fun _ _ => hx⟩
    · exact ⟨0, fun x hx => absurd ⟨x, hx⟩ q⟩
  exact ⟨fun g i => Classical.choose (h g i), fun g i => Classical.choose_spec (h g i)⟩
theorem px_L (ws : va_W) (θ : Nat → Nat) : ∃ L : Nat → Nat → Int64, ∀ (g i : Nat) (x : Int64), zf_rd ws (θ g) i (.long x) → zf_rd ws (θ g) i (.long (L g i)) := by
  have h : ∀ g i : Nat, ∃ y9 : Int64, ∀ x : Int64, zf_rd ws (θ g) i (.long x) → zf_rd ws (θ g) i (.long y9) := fun g i => by
    by_cases q : ∃ x : Int64, zf_rd ws (θ g) i (.long x)
    · obtain ⟨x, hx⟩ := q
      exact ⟨x, fun _ _ => hx⟩
    · exact ⟨0, fun x hx => absurd ⟨x, hx⟩ q⟩
  exact ⟨fun g i => Classical.choose (h g i), fun g i => Classical.choose_spec (h g i)⟩
theorem px_el {g : Nat} : ∀ {l : List Nat}, xe_el g l = true → g ∈ l
  | [], h => by cases h
  | a :: t, h => by
    unfold xe_el at h
    cases hb : Nat.beq a g with
    | true =>
      rw [Nat.eq_of_beq_eq_true hb]
      exact List.mem_cons_self
    | false =>
      rw [hb] at h
      exact List.mem_cons_of_mem _ (px_el h)
theorem px_SC : ∀ g ∈ xSC, g < 37 ∨ (64 ≤ g ∧ g < 80) := by decide
/-- the cells' names: the single ones; those of a town; the constants -/
def px_th (th ad : Nat → Nat) (bb : List Nat) : Nat → Nat := fun g => if g < 37 then th g else if 64 ≤ g ∧ g < 80 then bb.getD (g - 64) 0 else if 200 ≤ g ∧ g < 224 then ad (g - 200) else th 0
section PX
variable {Sg : Nat → Option Nat} {k : Nat → ClassId} {ws : va_W} {th ad : Nat → Nat} {bb : List Nat}
theorem px_th1 {g : Nat} (h : g < 37) : px_th th ad bb g = th g := if_pos h
theorem px_th2 {g : Nat} (h : 64 ≤ g ∧ g < 80) : px_th th ad bb g = bb.getD (g - 64) 0 := by
  unfold px_th
  rw [if_neg (by omega), if_pos h]
theorem px_th3 {g : Nat} (h : 200 ≤ g ∧ g < 224) : px_th th ad bb g = ad (g - 200) := by
  unfold px_th
  rw [if_neg (by omega), if_neg (by omega), if_pos h]
theorem px_th4 {g : Nat} (h : 128 ≤ g) (h2 : ¬ (200 ≤ g ∧ g < 224)) : px_th th ad bb g = th 0 := by
  unfold px_th
  rw [if_neg (by omega), if_neg (by omega), if_neg h2]
theorem px_k1 {g : Nat} (h : g < 128) : xe_k g = g := by unfold xe_k; rw [zf_blt' h]
theorem px_k2 {g : Nat} (h : 128 ≤ g) : xe_k g = 128 := by
  unfold xe_k
  have hb : Nat.blt g 128 = false := by
    cases hb : Nat.blt g 128
    · rfl
    · exact absurd (zf_blt hb) (by omega)
  rw [hb]
theorem px_xth (h0 : Sg (th 0) = some 0) (hinj : ∀ i j, i < 24 → j < 24 → ad i = ad j → i = j) (hks : ∀ i, i < 24 → Sg (ad i) = some 128) : xe_th ad Sg (px_th th ad bb) := by
  refine ⟨fun a b ha hb e => ?_, fun i hi => ⟨?_, hks i hi⟩⟩
  · have hk : xe_k a = xe_k b := by
      rw [e, hb] at ha
      exact (Option.some.inj ha).symm
    by_cases a1 : a < 128
    · by_cases b1 : b < 128
      · rw [px_k1 a1, px_k1 b1] at hk; exact hk
      · rw [px_k1 a1, px_k2 (by omega)] at hk; omega
    · by_cases b1 : b < 128
      · rw [px_k2 (by omega), px_k1 b1] at hk; omega
      · have q : ∀ c : Nat, 128 ≤ c → Sg (px_th th ad bb c) = some (xe_k c) → 200 ≤ c ∧ c < 224 := fun c hc h => by
          by_cases z : 200 ≤ c ∧ c < 224
          · exact z
          · rw [px_th4 hc z, px_k2 hc, h0] at h
            cases h
        have qa := q a (by omega) ha
        have qb := q b (by omega) hb
        rw [px_th3 qa, px_th3 qb] at e
        have := hinj _ _ (by omega) (by omega) e
        omega
  · rw [px_th3 (by omega), Nat.add_sub_cancel_left]
theorem px_ref (ht : zf_typ Sg k zGT ws) {a g i h : Nat} (ha : Sg a = some g) (hg : g < 128) (hs : zf_sp (zf_gi zGT g).2.2 i = some (.inr (some h))) : ∃ b9, zf_rd ws a i (.ref b9) ∧ Sg b9 = some h := by
  obtain ⟨q, e, p1, p2⟩ := ht a g ha hg
  obtain ⟨v, h3, b9, rfl, hb⟩ := p2.2 i _ hs
  exact ⟨b9, ⟨q, e, p1, h3⟩, hb⟩
/-- one of the single cells' fields names another of them -/
theorem px_one (ht : zf_typ Sg k zGT ws) (hone : ∀ a g, Sg a = some g → g < 64 → a = th g) (hsing : ∀ g, g < 37 → g < 64 → Sg (th g) = some g) {g i h : Nat} (hg : g < 37) (hh : h < 37) (hs : zf_sp (zf_gi zGT g).2.2 i = some (.inr (some h))) :
    Sg (px_th th ad bb g) = some g ∧ h < 128 ∧ Sg (px_th th ad bb h) = some h ∧ zf_rd ws (px_th th ad bb g) i (.ref (px_th th ad bb h)) := by
  obtain ⟨b9, h1, h2⟩ := px_ref ht (hsing g hg (by omega)) (by omega) hs
  rw [px_th1 hg, px_th1 hh]
  refine ⟨hsing g hg (by omega), by omega, hsing h hh (by omega), ?_⟩
  rw [← hone b9 h h2 (by omega)]
  exact h1
/-- one of a town's own -/
theorem px_two {g i h x y9 : Nat} (hg : 64 ≤ g ∧ g < 80) (hh : 64 ≤ h ∧ h < 80) (ex : bb.getD (g - 64) 0 = x) (ey : bb.getD (h - 64) 0 = y9) (sx : Sg x = some g) (sy : Sg y9 = some h) (hr : zf_rd ws x i (.ref y9)) :
    Sg (px_th th ad bb g) = some g ∧ h < 128 ∧ Sg (px_th th ad bb h) = some h ∧ zf_rd ws (px_th th ad bb g) i (.ref (px_th th ad bb h)) := by
  rw [px_th2 hg, px_th2 hh, ex, ey]
  exact ⟨sx, by omega, sy, hr⟩
theorem px_add {g i h h9 : Nat} (H : Sg (px_th th ad bb g) = some g ∧ h < 128 ∧ Sg (px_th th ad bb h) = some h ∧ zf_rd ws (px_th th ad bb g) i (.ref (px_th th ad bb h))) (hx : zf_sp (zf_gi xGT g).2.2 i = some (.inr (some h9))) :
    Sg (px_th th ad bb (g, i, h).1) = some (g, i, h).1 ∧ (g, i, h).2.2 < 128 ∧ Sg (px_th th ad bb (g, i, h).2.2) = some (g, i, h).2.2 ∧ zf_rd ws (px_th th ad bb (g, i, h).1) (g, i, h).2.1 (.ref (px_th th ad bb (g, i, h).2.2)) ∧ ∃ h', zf_sp (zf_gi xGT (g, i, h).1).2.2 (g, i, h).2.1 = some (.inr (some h')) := ⟨H.1, H.2.1, H.2.2.1, H.2.2.2, h9, hx⟩
set_option maxRecDepth 100000 in
theorem px_world (ht : zf_typ Sg k zGT ws) (hone : ∀ a g, Sg a = some g → g < 64 → a = th g) (hsing : ∀ g, g < 37 → g < 64 → Sg (th g) = some g) (hinj : ∀ i j, i < 24 → j < 24 → ad i = ad j → i = j) (hks : ∀ i, i < 24 → Sg (ad i) = some 128) {sp sn : Nat} (hg : Sg sp = some 64) (hgn : Sg sn = some 76) :
    ∃ (θ : Nat → Nat) (hp : xe_H), (∀ g, g < 37 → θ g = th g) ∧ θ 64 = sp ∧ θ 76 = sn ∧ xe_th ad Sg θ ∧ xe_c Sg θ xGT xSC xRF ws hp := by
  obtain ⟨b1, r1, s1⟩ := px_ref ht hg (by decide) (i := 1) (h := 65) rfl
  obtain ⟨b2, r2, s2⟩ := px_ref ht hg (by decide) (i := 2) (h := 66) rfl
  obtain ⟨b8, r8, s8⟩ := px_ref ht hg (by decide) (i := 3) (h := 72) rfl
  obtain ⟨b11, r11, s11⟩ := px_ref ht hg (by decide) (i := 4) (h := 75) rfl
  obtain ⟨b3, r3, s3⟩ := px_ref ht s2 (by decide) (i := 1) (h := 67) rfl
  obtain ⟨b4, r4, s4⟩ := px_ref ht s2 (by decide) (i := 2) (h := 68) rfl
  obtain ⟨b5, r5, s5⟩ := px_ref ht s2 (by decide) (i := 3) (h := 69) rfl
  obtain ⟨b6, r6, s6⟩ := px_ref ht s2 (by decide) (i := 4) (h := 70) rfl
  obtain ⟨b7, r7, s7⟩ := px_ref ht s2 (by decide) (i := 5) (h := 71) rfl
  obtain ⟨b9, r9, s9⟩ := px_ref ht s8 (by decide) (i := 0) (h := 73) rfl
  obtain ⟨b10, r10, s10⟩ := px_ref ht s8 (by decide) (i := 1) (h := 74) rfl
  obtain ⟨c1, u1, v1⟩ := px_ref ht hgn (by decide) (i := 0) (h := 77) rfl
  obtain ⟨c2, u2, v2⟩ := px_ref ht hgn (by decide) (i := 1) (h := 78) rfl
  obtain ⟨c3, u3, v3⟩ := px_ref ht hgn (by decide) (i := 2) (h := 79) rfl
  have hbb : ∀ j, j < 16 → Sg ([sp, b1, b2, b3, b4, b5, b6, b7, b8, b9, b10, b11, sn, c1, c2, c3].getD j 0) = some (64 + j) := fun j hj => by
    match j, hj with
    | 0, _ => exact hg
    | 1, _ => exact s1
    | 2, _ => exact s2
    | 3, _ => exact s3
    | 4, _ => exact s4
    | 5, _ => exact s5
    | 6, _ => exact s6
    | 7, _ => exact s7
    | 8, _ => exact s8
    | 9, _ => exact s9
    | 10, _ => exact s10
    | 11, _ => exact s11
    | 12, _ => exact hgn
    | 13, _ => exact v1
    | 14, _ => exact v2
    | 15, _ => exact v3
    | j9 + 16, h9 => exact absurd h9 (by omega)
  obtain ⟨I, hI⟩ := px_I ws (px_th th ad [sp, b1, b2, b3, b4, b5, b6, b7, b8, b9, b10, b11, sn, c1, c2, c3])
  obtain ⟨L, hL⟩ := px_L ws (px_th th ad [sp, b1, b2, b3, b4, b5, b6, b7, b8, b9, b10, b11, sn, c1, c2, c3])
  refine ⟨px_th th ad [sp, b1, b2, b3, b4, b5, b6, b7, b8, b9, b10, b11, sn, c1, c2, c3], (I, L), fun g h => px_th1 h, rfl, rfl, px_xth (hsing 0 (by decide) (by decide)) hinj hks, fun g hgs => ?_, ?_⟩
  · have hq := px_SC g (px_el hgs)
    have hS : Sg (px_th th ad [sp, b1, b2, b3, b4, b5, b6, b7, b8, b9, b10, b11, sn, c1, c2, c3] g) = some g := by
      rcases hq with h | h
      · rw [px_th1 h]; exact hsing g h (by omega)
      · rw [px_th2 h, hbb (g - 64) (by omega), Nat.add_sub_cancel' h.1]
    refine ⟨by omega, hS, fun i P hP => ?_⟩
    obtain ⟨q, e, p1, p2⟩ := px_typ ht _ g hS (by omega)
    obtain ⟨v, h3, h4⟩ := p2.2 i P hP
    match P, h4 with
    | .inl q9, ⟨x, e9, _, _⟩ => exact hI g i x (by rw [← e9]; exact ⟨q, e, p1, h3⟩)
    | .inr none, ⟨x, e9⟩ => exact hL g i x (by rw [← e9]; exact ⟨q, e, p1, h3⟩)
    | .inr (some g9), _ => exact trivial
  · refine zf_ac (px_add (px_one ht hone hsing (by decide) (by decide) rfl) rfl) ?_
    refine zf_ac (px_add (px_one ht hone hsing (by decide) (by decide) rfl) rfl) ?_
    refine zf_ac (px_add (px_one ht hone hsing (by decide) (by decide) rfl) rfl) ?_
    refine zf_ac (px_add (px_two (by decide) (by decide) rfl rfl hg s1 r1) rfl) ?_
    refine zf_ac (px_add (px_two (by decide) (by decide) rfl rfl hg s2 r2) rfl) ?_
    refine zf_ac (px_add (px_two (by decide) (by decide) rfl rfl hg s8 r8) rfl) ?_
    refine zf_ac (px_add (px_two (by decide) (by decide) rfl rfl hg s11 r11) rfl) ?_
    refine zf_ac (px_add (px_two (by decide) (by decide) rfl rfl s2 s3 r3) rfl) ?_
    refine zf_ac (px_add (px_two (by decide) (by decide) rfl rfl s2 s4 r4) rfl) ?_
    refine zf_ac (px_add (px_two (by decide) (by decide) rfl rfl s2 s5 r5) rfl) ?_
    refine zf_ac (px_add (px_two (by decide) (by decide) rfl rfl s2 s6 r6) rfl) ?_
    refine zf_ac (px_add (px_two (by decide) (by decide) rfl rfl s2 s7 r7) rfl) ?_
    refine zf_ac (px_add (px_two (by decide) (by decide) rfl rfl s8 s9 r9) rfl) ?_
    refine zf_ac (px_add (px_two (by decide) (by decide) rfl rfl s8 s10 r10) rfl) ?_
    refine zf_ac (px_add (px_one ht hone hsing (by decide) (by decide) rfl) rfl) ?_
    refine zf_ac (px_add (px_one ht hone hsing (by decide) (by decide) rfl) rfl) ?_
    refine zf_ac (px_add (px_one ht hone hsing (by decide) (by decide) rfl) rfl) ?_
    refine zf_ac (px_add (px_one ht hone hsing (by decide) (by decide) rfl) rfl) ?_
    refine zf_ac (px_add (px_one ht hone hsing (by decide) (by decide) rfl) rfl) ?_
    refine zf_ac (px_add (px_one ht hone hsing (by decide) (by decide) rfl) rfl) ?_
    refine zf_ac (px_add (px_one ht hone hsing (by decide) (by decide) rfl) rfl) ?_
    refine zf_ac (px_add (px_one ht hone hsing (by decide) (by decide) rfl) rfl) ?_
    refine zf_ac (px_add (px_one ht hone hsing (by decide) (by decide) rfl) rfl) ?_
    refine zf_ac (px_add (px_one ht hone hsing (by decide) (by decide) rfl) rfl) ?_
    refine zf_ac (px_add (px_one ht hone hsing (by decide) (by decide) rfl) rfl) ?_
    refine zf_ac (px_add (px_one ht hone hsing (by decide) (by decide) rfl) rfl) ?_
    refine zf_ac (px_add (px_two (by decide) (by decide) rfl rfl hgn v1 u1) rfl) ?_
    refine zf_ac (px_add (px_two (by decide) (by decide) rfl rfl hgn v2 u2) rfl) ?_
    refine zf_ac (px_add (px_two (by decide) (by decide) rfl rfl hgn v3 u3) rfl) ?_
    refine zf_ac (px_add (px_one ht hone hsing (by decide) (by decide) rfl) rfl) ?_
    refine zf_ac (px_add (px_one ht hone hsing (by decide) (by decide) rfl) rfl) ?_
    refine zf_ac (px_add (px_one ht hone hsing (by decide) (by decide) rfl) rfl) ?_
    refine zf_ac (px_add (px_one ht hone hsing (by decide) (by decide) rfl) rfl) ?_
    refine zf_ac (px_add (px_one ht hone hsing (by decide) (by decide) rfl) rfl) ?_
    exact zf_an
/-- what a picture tells at a place: of ints, of longs -/
theorem px_int {A : Nat → Prop} {θ : Nat → Nat} {hp : xe_H} (hD : va_D A ws) (hc : xe_c Sg θ xGT xSC xRF ws hp) {g i : Nat} {q : Int × Int} (hs : xe_el g xSC = true) (hi : zf_sp (zf_gi xGT g).2.2 i = some (.inl q)) {x : Int32} (hr : zf_rd ws (θ g) i (.int x)) : hp.1 g i = x := by
  have h1 : zf_rd ws (θ g) i (.int (hp.1 g i)) := (hc.1 g hs).2.2 i _ hi
  have h2 := zf_rd_fun hD h1 hr
  cases h2
  rfl
theorem px_long {A : Nat → Prop} {θ : Nat → Nat} {hp : xe_H} (hD : va_D A ws) (hc : xe_c Sg θ xGT xSC xRF ws hp) {g i : Nat} (hs : xe_el g xSC = true) (hi : zf_sp (zf_gi xGT g).2.2 i = some (.inr none)) {x : Int64} (hr : zf_rd ws (θ g) i (.long x)) : hp.2 g i = x := by
  have h1 : zf_rd ws (θ g) i (.long (hp.2 g i)) := (hc.1 g hs).2.2 i _ hi
  have h2 := zf_rd_fun hD h1 hr
  cases h2
  rfl
theorem px_rd {θ : Nat → Nat} {hp : xe_H} (hc : xe_c Sg θ xGT xSC xRF ws hp) {g i : Nat} {q : Int × Int} (hs : xe_el g xSC = true) (hi : zf_sp (zf_gi xGT g).2.2 i = some (.inl q)) : zf_rd ws (θ g) i (.int (hp.1 g i)) := (hc.1 g hs).2.2 i _ hi
end PX
