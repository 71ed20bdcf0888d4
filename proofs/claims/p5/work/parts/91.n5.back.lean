/-! ===== what is held, kept, taken back ===== -/
section NUH
variable {Sg : Nat → Option Nat} {k : Nat → ClassId} {th tw nm : Nat → Nat} {eff : zf_F} {ρ : Nat → Int} {ws ws' : va_W} {nsv k0 k1 : List (List Int32)} {f9 s9 : Nat}
def nu_CH (Sg : Nat → Option Nat) (th tw nm : Nat → Nat) (ws : va_W) (nsv k0 k1 : List (List Int32)) (f9 s9 : Nat) : Prop := nu_T Sg th tw nm ws ∧ nu_N tw nm ws 0 nsv ∧ nu_N tw nm ws 2 k0 ∧ nu_N tw nm ws 3 k1 ∧ f9 ≤ 8 ∧ s9 ≤ 8 ∧ nu_N tw nm ws (4 + f9) nsv ∧ ∀ t, t < s9 → nu_N tw nm ws (4 + (f9 + 8 - t) % 9) nsv
theorem nu_hold (hsing : ∀ g, g < 37 → g < 64 → Sg (th g) = some g) (C : nu_C Sg th tw nm ws nsv k0 k1 f9 s9) (hfr : zf_fr Sg zm_X10_copy.2.1 (fun _ => 0) ws ws') (hcp : nu_cp Sg ws ws' (tw (4 + f9)) (tw 0) (nm (4 + f9)) (nm 0)) : nu_CH Sg th tw nm ws' nsv k0 k1 f9 s9 ∧ zf_rd ws' (th 10) 1 (.int (Int32.ofNat f9)) ∧ zf_rd ws' (th 10) 2 (.int (Int32.ofNat s9)) := by
  obtain ⟨T, N0, N2, N3, f8, s8, h1, h2, R⟩ := C
  have g10 := hsing 10 (by decide) (by decide)
  have o1 : nu_ok zm_X10_copy.2.1 10 1 2 = true := by decide
  exact ⟨⟨nu_Tf (by decide) hfr hsing T, nu_c2 hcp T (by omega) (by decide) (by omega) N0, nu_c2 hcp T (by omega) (by decide) (by omega) N2, nu_c2 hcp T (by omega) (by decide) (by omega) N3, f8, s8, nu_c1 hcp N0, fun t ht => nu_c2 hcp T (by omega) (nu_m9 f9 t) (by omega) (R t ht)⟩, nu_fr o1 hfr g10 (by decide) (by decide) h1, nu_fr o1 hfr g10 (by decide) (by decide) h2⟩
theorem nu_CHf (h : (nu_eT eff && nu_eN eff) = true) (hf : zf_fr Sg eff ρ ws ws') (hsing : ∀ g, g < 37 → g < 64 → Sg (th g) = some g) (C : nu_CH Sg th tw nm ws nsv k0 k1 f9 s9) : nu_CH Sg th tw nm ws' nsv k0 k1 f9 s9 := by
  simp only [Bool.and_eq_true] at h
  obtain ⟨h1, h2⟩ := h
  obtain ⟨T, N0, N2, N3, f8, s8, H, R⟩ := C
  exact ⟨nu_Tf h1 hf hsing T, nu_Nf h2 hf T (by decide) N0, nu_Nf h2 hf T (by decide) N2, nu_Nf h2 hf T (by decide) N3, f8, s8, nu_Nf h2 hf T (by omega) H, fun t ht => nu_Nf h2 hf T (nu_m9 f9 t) (R t ht)⟩
theorem nu_i32 {x : Int32} {n : Nat} (h : x.toInt = (n : Int)) (hn : n ≤ 9) : x = Int32.ofNat n := Int32.toInt_inj.mp (h.trans (ti (by omega)).symm)
theorem nu_kp0 (C : nu_CH Sg th tw nm ws nsv k0 k1 f9 s9) {x y : Int32} (h1 : zf_rd ws (th 10) 1 (.int x)) (h2 : zf_rd ws (th 10) 2 (.int y)) (hx : x.toInt = (f9 : Int)) (hy : y.toInt = (s9 : Int)) : nu_C Sg th tw nm ws nsv k0 k1 f9 s9 := by
  obtain ⟨T, N0, N2, N3, f8, s8, H, R⟩ := C
  rw [nu_i32 hx (by omega)] at h1
  rw [nu_i32 hy (by omega)] at h2
  exact ⟨T, N0, N2, N3, f8, s8, h1, h2, R⟩
theorem nu_kp1 (C : nu_CH Sg th tw nm ws nsv k0 k1 f9 s9) {x y : Int32} (h1 : zf_rd ws (th 10) 1 (.int x)) (h2 : zf_rd ws (th 10) 2 (.int y)) {f7 s7 : Nat} (hx : x.toInt = (f7 : Int)) (hy : y.toInt = (s7 : Int)) (c1 : (f9 < 8 ∧ f7 = f9 + 1) ∨ (f9 = 8 ∧ f7 = 0)) (c2 : s7 ≤ s9 + 1) (c3 : s7 ≤ 8) : nu_C Sg th tw nm ws nsv k0 k1 f7 s7 := by
  obtain ⟨T, N0, N2, N3, f8, s8, H, R⟩ := C
  rw [nu_i32 hx (by omega)] at h1
  rw [nu_i32 hy (by omega)] at h2
  refine ⟨T, N0, N2, N3, by omega, c3, h1, h2, fun t ht => ?_⟩
  match t, ht with
  | 0, _ =>
    rw [show 4 + (f7 + 8 - 0) % 9 = 4 + f9 by omega]
    exact H
  | t + 1, ht =>
    rw [show 4 + (f7 + 8 - (t + 1)) % 9 = 4 + (f9 + 8 - t) % 9 by omega]
    exact R t (by omega)
theorem nu_two {θ1 : Nat → Nat} {F9 S9 : zf_L} (h : ∀ h ∈ ([(10, 10, ([], 1), .inl F9), (10, 10, ([], 2), .inl S9)] : List zf_H), zf_hok Sg ρ θ1 ws' h) (e : θ1 10 = th 10) : ∃ x y : Int32, zf_rd ws' (th 10) 1 (.int x) ∧ zf_rd ws' (th 10) 2 (.int y) ∧ x.toInt = zf_v ρ F9 ∧ y.toInt = zf_v ρ S9 := by
  obtain ⟨-, -, v1, d1, x, rfl, e1⟩ := (zf_hokT (h := (10, 10, ([], 1), .inl F9)) (show (10 : Nat) < 1000 by decide)).mp (h _ List.mem_cons_self)
  obtain ⟨-, -, v2, d2, y, rfl, e2⟩ := (zf_hokT (h := (10, 10, ([], 2), .inl S9)) (show (10 : Nat) < 1000 by decide)).mp (h _ (List.mem_cons_of_mem _ List.mem_cons_self))
  have d1 : zf_rd ws' (θ1 10) 1 (.int x) := d1
  have d2 : zf_rd ws' (θ1 10) 2 (.int y) := d2
  rw [e] at d1 d2
  exact ⟨x, y, d1, d2, e1, e2⟩
/-- an outcome keeps what was held, or leaves it -/
def nu_o (n : Nat) (o : zf_O) : Bool := match o.2.2.2.2.2.2 with
  | [(10, 10, ([], 1), .inl F9), (10, 10, ([], 2), .inl S9)] => (decide (F9 = ([(n, 1)], 0)) && decide (S9 = ([(n + 1, 1)], 0))) || (((decide (F9 = ([(n, 1)], 1)) && decide ((zf_at o.2.1 n).2 ≤ 7)) || (decide (F9 = ([], 0)) && decide (8 ≤ (zf_at o.2.1 n).1))) && ((decide (S9 = ([(n + 1, 1)], 1)) && decide ((zf_at o.2.1 (n + 1)).2 ≤ 7)) || (decide (S9 = ([], 8)) && decide (7 ≤ (zf_at o.2.1 (n + 1)).1))))
  | _ => false
theorem nu_o_ok {n : Nat} {o : zf_O} (h : nu_o n o = true) : ∃ F9 S9 : zf_L, o.2.2.2.2.2.2 = [(10, 10, ([], 1), .inl F9), (10, 10, ([], 2), .inl S9)] ∧ ((F9 = ([(n, 1)], 0) ∧ S9 = ([(n + 1, 1)], 0)) ∨ (((F9 = ([(n, 1)], 1) ∧ (zf_at o.2.1 n).2 ≤ 7) ∨ (F9 = ([], 0) ∧ 8 ≤ (zf_at o.2.1 n).1)) ∧ ((S9 = ([(n + 1, 1)], 1) ∧ (zf_at o.2.1 (n + 1)).2 ≤ 7) ∨ (S9 = ([], 8) ∧ 7 ≤ (zf_at o.2.1 (n + 1)).1)))) := by
  unfold nu_o at h
  split at h
  · rename_i F9 S9 e
    simp only [Bool.or_eq_true, Bool.and_eq_true, decide_eq_true_eq] at h
    exact ⟨F9, S9, e, h⟩
  · cases h
theorem nu_fin {M : zf_M} {θ : Nat → Nat} {v : Option Value} {n : Nat} (ho : M.2.2.all (nu_o n) = true) (hn : n + 1 < M.1.1.length) (hr : 10 < M.1.2.2.1) (he : (nu_eT M.2.1 && nu_eN M.2.1) = true) (hpost : zf_post Sg k zGT ρ θ M ws v ws') (e10 : θ 10 = th 10) (hf : ρ n = (f9 : Int)) (hs : ρ (n + 1) = (s9 : Int)) (hsing : ∀ g, g < 37 → g < 64 → Sg (th g) = some g) (C : nu_CH Sg th tw nm ws nsv k0 k1 f9 s9) : ∃ f7 s7, nu_C Sg th tw nm ws' nsv k0 k1 f7 s7 := by
  obtain ⟨⟨o, ho', ρ1, θ1, y1, y2, y3, -, y5, -⟩, -, hfr⟩ := hpost
  obtain ⟨F9, S9, eo, hc⟩ := nu_o_ok (List.all_eq_true.mp ho o ho')
  rw [eo] at y5
  obtain ⟨x, y, d1, d2, e1, e2⟩ := nu_two y5 ((y2 10 hr).trans e10)
  have C' := nu_CHf he hfr hsing C
  have r0 : ρ1 n = (f9 : Int) := (y1 n (by omega)).trans hf
  have r1 : ρ1 (n + 1) = (s9 : Int) := (y1 (n + 1) hn).trans hs
  have b0 := y3 n
  have b1 := y3 (n + 1)
  rw [r0] at b0
  rw [r1] at b1
  have v0 : ∀ c9 : Int, zf_v ρ1 ([(n, 1)], c9) = (f9 : Int) + c9 := fun c9 => by
    show 1 * ρ1 n + c9 = _
    rw [r0]
    omega
  have v1 : ∀ c9 : Int, zf_v ρ1 ([(n + 1, 1)], c9) = (s9 : Int) + c9 := fun c9 => by
    show 1 * ρ1 (n + 1) + c9 = _
    rw [r1]
    omega
  have v2 : ∀ c9 : Int, zf_v ρ1 ([], c9) = c9 := fun c9 => rfl
  have h8 := C'.2.2.2.2.1
  have h9 := C'.2.2.2.2.2.1
  rcases hc with ⟨q1, q2⟩ | ⟨q1, q2⟩
  · rw [q1, v0] at e1
    rw [q2, v1] at e2
    exact ⟨f9, s9, nu_kp0 C' d1 d2 (by omega) (by omega)⟩
  · rcases q1 with ⟨q1, q3⟩ | ⟨q1, q3⟩ <;> rcases q2 with ⟨q2, q4⟩ | ⟨q2, q4⟩
    · rw [q1, v0] at e1
      rw [q2, v1] at e2
      exact ⟨f9 + 1, s9 + 1, nu_kp1 C' d1 d2 (by omega) (by omega) (by omega) (by omega) (by omega)⟩
    · rw [q1, v0] at e1
      rw [q2, v2] at e2
      exact ⟨f9 + 1, 8, nu_kp1 C' d1 d2 (by omega) (by omega) (by omega) (by omega) (by omega)⟩
    · rw [q1, v2] at e1
      rw [q2, v1] at e2
      exact ⟨0, s9 + 1, nu_kp1 C' d1 d2 (by omega) (by omega) (by omega) (by omega) (by omega)⟩
    · rw [q1, v2] at e1
      rw [q2, v2] at e2
      exact ⟨0, 8, nu_kp1 C' d1 d2 (by omega) (by omega) (by omega) (by omega) (by omega)⟩
/-- facts that a frame leaves alone -/
theorem nu_hk {θ : Nat → Nat} {ρ2 : Nat → Int} {hs : List zf_H} (h : hs.all (fun x => Nat.blt x.1 1000 && eff.all (fun q => !(Nat.beq q.1 x.1))) = true) (hf : zf_fr Sg eff ρ2 ws ws') (hh : ∀ x ∈ hs, zf_hok Sg ρ θ ws x) : ∀ x ∈ hs, zf_hok Sg ρ θ ws' x := by
  intro x hx
  have h1 := List.all_eq_true.mp h x hx
  rw [Bool.and_eq_true] at h1
  obtain ⟨h1, h2⟩ := h1
  have hl : x.1 < 1000 := zf_blt h1
  obtain ⟨a1, a2, v, a3, a4⟩ := (zf_hokT hl).mp (hh x hx)
  refine (zf_hokT hl).mpr ⟨a1, a2, v, hf _ _ _ _ a1 ?_ a3, a4⟩
  rintro ⟨q, hq, e1, -, -⟩
  have h3 := List.all_eq_true.mp h2 q hq
  rw [e1] at h3
  simp at h3
/-- the town taken back -/
theorem nu_back (hsing : ∀ g, g < 37 → g < 64 → Sg (th g) = some g) {f7 s7 : Nat} (T : nu_T Sg th tw nm ws) (N2 : nu_N tw nm ws 2 k0) (N3 : nu_N tw nm ws 3 k1) (R : ∀ t, t < s7 + 1 → nu_N tw nm ws (4 + (f7 + 9 - t) % 9) nsv) (h7 : f7 ≤ 8) (h8 : s7 ≤ 7) (d1 : zf_rd ws (th 10) 1 (.int (Int32.ofNat f7))) (d2 : zf_rd ws (th 10) 2 (.int (Int32.ofNat s7))) (hfr : zf_fr Sg zm_X10_copy.2.1 (fun _ => 0) ws ws') (hcp : nu_cp Sg ws ws' (tw 0) (tw (4 + f7)) (nm 0) (nm (4 + f7))) : nu_C Sg th tw nm ws' nsv k0 k1 f7 s7 := by
  have g10 := hsing 10 (by decide) (by decide)
  have o1 : nu_ok zm_X10_copy.2.1 10 1 2 = true := by decide
  have e0 := R 0 (by omega)
  rw [show 4 + (f7 + 9 - 0) % 9 = 4 + f7 by omega] at e0
  refine ⟨nu_Tf (by decide) hfr hsing T, nu_c1 hcp e0, nu_c2 hcp T (by decide) (by decide) (by decide) N2, nu_c2 hcp T (by decide) (by decide) (by decide) N3, h7, by omega, nu_fr o1 hfr g10 (by decide) (by decide) d1, nu_fr o1 hfr g10 (by decide) (by decide) d2, fun t ht => nu_c2 hcp T (by decide) (nu_m9 f7 t) (by omega) ?_⟩
  have e1 := R (t + 1) (by omega)
  rw [show 4 + (f7 + 9 - (t + 1)) % 9 = 4 + (f7 + 8 - t) % 9 by omega] at e1
  exact e1
end NUH
def nu_ρ (f9 s9 : Nat) : Nat → Int
  | 0 => (f9 : Int)
  | _ + 1 => (s9 : Int)
theorem nu_ρE {f9 s9 : Nat} (h8 : f9 ≤ 8) (h9 : s9 ≤ 8) : zf_okE [(0, 8), (0, 8)] (nu_ρ f9 s9) := fun x => by
  match x with
  | 0 => exact ⟨(show (0 : Int) ≤ (f9 : Int) by omega), (show (f9 : Int) ≤ 8 by omega)⟩
  | 1 => exact ⟨(show (0 : Int) ≤ (s9 : Int) by omega), (show (s9 : Int) ≤ 8 by omega)⟩
  | x + 2 => exact ⟨(show (-2147483648 : Int) ≤ (s9 : Int) by omega), (show (s9 : Int) ≤ 2147483647 by omega)⟩
/-- free and size as two facts -/
theorem nu_fs {Sg : Nat → Option Nat} {θ th : Nat → Nat} {ρ : Nat → Int} {ws : va_W} {n f9 s9 : Nat} {hs : List zf_H} (hsing : ∀ g, g < 37 → g < 64 → Sg (th g) = some g) (e10 : θ 10 = th 10) (d1 : zf_rd ws (th 10) 1 (.int (Int32.ofNat f9))) (d2 : zf_rd ws (th 10) 2 (.int (Int32.ofNat s9))) (h8 : f9 ≤ 8) (h9 : s9 ≤ 8) (hf : ρ n = (f9 : Int)) (hs' : ρ (n + 1) = (s9 : Int)) (hh : ∀ x ∈ hs, zf_hok Sg ρ θ ws x) : ∀ x ∈ ((10, 10, ([], 1), .inl ([(n, 1)], 0)) : zf_H) :: (10, 10, ([], 2), .inl ([(n + 1, 1)], 0)) :: hs, zf_hok Sg ρ θ ws x := by
  have g10 := hsing 10 (by decide) (by decide)
  have q1 : (Int32.ofNat f9).toInt = zf_v ρ ([(n, 1)], 0) := by
    rw [ti (by omega), show zf_v ρ ([(n, 1)], 0) = ρ n from zf_v_sym ρ n, hf]
  have q2 : (Int32.ofNat s9).toInt = zf_v ρ ([(n + 1, 1)], 0) := by
    rw [ti (by omega), show zf_v ρ ([(n + 1, 1)], 0) = ρ (n + 1) from zf_v_sym ρ (n + 1), hs']
  refine zf_ac ((zf_hokT (show (10 : Nat) < 1000 by decide)).mpr ⟨?_, zp_0 (by decide), _, ?_, _, rfl, q1⟩) (zf_ac ((zf_hokT (show (10 : Nat) < 1000 by decide)).mpr ⟨?_, zp_0 (by decide), _, ?_, _, rfl, q2⟩) hh)
  · show Sg (θ 10) = some 10
    rw [e10]; exact g10
  · show zf_rd ws (θ 10) 1 _
    rw [e10]; exact d1
  · show Sg (θ 10) = some 10
    rw [e10]; exact g10
  · show zf_rd ws (θ 10) 2 _
    rw [e10]; exact d2
set_option maxRecDepth 100000 in
set_option maxHeartbeats 4000000 in
theorem zR_X5_takeBack (l : Launch) (D : va_G) (k : Nat → ClassId) (B0 : Nat) (ad : Nat → Nat) (al sw : Nat) : zf_Rl l yX5_takeBack (zw yX5_takeBack cX5_takeBack 2 (some .boolean)) ({ frames := 3, cells := 0, slots := 0, locals := 102 }) cX5_takeBack 2 D k zGT 37 B0 [zm_X10_copy] [(11, 3, 0, .inl (0, 0)), (16, 3, 2, .inl (0, 0)), (20, 3, 1, .inl (0, 0))] [(16, 3, 2, .inl ((-2147483648), 2147483647)), (20, 3, 1, .inl ((-2147483648), 2147483647))] zn_X5_takeBack (zEx B0 ad al sw) := by
  have hEx := zEx_ok B0 ad al sw
  intro p e s m args below meth c Q Sg w0 A θ0 S hK hE hAB hA hone hsing
  refine ⟨?_, ?_, ?_⟩
  · exact zf_ac ((fun H locs ws a q0 fs v rest pc ls hP he hv hdg kk => va_get (D := D) (ci := 3) (C := RX5) (T := TX5) (N := 3) (own := RX5) S.1 S.2.1 S.2.2.2.2 (zg_in inW_X5) S.2.2.2.1 hK hP q0 he rfl 0 (by decide) (S.2.2.2.2 (.fieldLink RX5 11 "RungMoney$Past" "ring" "[LRungMoney$Town;") (List.mem_cons_of_mem _ zw_374)) (fun _ h9 => h9) hv hdg kk)) (zf_ac ((fun H locs ws a q0 fs v rest pc ls hP he hv hdg kk => va_get (D := D) (ci := 3) (C := RX5) (T := TX5) (N := 3) (own := RX5) S.1 S.2.1 S.2.2.2.2 (zg_in inW_X5) S.2.2.2.1 hK hP q0 he rfl 2 (by decide) (S.2.2.2.2 (.fieldLink RX5 16 "RungMoney$Past" "size" "I") (List.mem_cons_of_mem _ zw_376)) (fun _ h9 => h9) hv hdg kk)) (zf_ac ((fun H locs ws a q0 fs v rest pc ls hP he hv hdg kk => va_get (D := D) (ci := 3) (C := RX5) (T := TX5) (N := 3) (own := RX5) S.1 S.2.1 S.2.2.2.2 (zg_in inW_X5) S.2.2.2.1 hK hP q0 he rfl 1 (by decide) (S.2.2.2.2 (.fieldLink RX5 20 "RungMoney$Past" "free" "I") (List.mem_cons_of_mem _ zw_375)) (fun _ h9 => h9) hv hdg kk)) zf_an))
  · exact zf_ac ((fun H locs ws a q0 fs v rest pc ls hP hD hS he hl hv hdg kk => by obtain ⟨x, rfl, h1, h2⟩ := hv; exact va_put (D := D) (ci := 3) (v := .int x) (ty := .int) (C := RX5) (T := TX5) (N := 3) (own := RX5) S.1 S.2.1 S.2.2.2.2 (zg_in inW_X5) tyX5 tyX5_ok nmX5 S.2.2.2.1 hK hP hD hS q0 he rfl 2 (by decide) (S.2.2.2.2 (.fieldLink RX5 16 "RungMoney$Past" "size" "I") (List.mem_cons_of_mem _ zw_376)) (fun _ h9 => h9) rfl (by decide +kernel) rfl rfl hl hdg kk)) (zf_ac ((fun H locs ws a q0 fs v rest pc ls hP hD hS he hl hv hdg kk => by obtain ⟨x, rfl, h1, h2⟩ := hv; exact va_put (D := D) (ci := 3) (v := .int x) (ty := .int) (C := RX5) (T := TX5) (N := 3) (own := RX5) S.1 S.2.1 S.2.2.2.2 (zg_in inW_X5) tyX5 tyX5_ok nmX5 S.2.2.2.1 hK hP hD hS q0 he rfl 1 (by decide) (S.2.2.2.2 (.fieldLink RX5 20 "RungMoney$Past" "free" "I") (List.mem_cons_of_mem _ zw_375)) (fun _ h9 => h9) rfl (by decide +kernel) rfl rfl hl hdg kk)) zf_an)
  · exact zf_crl (xs := [(.invokevirtual 23, 3, 0)]) (by decide +kernel) (zf_ac (zf_crV S hEx hE hAB hA hK hone hsing (kc_X10_copy l D k B0 ad al sw) (cwV 1 S.2.2.2.2 (zg_V zw_737 zw_609 zw_610 zw_99 zw_611) rfl rfl rfl (by decide +kernel) ⟨(Nat.le_of_ble_eq_true rfl), (Nat.le_of_ble_eq_true rfl)⟩) ⟨(Nat.le_of_ble_eq_true rfl), (Nat.le_of_ble_eq_true rfl)⟩ 8 rfl rfl (ar := [.inr (some (64, 65))]) rfl rfl (by decide +kernel)) zf_an)
def zm_tb1 : zf_M := (([(0, 8), (0, 8)], [], 65, [], [], []), [(10, ([], 1), ([], 2))], [(some (.inl ([], 0)), ([(0, 8), (0, 8)], [], 65, [], [], [(10, 10, ([], 1), .inl ([(0, 1)], 0)), (10, 10, ([], 2), .inl ([(1, 1)], 0))]))])
def zu_tb1a : zf_U := (51, ([(1, 8), (1, 8)], [], 66, [(0, .inr (some (10, 10))), (1, .inr (some (64, 64)))], [.inr (some (64, 65)), .inr (some (64, 64))], [(11, 11, ([(0, 1)], (-1)), .inr (some (64, 65))), (10, 10, ([], 1), .inl ([(0, 1)], (-1))), (10, 10, ([], 2), .inl ([(1, 1)], (-1)))]), ([], 0), 0)
def zu_tb1b : zf_U := (51, ([(0, 0), (1, 8)], [], 66, [(0, .inr (some (10, 10))), (1, .inr (some (64, 64)))], [.inr (some (64, 65)), .inr (some (64, 64))], [(11, 11, ([], 8), .inr (some (64, 65))), (10, 10, ([], 1), .inl ([], 8)), (10, 10, ([], 2), .inl ([(1, 1)], (-1)))]), ([], 0), 0)
set_option maxRecDepth 100000 in
set_option maxHeartbeats 4000000 in
theorem kr_tb1 : zf_run 2 65 37 2 zGT zm_tb1 [zm_X10_copy] [(11, 3, 0, .inl (0, 0)), (16, 3, 2, .inl (0, 0)), (20, 3, 1, .inl (0, 0))] [(16, 3, 2, .inl ((-2147483648), 2147483647)), (20, 3, 1, .inl ((-2147483648), 2147483647))] zn_X5_takeBack [zu_tb1a, zu_tb1b] none 3000 0 ([(0, 8), (0, 8)], [], 65, [(0, .inr (some (10, 10))), (1, .inr (some (64, 64)))], [], [(10, 10, ([], 1), .inl ([(0, 1)], 0)), (10, 10, ([], 2), .inl ([(1, 1)], 0))]) = true := by decide +kernel
def zm_tb2 : zf_M := (([], [], 64, [], [], []), [], [(some (.inl ([], 1)), ([], [], 64, [], [], []))])
set_option maxRecDepth 100000 in
set_option maxHeartbeats 4000000 in
theorem kr_tb2 : zf_run 0 64 37 2 zGT zm_tb2 [zm_X10_copy] [(11, 3, 0, .inl (0, 0)), (16, 3, 2, .inl (0, 0)), (20, 3, 1, .inl (0, 0))] [(16, 3, 2, .inl ((-2147483648), 2147483647)), (20, 3, 1, .inl ((-2147483648), 2147483647))] zn_X5_takeBack [] none 3000 54 ([], [], 64, [], [], []) = true := by decide +kernel
theorem dNX5_takeBack_51 : decode cX5_takeBack 51 = .ok (.invokevirtual 23, 3) := by decide +kernel
set_option maxRecDepth 100000 in
set_option maxHeartbeats 4000000 in
theorem kn_X5_takeBack (l : Launch) (D : va_G) (k : Nat → ClassId) (B0 : Nat) (ad : Nat → Nat) (al sw : Nat) {Sg : Nat → Option Nat} {ws : va_W} {th tw nm : Nat → Nat} (sz : Nat) (hone : ∀ a g, Sg a = some g → g < 64 → a = th g) (hsing : ∀ g, g < 37 → g < 64 → Sg (th g) = some g) (ht : zf_typ Sg k zGT ws) {nsv k0 k1 : List (List Int32)} {f9 s9 : Nat} (C : nu_C Sg th tw nm ws nsv k0 k1 f9 s9) :
    Met l yX5_takeBack (zw yX5_takeBack cX5_takeBack 2 (some .boolean)) ({ frames := 3, cells := 0, slots := 0, locals := 102 }) (va_Pc [.ref (th 10), .ref (tw 0)] (g_pr D k (zEx B0 ad al sw Sg ws) sz ws)) (zf_Q (fun v t => (∃ x : Int32, v = some (.int x) ∧ (x = 0 ∨ x = 1)) ∧ nu_Q D k Sg th tw nm nsv k0 k1 (va_A ws sz) t) (va_A ws sz)) 0 0 (va_A ws sz) := by
  have hEx := zEx_ok B0 ad al sw
  refine zp_open (Qp := fun A v t => (∃ x : Int32, v = some (.int x) ∧ (x = 0 ∨ x = 1)) ∧ nu_Q D k Sg th tw nm nsv k0 k1 A t) (by decide) rfl hEx (Nat.le_of_ble_eq_true rfl) ?_
  intro p e s m below meth c A ls S hr hlocks hK hE hAB hA hP hD hS hl
  have hx := S.1
  have hb := S.2.1
  have g10 : Sg (th 10) = some 10 := hsing 10 (by decide) (by decide)
  obtain ⟨T, N0, N2, N3, f8, s8, d1, d2, R⟩ := id C
  have t0 := (T.1 0 (by decide)).1
  refine zp_run (M := zm_tb1) (cuts := [zu_tb1a, zu_tb1b]) (σ := ([(0, 8), (0, 8)], [], 65, [(0, .inr (some (10, 10))), (1, .inr (some (64, 64)))], [], [(10, 10, ([], 1), .inl ([(0, 1)], 0)), (10, 10, ([], 2), .inl ([(1, 1)], 0))])) (ρ := nu_ρ f9 s9) (θ := zf_upr th 64 (tw 0)) hEx (by decide +kernel) (zR_X5_takeBack l D k B0 ad al sw) S hK hE hAB hA (fun a g h1 h2 => by rw [nu_up h2]; exact hone a g h1 h2) (fun g h1 h2 => by rw [nu_up h2]; exact hsing g h1 h2) rfl (by decide +kernel) kr_tb1 hP hD hS ht ⟨nu_ρE f8 s8, fun g hg => (by cases hg), ⟨_, hl, ⟨⟨rfl, ⟨rfl, g10⟩⟩, ⟨rfl, ⟨by rw [nu_u64], by rw [nu_u64]; exact t0⟩⟩, trivial⟩⟩, trivial, nu_fs (n := 0) (hs := []) hsing (nu_up (by decide)) d1 d2 f8 s8 rfl rfl zf_an⟩ ?_ (fun H locs w3 ls pc i v hP3 hD3 hS3 hpost hdg hrv => ?_)
  · -- the place to take back from
    have main : ∀ {f7 : Nat} {ff : zf_L} {e9 : Int × Int} (ρ' : Nat → Int) (θ' : Nat → Nat) (w1 : va_W) (H1 : Heap) (locs1 : List Loc) (ls1 : Array Slot) (st1 : List Value), (∀ i, i < 65 → θ' i = zf_upr th 64 (tw 0) i) → va_P D vwCl w1 H1 → va_D A w1 → va_S A s.heap H1 locs1 → zf_typ Sg k zGT w1 → zf_fr Sg [(10, ([], 1), ([], 2))] (nu_ρ f9 s9) ws w1 → zf_sat Sg ρ' θ' 2 ([e9, (1, 8)], [], 66, [(0, .inr (some (10, 10))), (1, .inr (some (64, 64)))], [.inr (some (64, 65)), .inr (some (64, 64))], [(11, 11, ff, .inr (some (64, 65))), (10, 10, ([], 1), .inl ff), (10, 10, ([], 2), .inl ([(1, 1)], (-1)))]) ls1 st1 w1 → ρ' 1 = (s9 : Int) → zf_v ρ' ff = (f7 : Int) → ((f9 = f7 + 1) ∨ (f9 = 0 ∧ f7 = 8)) → W p l e ({ frames := 3, cells := 0, slots := 0, locals := 102 } : Room) s m ([.ref (th 10), .ref (tw 0)] : List Value).toArray below meth c H1 locs1 0 0 (MQ below (zf_Q ((fun v t => (∃ x : Int32, v = some (.int x) ∧ (x = 0 ∨ x = 1)) ∧ nu_Q D k Sg th tw nm nsv k0 k1 A t)) A) ([.ref (th 10), .ref (tw 0)] : List Value).toArray s 0 0 A) (F0 m 51 ls1 st1) := by
      intro f7 ff e9 ρ' θ' w1 H1 locs1 ls1 st1 hθ hP1 hD1 hS1 ht1 hfr hsat r1 rf hff
      obtain ⟨hE1, -, ⟨lv, hlv, -⟩, hst, hh⟩ := hsat
      obtain ⟨v1, st2, rfl, ⟨rfl, b1⟩, hst_1⟩ := zf_f2_c hst
      obtain ⟨v2, st3, rfl, ⟨rfl, b2⟩, hst_2⟩ := zf_f2_c hst_1
      cases zf_nil hst_2
      have f78 : f7 ≤ 8 := by omega
      have hs1 := (hE1 1).1
      have hs1 : (1 : Int) ≤ ρ' 1 := hs1
      rw [r1] at hs1
      have e10 : θ' 10 = th 10 := (hθ 10 (by decide)).trans (nu_up (by decide))
      have e11 : θ' 11 = th 11 := (hθ 11 (by decide)).trans (nu_up (by decide))
      have e64 : θ' 64 = tw 0 := (hθ 64 (by decide)).trans nu_u64
      have o11 : nu_ok [(10, ([], 1), ([], 2))] 11 0 8 = true := by decide
      obtain ⟨-, -, v3, z1, rfl, z2⟩ := (zf_hokT (h := (11, 11, ff, .inr (some (64, 65)))) (show (11 : Nat) < 1000 by decide)).mp (hh _ List.mem_cons_self)
      have z1 : zf_rd w1 (θ' 11) (zf_v ρ' ff).toNat (.ref (θ' 65)) := z1
      rw [e11, rf, show ((f7 : Int)).toNat = f7 from Int.toNat_natCast f7] at z1
      have z3 := nu_fr o11 hfr (hsing 11 (by decide) (by decide)) (by omega) (by omega) (T.2.2.2.2.2.2 f7 (by omega))
      have e65 : θ' 65 = tw (4 + f7) := by
        have h9 := zf_rd_fun hD1 z1 z3
        injection h9
      obtain ⟨x, y, y1, y2, y3, y4⟩ := nu_two (th := th) (fun x hx' => hh x (List.mem_cons_of_mem _ hx')) e10
      have y4 : y.toInt = 1 * ρ' 1 + (-1) := y4
      rw [r1] at y4
      obtain ⟨s7, rfl⟩ : ∃ s7, s9 = s7 + 1 := ⟨s9 - 1, by omega⟩
      rw [nu_i32 (n := f7) (y3.trans rf) (by omega)] at y1
      rw [nu_i32 (n := s7) (x := y) (by omega) (by omega)] at y2
      have T1 := nu_Tf (by decide) hfr hsing T
      have eN : nu_eN [(10, ([], 1), ([], 2))] = true := by decide
      have t1 := T1.1 (4 + f7) (by omega)
      have t2 := T1.1 0 (by decide)
      have e64 : Value.ref (θ' 64) = .ref (tw 0) := by rw [e64]
      have e65 : Value.ref (θ' 65) = .ref (tw (4 + f7)) := by rw [e65]
      have hM := kn_X10_copy l D k B0 ad al sw H1.size hone hsing ht1 t2.1 t1.1 t2.2.1 t1.2.1 t2.2.2 t1.2.2
      show W p l e _ s m _ below meth c H1 locs1 0 0 _ (F0 m 51 ls1 [.ref (θ' 65), .ref (θ' 64)])
      rw [e64, e65]
      refine zp_call (cells := 0) (slots := 0) (As := [.ref (tw (4 + f7))]) (b := tw 0) (g := 64) (ci := 8) (rest := []) S hEx hE hAB hA hK hM (cwV 1 S.2.2.2.2 (zg_V zw_737 zw_609 zw_610 zw_99 zw_611) rfl rfl rfl (by decide +kernel) ⟨(Nat.le_of_ble_eq_true rfl), (Nat.le_of_ble_eq_true rfl)⟩) ⟨Nat.le_of_ble_eq_true rfl, Nat.le_of_ble_eq_true rfl⟩ rfl rfl (by decide +kernel) t2.1 rfl hP1 hD1 hS1 ht1 hlv.1 (Nat.zero_le _) dNX5_takeBack_51 (fun v t H2 locs2 ht2 hB hDD hS2 => ?_)
      obtain ⟨rfl, w2, u1, u2, u3, u4, u5⟩ := hB
      rw [ht2] at u1
      have C2 := nu_back hsing T1 (nu_Nf eN hfr T (by decide) N2) (nu_Nf eN hfr T (by decide) N3) (f7 := f7) (s7 := s7) (fun t h9 => by
        have h8 := R t h9
        rw [show 4 + (f9 + 8 - t) % 9 = 4 + (f7 + 9 - t) % 9 by omega] at h8
        exact nu_Nf eN hfr T (by have := Nat.mod_lt (f7 + 9 - t) (show 0 < 9 by decide); omega) h8) f78 (by omega) y1 y2 u4 u5
      refine zp_run (M := zm_tb2) (σ := ([], [], 64, [], [], [])) (ρ := fun _ => 0) (θ := th) hEx (by decide +kernel) (zR_X5_takeBack l D k B0 ad al sw) S hK hE hAB hA hone hsing rfl (by decide +kernel) kr_tb2 u1 (hDD _ u1 u2) hS2 u3 ⟨lp_zr rfl, fun g hg => (by cases hg), ⟨[], ⟨hlv.1, hlv.2.1, fun q hq => (by cases hq)⟩, trivial⟩, trivial, fun h hh => (by cases hh)⟩ zf_an (fun H locs w3 ls pc i v hP3 hD3 hS3 hpost hdg hrv => ?_)
      obtain ⟨rfl, x, rfl, hx01⟩ := zp_rz (by decide +kernel) hpost hrv
      obtain ⟨-, ht3, hfr3⟩ := hpost
      exact W.zret hx hb hr (by rcases hx01 with rfl | rfl <;> rfl) (fun t ht' hW => ⟨⟨_, rfl, ⟨_, rfl, hx01⟩, w3, by rw [ht']; exact hP3, hD3, ht3, _, _, nu_Cf (by decide) hfr3 hsing C2⟩, hS3.F ht'⟩) hS3.2.2 hdg hlocks
    refine zf_ac (fun ρ' θ' w1 H1 locs1 ls1 st1 hρ hθ hP1 hD1 hS1 ht1 hfr hsat => ?_) (zf_ac (fun ρ' θ' w1 H1 locs1 ls1 st1 hρ hθ hP1 hD1 hS1 ht1 hfr hsat => ?_) zf_an)
    · have r0 : ρ' 0 = (f9 : Int) := hρ 0 (by decide)
      have h1 : (1 : Int) ≤ ρ' 0 := (hsat.1 0).1
      exact main (f7 := f9 - 1) (ff := ([(0, 1)], (-1))) (e9 := (1, 8)) ρ' θ' w1 H1 locs1 ls1 st1 hθ hP1 hD1 hS1 ht1 hfr hsat (hρ 1 (by decide)) (by
        show 1 * ρ' 0 + (-1) = _
        omega) (by omega)
    · have r0 : ρ' 0 = (f9 : Int) := hρ 0 (by decide)
      have h1 : ρ' 0 ≤ (0 : Int) := (hsat.1 0).2
      exact main (f7 := 8) (ff := ([], 8)) (e9 := (0, 0)) ρ' θ' w1 H1 locs1 ls1 st1 hθ hP1 hD1 hS1 ht1 hfr hsat (hρ 1 (by decide)) rfl (by omega)
  · -- nothing is held
    obtain ⟨rfl, x, rfl, hx01⟩ := zp_rz (by decide +kernel) hpost hrv
    refine W.zret hx hb hr (by rcases hx01 with rfl | rfl <;> rfl) (fun t ht' hW => ⟨⟨_, rfl, ⟨_, rfl, hx01⟩, w3, by rw [ht']; exact hP3, hD3, hpost.2.1, ?_⟩, hS3.F ht'⟩) hS3.2.2 hdg hlocks
    obtain ⟨⟨o, ho, ρ1, θ1, y1, y2, y3, -, y5, -⟩, -, hfr⟩ := hpost
    cases List.mem_singleton.mp ho
    obtain ⟨x, y, q1, q2, q3, q4⟩ := nu_two (th := th) y5 ((y2 10 (by decide)).trans (nu_up (by decide)))
    have q3 : x.toInt = 1 * ρ1 0 + 0 := q3
    have q4 : y.toInt = 1 * ρ1 1 + 0 := q4
    have r0 : ρ1 0 = (f9 : Int) := y1 0 (by decide)
    have r1 : ρ1 1 = (s9 : Int) := y1 1 (by decide)
    rw [nu_i32 (n := f9) (x := x) (by omega) (by omega)] at q1
    rw [nu_i32 (n := s9) (x := y) (by omega) (by omega)] at q2
    have eN : nu_eN [(10, ([], 1), ([], 2))] = true := by decide
    exact ⟨f9, s9, nu_Tf (by decide) hfr hsing T, nu_Nf eN hfr T (by decide) N0, nu_Nf eN hfr T (by decide) N2, nu_Nf eN hfr T (by decide) N3, f8, s8, q1, q2, fun t h9 => nu_Nf eN hfr T (nu_m9 f9 t) (R t h9)⟩
