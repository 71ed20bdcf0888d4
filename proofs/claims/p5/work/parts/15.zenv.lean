/-! ===== what lies outside the world: Key's constants, the rows of all of them, the row of the switches ===== -/
def zkA (B0 : Nat) : Nat → Prop := fun q => B0 ≤ q
def zkN : List String := ["OTHER", "MAN", "LADDER", "DEBT", "ROT", "PAYS", "SAWS", "SPLICES", "CLIMBS", "BURNS", "PAINTS", "TAXES", "WINTER", "OR", "AND", "NOT", "GONE", "BEARS", "FALSE", "OF", "LONG", "LOOKS", "WORTH", "NUMBER"]
def zkD : String := "LRungMoney$Key;"
def zkF : List (String × String × String × List Int32) := [("RungMoney$Key", "sort", "I", [-1, -1, -1, -1, -1, 0, 10, 20, 30, 40, 50, 60, 70, -1, -1, -1, -1, -1, -1, -1, -1, -1, -1, -1]), ("RungMoney$Key", "first", "I", [-1, -1, -1, -1, -1, 15, 15, 15, 15, 15, 15, -1, 99, -1, -1, -1, -1, -1, -1, -1, -1, -1, -1, -1]), ("RungMoney$Key", "second", "I", [-1, -1, -1, -1, -1, -1, 31, 15, -1, -1, 31, -1, -1, -1, -1, -1, -1, -1, -1, -1, -1, -1, -1, -1]), ("java/lang/Enum", "ordinal", "I", [0, 1, 2, 3, 4, 5, 6, 7, 8, 9, 10, 11, 12, 13, 14, 15, 16, 17, 18, 19, 20, 21, 22, 23])]
def zkC : List Int64 := [0, 13358, 403837106, 136276, 18932, 526131, 624371, 20950846643, 113554515, 2804179, 538229395, 21029043, 781668530, 498, 1476, 14836, 245189, 2262611, 6337125, 486, 409031, 13090163, 24627848, 492210354]
def zEh (B0 : Nat) (ad : Nat → Nat) (al sw : Nat) (U : State) (H : Heap) : Prop :=
  va_En RX2 zkD zkN zkF ad (zkA B0) U H ∧ va_Z RX2 "ALL" "[LRungMoney$Key;" (.ref al) (zkA B0) U H ∧ va_T (.object "RungMoney$Key") al 24 (fun i => .ref (ad i)) (zkA B0) U H ∧
  va_Z "RungMoney$1" "$SwitchMap$RungMoney$Key" "[I" (.ref sw) (zkA B0) U H ∧ (∃ f : Nat → Int32, va_T .int sw 24 (fun i => .int (f i)) (zkA B0) U H) ∧ ∃ f : { f : Nat → Int64 // f = fun i => zkC.getD i 0 }, va_Ef 24 RX2 "code" "J" (fun i => .long (f.1 i)) ad (zkA B0) U H
def zKs (Sg : Nat → Option Nat) (ad : Nat → Nat) (al sw : Nat) : Prop := (∀ a, Sg a = some 128 → ∃ i, i < 24 ∧ a = ad i) ∧ (∀ i, i < 24 → Sg (ad i) = some 128) ∧ (∀ a, Sg a = some 129 → a = al) ∧ Sg al = some 129 ∧ (∀ a, Sg a = some 130 → a = sw) ∧ Sg sw = some 130
def zEx (B0 : Nat) (ad : Nat → Nat) (al sw : Nat) (Sg : Nat → Option Nat) (ws : va_W) (U : State) : Prop := B0 ≤ U.heap.size ∧ (∀ c ∈ ws, B0 ≤ c.1) ∧ zKs Sg ad al sw ∧ zEh B0 ad al sw U U.heap
theorem zEh_moved {B0 : Nat} {ad : Nat → Nat} {al sw : Nat} {u U : State} {H : Heap} (hvm : u.vm.Alike U.vm) (h : zEh B0 ad al sw u H) : zEh B0 ad al sw U H := by
  obtain ⟨h1, h2, h3, h4, ⟨f, h5⟩, g, h6⟩ := h
  exact ⟨h1.moved hvm, h2.moved hvm, h3.moved hvm, h4.moved hvm, ⟨f, h5.moved hvm⟩, g, h6.moved hvm⟩
theorem zEh_kept {B0 : Nat} {ad : Nat → Nat} {al sw : Nat} {U : State} {H H1 : Heap} (h : zEh B0 ad al sw U H) (hq : ∀ a : Nat, a < H.size → ¬ zkA B0 a → H1[a]? = H[a]?) : zEh B0 ad al sw U H1 := by
  obtain ⟨h1, h2, h3, h4, ⟨f, h5⟩, g, h6⟩ := h
  exact ⟨h1.kept hq, h2.kept hq, h3.kept hq, h4.kept hq, ⟨f, h5.kept hq⟩, g, fun i hi => (h6 i hi).kept hq⟩
theorem z_asg (vm : Vm) (c : ClassId) : vm.assignable c c = true := by
  show vm.assignableAux (255 + 1) c c = true
  rw [Vm.assignableAux]
  simp only [beq_self_eq_true, Bool.true_or]
theorem z_anyE {E d : String} {nm : List String} {F : List (String × String × String × List Int32)} {ad : Nat → Nat} {i : Nat} {s : State} {A : Nat → Prop} {H : Heap} {locs : List Loc} (hE : va_En E d nm F ad A s s.heap) (hi : i < nm.length) (hS : va_S A s.heap H locs) : va_Any E s H (ad i) := by
  obtain ⟨cell, h1, h2, h3⟩ := va_recvE hE hi hS
  obtain ⟨kC, hkC, -⟩ := Vm.findClass_spec h3
  refine ⟨cell, h1, h2, ⟨kC, hkC⟩, fun comp h => ?_⟩
  cases Option.some.inj (h3.symm.trans h)
  exact z_asg _ _
theorem zEx_ok (B0 : Nat) (ad : Nat → Nat) (al sw : Nat) : zf_Eo (zEx B0 ad al sw) B0 := by
  refine ⟨?_, ?_, ?_, ?_⟩
  · intro Sg ws a U g mk h
    exact ⟨h.1, h.2.1, h.2.2.1, zEh_moved (u := U) (U := U.calling g mk a) (Vm.Alike.refl U.vm) h.2.2.2⟩
  · intro Sg ws s hE q h
    rcases h with ⟨k, e, h⟩ | h
    · exact hE.2.1 (q, e) (List.mem_of_getElem? h)
    · exact Nat.le_trans hE.1 h
  · intro Sg w0 ws s U H locs A hE hAB hS hD hU hW
    refine ⟨by rw [hU]; exact Nat.le_trans hE.1 hS.1, ?_, hE.2.2.1, ?_⟩
    · intro c hc
      obtain ⟨i, hi, e⟩ := List.getElem_of_mem hc
      exact hAB _ (hD.2 i c (by rw [List.getElem?_eq_getElem hi, e]))
    · rw [hU]
      exact zEh_moved hW.alike (zEh_kept hE.2.2.2 (fun a h1 h2 => hS.2.1 a h1 (fun z => h2 (hAB a z))))
  · intro Sg ws s H locs A hE hAB hS a ha
    obtain ⟨i, hi, rfl⟩ := hE.2.2.1.1 a ha
    exact z_anyE (hE.2.2.2.1.narrow hAB) hi hS
/-! ===== rules of what lies outside ===== -/
def zf_mS (g : Nat) : zf_M := (([], [], 64, [], [], []), [], [(some (.inr (some (g, 64))), ([], [], 65, [], [], []))])
def zf_mKI : zf_M := (([], [], 65, [], [.inr (some (128, 64))], []), [], [(some (.inl (zf_sym 0)), ([(-2147483648, 2147483647)], [], 65, [], [], []))])
def zf_mKO : zf_M := (([], [], 65, [], [.inr (some (128, 64))], []), [], [(some (.inl (zf_sym 0)), ([(0, 23)], [], 65, [], [], []))])
def zf_mKL : zf_M := (([], [], 65, [], [.inr (some (128, 64))], []), [], [(some (.inr none), ([], [], 65, [], [], []))])
def zf_mRA : zf_M := (([(0, 23)], [], 65, [], [.inl (zf_sym 0), .inr (some (129, 64))], []), [], [(some (.inr (some (128, 65))), ([(0, 23)], [], 66, [], [], []))])
def zf_mRI : zf_M := (([(0, 23)], [], 65, [], [.inl (zf_sym 0), .inr (some (130, 64))], []), [], [(some (.inl (zf_sym 1)), ([(0, 23), (-2147483648, 2147483647)], [], 65, [], [], []))])
def zf_mRN (g : Nat) : zf_M := (([], [], 65, [], [.inr (some (g, 64))], []), [], [(some (.inl (zf_con 24)), ([], [], 65, [], [], []))])
theorem zf_nil {Sg : Nat → Option Nat} {ρ : Nat → Int} {θ : Nat → Nat} {vs : List Value} (h : zf_f2 (zf_vok Sg ρ θ) [] vs) : vs = [] := by
  cases vs with
  | nil => rfl
  | cons a t => exact h.elim
section ZK
variable {p : Program} {l : Launch} {e : Env} {R : Room} {s : State} {m : MethodId} {args : Array Value} {below : List Frame} {meth : Method} {c : Code} {cells slots : Nat} {Q : State → Prop} {cc : ByteArray} {D : va_G} {cl : List vw_C} {A : Nat → Prop} {Sg : Nat → Option Nat} {k : Nat → ClassId} {GT : List zf_G} {θ0 : Nat → Nat} {nL : Nat} {own : String} {index : Nat} {Ts : List Cond} {B0 : Nat} {ad : Nat → Nat} {al sw : Nat} {w0 : va_W}
/-- a new unknown's value, behind those of an outcome's entry -/
theorem zf_okE1 {E : zf_E} {ρ : Nat → Int} (h : zf_okE E ρ) {x : Int} {v : Int × Int} (hv : v.1 ≤ x ∧ x ≤ v.2) : zf_okE (E ++ [v]) (zf_up ρ E.length x) := zf_up_ok h hv
theorem zf_okE0 {ρ : Nat → Int} (h : zf_okE [] ρ) {x : Int} {v : Int × Int} (hv : v.1 ≤ x ∧ x ≤ v.2) : zf_okE [v] (zf_up ρ 0 x) := zf_up_ok h hv
theorem zf_crgs (S : CallFix p m c cc nL s args Ts own) (hE : zEx B0 ad al sw Sg w0 s) (hAB : ∀ q, A q → B0 ≤ q) {nm : String} (i : Nat) (hi : i < 24) (hnm : zkN.getD i "" = nm) (hlink : (Cond.fieldLink own index "RungMoney$Key" nm "LRungMoney$Key;").before args s = true) :
    zf_CR p l e R s m args below meth c cells slots Q cc D cl A s.heap Sg k GT θ0 nL (.getstatic index) 3 (zf_mS 128) := by
  intro H locs ws ρ θ vs rest pc ls hP hD hS ht hθ hpre hdg hls hcat kk
  obtain ⟨e1, e2, e3, -⟩ := hpre
  cases zf_nil e3
  subst hnm
  refine va_gets (C := RX2) (n := zkN.getD i "") (d := zkD) (v := .ref (ad i)) S.1 S.2.1 ((hE.2.2.2.1.1 i hi).1.narrow hAB) hS S.2.2.2.1 hlink (fun _ h9 => h9) hdg ?_
  exact kk (some (.ref (ad i))) ws H locs ⟨⟨_, List.mem_cons_self, ρ, zf_upr θ 64 (ad i), fun _ _ => rfl, fun j hj => if_neg (Nat.ne_of_lt hj), e1, e2, fun h hh => (by cases hh), ⟨rfl, by show Sg (zf_upr θ 64 (ad i) 64) = _; rw [show zf_upr θ 64 (ad i) 64 = ad i from if_pos rfl]; exact hE.2.2.1.2.1 i hi⟩⟩, ht, fun _ _ _ _ _ _ h => h⟩ hP hD hS
theorem zf_crga (S : CallFix p m c cc nL s args Ts own) (hE : zEx B0 ad al sw Sg w0 s) (hAB : ∀ q, A q → B0 ≤ q) (hlink : (Cond.fieldLink own index "RungMoney$Key" "ALL" "[LRungMoney$Key;").before args s = true) :
    zf_CR p l e R s m args below meth c cells slots Q cc D cl A s.heap Sg k GT θ0 nL (.getstatic index) 3 (zf_mS 129) := by
  intro H locs ws ρ θ vs rest pc ls hP hD hS ht hθ hpre hdg hls hcat kk
  obtain ⟨e1, e2, e3, -⟩ := hpre
  cases zf_nil e3
  refine va_gets (C := RX2) (n := "ALL") (d := "[LRungMoney$Key;") (v := .ref al) S.1 S.2.1 (hE.2.2.2.2.1.narrow hAB) hS S.2.2.2.1 hlink (fun _ h9 => h9) hdg ?_
  exact kk (some (.ref al)) ws H locs ⟨⟨_, List.mem_cons_self, ρ, zf_upr θ 64 al, fun _ _ => rfl, fun j hj => if_neg (Nat.ne_of_lt hj), e1, e2, fun h hh => (by cases hh), ⟨rfl, by show Sg (zf_upr θ 64 al 64) = _; rw [show zf_upr θ 64 al 64 = al from if_pos rfl]; exact hE.2.2.1.2.2.2.1⟩⟩, ht, fun _ _ _ _ _ _ h => h⟩ hP hD hS
theorem zf_crgw (S : CallFix p m c cc nL s args Ts own) (hE : zEx B0 ad al sw Sg w0 s) (hAB : ∀ q, A q → B0 ≤ q) (hlink : (Cond.fieldLink own index "RungMoney$1" "$SwitchMap$RungMoney$Key" "[I").before args s = true) :
    zf_CR p l e R s m args below meth c cells slots Q cc D cl A s.heap Sg k GT θ0 nL (.getstatic index) 3 (zf_mS 130) := by
  intro H locs ws ρ θ vs rest pc ls hP hD hS ht hθ hpre hdg hls hcat kk
  obtain ⟨e1, e2, e3, -⟩ := hpre
  cases zf_nil e3
  refine va_gets (C := "RungMoney$1") (n := "$SwitchMap$RungMoney$Key") (d := "[I") (v := .ref sw) S.1 S.2.1 (hE.2.2.2.2.2.2.1.narrow hAB) hS S.2.2.2.1 hlink (fun _ h9 => h9) hdg ?_
  exact kk (some (.ref sw)) ws H locs ⟨⟨_, List.mem_cons_self, ρ, zf_upr θ 64 sw, fun _ _ => rfl, fun j hj => if_neg (Nat.ne_of_lt hj), e1, e2, fun h hh => (by cases hh), ⟨rfl, by show Sg (zf_upr θ 64 sw 64) = _; rw [show zf_upr θ 64 sw 64 = sw from if_pos rfl]; exact hE.2.2.1.2.2.2.2.2⟩⟩, ht, fun _ _ _ _ _ _ h => h⟩ hP hD hS
theorem zf_crkf (S : CallFix p m c cc nL s args Ts own) (hE : zEx B0 ad al sw Sg w0 s) (hAB : ∀ q, A q → B0 ≤ q) {q : String × String × String × List Int32} (hq : q ∈ zkF) {o nm : String} (ho : q.1 = o) (hnm : q.2.1 = nm) (hd : q.2.2.1 = "I") (hlink : (Cond.fieldLink own index o nm "I").before args s = true) :
    zf_CR p l e R s m args below meth c cells slots Q cc D cl A s.heap Sg k GT θ0 nL (.getfield index) 3 zf_mKI := by
  intro H locs ws ρ θ vs rest pc ls hP hD hS ht hθ hpre hdg hls hcat kk
  obtain ⟨e1, e2, e3, -⟩ := hpre
  obtain ⟨v, vs, rfl, ⟨rfl, hg⟩, e4⟩ := zf_f2_c e3
  cases zf_nil e4
  obtain ⟨i, hi, hai⟩ := hE.2.2.1.1 _ hg
  have hai : θ 64 = ad i := hai
  show W p l e R s m args below meth c H locs cells slots Q (F0 m pc ls (.ref (θ 64) :: rest))
  rw [hai]
  refine va_getE (E := RX2) (nm := zkN) (F := zkF) (ad := ad) (q := q) (ref := o) S.1 S.2.1 (hE.2.2.2.1.narrow hAB) hi hS S.2.2.2.1 hq (by rw [hnm, hd]; exact hlink) (by rw [ho]; exact fun _ h9 => h9) hdg ?_
  exact kk (some (.int (q.2.2.2.getD i 0))) ws H locs ⟨⟨_, List.mem_cons_self, zf_up ρ 0 (q.2.2.2.getD i 0).toInt, θ, fun j hj => (by cases hj), fun _ _ => rfl, zf_okE0 e1 ⟨zi_lo _, zi_hi _⟩, fun g hg => (by cases hg), fun h hh => (by cases hh), ⟨_, rfl, by rw [zf_v_sym, zf_up_n]⟩⟩, ht, fun _ _ _ _ _ _ h => h⟩ hP hD hS
theorem zf_crko (S : CallFix p m c cc nL s args Ts own) (hE : zEx B0 ad al sw Sg w0 s) (hAB : ∀ q, A q → B0 ≤ q) (hlink : (Cond.fieldLink own index "java/lang/Enum" "ordinal" "I").before args s = true) :
    zf_CR p l e R s m args below meth c cells slots Q cc D cl A s.heap Sg k GT θ0 nL (.getfield index) 3 zf_mKO := by
  intro H locs ws ρ θ vs rest pc ls hP hD hS ht hθ hpre hdg hls hcat kk
  obtain ⟨e1, e2, e3, -⟩ := hpre
  obtain ⟨v, vs, rfl, ⟨rfl, hg⟩, e4⟩ := zf_f2_c e3
  cases zf_nil e4
  obtain ⟨i, hi, hai⟩ := hE.2.2.1.1 _ hg
  have hai : θ 64 = ad i := hai
  show W p l e R s m args below meth c H locs cells slots Q (F0 m pc ls (.ref (θ 64) :: rest))
  rw [hai]
  have hb : ∀ j, j < 24 → 0 ≤ ((zkF.getD 3 ("", "", "", [])).2.2.2.getD j 0).toInt ∧ ((zkF.getD 3 ("", "", "", [])).2.2.2.getD j 0).toInt ≤ 23 := by decide +kernel
  refine va_getE (E := RX2) (nm := zkN) (F := zkF) (ad := ad) (q := zkF.getD 3 ("", "", "", [])) (ref := "java/lang/Enum") S.1 S.2.1 (hE.2.2.2.1.narrow hAB) hi hS S.2.2.2.1 (by simp [zkF]) hlink (fun _ h9 => h9) hdg ?_
  exact kk (some (.int _)) ws H locs ⟨⟨_, List.mem_cons_self, zf_up ρ 0 ((zkF.getD 3 ("", "", "", [])).2.2.2.getD i 0).toInt, θ, fun j hj => (by cases hj), fun _ _ => rfl, zf_okE0 e1 (hb i hi), fun g hg => (by cases hg), fun h hh => (by cases hh), ⟨_, rfl, by rw [zf_v_sym, zf_up_n]⟩⟩, ht, fun _ _ _ _ _ _ h => h⟩ hP hD hS
theorem z_getOF {o nm d ref : String} {v : Value} {t : Nat} {H : Heap} {locs : List Loc} {pc : Nat} {ls : Array Slot} {rest : List Value} (hexec : p.tables.exec = Jvm.exec) (hb : c.code = cc) (hF : va_OF o nm d v t A s s.heap) (hS : va_S A s.heap H locs) (hown : s.vm.findClass own = some m.cls) (hlink : (Cond.fieldLink own index ref nm d).before args s = true) (hsame : ∀ x, s.fieldFound? o nm d = some x → s.fieldFound? ref nm d = some x) (hdg : decode cc pc = .ok (.getfield index, 3))
    (kk : W p l e R s m args below meth c H locs cells slots Q (F0 m (pc + 3) ls (v :: rest))) : W p l e R s m args below meth c H locs cells slots Q (F0 m pc ls (.ref t :: rest)) := by
  obtain ⟨cf, k, fi, f, cell, h1, h2, h3, h4, h5, h6⟩ := hF.kept hS.2.1
  exact W.getf hexec hb hown hlink (hsame _ h1) h2 h3 h4 (v := v) h5 rfl rfl hdg kk
theorem zf_crkl (S : CallFix p m c cc nL s args Ts own) (hE : zEx B0 ad al sw Sg w0 s) (hAB : ∀ q, A q → B0 ≤ q) (hlink : (Cond.fieldLink own index "RungMoney$Key" "code" "J").before args s = true) :
    zf_CR p l e R s m args below meth c cells slots Q cc D cl A s.heap Sg k GT θ0 nL (.getfield index) 3 zf_mKL := by
  intro H locs ws ρ θ vs rest pc ls hP hD hS ht hθ hpre hdg hls hcat kk
  obtain ⟨e1, e2, e3, -⟩ := hpre
  obtain ⟨v, vs, rfl, ⟨rfl, hg⟩, e4⟩ := zf_f2_c e3
  cases zf_nil e4
  obtain ⟨i, hi, hai⟩ := hE.2.2.1.1 _ hg
  have hai : θ 64 = ad i := hai
  show W p l e R s m args below meth c H locs cells slots Q (F0 m pc ls (.ref (θ 64) :: rest))
  rw [hai]
  obtain ⟨f, hf⟩ := hE.2.2.2.2.2.2.2.2
  refine z_getOF (o := RX2) (nm := "code") (d := "J") (v := .long (f.1 i)) S.1 S.2.1 ((hf i hi).narrow hAB) hS S.2.2.2.1 hlink (fun _ h9 => h9) hdg ?_
  exact kk (some (.long (f.1 i))) ws H locs ⟨⟨_, List.mem_cons_self, ρ, θ, fun _ _ => rfl, fun _ _ => rfl, e1, fun g hg => (by cases hg), fun h hh => (by cases hh), ⟨_, rfl⟩⟩, ht, fun _ _ _ _ _ _ h => h⟩ hP hD hS
theorem zf_crra (S : CallFix p m c cc nL s args Ts own) (hE : zEx B0 ad al sw Sg w0 s) (hAB : ∀ q, A q → B0 ≤ q) :
    zf_CR p l e R s m args below meth c cells slots Q cc D cl A s.heap Sg k GT θ0 nL .aaload 1 zf_mRA := by
  intro H locs ws ρ θ vs rest pc ls hP hD hS ht hθ hpre hdg hls hcat kk
  obtain ⟨e1, e2, e3, -⟩ := hpre
  obtain ⟨v, vs, rfl, ⟨x, rfl, ex⟩, e4⟩ := zf_f2_c e3
  obtain ⟨v, vs, rfl, ⟨rfl, hg⟩, e5⟩ := zf_f2_c e4
  cases zf_nil e5
  have hal : θ 64 = al := hE.2.2.1.2.2.1 _ hg
  show W p l e R s m args below meth c H locs cells slots Q (F0 m pc ls (.int x :: .ref (θ 64) :: rest))
  rw [hal]
  rw [zf_v_sym] at ex
  have hb : 0 ≤ ρ 0 ∧ ρ 0 ≤ 23 := e1 0
  obtain ⟨n1, n2⟩ := zi_in (i := x) (n := 24) (by omega) (by omega)
  refine vb_tq (C := "RungMoney$Key") S.1 S.2.1 (hE.2.2.2.2.2.1.narrow hAB) hS n1 rfl hdg ?_
  have hlt : x.toNatClampNeg < 24 := by omega
  refine kk (some (.ref (ad x.toNatClampNeg))) ws H locs ⟨⟨_, List.mem_cons_self, ρ, zf_upr θ 65 (ad x.toNatClampNeg), fun _ _ => rfl, fun j hj => if_neg (Nat.ne_of_lt hj), e1, fun g hg => (by cases hg), fun h hh => (by cases hh), ⟨rfl, ?_⟩⟩, ht, fun _ _ _ _ _ _ h => h⟩ hP hD hS
  show Sg (zf_upr θ 65 (ad x.toNatClampNeg) 65) = _
  rw [show zf_upr θ 65 (ad x.toNatClampNeg) 65 = ad x.toNatClampNeg from if_pos rfl]
  exact hE.2.2.1.2.1 _ hlt
theorem zf_crri (S : CallFix p m c cc nL s args Ts own) (hE : zEx B0 ad al sw Sg w0 s) (hAB : ∀ q, A q → B0 ≤ q) :
    zf_CR p l e R s m args below meth c cells slots Q cc D cl A s.heap Sg k GT θ0 nL .iaload 1 zf_mRI := by
  intro H locs ws ρ θ vs rest pc ls hP hD hS ht hθ hpre hdg hls hcat kk
  obtain ⟨e1, e2, e3, -⟩ := hpre
  obtain ⟨v, vs, rfl, ⟨x, rfl, ex⟩, e4⟩ := zf_f2_c e3
  obtain ⟨v, vs, rfl, ⟨rfl, hg⟩, e5⟩ := zf_f2_c e4
  cases zf_nil e5
  have hal : θ 64 = sw := hE.2.2.1.2.2.2.2.1 _ hg
  show W p l e R s m args below meth c H locs cells slots Q (F0 m pc ls (.int x :: .ref (θ 64) :: rest))
  rw [hal]
  rw [zf_v_sym] at ex
  have hb : 0 ≤ ρ 0 ∧ ρ 0 ≤ 23 := e1 0
  obtain ⟨n1, n2⟩ := zi_in (i := x) (n := 24) (by omega) (by omega)
  obtain ⟨f, hf⟩ := hE.2.2.2.2.2.2.2.1
  refine va_ti S.1 S.2.1 (hf.narrow hAB) hS n1 rfl hdg ?_
  refine kk (some (.int (f x.toNatClampNeg))) ws H locs ⟨⟨_, List.mem_cons_self, zf_up ρ 1 (f x.toNatClampNeg).toInt, θ, fun j hj => if_neg (Nat.ne_of_lt hj), fun _ _ => rfl, zf_okE1 e1 ⟨zi_lo _, zi_hi _⟩, fun g hg => (by cases hg), fun h hh => (by cases hh), ⟨_, rfl, ?_⟩⟩, ht, fun _ _ _ _ _ _ h => h⟩ hP hD hS
  rw [zf_v_sym, zf_up_n]
theorem zf_crrn (S : CallFix p m c cc nL s args Ts own) (hE : zEx B0 ad al sw Sg w0 s) (hAB : ∀ q, A q → B0 ≤ q) :
    zf_CR p l e R s m args below meth c cells slots Q cc D cl A s.heap Sg k GT θ0 nL .arraylength 1 (zf_mRN 129) := by
  intro H locs ws ρ θ vs rest pc ls hP hD hS ht hθ hpre hdg hls hcat kk
  obtain ⟨e1, e2, e3, -⟩ := hpre
  obtain ⟨v, vs, rfl, ⟨rfl, hg⟩, e4⟩ := zf_f2_c e3
  cases zf_nil e4
  have hal : θ 64 = al := hE.2.2.1.2.2.1 _ hg
  show W p l e R s m args below meth c H locs cells slots Q (F0 m pc ls (.ref (θ 64) :: rest))
  rw [hal]
  refine va_tlen (v := 24) S.1 S.2.1 (hE.2.2.2.2.2.1.narrow hAB) hS rfl hdg ?_
  exact kk (some (.int 24)) ws H locs ⟨⟨_, List.mem_cons_self, ρ, θ, fun _ _ => rfl, fun _ _ => rfl, e1, fun g hg => (by cases hg), fun h hh => (by cases hh), ⟨_, rfl, by rw [zf_v_con]; decide⟩⟩, ht, fun _ _ _ _ _ _ h => h⟩ hP hD hS
end ZK
/-- a call on one of the constants, of a method that the Key inherits -/
theorem zf_crU {p : Program} {l : Launch} {e : Env} {R : Room} {s : State} {m : MethodId} {args : Array Value} {below : List Frame} {meth : Method} {c : Code} {cells slots : Nat} {Q : State → Prop} {cc bytes : ByteArray} {nL maxL index NS : Nat} {D : va_G} {A : Nat → Prop} {k : Nat → ClassId} {own owner : String} {x y : MethodName} {wsY Ts : List Cond} {rm : Room} {ret : Option FieldType} {GT : List zf_G} {M : zf_M} {Sg : Nat → Option Nat} {θ0 : Nat → Nat} {w0 : va_W} {B0 : Nat} {ad : Nat → Nat} {al sw : Nat}
    (S : CallFix p m c cc nL s args Ts own) (hE : zEx B0 ad al sw Sg w0 s) (hAB : ∀ q, A q → B0 ≤ q) (hA : ∀ q, s.heap.size ≤ q → A q) (hK : va_K D vwCl (tyz k) s) (hone : ∀ a g, Sg a = some g → g < 64 → a = θ0 g) (hsing : ∀ g, g < NS → g < 64 → Sg (θ0 g) = some g)
    (hM : zf_Con l y wsY rm D k (zEx B0 ad al sw) GT NS M) (cw : va_CU R s args own RX2 owner index x y bytes maxL ret wsY rm 0 0 0) (hf : cells + 0 ≤ R.cells ∧ slots + 0 ≤ R.slots) (hst : M.1.2.2.2.2.1 = [.inr (some (128, 64))]) :
    zf_CR p l e R s m args below meth c cells slots Q cc D vwCl A s.heap Sg k GT θ0 nL (.invokevirtual index) 3 M := by
  intro H locs ws ρ θ vs rest pc ls hP hD hS ht hθ hpre hdg hls hcat kk
  have hEx := zEx_ok B0 ad al sw
  have hone' : ∀ a g, Sg a = some g → g < 64 → a = θ g := fun a g h1 h2 => by rw [hθ g h2]; exact hone a g h1 h2
  have hsing' : ∀ g, g < NS → g < 64 → Sg (θ g) = some g := fun g h1 h2 => by rw [hθ g h2]; exact hsing g h1 h2
  have hMet := hM Sg ws ρ θ vs H.size hone' hsing' ht hpre
  have e3 := hpre.2.2.1
  rw [hst] at e3
  obtain ⟨v, vs, rfl, ⟨rfl, hg⟩, e4⟩ := zf_f2_c e3
  cases zf_nil e4
  obtain ⟨i, hi, hai⟩ := hE.2.2.1.1 _ hg
  have hai : θ 64 = ad i := hai
  have hrec := va_recvE (hE.2.2.2.1.narrow hAB) hi hS
  rw [← hai] at hrec
  have hrun := va_runU (rest := rest) (locs := locs) (e := e) (below := below) (meth := meth) (cells := cells) (slots := slots) (As := []) (b := θ 64) S hMet cw ⟨zf_blind (hEx.1 Sg ws), hrec, zf_pass hEx hE hAB hK hP hD hS⟩ (g := F0 m pc ls (.ref (θ 64) :: rest)) rfl rfl hls rfl (lv_room (rest := rest) (ls := ls) (pc := pc) (m := m) hcat) hdg hf
  have hFc := va_free hD hS hA (List.range ws.length) (zf_whole ws)
  refine zf_callg hrun hS (fun q _ h => hFc q h) hFc (fun v t H1 locs1 ht1 hvm hB hz hk1 hS1 => ?_)
  obtain ⟨ws', z1, z2, z3, z4⟩ := hB
  rw [ht1] at z1
  obtain ⟨hP1, hD1⟩ := zf_back hP hD hS hA hk1 z1 z3
  exact kk v ws' H1 locs1 z4 hP1 hD1 hS1
/-- a call on one of the constants, of a method of its own -/
theorem zf_crVK {p : Program} {l : Launch} {e : Env} {R : Room} {s : State} {m : MethodId} {args : Array Value} {below : List Frame} {meth : Method} {c : Code} {cells slots : Nat} {Q : State → Prop} {cc bytes : ByteArray} {nL maxL index NS : Nat} {D : va_G} {A : Nat → Prop} {k : Nat → ClassId} {own : String} {y : MethodName} {wsY Ts : List Cond} {rm : Room} {ret : Option FieldType} {GT : List zf_G} {M : zf_M} {Sg : Nat → Option Nat} {θ0 : Nat → Nat} {w0 : va_W} {B0 : Nat} {ad : Nat → Nat} {al sw : Nat}
    (S : CallFix p m c cc nL s args Ts own) (hE : zEx B0 ad al sw Sg w0 s) (hAB : ∀ q, A q → B0 ≤ q) (hA : ∀ q, s.heap.size ≤ q → A q) (hK : va_K D vwCl (tyz k) s) (hone : ∀ a g, Sg a = some g → g < 64 → a = θ0 g) (hsing : ∀ g, g < NS → g < 64 → Sg (θ0 g) = some g)
    (hM : zf_Con l y wsY rm D k (zEx B0 ad al sw) GT NS M) (cw : CallW R s args own RX2 index y bytes maxL ret wsY rm 0 0 0) (hf : cells + 0 ≤ R.cells ∧ slots + 0 ≤ R.slots) (hst : M.1.2.2.2.2.1 = [.inr (some (128, 64))]) :
    zf_CR p l e R s m args below meth c cells slots Q cc D vwCl A s.heap Sg k GT θ0 nL (.invokevirtual index) 3 M := by
  intro H locs ws ρ θ vs rest pc ls hP hD hS ht hθ hpre hdg hls hcat kk
  have hEx := zEx_ok B0 ad al sw
  have hone' : ∀ a g, Sg a = some g → g < 64 → a = θ g := fun a g h1 h2 => by rw [hθ g h2]; exact hone a g h1 h2
  have hsing' : ∀ g, g < NS → g < 64 → Sg (θ g) = some g := fun g h1 h2 => by rw [hθ g h2]; exact hsing g h1 h2
  have hMet := hM Sg ws ρ θ vs H.size hone' hsing' ht hpre
  have e3 := hpre.2.2.1
  rw [hst] at e3
  obtain ⟨v, vs, rfl, ⟨rfl, hg⟩, e4⟩ := zf_f2_c e3
  cases zf_nil e4
  obtain ⟨i, hi, hai⟩ := hE.2.2.1.1 _ hg
  have hai : θ 64 = ad i := hai
  have hrec := va_recvE (hE.2.2.2.1.narrow hAB) hi hS
  rw [← hai] at hrec
  have hrun := va_runV (rest := rest) (locs := locs) (e := e) (below := below) (meth := meth) (cells := cells) (slots := slots) (As := []) (b := θ 64) S hMet cw ⟨zf_blind (hEx.1 Sg ws), hrec, zf_pass hEx hE hAB hK hP hD hS⟩ (g := F0 m pc ls (.ref (θ 64) :: rest)) rfl rfl hls rfl (lv_room (rest := rest) (ls := ls) (pc := pc) (m := m) hcat) hdg hf
  have hFc := va_free hD hS hA (List.range ws.length) (zf_whole ws)
  refine zf_callg hrun hS (fun q _ h => hFc q h) hFc (fun v t H1 locs1 ht1 hvm hB hz hk1 hS1 => ?_)
  obtain ⟨ws', z1, z2, z3, z4⟩ := hB
  rw [ht1] at z1
  obtain ⟨hP1, hD1⟩ := zf_back hP hD hS hA hk1 z1 z3
  exact kk v ws' H1 locs1 z4 hP1 hD1 hS1
