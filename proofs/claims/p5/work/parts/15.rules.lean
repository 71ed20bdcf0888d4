/-! ===== rules of single instructions, as contracts ===== -/
theorem zf_crl {p : Program} {l : Launch} {e : Env} {R : Room} {s : State} {m : MethodId} {args : Array Value} {below : List Frame} {meth : Method} {c : Code} {cells slots : Nat} {Q : State → Prop} {cc : ByteArray} {D : va_G} {cl : List vw_C} {A : Nat → Prop} {H0 : Heap} {Sg : Nat → Option Nat} {k : Nat → ClassId} {GT : List zf_G} {θ0 : Nat → Nat} {nL : Nat} {ins : List zf_X} {Ms : List zf_M} {xs : List (Instr × Nat × Nat)}
    (hall : ins.all (fun x => x.2.2.2.all (fun j => xs.any (fun z => decide (z.1 = x.2.2.1) && Nat.beq z.2.1 x.2.1 && Nat.beq z.2.2 j))) = true)
    (h : ∀ z ∈ xs, zf_CR p l e R s m args below meth c cells slots Q cc D cl A H0 Sg k GT θ0 nL z.1 z.2.1 (Ms.getD z.2.2 (([], [], 0, [], [], []), [], []))) :
    ∀ x ∈ ins, ∀ j ∈ x.2.2.2, zf_CR p l e R s m args below meth c cells slots Q cc D cl A H0 Sg k GT θ0 nL x.2.2.1 x.2.1 (Ms.getD j (([], [], 0, [], [], []), [], [])) := by
  intro x hx j hj
  rw [List.all_eq_true] at hall
  have h1 := hall x hx
  rw [List.all_eq_true] at h1
  have h1 := h1 j hj
  rw [List.any_eq_true] at h1
  obtain ⟨z, hz, h2⟩ := h1
  simp only [Bool.and_eq_true] at h2
  obtain ⟨⟨e1, e2⟩, e3⟩ := h2
  have e1 := of_decide_eq_true e1
  have e2 := Nat.eq_of_beq_eq_true e2
  have e3 := Nat.eq_of_beq_eq_true e3
  rw [← e1, ← e2, ← e3]
  exact h z hz
def zf_mC (v : Int) : zf_M := (([], [], 64, [], [], []), [], [(some (.inl (zf_con v)), ([], [], 64, [], [], []))])
def zf_mL : zf_M := (([], [], 64, [], [], []), [], [(some (.inr none), ([], [], 64, [], [], []))])
section ZY
variable {p : Program} {l : Launch} {e : Env} {R : Room} {s : State} {m : MethodId} {args : Array Value} {below : List Frame} {meth : Method} {c : Code} {cells slots : Nat} {Q : State → Prop} {cc : ByteArray} {D : va_G} {cl : List vw_C} {A : Nat → Prop} {H0 : Heap} {Sg : Nat → Option Nat} {k : Nat → ClassId} {GT : List zf_G} {θ0 : Nat → Nat} {nL : Nat} {own : String} {index : Nat}
theorem zf_stay {M : zf_M} {ρ : Nat → Int} {θ : Nat → Nat} {ws : va_W} (ht : zf_typ Sg k GT ws) (hE : zf_okE M.1.1 ρ) (hF : zf_okF M.1.2.1 ρ) {o : zf_O} (ho : o ∈ M.2.2) (h1 : o.2.1 = M.1.1) (h2 : ∀ g ∈ o.2.2.1, 0 ≤ zf_v ρ g) (h3 : o.2.2.2.2.2.2 = []) {v : Option Value} (hv : zf_rok Sg ρ θ o.1 v) : zf_post Sg k GT ρ θ M ws v ws :=
  ⟨⟨o, ho, ρ, θ, fun _ _ => rfl, fun _ _ => rfl, by rw [h1]; exact hE, h2, fun h hh => (by rw [h3] at hh; cases hh), hv⟩, ht, fun _ _ _ _ _ _ h => h⟩
theorem zf_crldc (hx : p.tables.exec = Jvm.exec) (hb : c.code = cc) (hown : s.vm.findClass own = some m.cls) {v : Int32} (hc : (Jvm.Cond.constant own index v).before args s = true) (z : Int) (hz : v.toInt = z) : zf_CR p l e R s m args below meth c cells slots Q cc D cl A H0 Sg k GT θ0 nL (.ldc index) 2 (zf_mC z) := by
  intro H locs ws ρ θ vs rest pc ls hP hD hS ht hθ hpre hdg hls hcat kk
  obtain ⟨e1, e2, e3, -⟩ := hpre
  have hn : vs = [] := by
    cases vs with
    | nil => rfl
    | cons a t => exact e3.elim
  subst hn
  exact lv_ldc hx hb hown hc hdg (kk (some (.int v)) ws H locs (zf_stay (M := zf_mC z) ht e1 e2 List.mem_cons_self rfl (fun g hg => by cases hg) rfl ⟨v, rfl, hz⟩) hP hD hS)
theorem zf_crldcw (hx : p.tables.exec = Jvm.exec) (hb : c.code = cc) (hown : s.vm.findClass own = some m.cls) {v : Int32} (hc : (Jvm.Cond.constant own index v).before args s = true) (z : Int) (hz : v.toInt = z) : zf_CR p l e R s m args below meth c cells slots Q cc D cl A H0 Sg k GT θ0 nL (.ldc_w index) 3 (zf_mC z) := by
  intro H locs ws ρ θ vs rest pc ls hP hD hS ht hθ hpre hdg hls hcat kk
  obtain ⟨e1, e2, e3, -⟩ := hpre
  have hn : vs = [] := by
    cases vs with
    | nil => rfl
    | cons a t => exact e3.elim
  subst hn
  exact lv_ldcw hx hb hown hc hdg (kk (some (.int v)) ws H locs (zf_stay (M := zf_mC z) ht e1 e2 List.mem_cons_self rfl (fun g hg => by cases hg) rfl ⟨v, rfl, hz⟩) hP hD hS)
theorem zf_crldc2 (hx : p.tables.exec = Jvm.exec) (hb : c.code = cc) (hown : s.vm.findClass own = some m.cls) {v : Int64} (hc : (Jvm.Cond.constantLong own index v).before args s = true) : zf_CR p l e R s m args below meth c cells slots Q cc D cl A H0 Sg k GT θ0 nL (.ldc2_w index) 3 zf_mL := by
  intro H locs ws ρ θ vs rest pc ls hP hD hS ht hθ hpre hdg hls hcat kk
  obtain ⟨e1, e2, e3, -⟩ := hpre
  have hn : vs = [] := by
    cases vs with
    | nil => rfl
    | cons a t => exact e3.elim
  subst hn
  exact lv_ldc2 hx hb hown hc hdg (kk (some (.long v)) ws H locs (zf_stay (M := zf_mL) ht e1 e2 List.mem_cons_self rfl (fun g hg => by cases hg) rfl ⟨v, rfl⟩) hP hD hS)
def zf_mMax : zf_M := (([(-2147483648, 2147483647), (-2147483648, 2147483647)], [], 64, [], [.inl (zf_sym 1), .inl (zf_sym 0)], []), [], [(some (.inl (zf_sym 0)), ([(-2147483648, 2147483647), (-2147483648, 2147483647)], [([(0, 1), (1, -1)], 0)], 64, [], [], [])), (some (.inl (zf_sym 1)), ([(-2147483648, 2147483647), (-2147483648, 2147483647)], [([(0, -1), (1, 1)], -1)], 64, [], [], []))])
def zf_mMin : zf_M := (([(-2147483648, 2147483647), (-2147483648, 2147483647)], [], 64, [], [.inl (zf_sym 1), .inl (zf_sym 0)], []), [], [(some (.inl (zf_sym 0)), ([(-2147483648, 2147483647), (-2147483648, 2147483647)], [([(0, -1), (1, 1)], 0)], 64, [], [], [])), (some (.inl (zf_sym 1)), ([(-2147483648, 2147483647), (-2147483648, 2147483647)], [([(0, 1), (1, -1)], -1)], 64, [], [], []))])
theorem zf_two1 (ρ : Nat → Int) (a b k : Int) : zf_v ρ ([(0, a), (1, b)], k) = a * ρ 0 + (b * ρ 1 + k) := rfl
theorem zf_crmax (hx : p.tables.exec = Jvm.exec) (hb : c.code = cc) (hml : c.maxLocals = nL) (hown : s.vm.findClass own = some m.cls) (hlink : (Cond.methodLink own index Lib.Math.max.name).before args s = true) (hstat : (Cond.static Lib.Math.max.name).before args s = true) (hini : (Cond.initialized "java/lang/Math").before args s = true) (hcode : (Cond.code Lib.Math.max.name Lib.Math.max.code 2 (some .int)).before args s = true) (hf : 1 ≤ R.frames) (hlo : 21 ≤ R.locals) (hce : cells ≤ R.cells) (hsl : slots ≤ R.slots) :
    zf_CR p l e R s m args below meth c cells slots Q cc D cl A H0 Sg k GT θ0 nL (.invokestatic index) 3 zf_mMax := by
  intro H locs ws ρ θ vs rest pc ls hP hD hS ht hθ hpre hdg hls hcat kk
  obtain ⟨e1, e2, e3, -⟩ := hpre
  obtain ⟨v, vs, rfl, hv, e3⟩ := zf_f2_c e3
  obtain ⟨w, vs, rfl, hw, e3⟩ := zf_f2_c e3
  have hn : vs = [] := by
    cases vs with
    | nil => rfl
    | cons a t => exact e3.elim
  subst hn
  obtain ⟨y, rfl, ey⟩ := hv
  obtain ⟨x, rfl, ex⟩ := hw
  rw [zf_v_sym] at ex ey
  refine va_mmax (rest := rest) hx hb (by rw [hml, hls]) hown hlink hstat hini hcode hf (by omega) hce hsl hdg ?_
  by_cases hlt : x < y
  · rw [if_pos hlt]
    have := Int32.lt_iff_toInt_lt.mp hlt
    exact kk (some (.int y)) ws H locs (zf_stay (M := zf_mMax) (o := zf_mMax.2.2[1]) ht e1 e2 (List.mem_cons_of_mem _ List.mem_cons_self) rfl (fun g hg => by rw [List.mem_singleton.mp hg, zf_two1]; omega) rfl ⟨y, rfl, by rw [zf_v_sym]; exact ey⟩) hP hD hS
  · rw [if_neg hlt]
    have : ¬ x.toInt < y.toInt := fun q => hlt (Int32.lt_iff_toInt_lt.mpr q)
    exact kk (some (.int x)) ws H locs (zf_stay (M := zf_mMax) (o := zf_mMax.2.2[0]) ht e1 e2 List.mem_cons_self rfl (fun g hg => by rw [List.mem_singleton.mp hg, zf_two1]; omega) rfl ⟨x, rfl, by rw [zf_v_sym]; exact ex⟩) hP hD hS
theorem zf_crmin (hx : p.tables.exec = Jvm.exec) (hb : c.code = cc) (hml : c.maxLocals = nL) (hown : s.vm.findClass own = some m.cls) (hlink : (Cond.methodLink own index Lib.Math.min.name).before args s = true) (hstat : (Cond.static Lib.Math.min.name).before args s = true) (hini : (Cond.initialized "java/lang/Math").before args s = true) (hcode : (Cond.code Lib.Math.min.name Lib.Math.min.code 2 (some .int)).before args s = true) (hf : 1 ≤ R.frames) (hlo : 21 ≤ R.locals) (hce : cells ≤ R.cells) (hsl : slots ≤ R.slots) :
    zf_CR p l e R s m args below meth c cells slots Q cc D cl A H0 Sg k GT θ0 nL (.invokestatic index) 3 zf_mMin := by
  intro H locs ws ρ θ vs rest pc ls hP hD hS ht hθ hpre hdg hls hcat kk
  obtain ⟨e1, e2, e3, -⟩ := hpre
  obtain ⟨v, vs, rfl, hv, e3⟩ := zf_f2_c e3
  obtain ⟨w, vs, rfl, hw, e3⟩ := zf_f2_c e3
  have hn : vs = [] := by
    cases vs with
    | nil => rfl
    | cons a t => exact e3.elim
  subst hn
  obtain ⟨y, rfl, ey⟩ := hv
  obtain ⟨x, rfl, ex⟩ := hw
  rw [zf_v_sym] at ex ey
  refine va_mmin (rest := rest) hx hb (by rw [hml, hls]) hown hlink hstat hini hcode hf (by omega) hce hsl hdg ?_
  split
  · rename_i hlt
    have hlt := Int32.lt_iff_toInt_lt.mp hlt
    exact kk (some (.int y)) ws H locs (zf_stay (M := zf_mMin) (o := zf_mMin.2.2[1]) ht e1 e2 (List.mem_cons_of_mem _ List.mem_cons_self) rfl (fun g hg => by rw [List.mem_singleton.mp hg, zf_two1]; omega) rfl ⟨y, rfl, by rw [zf_v_sym]; exact ey⟩) hP hD hS
  · rename_i hlt
    have : ¬ y.toInt < x.toInt := fun q => hlt (Int32.lt_iff_toInt_lt.mpr q)
    exact kk (some (.int x)) ws H locs (zf_stay (M := zf_mMin) (o := zf_mMin.2.2[0]) ht e1 e2 List.mem_cons_self rfl (fun g hg => by rw [List.mem_singleton.mp hg, zf_two1]; omega) rfl ⟨x, rfl, by rw [zf_v_sym]; exact ex⟩) hP hD hS
/-- System.arraycopy between two rows of like kinds, from and to the same place -/
def zf_mCp (gs rs gd rd r : Nat) (n dp : Int) : zf_M := (([], [], r, [], [.inl (zf_con n), .inl (zf_con dp), .inr (some (gd, rd)), .inl (zf_con dp), .inr (some (gs, rs))], []), [(gd, zf_con dp, zf_con (dp + n - 1))], [(none, ([], [], r, [], [], []))])
theorem zf_crcpI (hx : p.tables.exec = Jvm.exec) (hb : c.code = cc) (hml : c.maxLocals = nL) (hK : va_K D cl (zf_tys k) s) (hown : s.vm.findClass own = some m.cls) (hlink : (Cond.methodLink own index arraycopyName).before args s = true) (hnat : (Cond.native arraycopyName).before args s = true) (hstat : (Cond.static arraycopyName).before args s = true) (hini : (Cond.initialized "java/lang/System").before args s = true) (hf : 1 ≤ R.frames) (hlo : 60 ≤ R.locals)
    {gs rs gd rd r : Nat} {n dp : Int} (hgs : zf_knd GT gs true 0 = true) (hgd : zf_knd GT gd true 0 = true) (hsp : (zf_gi GT gs).2.2 = (zf_gi GT gd).2.2) (hall : (zf_gi GT gd).2.2.all (fun q => match q.2 with | .inl _ => true | _ => false) = true) (hn : 0 ≤ n) (hdp : 0 ≤ dp) (hlen : dp + n ≤ zf_len (zf_gi GT gd).2.2) (hpos : 0 < zf_len (zf_gi GT gd).2.2) :
    zf_CR p l e R s m args below meth c cells slots Q cc D cl A H0 Sg k GT θ0 nL (.invokestatic index) 3 (zf_mCp gs rs gd rd r n dp) := by
  intro H locs ws ρ θ vs rest pc ls hP hD hS ht hθ hpre hdg hls hcat kk
  obtain ⟨e1, e2, e3, -⟩ := hpre
  obtain ⟨v1, vs, rfl, h1, e3⟩ := zf_f2_c e3
  obtain ⟨v2, vs, rfl, h2, e3⟩ := zf_f2_c e3
  obtain ⟨v3, vs, rfl, h3, e3⟩ := zf_f2_c e3
  obtain ⟨v4, vs, rfl, h4, e3⟩ := zf_f2_c e3
  obtain ⟨v5, vs, rfl, h5, e3⟩ := zf_f2_c e3
  have hnil : vs = [] := by
    cases vs with
    | nil => rfl
    | cons a t => exact e3.elim
  subst hnil
  obtain ⟨xn, rfl, en⟩ := h1
  obtain ⟨xd, rfl, ed⟩ := h2
  obtain ⟨rfl, g3⟩ := h3
  obtain ⟨xs, rfl, es⟩ := h4
  obtain ⟨rfl, g5⟩ := h5
  rw [zf_v_con] at en ed es
  obtain ⟨a1, a2, a3⟩ := zf_knd_ok hgs
  obtain ⟨b1, b2, b3⟩ := zf_knd_ok hgd
  have g3 : Sg (θ rd) = some gd := g3
  have g5 : Sg (θ rs) = some gs := g5
  obtain ⟨q0, e0, p1, p2⟩ := ht _ _ g5 a3
  obtain ⟨q1, e1', r1, r2⟩ := ht _ _ g3 b3
  have p1 : ws[q0]? = some (θ rs, e0) := p1
  have r1 : ws[q1]? = some (θ rd, e1') := r1
  obtain ⟨x, rfl⟩ := zf_arr p2 a1 a2
  obtain ⟨y, rfl⟩ := zf_arr r2 b1 b2
  have sort : ∀ (i : Nat) (pp : zf_P), zf_sp (zf_gi GT gd).2.2 i = some pp → (match pp with | .inl _ => true | _ => false) = true := by
    rw [List.all_eq_true] at hall
    intro i pp
    have : ∀ (t : List (Nat × zf_P)), (∀ q ∈ t, (match q.2 with | .inl _ => true | _ => false) = true) → zf_sp t i = some pp → (match pp with | .inl _ => true | _ => false) = true := by
      intro t
      induction t with
      | nil => intro _ h; cases h
      | cons q t ih =>
        intro hq h
        unfold zf_sp at h
        split at h
        · cases h; exact hq q List.mem_cons_self
        · exact ih (fun z hz => hq z (List.mem_cons_of_mem _ hz)) h
    exact this _ hall
  obtain ⟨pp, hpp⟩ := zf_sp_some hpos
  obtain ⟨f, rfl⟩ : ∃ f, x = .inl f := by
    obtain ⟨v, hv1, hv2⟩ := p2.2 0 pp (by rw [hsp]; exact hpp)
    rw [zf_getA (by rw [hsp]; exact hpos)] at hv1
    cases hv1
    have := sort 0 pp hpp
    split at this
    · obtain ⟨z, hz, -⟩ := hv2; obtain ⟨f, hf', -⟩ := zf_elI hz; exact ⟨f, hf'⟩
    · cases this
  obtain ⟨g, rfl⟩ : ∃ f, y = .inl f := by
    obtain ⟨v, hv1, hv2⟩ := r2.2 0 pp hpp
    rw [zf_getA hpos] at hv1
    cases hv1
    have := sort 0 pp hpp
    split at this
    · obtain ⟨z, hz, -⟩ := hv2; obtain ⟨f, hf', -⟩ := zf_elI hz; exact ⟨f, hf'⟩
    · cases this
  have z0 : (0 : Int32).toInt = 0 := by decide
  have nn : xn.toNatClampNeg = xn.toInt.toNat := rfl
  have nd : xd.toNatClampNeg = xd.toInt.toNat := rfl
  have ns : xs.toNatClampNeg = xs.toInt.toNat := rfl
  have hlen2 : zf_len (zf_gi GT gs).2.2 = zf_len (zf_gi GT gd).2.2 := by rw [hsp]
  refine va_copyi (rest := rest) hx hb (by rw [hml, hls]) hown hlink hnat hstat hini hK hP hD hS q0 q1 0 0 p1 r1 rfl rfl rfl (fun h => by have := Int32.lt_iff_toInt_lt.mp h; omega) (fun h => by have := Int32.lt_iff_toInt_lt.mp h; omega) (fun h => by have := Int32.lt_iff_toInt_lt.mp h; omega) (by omega) (by omega) (fun _ _ => rfl) hf (Nat.le_trans (Nat.add_le_add_right hcat _) (Nat.le_trans (by decide +kernel) hlo)) hdg (fun H1 locs1 hP1 hD1 hS1 => ?_)
  have hlt : q1 < ws.length := (List.getElem?_eq_some_iff.mp r1).1
  have hval : ∀ i, i < zf_len (zf_gi GT gd).2.2 → (Value.int (va_cpy f g xs.toNatClampNeg xd.toNatClampNeg xn.toNatClampNeg i)) = if dp ≤ (i : Int) ∧ (i : Int) < dp + n then (Value.int (f i)) else (Value.int (g i)) := by
    intro i hi
    unfold va_cpy
    by_cases hc : dp ≤ (i : Int) ∧ (i : Int) < dp + n
    · rw [if_pos hc, if_pos (by omega), show xs.toNatClampNeg + (i - xd.toNatClampNeg) = i by omega]
    · rw [if_neg hc, if_neg (by omega)]
  refine kk none _ H1 locs1 ⟨⟨(none, ([], [], r, [], [], [])), List.mem_cons_self, ρ, θ, fun _ _ => rfl, fun _ _ => rfl, e1, e2, fun h hh => (by cases hh), trivial⟩, ?_, ?_⟩ hP1 hD1 hS1
  · intro b g' hb' hlt'
    obtain ⟨q', en', s1, s2⟩ := ht b g' hb' hlt'
    by_cases hqq : q' = q1
    · subst hqq
      cases r1.symm.trans s1
      cases g3.symm.trans hb'
      refine ⟨q', _, by rw [List.getElem?_set_self hlt], ⟨?_, ?_⟩⟩
      · rw [b1]; exact ⟨_, by rw [b2]⟩
      · intro i pi hi
        have hil : i < zf_len (zf_gi GT gd).2.2 := by
          by_cases hq : i < zf_len (zf_gi GT gd).2.2
          · exact hq
          · obtain ⟨v, hv1, -⟩ := s2.2 i pi hi
            rw [show zf_get (Sum.inl (k 0, zf_len (zf_gi GT gd).2.2, .inl g)) i = none from if_neg hq] at hv1
            cases hv1
        refine ⟨_, zf_getA hil, ?_⟩
        show zf_pok Sg pi (Value.int (va_cpy f g xs.toNatClampNeg xd.toNatClampNeg xn.toNatClampNeg i))
        rw [hval i hil]
        split
        · obtain ⟨v, hv1, hv2⟩ := p2.2 i pi (by rw [hsp]; exact hi)
          rw [zf_getA (by omega)] at hv1
          cases hv1
          exact hv2
        · obtain ⟨v, hv1, hv2⟩ := s2.2 i pi hi
          rw [zf_getA hil] at hv1
          cases hv1
          exact hv2
    · exact ⟨q', en', by rw [List.getElem?_set_ne (fun h => hqq h.symm)]; exact s1, s2⟩
  · intro b g' i v hb' hni hr
    obtain ⟨q', en', s1, s2⟩ := hr
    by_cases hqq : q' = q1
    · subst hqq
      cases r1.symm.trans s1
      cases g3.symm.trans hb'
      have hil : i < zf_len (zf_gi GT gd).2.2 := by
        by_cases hq : i < zf_len (zf_gi GT gd).2.2
        · exact hq
        · rw [show zf_get (Sum.inl (k 0, zf_len (zf_gi GT gd).2.2, .inl g)) i = none from if_neg hq] at s2
          cases s2
      refine ⟨q', _, by rw [List.getElem?_set_self hlt], ?_⟩
      rw [zf_getA hil] at s2 ⊢
      rw [← s2]
      show some (Value.int (va_cpy f g xs.toNatClampNeg xd.toNatClampNeg xn.toNatClampNeg i)) = some (Value.int (g i))
      rw [hval i hil, if_neg]
      intro hc
      exact hni ⟨(gd, zf_con dp, zf_con (dp + n - 1)), List.mem_cons_self, rfl, by show zf_v ρ (zf_con dp) ≤ _; rw [zf_v_con]; omega, by show _ ≤ zf_v ρ (zf_con (dp + n - 1)); rw [zf_v_con]; omega⟩
    · exact ⟨q', en', by rw [List.getElem?_set_ne (fun h => hqq h.symm)]; exact s1, s2⟩

theorem zf_crcpL (hx : p.tables.exec = Jvm.exec) (hb : c.code = cc) (hml : c.maxLocals = nL) (hK : va_K D cl (zf_tys k) s) (hown : s.vm.findClass own = some m.cls) (hlink : (Cond.methodLink own index arraycopyName).before args s = true) (hnat : (Cond.native arraycopyName).before args s = true) (hstat : (Cond.static arraycopyName).before args s = true) (hini : (Cond.initialized "java/lang/System").before args s = true) (hf : 1 ≤ R.frames) (hlo : 60 ≤ R.locals)
    {gs rs gd rd r : Nat} {n dp : Int} (hgs : zf_knd GT gs true 1 = true) (hgd : zf_knd GT gd true 1 = true) (hsp : (zf_gi GT gs).2.2 = (zf_gi GT gd).2.2) (hall : (zf_gi GT gd).2.2.all (fun q => match q.2 with | .inr none => true | _ => false) = true) (hn : 0 ≤ n) (hdp : 0 ≤ dp) (hlen : dp + n ≤ zf_len (zf_gi GT gd).2.2) (hpos : 0 < zf_len (zf_gi GT gd).2.2) :
    zf_CR p l e R s m args below meth c cells slots Q cc D cl A H0 Sg k GT θ0 nL (.invokestatic index) 3 (zf_mCp gs rs gd rd r n dp) := by
  intro H locs ws ρ θ vs rest pc ls hP hD hS ht hθ hpre hdg hls hcat kk
  obtain ⟨e1, e2, e3, -⟩ := hpre
  obtain ⟨v1, vs, rfl, h1, e3⟩ := zf_f2_c e3
  obtain ⟨v2, vs, rfl, h2, e3⟩ := zf_f2_c e3
  obtain ⟨v3, vs, rfl, h3, e3⟩ := zf_f2_c e3
  obtain ⟨v4, vs, rfl, h4, e3⟩ := zf_f2_c e3
  obtain ⟨v5, vs, rfl, h5, e3⟩ := zf_f2_c e3
  have hnil : vs = [] := by
    cases vs with
    | nil => rfl
    | cons a t => exact e3.elim
  subst hnil
  obtain ⟨xn, rfl, en⟩ := h1
  obtain ⟨xd, rfl, ed⟩ := h2
  obtain ⟨rfl, g3⟩ := h3
  obtain ⟨xs, rfl, es⟩ := h4
  obtain ⟨rfl, g5⟩ := h5
  rw [zf_v_con] at en ed es
  obtain ⟨a1, a2, a3⟩ := zf_knd_ok hgs
  obtain ⟨b1, b2, b3⟩ := zf_knd_ok hgd
  have g3 : Sg (θ rd) = some gd := g3
  have g5 : Sg (θ rs) = some gs := g5
  obtain ⟨q0, e0, p1, p2⟩ := ht _ _ g5 a3
  obtain ⟨q1, e1', r1, r2⟩ := ht _ _ g3 b3
  have p1 : ws[q0]? = some (θ rs, e0) := p1
  have r1 : ws[q1]? = some (θ rd, e1') := r1
  obtain ⟨x, rfl⟩ := zf_arr p2 a1 a2
  obtain ⟨y, rfl⟩ := zf_arr r2 b1 b2
  have sort : ∀ (i : Nat) (pp : zf_P), zf_sp (zf_gi GT gd).2.2 i = some pp → (match pp with | .inr none => true | _ => false) = true := by
    rw [List.all_eq_true] at hall
    intro i pp
    have : ∀ (t : List (Nat × zf_P)), (∀ q ∈ t, (match q.2 with | .inr none => true | _ => false) = true) → zf_sp t i = some pp → (match pp with | .inr none => true | _ => false) = true := by
      intro t
      induction t with
      | nil => intro _ h; cases h
      | cons q t ih =>
        intro hq h
        unfold zf_sp at h
        split at h
        · cases h; exact hq q List.mem_cons_self
        · exact ih (fun z hz => hq z (List.mem_cons_of_mem _ hz)) h
    exact this _ hall
  obtain ⟨pp, hpp⟩ := zf_sp_some hpos
  obtain ⟨f, rfl⟩ : ∃ f, x = .inr (.inl f) := by
    obtain ⟨v, hv1, hv2⟩ := p2.2 0 pp (by rw [hsp]; exact hpp)
    rw [zf_getA (by rw [hsp]; exact hpos)] at hv1
    cases hv1
    have := sort 0 pp hpp
    split at this
    · obtain ⟨z, hz⟩ := hv2; obtain ⟨f, hf', -⟩ := zf_elL hz; exact ⟨f, hf'⟩
    · cases this
  obtain ⟨g, rfl⟩ : ∃ f, y = .inr (.inl f) := by
    obtain ⟨v, hv1, hv2⟩ := r2.2 0 pp hpp
    rw [zf_getA hpos] at hv1
    cases hv1
    have := sort 0 pp hpp
    split at this
    · obtain ⟨z, hz⟩ := hv2; obtain ⟨f, hf', -⟩ := zf_elL hz; exact ⟨f, hf'⟩
    · cases this
  have z0 : (0 : Int32).toInt = 0 := by decide
  have nn : xn.toNatClampNeg = xn.toInt.toNat := rfl
  have nd : xd.toNatClampNeg = xd.toInt.toNat := rfl
  have ns : xs.toNatClampNeg = xs.toInt.toNat := rfl
  have hlen2 : zf_len (zf_gi GT gs).2.2 = zf_len (zf_gi GT gd).2.2 := by rw [hsp]
  refine va_copyl (rest := rest) hx hb (by rw [hml, hls]) hown hlink hnat hstat hini hK hP hD hS q0 q1 1 1 p1 r1 rfl rfl rfl (fun h => by have := Int32.lt_iff_toInt_lt.mp h; omega) (fun h => by have := Int32.lt_iff_toInt_lt.mp h; omega) (fun h => by have := Int32.lt_iff_toInt_lt.mp h; omega) (by omega) (by omega) (fun _ _ => rfl) hf (Nat.le_trans (Nat.add_le_add_right hcat _) (Nat.le_trans (by decide +kernel) hlo)) hdg (fun H1 locs1 hP1 hD1 hS1 => ?_)
  have hlt : q1 < ws.length := (List.getElem?_eq_some_iff.mp r1).1
  have hval : ∀ i, i < zf_len (zf_gi GT gd).2.2 → (Value.long (va_cpy f g xs.toNatClampNeg xd.toNatClampNeg xn.toNatClampNeg i)) = if dp ≤ (i : Int) ∧ (i : Int) < dp + n then (Value.long (f i)) else (Value.long (g i)) := by
    intro i hi
    unfold va_cpy
    by_cases hc : dp ≤ (i : Int) ∧ (i : Int) < dp + n
    · rw [if_pos hc, if_pos (by omega), show xs.toNatClampNeg + (i - xd.toNatClampNeg) = i by omega]
    · rw [if_neg hc, if_neg (by omega)]
  refine kk none _ H1 locs1 ⟨⟨(none, ([], [], r, [], [], [])), List.mem_cons_self, ρ, θ, fun _ _ => rfl, fun _ _ => rfl, e1, e2, fun h hh => (by cases hh), trivial⟩, ?_, ?_⟩ hP1 hD1 hS1
  · intro b g' hb' hlt'
    obtain ⟨q', en', s1, s2⟩ := ht b g' hb' hlt'
    by_cases hqq : q' = q1
    · subst hqq
      cases r1.symm.trans s1
      cases g3.symm.trans hb'
      refine ⟨q', _, by rw [List.getElem?_set_self hlt], ⟨?_, ?_⟩⟩
      · rw [b1]; exact ⟨_, by rw [b2]⟩
      · intro i pi hi
        have hil : i < zf_len (zf_gi GT gd).2.2 := by
          by_cases hq : i < zf_len (zf_gi GT gd).2.2
          · exact hq
          · obtain ⟨v, hv1, -⟩ := s2.2 i pi hi
            rw [show zf_get (Sum.inl (k 1, zf_len (zf_gi GT gd).2.2, .inr (.inl g))) i = none from if_neg hq] at hv1
            cases hv1
        refine ⟨_, zf_getA hil, ?_⟩
        show zf_pok Sg pi (Value.long (va_cpy f g xs.toNatClampNeg xd.toNatClampNeg xn.toNatClampNeg i))
        rw [hval i hil]
        split
        · obtain ⟨v, hv1, hv2⟩ := p2.2 i pi (by rw [hsp]; exact hi)
          rw [zf_getA (by omega)] at hv1
          cases hv1
          exact hv2
        · obtain ⟨v, hv1, hv2⟩ := s2.2 i pi hi
          rw [zf_getA hil] at hv1
          cases hv1
          exact hv2
    · exact ⟨q', en', by rw [List.getElem?_set_ne (fun h => hqq h.symm)]; exact s1, s2⟩
  · intro b g' i v hb' hni hr
    obtain ⟨q', en', s1, s2⟩ := hr
    by_cases hqq : q' = q1
    · subst hqq
      cases r1.symm.trans s1
      cases g3.symm.trans hb'
      have hil : i < zf_len (zf_gi GT gd).2.2 := by
        by_cases hq : i < zf_len (zf_gi GT gd).2.2
        · exact hq
        · rw [show zf_get (Sum.inl (k 1, zf_len (zf_gi GT gd).2.2, .inr (.inl g))) i = none from if_neg hq] at s2
          cases s2
      refine ⟨q', _, by rw [List.getElem?_set_self hlt], ?_⟩
      rw [zf_getA hil] at s2 ⊢
      rw [← s2]
      show some (Value.long (va_cpy f g xs.toNatClampNeg xd.toNatClampNeg xn.toNatClampNeg i)) = some (Value.long (g i))
      rw [hval i hil, if_neg]
      intro hc
      exact hni ⟨(gd, zf_con dp, zf_con (dp + n - 1)), List.mem_cons_self, rfl, by show zf_v ρ (zf_con dp) ≤ _; rw [zf_v_con]; omega, by show _ ≤ zf_v ρ (zf_con (dp + n - 1)); rw [zf_v_con]; omega⟩
    · exact ⟨q', en', by rw [List.getElem?_set_ne (fun h => hqq h.symm)]; exact s1, s2⟩
end ZY
