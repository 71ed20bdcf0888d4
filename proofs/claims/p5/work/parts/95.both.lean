/-! ===== a call of the law with two contracts at once ===== -/
section LKB
variable {p : Program} {l : Launch} {e : Env} {s : State} {m : MethodId} {below : List Frame} {meth : Method} {c : Code} {Q : State → Prop} {b L : Nat} {xs : Nat → Int32} {D : va_G} {k : Nat → ClassId} {az : Nat → Nat} {al sw : Nat} {Sg : Nat → Option Nat} {th : Nat → Nat} {cells slots : Nat} {i : Int32} {H : Heap} {locs : List Loc} {ls : Array Slot} {ws : va_W} {M : zf_M} {t : Int32}
theorem lk_both {y : MethodName} {wsY : List Cond} {rm : Room} {bytes : ByteArray} {maxL n idx g ci pc : Nat} {ret : Option FieldType} {C : String} {as : List Int32} {rest : List Value} {B2 : Option Value → State → Prop} {q : vw_C} (C0 : lw_At p s m meth c b L xs) (hC : lh_C s D k az al sw Sg th)
    (h1 : Met l y wsY rm (va_Pc ((as.map Value.int).reverse ++ [Value.ref (th g)]).reverse (g_pr D k (zEx s.heap.size az al sw Sg ws) H.size ws)) (zf_Q (zf_po D k Sg zGT (lk_as as t) th M ws (va_A ws H.size)) (va_A ws H.size)) 0 0 (va_A ws H.size))
    (h2 : Met l y wsY rm (va_Pc ((as.map Value.int).reverse ++ [Value.ref (th g)]).reverse (g_pr D k (zEx s.heap.size az al sw Sg ws) H.size ws)) (zf_Q B2 (va_A ws H.size)) 0 0 (va_A ws H.size))
    (cw : CallW room_1 s #[Value.ref b] RL C idx y bytes maxL ret wsY rm 0 0 n) (hcs : cells + 0 ≤ room_1.cells ∧ slots + 0 ≤ room_1.slots) (hcl : vwCl[ci]? = some q) (hqC : q.1 = C) (hkn : zf_knd zGT g false ci = true) (hg37 : g < 37) (hty : zf_tyo (some .int) M = true)
    (hn : as.length = n) (hP : va_P D vwCl ws H) (hD : va_D (lk_A s) ws) (hS : va_S (lk_A s) s.heap H locs) (ht : zf_typ Sg k zGT ws) (hl : lv_has ls 7 (lk_lv th b i)) (hdg : decode code pc = .ok (.invokevirtual idx, 3)) (hcat : (rest.map fun v => v.category).sum ≤ 8)
    (kk : ∀ (x : Int32) (ws' : va_W) (H1 : Heap) (locs1 : List Loc) (st : State), st.heap = H1 → va_D (va_A ws H.size) ws' → zf_post Sg k zGT (lk_as as t) th M ws (some (.int x)) ws' → B2 (some (.int x)) st → va_P D vwCl ws' H1 → va_D (lk_A s) ws' → va_S (lk_A s) s.heap H1 locs1 → W p l e room_1 s m #[Value.ref b] below meth c H1 locs1 cells slots Q (F0 m (pc + 3) ls (.int x :: rest))) :
    W p l e room_1 s m #[Value.ref b] below meth c H locs cells slots Q (F0 m pc ls ((as.map Value.int).reverse ++ .ref (th g) :: rest)) := by
  subst hqC
  obtain ⟨hx, hb, hr, hml, hown, hts, -⟩ := C0
  have S : CallFix p m c code 7 s #[Value.ref b] lw_tbl RL := ⟨hx, hb, hml, hown, hts⟩
  have hEx := zEx_ok s.heap.size az al sw
  have hA : ∀ q : Nat, s.heap.size ≤ q → lk_A s q := fun _ h => h
  have hAB : ∀ q : Nat, lk_A s q → s.heap.size ≤ q := fun _ h => h
  obtain ⟨k1, k2, k3⟩ := zf_knd_ok hkn
  have hgS : Sg (th g) = some g := hC.2.2.2 g hg37 (by omega)
  obtain ⟨q0, en, p1, p2⟩ := ht _ _ hgS k3
  obtain ⟨fs, rfl, -⟩ := zf_obj p2 k1 k2
  have hMet := Met_two h1 h2
  have hav : ((as.map Value.int).reverse ++ [Value.ref (th g)]).reverse = Value.ref (th g) :: as.map Value.int := by simp
  rw [hav] at hMet
  have hrun := va_runV (rest := rest) (locs := locs) (e := e) (below := below) (meth := meth) (cells := cells) (slots := slots) S hMet cw ⟨zf_blind (hEx.1 Sg ws), va_recv hC.1 hP hcl p1, zf_pass hEx hC.2.1 hAB hC.1 hP hD hS⟩ (g := F0 m pc ls ((as.map Value.int).reverse ++ .ref (th g) :: rest)) rfl (by rw [List.length_map]; exact hn) hl.1 rfl (lv_room (rest := rest) (ls := ls) (pc := pc) (m := m) hcat) hdg hcs
  have hFc := va_free hD hS hA (List.range ws.length) (zf_whole ws)
  refine zf_callg hrun hS (fun q _ h => hFc q h) hFc (fun v st H1 locs1 ht1 hvm hB hz hk1 hS1 => ?_)
  obtain ⟨⟨ws', z1, z2, z3, z4⟩, hb2⟩ := hB
  rw [ht1] at z1
  obtain ⟨hP1, hD1⟩ := zf_back hP hD hS hA hk1 z1 z3
  obtain ⟨x, rfl⟩ := lk_ans hty z4
  exact kk x ws' H1 locs1 st ht1 z3 z4 hb2 hP1 hD1 hS1
/-- the size, as a number -/
theorem lk_n (hC : lh_C s D k az al sw Sg th) (hD : va_D (lk_A s) ws) (hW : lg_W Sg k th ws t) : ∃ n9 : Nat, n9 ≤ 940 ∧ t = Int32.ofNat n9 := by
  have h := lk_bnd hD hW.1 (g := 1) (i := 1) (hC.2.2.2 1 (by decide) (by decide)) (by decide) rfl hW.2.1
  exact ⟨t.toInt.toNat, by omega, ofn h.1⟩
/-- a picture of the world as it stands, of any town -/
theorem lk_pic (hC : lh_C s D k az al sw Sg th) (ht : zf_typ Sg k zGT ws) {sp sn : Nat} (s4 : Sg sp = some 64) (s6 : Sg sn = some 76) : ∃ (θ : Nat → Nat) (hp : xe_H), (∀ g, g < 37 → θ g = th g) ∧ θ 64 = sp ∧ θ 76 = sn ∧ xe_th az Sg θ ∧ xe_c Sg θ xGT xSC xRF ws hp := px_world (ad := az) ht hC.2.2.1 hC.2.2.2 hC.2.1.2.2.2.1.2 hC.2.1.2.2.1.2.1 s4 s6
end LKB
