/-! ===== one list of words for all methods: the tables' own ===== -/
def lw_g : List Cond := lw_tbl.filter goodWord
abbrev zw (y : MethodName) (c : ByteArray) (n : Nat) (r : Option FieldType) : List Cond := Cond.code y c n r :: lw_g
theorem lw_s {w : Cond} (hg : goodWord w = true) (h : w ∈ k2_sels lw_privs) : w ∈ lw_g := List.mem_filter.mpr ⟨List.mem_append_left _ h, hg⟩
theorem lw_t {w : Cond} (hg : goodWord w = true) (h : w ∈ tables_1) : w ∈ lw_g := List.mem_filter.mpr ⟨List.mem_append_right _ h, hg⟩
theorem lw_t1 {w : Cond} (hg : goodWord w = true) (h : w ∈ tables_1_1) : w ∈ lw_g := lw_t hg (List.mem_append_left _ h)
theorem lw_t2 {w : Cond} (hg : goodWord w = true) (h : w ∈ tables_1_2) : w ∈ lw_g := lw_t hg (List.mem_append_right _ (List.mem_append_left _ h))
theorem lw_t3 {w : Cond} (hg : goodWord w = true) (h : w ∈ tables_1_3) : w ∈ lw_g := lw_t hg (List.mem_append_right _ (List.mem_append_right _ (List.mem_append_left _ h)))
theorem lw_t4 {w : Cond} (hg : goodWord w = true) (h : w ∈ tables_1_4) : w ∈ lw_g := lw_t hg (List.mem_append_right _ (List.mem_append_right _ (List.mem_append_right _ (List.mem_append_left _ h))))
theorem lw_t5 {w : Cond} (hg : goodWord w = true) (h : w ∈ tables_1_5) : w ∈ lw_g := lw_t hg (List.mem_append_right _ (List.mem_append_right _ (List.mem_append_right _ (List.mem_append_right _ (List.mem_append_left _ h)))))
theorem lw_t6 {w : Cond} (hg : goodWord w = true) (h : w ∈ tables_1_6) : w ∈ lw_g := lw_t hg (List.mem_append_right _ (List.mem_append_right _ (List.mem_append_right _ (List.mem_append_right _ (List.mem_append_right _ (List.mem_append_left _ h))))))
theorem lw_t7 {w : Cond} (hg : goodWord w = true) (h : w ∈ tables_1_7) : w ∈ lw_g := lw_t hg (List.mem_append_right _ (List.mem_append_right _ (List.mem_append_right _ (List.mem_append_right _ (List.mem_append_right _ (List.mem_append_right _ (List.mem_append_left _ h)))))))
theorem lw_t8 {w : Cond} (hg : goodWord w = true) (h : w ∈ tables_1_8) : w ∈ lw_g := lw_t hg (List.mem_append_right _ (List.mem_append_right _ (List.mem_append_right _ (List.mem_append_right _ (List.mem_append_right _ (List.mem_append_right _ (List.mem_append_right _ h)))))))
theorem zg_w {w : Cond} (h : w ∈ lw_g) : (w.onTables && w.keeps) = true ∨ ∃ ty, w = .arrayClass ty := by
  have h1 := (List.mem_filter.mp h).2
  have h2 : GoodIn [w] [w] := goodIn_of [w] (by
    rw [List.all_cons, h1, decide_eq_true (List.mem_singleton.mpr rfl)]
    rfl)
  exact (h2 w (List.mem_singleton.mpr rfl)).2
theorem zg_all {k k' : Cond} {small : List Cond} (hs : ∀ w ∈ small, w ∈ lw_g) (hk : k' ∈ lw_g) : GoodIn (k :: lw_g) (small ++ (k' :: lw_g)) := by
  intro w hw
  have h : w ∈ lw_g := by
    rcases List.mem_append.mp hw with h | h
    · exact hs w h
    · rcases List.mem_cons.mp h with rfl | h
      · exact hk
      · exact h
  exact ⟨List.mem_cons_of_mem _ h, zg_w h⟩
theorem zg_V {k : Cond} {own C : String} {idx : Nat} {y : MethodName} {c : ByteArray} {n : Nat} {r : Option FieldType} (h1 : Cond.methodLink own idx y ∈ lw_g) (h2 : Cond.instanceMethod y ∈ lw_g) (h3 : Cond.selects C y y ∈ lw_g) (h4 : Cond.initialized C ∈ lw_g) (hc : Cond.code y c n r ∈ lw_g) : GoodIn (k :: lw_g) (wsV own idx C y (zw y c n r)) :=
  zg_all (List.forall_mem_cons.mpr ⟨h1, List.forall_mem_cons.mpr ⟨h2, List.forall_mem_cons.mpr ⟨h3, List.forall_mem_cons.mpr ⟨h4, fun _ h => by cases h⟩⟩⟩⟩) hc
theorem zg_S {k : Cond} {own : String} {idx : Nat} {y : MethodName} {c : ByteArray} {n : Nat} {r : Option FieldType} (h1 : Cond.methodLink own idx y ∈ lw_g) (h2 : Cond.static y ∈ lw_g) (h3 : Cond.initialized y.cls ∈ lw_g) (hc : Cond.code y c n r ∈ lw_g) : GoodIn (k :: lw_g) (va_wsS own idx y (zw y c n r)) :=
  zg_all (List.forall_mem_cons.mpr ⟨h1, List.forall_mem_cons.mpr ⟨h2, List.forall_mem_cons.mpr ⟨h3, fun _ h => by cases h⟩⟩⟩) hc
theorem zg_U {k : Cond} {own C owner : String} {idx : Nat} {x y : MethodName} {c : ByteArray} {n : Nat} {r : Option FieldType} (h1 : Cond.methodLink own idx x ∈ lw_g) (h2 : Cond.sameMethod x.cls owner x.name x.desc ∈ lw_g) (h3 : Cond.selects C x y ∈ lw_g) (h4 : Cond.instanceMethod y ∈ lw_g) (h5 : Cond.initialized y.cls ∈ lw_g) (hc : Cond.code y c n r ∈ lw_g) : GoodIn (k :: lw_g) (va_wsU own idx C owner x y (zw y c n r)) :=
  zg_all (List.forall_mem_cons.mpr ⟨h1, List.forall_mem_cons.mpr ⟨h2, List.forall_mem_cons.mpr ⟨h3, List.forall_mem_cons.mpr ⟨h4, List.forall_mem_cons.mpr ⟨h5, fun _ h => by cases h⟩⟩⟩⟩⟩) hc
theorem zg_in {k : Cond} {ws : List Cond} (h : ∀ w ∈ ws, w ∈ lw_g) : ∀ w ∈ ws, w ∈ k :: lw_g := fun w hw => List.mem_cons_of_mem _ (h w hw)
theorem lw_up {w : Cond} (h : w ∈ lw_g) : w ∈ lw_tbl := (List.mem_filter.mp h).1
