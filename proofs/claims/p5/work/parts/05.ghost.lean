/-! ===== ghost facts: which cells they speak of, what they say; a and b are their two numbers ===== -/
def zf_supT : List (List (Nat × zf_L × zf_L)) := [
  [(20, ([], 87), ([], 87)), (20, ([], 91), ([], 122))],
  [(20, ([], 87), ([], 87)), (20, ([], 91), ([], 122))],
  [(27, ([], 0), ([], 0)), (27, ([], 4), ([], 35))],
  [(26, ([], 0), ([], 4847))],
  [(33, ([], 0), ([], 1747))],
  [(21, ([], 19), ([(1, 1)], 18))],
  [(20, ([], 693), ([], 873))],
  [(20, ([], 693), ([], 873))],
  [(22, ([], 0), ([(0, 3)], -1))],
  [(31, ([], 0), ([(0, 1)], -1))],
  [(27, ([], 0), ([(1, 1)], -1)), (20, ([], 87), ([(1, 1)], 86))],
  [(20, ([], 87), ([(1, 1)], 86)), (27, ([], 0), ([(1, 1)], -1))],
  [(26, ([], 0), ([], 4847)), (20, ([], 87), ([(1, 1)], 86))],
  [(26, ([], 0), ([], 4847))],
  [(20, ([], 87), ([(1, 1)], 86)), (26, ([(0, 606)], 0), ([(0, 606)], 605))],
  [(26, ([], 0), ([], 4847)), (27, ([], 0), ([(1, 1)], -1))],
  [(33, ([], 0), ([], 1747)), (20, ([], 0), ([(1, 1)], -1))],
  [(20, ([], 0), ([(1, 1)], -1)), (33, ([(0, 874)], 0), ([(0, 874)], 873))],
  [(22, ([], 0), ([(1, 4)], -1))],
  [(18, ([], 11), ([], 11)), (18, ([], 12), ([], 12)), (18, ([], 13), ([], 13))],
  [(20, ([], 0), ([(1, 1)], -1)), (21, ([], 0), ([], 86))],
  [(20, ([], 19), ([(1, 1)], 18))],
  [(20, ([], 107), ([(1, 1)], 106))],
  [(20, ([], 694), ([(1, 1)], 693)), (22, ([], 0), ([(1, 1)], -1))],
  [(21, ([], 0), ([(1, 1)], -1))]]
def zf_sup (j : Nat) : List (Nat × zf_L × zf_L) := zf_supT.getD j []
theorem zf_sup_b {j : Nat} {q : Nat × zf_L × zf_L} (h : q ∈ zf_sup j) : zf_bt 2 q.2.1.1 = true ∧ zf_bt 2 q.2.2.1 = true := by
  have ha : zf_supT.all (fun t => t.all (fun q => zf_bt 2 q.2.1.1 && zf_bt 2 q.2.2.1)) = true := by decide +kernel
  unfold zf_sup at h
  rw [List.getD_eq_getElem?_getD] at h
  cases hj : zf_supT[j]? with
  | none => rw [hj] at h; cases h
  | some t =>
    rw [hj] at h
    have h : q ∈ t := h
    rw [List.all_eq_true] at ha
    have h1 := ha t (List.mem_of_getElem? hj)
    rw [List.all_eq_true] at h1
    have h2 := h1 q h
    rw [Bool.and_eq_true] at h2
    exact h2
/-- of each ladder that is there and has an owner: it has a rung -/
def zg_blk (f : Nat → Int32) (b : Nat) : Prop := ∀ l : Nat, l < 16 → (l : Int) < (f b).toInt → 0 ≤ (f (b + 4 + l)).toInt → 1 ≤ (f (b + 20 + l)).toInt
def zg_blx (f : Nat → Int32) (b : Nat) (x : Int) : Prop := ∀ l : Nat, l < 16 → (l : Int) ≠ x → (l : Int) < (f b).toInt → 0 ≤ (f (b + 4 + l)).toInt → 1 ≤ (f (b + 20 + l)).toInt
/-- how many truths lie on the stack behind n codes -/
def zg_st (h : Nat) (w : Int) : Option Nat :=
  if w = 20 then (if 1 ≤ h then some h else none) else if w = 21 ∨ w = 22 then (if 2 ≤ h then some (h - 1) else none) else some (h + 1)
def zg_ht (f : Nat → Int32) (b : Nat) : Nat → Option Nat
  | 0 => some 0
  | n + 1 => match zg_ht f b n with
    | none => none
    | some h => zg_st h (f (b + 3 * n)).toInt
def zg_cod (f : Nat → Int32) (b : Nat) : Prop := 0 ≤ (f b).toInt ∧ (f b).toInt ≤ 44 ∧ ∃ h, zg_ht f (b + 1) (f b).toInt.toNat = some h
/-- the signs on the stack: how many of them join -/
def zg_op (f : Nat → Int32) : Nat → Option Nat
  | 0 => some 0
  | n + 1 => match zg_op f n with
    | none => none
    | some h => if (f n).toInt = 20 ∨ (f n).toInt = 23 then some h else if (f n).toInt = 21 ∨ (f n).toInt = 22 then some (h + 1) else none
/-- a line of a ledger -/
def zg_ln (f : Nat → Int32) (i : Nat) : Prop := 0 ≤ (f i).toInt ∧ (f i).toInt ≤ 7 ∧ ((f i).toInt = 0 → 0 ≤ (f (i + 2)).toInt ∧ (f (i + 2)).toInt ≤ 5 ∧ 0 ≤ (f (i + 3)).toInt ∧ (f (i + 3)).toInt ≤ 5) ∧ ((f i).toInt = 1 ∨ (f i).toInt = 5 → 0 ≤ (f (i + 2)).toInt ∧ (f (i + 2)).toInt ≤ 31)
def zf_gP (j : Nat) (a b : Int) (F : Nat → Nat → Int32) : Prop := match j with
  | 0 => zg_blk (F 20) 87
  | 1 => zg_blx (F 20) 87 b
  | 2 => zg_blk (F 27) 0
  | 3 => ∀ u : Nat, u < 8 → zg_blk (F 26) (606 * u)
  | 4 => ∀ u : Nat, u < 2 → zg_blk (F 33) (874 * u + 87) ∧ zg_cod (F 33) (874 * u + 693)
  | 5 => ∀ l : Nat, (l : Int) < b → 1 ≤ (F 21 (19 + l)).toInt
  | 6 => zg_cod (F 20) 693
  | 7 => ∃ i n : Nat, a = i ∧ b = n ∧ i ≤ 44 ∧ zg_ht (F 20) 694 i = some n ∧ zg_cod (F 20) 693
  | 8 => ∃ i n : Nat, a = i ∧ b = n ∧ zg_ht (F 22) 0 i = some n
  | 9 => ∃ i n : Nat, a = i ∧ b = n ∧ zg_op (F 31) i = some n
  | 10 => ∀ i : Nat, (i : Int) < b → F 27 i = F 20 (87 + i)
  | 11 => ∀ i : Nat, (i : Int) < b → F 20 (87 + i) = F 27 i
  | 12 => 0 ≤ a ∧ a < 8 ∧ (∀ v : Nat, v < 8 → (v : Int) ≠ a → zg_blk (F 26) (606 * v)) ∧ ∀ i : Nat, i < 606 → (i : Int) < b → F 26 (606 * a.toNat + i) = F 20 (87 + i)
  | 13 => ∃ f : Nat → Int32, (∀ u : Nat, u < 8 → zg_blk f (606 * u)) ∧ ∀ i : Nat, i < 4848 → F 26 i = if (i : Int) < b then f (i + 606) else f i
  | 14 => 0 ≤ a ∧ a < 8 ∧ ∀ i : Nat, i < 606 → (i : Int) < b → F 20 (87 + i) = F 26 (606 * a.toNat + i)
  | 15 => 0 ≤ a ∧ a < 8 ∧ (∀ v : Nat, v < 8 → (v : Int) ≠ a → zg_blk (F 26) (606 * v)) ∧ ∀ i : Nat, i < 606 → (i : Int) < b → F 26 (606 * a.toNat + i) = F 27 i
  | 16 => 0 ≤ a ∧ a < 2 ∧ (∀ v : Nat, v < 2 → (v : Int) ≠ a → zg_blk (F 33) (874 * v + 87) ∧ zg_cod (F 33) (874 * v + 693)) ∧ ∀ i : Nat, i < 874 → (i : Int) < b → F 33 (874 * a.toNat + i) = F 20 i
  | 17 => 0 ≤ a ∧ a < 2 ∧ ∀ i : Nat, i < 874 → (i : Int) < b → F 20 i = F 33 (874 * a.toNat + i)
  | 18 => ∀ i : Nat, (i : Int) < b → zg_ln (F 22) (4 * i)
  | 19 => (F 18 11).toInt = 1 → 1 ≤ (F 18 13).toInt ∧ (F 18 13).toInt ≤ 12 ∧ (F 18 12).toInt + (F 18 13).toInt ≤ 940
  | 20 => ∀ i : Nat, (i : Int) < b → F 20 i = if i < 87 then F 21 i else 0
  | 21 => ∀ l : Nat, (l : Int) < b → 1 ≤ (F 20 (19 + l)).toInt
  | 22 => ∀ l : Nat, (l : Int) < b → 1 ≤ (F 20 (107 + l)).toInt
  | 23 => ∀ i : Nat, (i : Int) < b → F 20 (694 + i) = F 22 i
  | 24 => ∀ i : Nat, (i : Int) < b → F 21 i = 0
  | _ => True
