theorem tl4_ok {x : Int32} (h : vp_in x 4) : tl4 x.toNatClampNeg = -1 := by
  obtain ⟨j, hj, rfl⟩ := vp_in_of h (by decide)
  rw [nI_clamp (by omega)]
  rcases (show j = 0 ∨ j = 1 ∨ j = 2 ∨ j = 3 by omega) with rfl | rfl | rfl | rfl <;> rfl
def kpf (b i : Nat) : Nat → Int32 := fun j => if b ≤ j ∧ j < b + i then sf (j - b) else 0
theorem kpf_0 (b : Nat) : kpf b 0 = fun _ => 0 := by
  funext j
  simp only [kpf]
  rw [if_neg (by omega)]
theorem kpf_s {b i : Nat} {x : Int32} (h : b + i < 2 ^ 31) (hi : i < 2 ^ 31) (ex : x = sf (nI i).toNatClampNeg) : upd (kpf b i) (nI (b + i)).toNatClampNeg x = kpf b (i + 1) := by
  rw [nI_clamp hi] at ex
  rw [nI_clamp h, ex]
  funext j
  simp only [upd, kpf]
  by_cases hj : j = b + i
  · subst hj
    rw [if_pos rfl, if_pos (by omega), show b + i - b = i by omega]
  · rw [if_neg hj]
    by_cases h2 : b ≤ j ∧ j < b + i
    · rw [if_pos h2, if_pos (by omega)]
    · rw [if_neg h2, if_neg (by omega)]
def rsv : Nat → Int64 := (vp_updL (vp_updL (vp_updL (vp_updL (vp_updL (vp_updL (vp_updL (vp_updL (vp_updL (vp_updL (vp_updL (vp_updL (vp_updL (vp_updL (vp_updL (vp_updL (vp_updL (vp_updL (vp_updL (vp_updL (vp_updL (vp_updL (vp_updL (fun _ => 0) 0 7168366) 1 119165551928690) 2 1684365940) 3 7499636) 4 1885436275) 5 109317276394099) 6 1935767411) 7 32493233248626035) 8 422877228659) 9 123563682985075) 10 499851486579) 11 131294708393330) 12 28530) 13 6385252) 14 7237492) 15 1735356005) 16 422607680115) 17 439721161573) 18 28518) 19 1819242087) 20 465726040947) 21 512970880104) 22 121450625394034)
