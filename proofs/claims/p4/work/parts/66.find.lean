/-! ===== Key.find: the first of Key's constants with such a code, OTHER if none has ===== -/
def ky_i (w : Int64) : List Int64 → Nat → Nat
  | [], _ => 0
  | a :: t, i => bif decide (a = w) then i else ky_i w t (i + 1)
def ky (w : Int64) : Nat := ky_i w zkC 0
def fx_X2_find : xe_F := fun us hp v hp' => ∃ w, us = [.long w] ∧ hp' = hp ∧ v = some (.ref (200 + ky w))
theorem kx_X2_find (l : Launch) (D : va_G) (k : Nat → ClassId) (B0 : Nat) (ad : Nat → Nat) (al sw : Nat) : xe_Con l yX2_find (zw yX2_find cX2_find 3 (some (.object "RungMoney$Key"))) ({ frames := 0, cells := 0, slots := 0, locals := 0 }) D k ad (zEx B0 ad al sw) xGT xSC xRF fx_X2_find := by
  sorry
