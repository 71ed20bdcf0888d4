/-! ===== feed: the same bytes on both tapes ===== -/
theorem by_bv (x : BitVec 32) {s9 : Nat} (hs : s9 ≤ 24) : (((x.sshiftRight s9).signExtend 8).signExtend 32) &&& 255#32 = (x >>> s9) &&& 255#32 := by
  have key : ∀ i, i < 32 → ¬ i < 8 → (255#32).getLsbD i = false := by decide
  refine BitVec.eq_of_getLsbD_eq (fun i hi => ?_)
  rw [BitVec.getLsbD_and, BitVec.getLsbD_and]
  by_cases h8 : i < 8
  · rw [BitVec.getLsbD_signExtend, decide_eq_true hi, Bool.true_and, if_pos h8, BitVec.getLsbD_signExtend, decide_eq_true h8, Bool.true_and, if_pos hi, BitVec.getLsbD_sshiftRight, decide_eq_false (by omega : ¬ 32 ≤ i), if_pos (by omega), BitVec.getLsbD_ushiftRight]
    rfl
  · rw [key i hi h8, Bool.and_false, Bool.and_false]
def fd_bc (a s9 : Int32) : Int32 := ((a.toUInt32 >>> (s9.toUInt32 &&& Int32.toUInt32 31)).toInt32) &&& (255 : Int32)
def fd_br (a s9 : Int32) : Int32 := ((a >>> (s9 &&& 31))).toInt8.toInt32
theorem fd_by (a : Int32) {s9 : Int32} {n9 : Nat} (h1 : ((s9 &&& 31).toBitVec.smod 32).toNat = n9) (h2 : (UInt32.mod (s9.toUInt32 &&& Int32.toUInt32 31) 32).toBitVec.toNat = n9) (hn : n9 ≤ 24) : fd_br a s9 &&& 255 = fd_bc a s9 := by
  refine Int32.toBitVec.inj ?_
  have e1 : (fd_br a s9 &&& 255).toBitVec = ((((a.toBitVec.sshiftRight ((s9 &&& 31).toBitVec.smod 32).toNat).signExtend 8).signExtend 32) &&& 255#32) := rfl
  have e2 : (fd_bc a s9).toBitVec = ((a.toBitVec >>> (UInt32.mod (s9.toUInt32 &&& Int32.toUInt32 31) 32).toBitVec.toNat) &&& 255#32) := rfl
  rw [e1, e2, h1, h2]
  exact by_bv _ hn
def fd_c1 (I : Nat → Nat → Int32) (x : Int32) : Nat → Nat → Int32 := xu (xu I 2 ((I 1 1).toInt.toNat) x) 1 1 (I 1 1 + 1)
def fd_r1 (J : Nat → Nat → Int32) (x : Int32) : Nat → Nat → Int32 := xu (xu J 19 ((J 18 2).toInt.toNat) x) 18 2 (J 18 2 + 1)
def fd_c4 (I : Nat → Nat → Int32) (a : Int32) : Nat → Nat → Int32 := fd_c1 (fd_c1 (fd_c1 (fd_c1 I (fd_bc a (24 : Int32))) (fd_bc a ((24 : Int32) + Int32.ofInt (-8)))) (fd_bc a (((24 : Int32) + Int32.ofInt (-8)) + Int32.ofInt (-8)))) (fd_bc a ((((24 : Int32) + Int32.ofInt (-8)) + Int32.ofInt (-8)) + Int32.ofInt (-8)))
def fd_r4 (J : Nat → Nat → Int32) (a : Int32) : Nat → Nat → Int32 := fd_r1 (fd_r1 (fd_r1 (fd_r1 J (fd_br a (24 : Int32))) (fd_br a ((24 : Int32) + Int32.ofInt (-8)))) (fd_br a (((24 : Int32) + Int32.ofInt (-8)) + Int32.ofInt (-8)))) (fd_br a ((((24 : Int32) + Int32.ofInt (-8)) + Int32.ofInt (-8)) + Int32.ofInt (-8)))
section FD
variable {I J : Nat → Nat → Int32} {L M : Nat → Nat → Int64} {n : Nat}
theorem fd_n1 {x : Int32} (h : I 1 1 = Int32.ofNat n) : fd_c1 I x 1 1 = Int32.ofNat (n + 1) := by
  show I 1 1 + 1 = _
  rw [h]
  exact ti1 _
theorem fd_m1 {x : Int32} (h : J 18 2 = Int32.ofNat n) : fd_r1 J x 18 2 = Int32.ofNat (n + 1) := by
  show J 18 2 + 1 = _
  rw [h]
  exact ti1 _
theorem fd_as {l1 l2 : Int32} {v9 : Option Value} {hp9 : xe_H} (h : I 1 1 = Int32.ofNat n) (hn : n < 940) (h2 : xe_cmp .lt l2 0 = false) (r : ∃ n9, xr_X9_add n9 (3, [(0, .ref 1), (1, .int l1), (2, .int (l2 + (Int32.ofInt (-8))))], [], (fd_c1 I (fd_bc l1 l2), L)) v9 hp9) : ∃ n9, xr_X9_add n9 (3, [(0, .ref 1), (1, .int l1), (2, .int l2)], [], (I, L)) v9 hp9 :=
  pt_X9_add_3 h2 ((cmpN h (b := 940) rfl (by omega) (by omega)).trans (decide_eq_false (by omega))) (by rw [h]; exact xib hn (by omega)) r
theorem fd_add {a : Int32} (h : I 1 1 = Int32.ofNat n) (hn : n + 4 ≤ 940) : fx_X9_add [.int a, .ref 1] (I, L) none (fd_c4 I a, L) :=
  mk_X9_add trivial (pt_X9_add_0 (fd_as h (by omega) (by decide) (fd_as (fd_n1 h) (by omega) (by decide) (fd_as (fd_n1 (fd_n1 h)) (by omega) (by decide) (fd_as (fd_n1 (fd_n1 (fd_n1 h))) (by omega) (by decide) (pt_X9_add_1 (by decide)))))))
theorem fd_by8 (x : Int8) : xe_by x.toInt32 = true := by
  unfold xe_by
  rw [Int8.toInt_toInt32]
  have h1 := Int8.toInt_lt x
  have h2 := Int8.le_toInt x
  rw [decide_eq_true (by omega), decide_eq_true (by omega)]
  rfl
theorem fd_rs {l1 l2 : Int32} {v9 : Option Value} {hp9 : xe_H} (h : J 18 2 = Int32.ofNat n) (hn : n < 940) (h2 : xe_cmp .lt l2 0 = false) (r : ∃ n9, xr_X13_four n9 (3, [(0, .ref 18), (1, .int l1), (2, .int (l2 + (Int32.ofInt (-8))))], [], (fd_r1 J (fd_br l1 l2), M)) v9 hp9) : ∃ n9, xr_X13_four n9 (3, [(0, .ref 18), (1, .int l1), (2, .int l2)], [], (J, M)) v9 hp9 :=
  pt_X13_four_2 h2 (by rw [h, xib hn (by omega), fd_by8]; rfl) r
theorem fd_four {a : Int32} (h : J 18 2 = Int32.ofNat n) (hn : n + 4 ≤ 940) : fx_X13_four [.int a, .ref 18] (J, M) none (fd_r4 J a, M) :=
  mk_X13_four trivial (pt_X13_four_0 (fd_rs h (by omega) (by decide) (fd_rs (fd_m1 h) (by omega) (by decide) (fd_rs (fd_m1 (fd_m1 h)) (by omega) (by decide) (fd_rs (fd_m1 (fd_m1 (fd_m1 h))) (by omega) (by decide) (pt_X13_four_1 (by decide)))))))
/-- the same size, the same bytes -/
def fd_B (n : Nat) (I J : Nat → Nat → Int32) : Prop := I 1 1 = Int32.ofNat n ∧ J 18 2 = Int32.ofNat n ∧ ∀ i, i < 940 → J 19 i &&& 255 = I 2 i
theorem fd_B1 {x y9 : Int32} (h : fd_B n I J) (hn : n < 940) (hx : y9 &&& 255 = x) : fd_B (n + 1) (fd_c1 I x) (fd_r1 J y9) := by
  obtain ⟨h1, h2, h3⟩ := h
  refine ⟨fd_n1 h1, fd_m1 h2, fun i hi => ?_⟩
  have e1 : (I 1 1).toInt.toNat = n := by rw [h1]; exact tin (by omega)
  have e2 : (J 18 2).toInt.toNat = n := by rw [h2]; exact tin (by omega)
  show xu J 19 ((J 18 2).toInt.toNat) y9 19 i &&& 255 = xu I 2 ((I 1 1).toInt.toNat) x 2 i
  rw [e1, e2]
  by_cases e : i = n
  · rw [e, xu_eq, xu_eq]; exact hx
  · rw [xu_ne (by rw [nb_F e]; rfl), xu_ne (by rw [nb_F e]; rfl)]
    exact h3 i hi
theorem fd_B4 {a : Int32} (h : fd_B n I J) (hn : n + 4 ≤ 940) : fd_B (n + 4) (fd_c4 I a) (fd_r4 J a) :=
  fd_B1 (fd_B1 (fd_B1 (fd_B1 h (by omega) (fd_by a (n9 := 24) (by decide) (by decide) (by decide))) (by omega) (fd_by a (n9 := 16) (by decide) (by decide) (by decide))) (by omega) (fd_by a (n9 := 8) (by decide) (by decide) (by decide))) (by omega) (fd_by a (n9 := 0) (by decide) (by decide) (by decide))
theorem fd_n4 {a : Int32} (h : I 1 1 = Int32.ofNat n) : fd_c4 I a 1 1 = Int32.ofNat (n + 4) := fd_n1 (fd_n1 (fd_n1 (fd_n1 h)))
theorem fd_m4 {a : Int32} (h : J 18 2 = Int32.ofNat n) : fd_r4 J a 18 2 = Int32.ofNat (n + 4) := fd_m1 (fd_m1 (fd_m1 (fd_m1 h)))
def fd_cF (I : Nat → Nat → Int32) (a1 a2 a3 a4 a5 : Int32) : Nat → Nat → Int32 := fd_c4 (fd_c4 (fd_c4 (fd_c4 (fd_c4 I a1) a2) a3) a4) a5
def fd_rF (J : Nat → Nat → Int32) (a1 a2 a3 a4 a5 : Int32) : Nat → Nat → Int32 := fd_r4 (fd_r4 (fd_r4 (fd_r4 (fd_r4 (xu J 18 0 0) a1) a2) a3) a4) a5
theorem fd_20 (h : I 1 1 = Int32.ofNat n) : I 1 1 + (20 : Int32) = Int32.ofNat (n + 20) := by rw [h]; exact tadd n 20
theorem fd_feedC {a1 a2 a3 a4 a5 : Int32} (h : I 1 1 = Int32.ofNat n) (hn : n + 20 ≤ 940) : fx_X12_feed [.int a5, .int a4, .int a3, .int a2, .int a1, .ref 0] (I, L) (some (.int (fd_cF I a1 a2 a3 a4 a5 1 1))) (fd_cF I a1 a2 a3 a4 a5, L) :=
  mk_X12_feed trivial (pt_X12_feed_0 (mk_X9_hasRoom (Or.inr rfl) (pt_X9_hasRoom_1 ((cmpN (fd_20 h) (b := 940) rfl (by omega) (by omega)).trans (decide_eq_false (by omega))))) (fd_add h (by omega)) (fd_add (fd_n4 h) (by omega)) (fd_add (fd_n4 (fd_n4 h)) (by omega)) (fd_add (fd_n4 (fd_n4 (fd_n4 h))) (by omega)) (fd_add (fd_n4 (fd_n4 (fd_n4 (fd_n4 h)))) (by omega)))
theorem fd_feedC0 {a1 a2 a3 a4 a5 : Int32} (h : I 1 1 = Int32.ofNat n) (hn9 : n ≤ 940) (hn : ¬ n + 20 ≤ 940) : fx_X12_feed [.int a5, .int a4, .int a3, .int a2, .int a1, .ref 0] (I, L) (some (.int (Int32.ofInt (-1)))) (I, L) :=
  mk_X12_feed trivial (pt_X12_feed_1 (mk_X9_hasRoom (Or.inl rfl) (pt_X9_hasRoom_0 ((cmpN (fd_20 h) (b := 940) rfl (by omega) (by omega)).trans (decide_eq_true (by omega))))))
theorem fd_m20 (h : J 18 2 = Int32.ofNat n) : J 18 2 + (20 : Int32) = Int32.ofNat (n + 20) := by rw [h]; exact tadd n 20
theorem fd_feedR {a1 a2 a3 a4 a5 : Int32} (h : J 18 2 = Int32.ofNat n) (hn : n + 20 ≤ 940) : fx_X13_feed [.int a5, .int a4, .int a3, .int a2, .int a1, .ref 18] (J, M) (some (.int (fd_rF J a1 a2 a3 a4 a5 18 2))) (fd_rF J a1 a2 a3 a4 a5, M) := by
  have h0 : xu J 18 0 0 18 2 = Int32.ofNat n := h
  exact mk_X13_feed trivial (pt_X13_feed_0 ((cmpN (fd_m20 h) (b := 940) rfl (by omega) (by omega)).trans (decide_eq_true (by omega))) (fd_four h0 (by omega)) (fd_four (fd_m4 h0) (by omega)) (fd_four (fd_m4 (fd_m4 h0)) (by omega)) (fd_four (fd_m4 (fd_m4 (fd_m4 h0))) (by omega)) (fd_four (fd_m4 (fd_m4 (fd_m4 (fd_m4 h0)))) (by omega)))
theorem fd_feedR0 {a1 a2 a3 a4 a5 : Int32} (h : J 18 2 = Int32.ofNat n) (hn9 : n ≤ 940) (hn : ¬ n + 20 ≤ 940) : fx_X13_feed [.int a5, .int a4, .int a3, .int a2, .int a1, .ref 18] (J, M) (some (.int (Int32.ofInt (-1)))) (xu J 18 0 0, M) :=
  mk_X13_feed trivial (pt_X13_feed_1 ((cmpN (fd_m20 h) (b := 940) rfl (by omega) (by omega)).trans (decide_eq_false (by omega))))
theorem fd_BF {a1 a2 a3 a4 a5 : Int32} (h : fd_B n I J) (hn : n + 20 ≤ 940) : fd_B (n + 20) (fd_cF I a1 a2 a3 a4 a5) (fd_rF J a1 a2 a3 a4 a5) := by
  have h0 : fd_B n I (xu J 18 0 0) := ⟨h.1, h.2.1, h.2.2⟩
  exact fd_B4 (fd_B4 (fd_B4 (fd_B4 (fd_B4 h0 (by omega)) (by omega)) (by omega)) (by omega)) (by omega)
end FD
