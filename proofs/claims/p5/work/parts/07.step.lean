/-! ===== steps without the world ===== -/
/-- from this place on, in every state that σ tells, the machine comes to its end -/
def zf_K (Sg : Nat → Option Nat) (n0 r0 nL : Nat) (ρ0 : Nat → Int) (θ0 : Nat → Nat) (Wd : va_W → Heap → List Loc → Prop) (Wf : Nat → Heap → List Loc → Array Slot → List Value → Prop) (pc : Nat) (σ : zf_S) : Prop :=
  ∀ (ρ : Nat → Int) (θ : Nat → Nat) (ws : va_W) (H : Heap) (locs : List Loc) (ls : Array Slot) (st : List Value), (∀ i, i < n0 → ρ i = ρ0 i) → (∀ i, i < r0 → θ i = θ0 i) → Wd ws H locs → zf_sat Sg ρ θ nL σ ls st ws → Wf pc H locs ls st
def zf_stk (σ : zf_S) (st : List zf_A) : zf_S := (σ.1, σ.2.1, σ.2.2.1, σ.2.2.2.1, st, σ.2.2.2.2.2)
def zf_los (σ : zf_S) (lo : List (Nat × zf_A)) (st : List zf_A) : zf_S := (σ.1, σ.2.1, σ.2.2.1, lo, st, σ.2.2.2.2.2)
section ZT
variable {Sg : Nat → Option Nat} {ρ : Nat → Int} {θ : Nat → Nat} {nL n0 : Nat} {σ σ' : zf_S} {ls : Array Slot} {st : List Value} {ws : va_W}
theorem zf_stk_ok {sa : List zf_A} (h : zf_sat Sg ρ θ nL σ ls st ws) {st' : List Value} (h2 : zf_f2 (zf_vok Sg ρ θ) sa st') : zf_sat Sg ρ θ nL (zf_stk σ sa) ls st' ws :=
  ⟨h.1, h.2.1, h.2.2.1, h2, h.2.2.2.2⟩
/-- a number is laid on the stack -/
def zf_psh (n0 : Nat) (σ : zf_S) (r : zf_R) : Option zf_S := match r with
  | .inl h => some (zf_stk σ (.inl h :: σ.2.2.2.2.1))
  | .inr q => match zf_new n0 σ q.1 q.2.1 q.2.2 with
    | some σ' => some (zf_stk σ' (.inl (zf_sym σ.1.length) :: σ'.2.2.2.2.1))
    | none => none
theorem zf_psh_ok {r : zf_R} {z : Int32} (h : zf_sat Sg ρ θ nL σ ls st ws) (hz : zf_res σ.1.length ρ r z) (hp : zf_psh n0 σ r = some σ') :
    ∃ ρ' : Nat → Int, (∀ i, i < n0 → ρ' i = ρ i) ∧ zf_sat Sg ρ' θ nL σ' ls (.int z :: st) ws := by
  unfold zf_psh at hp
  match r, hz, hp with
  | .inl g, hz, hp =>
    cases hp
    exact ⟨ρ, fun _ _ => rfl, zf_stk_ok h ⟨⟨z, rfl, hz⟩, h.2.2.2.1⟩⟩
  | .inr q, hz, hp =>
    dsimp only at hp
    split at hp
    · rename_i s1 hs
      cases hp
      obtain ⟨h1, h2⟩ := zf_new_ok hs h ⟨hz.1, hz.2.1⟩ hz.2.2
      exact ⟨_, h2, zf_stk_ok h1 ⟨⟨z, rfl, by rw [zf_v_sym, zf_up_n]⟩, h1.2.2.2.1⟩⟩
    · cases hp
/-- known forms more; none if they can't be -/
def zf_asm : List zf_L → zf_S → Option zf_S
  | [], σ => some σ
  | f :: t, σ => match zf_no σ.1 σ.2.1 f with
    | true => none
    | false => zf_asm t (zf_fact f σ)
theorem zf_asm_ok : ∀ {fs : List zf_L} {σ : zf_S}, zf_sat Sg ρ θ nL σ ls st ws → (∀ f ∈ fs, 0 ≤ zf_v ρ f) → ∃ σ', zf_asm fs σ = some σ' ∧ zf_sat Sg ρ θ nL σ' ls st ws
  | [], σ, h, _ => ⟨σ, rfl, h⟩
  | f :: t, σ, h, hf => by
    unfold zf_asm
    have h0 := hf f List.mem_cons_self
    split
    · rename_i hn
      have := zf_no_of h.1 h.2.1 hn
      omega
    · exact zf_asm_ok (zf_fact_ok h h0) (fun g hg => hf g (List.mem_cons_of_mem _ hg))
def zf_alt (pc : Nat) (fs : List zf_L) (σ : zf_S) : List (Nat × zf_S) := match zf_asm fs σ with
  | some σ' => [(pc, σ')]
  | none => []
/-- what is known of d, if it is not 0 -/
def zf_g1 (E : zf_E) (Fs : List zf_L) (f : zf_L) : Bool := zf_le 0 (zf_lo E f) || Fs.any (fun g => zf_le 0 (zf_lo E (zf_sub f g)))
theorem zf_g1_of {E : zf_E} {Fs : List zf_L} {ρ : Nat → Int} (hE : zf_okE E ρ) (hF : zf_okF Fs ρ) {f : zf_L} (h : zf_g1 E Fs f = true) : 0 ≤ zf_v ρ f := by
  refine zf_ge_of hE hF (f := f) ?_
  unfold zf_g1 at h
  unfold zf_ge
  rw [h]
  rfl
def zf_ne (E : zf_E) (Fs : List zf_L) (d : zf_L) : List zf_L := match zf_g1 E Fs d with
  | true => [zf_add d (zf_con (-1))]
  | false => match zf_g1 E Fs (zf_mul (-1) d) with
    | true => [zf_add (zf_mul (-1) d) (zf_con (-1))]
    | false => []
theorem zf_ne_ok {E : zf_E} {Fs : List zf_L} {d : zf_L} (hE : zf_okE E ρ) (hF : zf_okF Fs ρ) (h : zf_v ρ d ≠ 0) : ∀ f ∈ zf_ne E Fs d, 0 ≤ zf_v ρ f := by
  intro f hf
  unfold zf_ne at hf
  split at hf
  · rename_i hb
    have := zf_g1_of hE hF hb
    rw [List.mem_singleton.mp hf, zf_v_add, zf_v_con]
    omega
  · split at hf
    · rename_i hb
      have := zf_g1_of hE hF hb
      rw [zf_v_mul] at this
      rw [List.mem_singleton.mp hf, zf_v_add, zf_v_con, zf_v_mul]
      omega
    · cases hf
/-- a condition on x and y holds, or not: d is x less y -/
def zf_cT (E : zf_E) (Fs : List zf_L) (c : ClassFile.Cond) (d : zf_L) : List zf_L := match c with
  | .eq => [d, zf_mul (-1) d]
  | .ne => zf_ne E Fs d
  | .lt => [zf_add (zf_mul (-1) d) (zf_con (-1))]
  | .ge => [d]
  | .gt => [zf_add d (zf_con (-1))]
  | .le => [zf_mul (-1) d]
def zf_cN (c : ClassFile.Cond) : ClassFile.Cond := match c with
  | .eq => .ne
  | .ne => .eq
  | .lt => .ge
  | .ge => .lt
  | .gt => .le
  | .le => .gt
def zf_cH (c : ClassFile.Cond) (x y : Int) : Prop := match c with
  | .eq => x = y
  | .ne => x ≠ y
  | .lt => x < y
  | .ge => y ≤ x
  | .gt => y < x
  | .le => x ≤ y
theorem zf_cT_ok {E : zf_E} {Fs : List zf_L} {c : ClassFile.Cond} {d : zf_L} {x y : Int} (hE : zf_okE E ρ) (hF : zf_okF Fs ρ) (hd : zf_v ρ d = x - y) (h : zf_cH c x y) : ∀ f ∈ zf_cT E Fs c d, 0 ≤ zf_v ρ f := by
  intro f hf
  cases c with
  | eq =>
    have h : x = y := h
    rcases List.mem_cons.mp hf with rfl | hf
    · omega
    · rw [List.mem_singleton.mp hf, zf_v_mul]; omega
  | ne =>
    have h : x ≠ y := h
    exact zf_ne_ok hE hF (by omega) f hf
  | lt =>
    have h : x < y := h
    rw [List.mem_singleton.mp hf, zf_v_add, zf_v_mul, zf_v_con]; omega
  | ge =>
    have h : y ≤ x := h
    rw [List.mem_singleton.mp hf]; omega
  | gt =>
    have h : y < x := h
    rw [List.mem_singleton.mp hf, zf_v_add, zf_v_con]; omega
  | le =>
    have h : x ≤ y := h
    rw [List.mem_singleton.mp hf, zf_v_mul]; omega
theorem zf_cH_not {c : ClassFile.Cond} {x y : Int} (h : ¬ zf_cH c x y) : zf_cH (zf_cN c) x y := by
  cases c <;> simp only [zf_cH, zf_cN] at h ⊢ <;> omega
def zf_tgt (pc : Nat) (off : Int) : Nat := ((pc : Int) + off).toNat
def zf_tok (pc : Nat) (off : Int) : Bool := zf_le 0 ((pc : Int) + off)
theorem zf_tgt_ok {pc : Nat} {off : Int} (h : zf_tok pc off = true) : (pc : Int) + off = (zf_tgt pc off : Int) := by
  have := zf_le_iff.mp h
  unfold zf_tgt
  omega
def zf_bra (pc len : Nat) (off : Int) (c : ClassFile.Cond) (d : zf_L) (σ : zf_S) : Option (List (Nat × zf_S)) := match zf_tok pc off with
  | true => some (zf_alt (zf_tgt pc off) (zf_cT σ.1 σ.2.1 c d) σ ++ zf_alt (pc + len) (zf_cT σ.1 σ.2.1 (zf_cN c) d) σ)
  | false => none
/-- a number and 0: not 0 is above or below -/
def zf_brz (pc : Nat) (off : Int) (c : ClassFile.Cond) (d : zf_L) (σ : zf_S) : Option (List (Nat × zf_S)) := match zf_tok pc off with
  | true => match c with
    | .eq => some (zf_alt (zf_tgt pc off) (zf_cT σ.1 σ.2.1 .eq d) σ ++ (zf_alt (pc + 3) (zf_cT σ.1 σ.2.1 .gt d) σ ++ zf_alt (pc + 3) (zf_cT σ.1 σ.2.1 .lt d) σ))
    | .ne => some (zf_alt (pc + 3) (zf_cT σ.1 σ.2.1 .eq d) σ ++ (zf_alt (zf_tgt pc off) (zf_cT σ.1 σ.2.1 .gt d) σ ++ zf_alt (zf_tgt pc off) (zf_cT σ.1 σ.2.1 .lt d) σ))
    | c => some (zf_alt (zf_tgt pc off) (zf_cT σ.1 σ.2.1 c d) σ ++ zf_alt (pc + 3) (zf_cT σ.1 σ.2.1 (zf_cN c) d) σ)
  | false => none
/-- the int instructions of two numbers -/
def zf_bin (i : Instr) : Option (Nat → zf_E → zf_L → zf_L → zf_R) := match i with
  | .iadd => some (fun _ E f g => zf_fit E (zf_add f g))
  | .isub => some (fun _ E f g => zf_fit E (zf_sub f g))
  | .imul => some (fun _ E f g => zf_mulR E f g)
  | .iand => some (fun n E f g => zf_andR n E f g)
  | .ior => some (fun n E f g => zf_orR n E f g)
  | .ixor => some (fun _ _ _ _ => zf_any)
  | .ishl => some (fun _ E f g => zf_shlR E f g)
  | .ishr => some (fun _ E f _ => zf_shrR E f)
  | .iushr => some (fun _ E f g => zf_ushrR E f g)
  | _ => none
/-- a list of cases of a switch, from value v on -/
def zf_sw (pc : Nat) (σ : zf_S) (f : zf_L) : Int → List Int → Option (List (Nat × zf_S))
  | _, [] => some []
  | v, o :: t => match zf_tok pc o, zf_sw pc σ f (v + 1) t with
    | true, some r => some (zf_alt (zf_tgt pc o) (zf_cT σ.1 σ.2.1 .eq (zf_sub f (zf_con v))) σ ++ r)
    | _, _ => none
def zf_nz (σ : zf_S) (g : zf_L) : Bool := zf_ge σ.1 σ.2.1 (zf_add g (zf_con (-1))) || zf_ge σ.1 σ.2.1 (zf_add (zf_mul (-1) g) (zf_con (-1)))
def zf_go1 (q : Nat) (o : Option zf_S) : Option (List (Nat × zf_S)) := match o with
  | some σ' => some [(q, σ')]
  | none => none
/-- a step that reads and writes no cell -/
def zf_s1 (n0 nL pc len : Nat) (σ : zf_S) (i : Instr) : Option (List (Nat × zf_S)) := match i with
  | .iconst n => match Nat.beq len 1 && zf_le (-1) n && zf_le n 5 with
    | true => some [(pc + 1, zf_stk σ (.inl (zf_con n) :: σ.2.2.2.2.1))]
    | false => none
  | .bipush n => match Nat.beq len 2 && zf_le (-128) n && zf_le n 127 with
    | true => some [(pc + 2, zf_stk σ (.inl (zf_con n) :: σ.2.2.2.2.1))]
    | false => none
  | .sipush n => match Nat.beq len 3 && zf_le (-32768) n && zf_le n 32767 with
    | true => some [(pc + 3, zf_stk σ (.inl (zf_con n) :: σ.2.2.2.2.1))]
    | false => none
  | .lconst _ => match Nat.beq len 1 with
    | true => some [(pc + 1, zf_stk σ (.inr none :: σ.2.2.2.2.1))]
    | false => none
  | .iload_n j => match Nat.beq len 1, zf_lk σ.2.2.2.1 j with
    | true, some (.inl f) => some [(pc + 1, zf_stk σ (.inl f :: σ.2.2.2.2.1))]
    | _, _ => none
  | .iload j => match Nat.beq len 2, zf_lk σ.2.2.2.1 j with
    | true, some (.inl f) => some [(pc + 2, zf_stk σ (.inl f :: σ.2.2.2.2.1))]
    | _, _ => none
  | .aload_n j => match Nat.beq len 1, zf_lk σ.2.2.2.1 j with
    | true, some (.inr (some q)) => some [(pc + 1, zf_stk σ (.inr (some q) :: σ.2.2.2.2.1))]
    | _, _ => none
  | .aload j => match Nat.beq len 2, zf_lk σ.2.2.2.1 j with
    | true, some (.inr (some q)) => some [(pc + 2, zf_stk σ (.inr (some q) :: σ.2.2.2.2.1))]
    | _, _ => none
  | .lload_n j => match Nat.beq len 1, zf_lk σ.2.2.2.1 j with
    | true, some (.inr none) => some [(pc + 1, zf_stk σ (.inr none :: σ.2.2.2.2.1))]
    | _, _ => none
  | .istore_n j => match Nat.beq len 1 && Nat.blt j nL, σ.2.2.2.2.1 with
    | true, .inl f :: t => some [(pc + 1, zf_los σ (zf_sto σ.2.2.2.1 j (.inl f)) t)]
    | _, _ => none
  | .istore j => match Nat.beq len 2 && Nat.blt j nL, σ.2.2.2.2.1 with
    | true, .inl f :: t => some [(pc + 2, zf_los σ (zf_sto σ.2.2.2.1 j (.inl f)) t)]
    | _, _ => none
  | .astore_n j => match Nat.beq len 1 && Nat.blt j nL, σ.2.2.2.2.1 with
    | true, .inr (some q) :: t => some [(pc + 1, zf_los σ (zf_sto σ.2.2.2.1 j (.inr (some q))) t)]
    | _, _ => none
  | .astore j => match Nat.beq len 2 && Nat.blt j nL, σ.2.2.2.2.1 with
    | true, .inr (some q) :: t => some [(pc + 2, zf_los σ (zf_sto σ.2.2.2.1 j (.inr (some q))) t)]
    | _, _ => none
  | .iinc j n => match Nat.beq len 3 && Nat.blt j nL && zf_le (-2147483648) n && zf_le n 2147483647, zf_lk σ.2.2.2.1 j with
    | true, some (.inl f) => match zf_psh n0 σ (zf_fit σ.1 (zf_add f (zf_con n))) with
      | some σ' => match σ'.2.2.2.2.1 with
        | .inl g :: t => some [(pc + 3, zf_los σ' (zf_sto σ'.2.2.2.1 j (.inl g)) t)]
        | _ => none
      | none => none
    | _, _ => none
  | .ineg => match Nat.beq len 1, σ.2.2.2.2.1 with
    | true, .inl f :: t => zf_go1 (pc + 1) (zf_psh n0 (zf_stk σ t) (zf_fit σ.1 (zf_mul (-1) f)))
    | _, _ => none
  | .i2b => match Nat.beq len 1, σ.2.2.2.2.1 with
    | true, .inl f :: t => zf_go1 (pc + 1) (zf_psh n0 (zf_stk σ t) (zf_i2bR σ.1 f))
    | _, _ => none
  | .idiv => match Nat.beq len 1, σ.2.2.2.2.1 with
    | true, .inl g :: .inl _ :: t => match zf_nz σ g with
      | true => zf_go1 (pc + 1) (zf_psh n0 (zf_stk σ t) zf_any)
      | false => none
    | _, _ => none
  | .irem => match Nat.beq len 1, σ.2.2.2.2.1 with
    | true, .inl g :: .inl f :: t => match zf_nz σ g with
      | true => zf_go1 (pc + 1) (zf_psh n0 (zf_stk σ t) (zf_remR σ.1.length σ.1 f g))
      | false => none
    | _, _ => none
  | .i2l => match Nat.beq len 1, σ.2.2.2.2.1 with
    | true, .inl _ :: t => some [(pc + 1, zf_stk σ (.inr none :: t))]
    | _, _ => none
  | .ladd => match Nat.beq len 1, σ.2.2.2.2.1 with
    | true, .inr none :: .inr none :: t => some [(pc + 1, zf_stk σ (.inr none :: t))]
    | _, _ => none
  | .lmul => match Nat.beq len 1, σ.2.2.2.2.1 with
    | true, .inr none :: .inr none :: t => some [(pc + 1, zf_stk σ (.inr none :: t))]
    | _, _ => none
  | .lor => match Nat.beq len 1, σ.2.2.2.2.1 with
    | true, .inr none :: .inr none :: t => some [(pc + 1, zf_stk σ (.inr none :: t))]
    | _, _ => none
  | .lshl => match Nat.beq len 1, σ.2.2.2.2.1 with
    | true, .inl _ :: .inr none :: t => some [(pc + 1, zf_stk σ (.inr none :: t))]
    | _, _ => none
  | .lcmp => match Nat.beq len 1, σ.2.2.2.2.1 with
    | true, .inr none :: .inr none :: t => zf_go1 (pc + 1) (zf_psh n0 (zf_stk σ t) (.inr (-1, 1, [])))
    | _, _ => none
  | .dup => match Nat.beq len 1, σ.2.2.2.2.1 with
    | true, a :: t => match zf_c2 a with
      | false => some [(pc + 1, zf_stk σ (a :: a :: t))]
      | true => none
    | _, _ => none
  | .dup2 => match Nat.beq len 1, σ.2.2.2.2.1 with
    | true, a :: b :: t => match zf_c2 a || zf_c2 b with
      | false => some [(pc + 1, zf_stk σ (a :: b :: a :: b :: t))]
      | true => none
    | _, _ => none
  | .pop => match Nat.beq len 1, σ.2.2.2.2.1 with
    | true, a :: t => match zf_c2 a with
      | false => some [(pc + 1, zf_stk σ t)]
      | true => none
    | _, _ => none
  | .goto off => match Nat.beq len 3 && zf_tok pc off with
    | true => some [(zf_tgt pc off, σ)]
    | false => none
  | .ifCond c off => match Nat.beq len 3, σ.2.2.2.2.1 with
    | true, .inl f :: t => zf_brz pc off c f (zf_stk σ t)
    | _, _ => none
  | .if_icmp c off => match Nat.beq len 3, σ.2.2.2.2.1 with
    | true, .inl g :: .inl f :: t => zf_bra pc 3 off c (zf_sub f g) (zf_stk σ t)
    | _, _ => none
  | .if_acmp _ off => match Nat.beq len 3 && zf_tok pc off, σ.2.2.2.2.1 with
    | true, .inr (some _) :: .inr (some _) :: t => some [(zf_tgt pc off, zf_stk σ t), (pc + 3, zf_stk σ t)]
    | _, _ => none
  | .tableswitch dflt lo hi offs => match zf_tok pc dflt && Nat.beq offs.size (hi - lo + 1).toNat && zf_le lo hi, σ.2.2.2.2.1 with
    | true, .inl f :: t => match zf_sw pc (zf_stk σ t) f lo offs.toList with
      | some r => some (zf_alt (zf_tgt pc dflt) (zf_cT σ.1 σ.2.1 .lt (zf_sub f (zf_con lo))) (zf_stk σ t) ++ zf_alt (zf_tgt pc dflt) (zf_cT σ.1 σ.2.1 .gt (zf_sub f (zf_con hi))) (zf_stk σ t) ++ r)
      | none => none
    | _, _ => none
  | i => match zf_bin i, Nat.beq len 1, σ.2.2.2.2.1 with
    | some F, true, .inl g :: .inl f :: t => zf_go1 (pc + 1) (zf_psh n0 (zf_stk σ t) (F σ.1.length σ.1 f g))
    | _, _, _ => none
end ZT
