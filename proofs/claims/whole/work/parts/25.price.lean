/-! what is asked of a bird in a text: tokens 0 NOT, 1 AND, 2 OR, u + 3 a test; a clause's worth on a stack of bits -/
def sTest (tr : Nat → Nat) (u : Nat) : Bool := if u / 100 % 10 = 0 then decide (tr (u / 1000) < u % 100) else if u / 100 % 10 = 1 then decide (tr (u / 1000) = u % 100) else decide (u % 100 < tr (u / 1000))
def sEv (tr : Nat → Nat) : List Nat → List Bool → Option (List Bool)
  | [], s => some s
  | 0 :: ts, a :: s => sEv tr ts ((!a) :: s)
  | 1 :: ts, b :: a :: s => sEv tr ts ((a && b) :: s)
  | 2 :: ts, b :: a :: s => sEv tr ts ((a || b) :: s)
  | (u + 3) :: ts, s => sEv tr ts (sTest tr u :: s)
  | _, _ => none
/-- a test's number: letter 0 .. 5, sign 0 .. 2, number below 100 -/
def sTok (t : Nat) : Prop := t < 3 ∨ ∃ u, t = u + 3 ∧ u / 1000 ≤ 5 ∧ u / 100 % 10 ≤ 2
def sLet : Nat → Nat
  | 0 => 98 | 1 => 107 | 2 => 118 | 3 => 108 | 4 => 102 | _ => 100
/-- a token as the class keeps it -/
def sCls : Nat → Nat
  | 0 => 0 | 1 => 1 | 2 => 2
  | u + 3 => 3 + 8 * ((sLet (u / 1000) * 128 + (60 + u / 100 % 10)) * 128 + u % 100)
def sB : List Bool → Nat
  | [] => 0
  | b :: s => (if b then 1 else 0) + 2 * sB s
theorem sB_lt : ∀ s : List Bool, sB s < 2 ^ s.length
  | [] => by decide
  | b :: s => by
    have := sB_lt s
    rw [List.length_cons, Nat.pow_succ]
    unfold sB
    split <;> omega
theorem av_xorL (a b : Nat) : lN a ^^^ lN b = lN (a ^^^ b) := by
  apply Int64.toBitVec_inj.mp
  rw [Int64.toBitVec_xor]
  show BitVec.ofNat 64 a ^^^ BitVec.ofNat 64 b = BitVec.ofNat 64 (a ^^^ b)
  apply BitVec.eq_of_toNat_eq
  rw [BitVec.toNat_xor, BitVec.toNat_ofNat, BitVec.toNat_ofNat, BitVec.toNat_ofNat, Nat.xor_mod_two_pow]
theorem av_andL (a b : Nat) : lN a &&& lN b = lN (a &&& b) := by
  apply Int64.toBitVec_inj.mp
  rw [Int64.toBitVec_and]
  show BitVec.ofNat 64 a &&& BitVec.ofNat 64 b = BitVec.ofNat 64 (a &&& b)
  apply BitVec.eq_of_toNat_eq
  rw [BitVec.toNat_and, BitVec.toNat_ofNat, BitVec.toNat_ofNat, BitVec.toNat_ofNat, Nat.and_mod_two_pow]
theorem sB_bit0 (b : Bool) (m : Nat) : ((if b then 1 else 0) + 2 * m).testBit 0 = b := by
  rw [Nat.testBit_zero]
  cases b <;> simp <;> omega
theorem sB_bitS (b : Bool) (m i : Nat) : ((if b then 1 else 0) + 2 * m).testBit (i + 1) = m.testBit i := by
  rw [Nat.testBit_succ]
  congr 1
  cases b <;> simp <;> omega
theorem sB_not (b : Bool) (m : Nat) : ((if b then 1 else 0) + 2 * m) ^^^ 1 = (if (!b) then 1 else 0) + 2 * m := by
  apply Nat.eq_of_testBit_eq
  intro i
  rw [Nat.testBit_xor]
  cases i with
  | zero =>
    rw [sB_bit0, sB_bit0]
    cases b <;> rfl
  | succ i =>
    rw [sB_bitS, sB_bitS, show (1 : Nat).testBit (i + 1) = false from by rw [Nat.testBit_succ]; simp]
    simp
theorem sB_half (b : Bool) (m : Nat) : ((if b then 1 else 0) + 2 * m) / 2 = m := by cases b <;> simp <;> omega
theorem sB_and (a b : Bool) (m : Nat) (hm : m < 2 ^ 60) : ((if a then 1 else 0) + 2 * m) &&& (((if b then 1 else 0) + 2 * ((if a then 1 else 0) + 2 * m)) ||| 18446744073709551614) = (if (a && b) then 1 else 0) + 2 * m := by
  apply Nat.eq_of_testBit_eq
  intro i
  rw [Nat.testBit_and, Nat.testBit_or]
  cases i with
  | zero =>
    rw [sB_bit0, sB_bit0, sB_bit0, show (18446744073709551614 : Nat).testBit 0 = false from by decide]
    cases a <;> cases b <;> rfl
  | succ i =>
    rw [sB_bitS, sB_bitS, sB_bitS]
    by_cases hi : i < 63
    · have : ∀ i, i < 63 → (18446744073709551614 : Nat).testBit (i + 1) = true := by decide +kernel
      rw [this i hi]
      simp
    · rw [Nat.testBit_lt_two_pow (Nat.lt_of_lt_of_le hm (Nat.pow_le_pow_right (by decide) (by omega)))]
      simp
theorem sB_or (a b : Bool) (m : Nat) : ((if a then 1 else 0) + 2 * m) ||| (((if b then 1 else 0) + 2 * ((if a then 1 else 0) + 2 * m)) &&& 1) = (if (a || b) then 1 else 0) + 2 * m := by
  apply Nat.eq_of_testBit_eq
  intro i
  rw [Nat.testBit_or, Nat.testBit_and]
  cases i with
  | zero =>
    rw [sB_bit0, sB_bit0, sB_bit0, show (1 : Nat).testBit 0 = true from by decide]
    cases a <;> cases b <;> rfl
  | succ i =>
    rw [sB_bitS, sB_bitS, sB_bitS, show (1 : Nat).testBit (i + 1) = false from by rw [Nat.testBit_succ]; simp]
    simp
theorem sB_push (m : Nat) (b : Bool) : (m * 2) ||| (if b then 1 else 0) = (if b then 1 else 0) + 2 * m := by
  apply Nat.eq_of_testBit_eq
  intro i
  rw [Nat.testBit_or]
  have e : m * 2 = (if false then 1 else 0) + 2 * m := by simp; omega
  cases i with
  | zero =>
    rw [e, sB_bit0, sB_bit0]
    cases b <;> rfl
  | succ i =>
    rw [e, sB_bitS, sB_bitS, Nat.testBit_succ]
    cases b <;> simp
