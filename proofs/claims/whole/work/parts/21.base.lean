/-! numbers: what the machine's arithmetic comes to on small ones -/
theorem av_kN (n : Nat) : av_k (n : Int) = nI n := by
  unfold av_k nI
  apply Int32.toBitVec_inj.mp
  show BitVec.ofInt 32 (n : Int) = BitVec.ofNat 32 n
  exact BitVec.ofInt_natCast 32 n
theorem av_kO (n : Nat) : av_k (no_index (@OfNat.ofNat Int n _)) = nI n := av_kN n
def av_b (b : Bool) : Int32 := if b then nI 1 else nI 0
theorem av_b_0 (b : Bool) : (av_b b = nI 0) ↔ b = false := by cases b <;> decide
theorem av_b_1 (b : Bool) : (av_b b = nI 1) ↔ b = true := by cases b <;> decide
theorem av_bt_b {α : Type} (b : Bool) (A : Option α) : av_bt (av_b b) A = A := by cases b <;> rfl
theorem av_bt_0 {α : Type} (A : Option α) : av_bt (nI 0) A = A := rfl
theorem av_bt_1 {α : Type} (A : Option α) : av_bt (nI 1) A = A := rfl
theorem av_bi_s (x : Int32) (N : av_N) (f : Int32 → av_N → Option av_Q) : av_bi (some (some (.int x), N)) f = f x N := rfl
theorem av_bl_s (x : Int64) (N : av_N) (f : Int64 → av_N → Option av_Q) : av_bl (some (some (.long x), N)) f = f x N := rfl
theorem av_bv_s (N : av_N) (f : av_N → Option av_Q) : av_bv (some (none, N)) f = f N := rfl
theorem av_br_s (p : Nat) (N : av_N) (f : Nat → av_N → Option av_Q) (g : av_N → Option av_Q) : av_br (some (some (.ref p), N)) f g = f p N := rfl
theorem av_br_n (N : av_N) (f : Nat → av_N → Option av_Q) (g : av_N → Option av_Q) : av_br (some (some .null, N)) f g = g N := rfl
theorem av_bd_s {α β : Type} (x : α) (f : α → Option β) : (some x).bind f = f x := rfl
theorem av_tg_s {α : Type} (t n : Nat) (A : Option α) : av_tg (t, n) t A = A := by
  unfold av_tg
  split
  · rfl
  next h => exact absurd (Nat.beq_refl t) (by rw [h]; decide)
theorem av_ge_s {α : Type} {p : Nat} (h : 9 ≤ p) (A : Option α) : av_ge p A = A := by
  unfold av_ge
  split
  · rfl
  next hb => exact absurd (Nat.ble_eq_true_of_le h) (by rw [hb]; decide)
theorem av_gx_s {α : Type} {j n : Nat} (h : j < n) (hj : j < 2 ^ 31) (A : Option α) : av_gx (nI j) n A = A := if_pos ⟨nI_pos hj, by rw [nI_clamp hj]; exact h⟩
theorem av_nz_s {α : Type} {j : Nat} (h : 0 < j) (hj : j < 2 ^ 31) (A : Option α) : av_nz (nI j) A = A := if_neg (nI_ne0 h hj)
theorem av_sub {a b : Nat} (h : b ≤ a) : nI a - nI b = nI (a - b) := by
  have e : nI (a - b) + nI b = nI a := by rw [nI_add]; congr 1; omega
  rw [← e]
  apply Int32.toBitVec_inj.mp
  rw [Int32.toBitVec_sub, Int32.toBitVec_add]
  exact BitVec.add_sub_cancel _ _
theorem av_mul (a b : Nat) : nI a * nI b = nI (a * b) := (Int32.ofNat_mul a b).symm
theorem av_and (a b : Nat) : nI a &&& nI b = nI (a &&& b) := by
  apply Int32.toBitVec_inj.mp
  rw [Int32.toBitVec_and]
  show BitVec.ofNat 32 a &&& BitVec.ofNat 32 b = BitVec.ofNat 32 (a &&& b)
  apply BitVec.eq_of_toNat_eq
  rw [BitVec.toNat_and, BitVec.toNat_ofNat, BitVec.toNat_ofNat, BitVec.toNat_ofNat, Nat.and_mod_two_pow]
theorem av_or (a b : Nat) : nI a ||| nI b = nI (a ||| b) := by
  apply Int32.toBitVec_inj.mp
  rw [Int32.toBitVec_or]
  show BitVec.ofNat 32 a ||| BitVec.ofNat 32 b = BitVec.ofNat 32 (a ||| b)
  apply BitVec.eq_of_toNat_eq
  rw [BitVec.toNat_or, BitVec.toNat_ofNat, BitVec.toNat_ofNat, BitVec.toNat_ofNat, Nat.or_mod_two_pow]
theorem av_xor (a b : Nat) : nI a ^^^ nI b = nI (a ^^^ b) := by
  apply Int32.toBitVec_inj.mp
  rw [Int32.toBitVec_xor]
  show BitVec.ofNat 32 a ^^^ BitVec.ofNat 32 b = BitVec.ofNat 32 (a ^^^ b)
  apply BitVec.eq_of_toNat_eq
  rw [BitVec.toNat_xor, BitVec.toNat_ofNat, BitVec.toNat_ofNat, BitVec.toNat_ofNat, Nat.xor_mod_two_pow]
theorem av_s31 : ∀ b, b < 32 → ((nI b &&& 31).toBitVec.smod 32).toNat = b := by decide +kernel
theorem av_shl (a : Nat) {b : Nat} (hb : b < 32) : nI a <<< (nI b &&& 31) = nI (a * 2 ^ b) := by
  apply Int32.toBitVec_inj.mp
  show BitVec.ofNat 32 a <<< ((nI b &&& 31).toBitVec.smod 32) = BitVec.ofNat 32 (a * 2 ^ b)
  apply BitVec.eq_of_toNat_eq
  rw [BitVec.shiftLeft_eq', BitVec.toNat_shiftLeft, av_s31 b hb, BitVec.toNat_ofNat, BitVec.toNat_ofNat, Nat.shiftLeft_eq, Nat.mul_mod, Nat.mod_mod, ← Nat.mul_mod]
theorem av_shr {a b : Nat} (ha : a < 2 ^ 31) (hb : b < 32) : nI a >>> (nI b &&& 31) = nI (a / 2 ^ b) := by
  apply Int32.toBitVec_inj.mp
  show (BitVec.ofNat 32 a).sshiftRight' ((nI b &&& 31).toBitVec.smod 32) = BitVec.ofNat 32 (a / 2 ^ b)
  apply BitVec.eq_of_toNat_eq
  have hm : (BitVec.ofNat 32 a).msb = false := by
    rw [BitVec.msb_eq_false_iff_two_mul_lt, BitVec.toNat_ofNat, Nat.mod_eq_of_lt (by omega)]
    omega
  rw [BitVec.sshiftRight', BitVec.sshiftRight_eq_of_msb_false hm, BitVec.toNat_ushiftRight, av_s31 b hb, BitVec.toNat_ofNat, BitVec.toNat_ofNat, Nat.shiftRight_eq_div_pow, Nat.mod_eq_of_lt (by omega), Nat.mod_eq_of_lt]
  exact Nat.lt_of_le_of_lt (Nat.div_le_self _ _) (by omega)
theorem av_div {a b : Nat} (ha : a < 2 ^ 31) (hb : b < 2 ^ 31) : nI a / nI b = nI (a / b) := by
  have h : a / b < 2 ^ 31 := Nat.lt_of_le_of_lt (Nat.div_le_self _ _) ha
  apply Int32.toInt_inj.mp
  rw [Int32.toInt_div, nI_toInt ha, nI_toInt hb, nI_toInt h]
  show ((a : Int).tdiv (b : Int)).bmod 4294967296 = _
  rw [← Int.ofNat_tdiv]
  generalize a / b = c at h ⊢
  exact Int.bmod_eq_of_le (by omega) (by omega)
theorem av_rem {a b : Nat} (ha : a < 2 ^ 31) (hb : b < 2 ^ 31) : nI a - nI a / nI b * nI b = nI (a % b) := by
  rw [av_div ha hb, av_mul, av_sub (Nat.div_mul_le_self a b)]
  congr 1
  have := Nat.div_add_mod a b
  rw [Nat.mul_comm] at this
  omega
theorem av_le {x y : Int32} : x ≤ y ↔ ¬ y < x := by rw [Int32.le_iff_toInt_le, Int32.lt_iff_toInt_lt]; omega
theorem av_in {x : Int32} {a b : Nat} (ha : a < 2 ^ 31) (hb : b < 2 ^ 31) (h1 : ¬ x < nI a) (h2 : ¬ nI b < x) : ∃ j, a ≤ j ∧ j ≤ b ∧ x = nI j := by
  rw [Int32.lt_iff_toInt_lt, nI_toInt ha] at h1
  rw [Int32.lt_iff_toInt_lt, nI_toInt hb] at h2
  refine ⟨x.toInt.toNat, by omega, by omega, ?_⟩
  apply Int32.toInt_inj.mp
  rw [nI_toInt (by omega)]
  omega
def av_wi (x : Int32) (a b : Int32) : Bool := decide (¬ x < a) && decide (¬ b < x)
theorem sp_within (L : av_W) (d : Nat) (x a b : Int32) (N : av_N) : av_C (av_S0 L) d 87 [.int x, .int a, .int b] N = some (some (.int (av_b (av_wi x a b))), N) := by
  apply eq_X6_within
  unfold av_wi
  by_cases h1 : x < a
  · rw [if_pos h1, (decide_eq_false (fun z => z h1) : decide (¬ x < a) = false)]
    rfl
  · by_cases h2 : b < x
    · rw [if_neg h1, if_pos h2, (decide_eq_false (fun z => z h2) : decide (¬ b < x) = false), Bool.and_false]
      rfl
    · rw [if_neg h1, if_neg h2, (decide_eq_true h1 : decide (¬ x < a) = true), (decide_eq_true h2 : decide (¬ b < x) = true)]
      rfl
theorem sp_in (L : av_W) (d : Nat) (x a b : Int32) (N : av_N) : av_C (av_S0 L) d 112 [.ref 142, .int x, .int a, .int b] N = some (some (.int (av_b (av_wi x a b))), N) := by
  apply eq_X7_in
  unfold av_wi
  by_cases h1 : x < a
  · rw [if_pos h1, (decide_eq_false (fun z => z h1) : decide (¬ x < a) = false)]
    rfl
  · by_cases h2 : b < x
    · rw [if_neg h1, if_pos h2, (decide_eq_false (fun z => z h2) : decide (¬ b < x) = false), Bool.and_false]
      rfl
    · rw [if_neg h1, if_neg h2, (decide_eq_true h1 : decide (¬ x < a) = true), (decide_eq_true h2 : decide (¬ b < x) = true)]
      rfl
theorem av_wiE {x : Int32} {a b : Nat} (ha : a < 2 ^ 31) (hb : b < 2 ^ 31) : av_wi x (nI a) (nI b) = true ↔ ∃ j, a ≤ j ∧ j ≤ b ∧ x = nI j := by
  unfold av_wi
  rw [Bool.and_eq_true, decide_eq_true_eq, decide_eq_true_eq]
  constructor
  · rintro ⟨h1, h2⟩
    exact av_in ha hb h1 h2
  · rintro ⟨j, h1, h2, rfl⟩
    exact ⟨nI_nlt h1 (by omega), nI_nlt h2 hb⟩
theorem av_wiN {j a b : Nat} (ha : a < 2 ^ 31) (hb : b < 2 ^ 31) (hj : j < 2 ^ 31) : av_wi (nI j) (nI a) (nI b) = decide (a ≤ j ∧ j ≤ b) := by
  unfold av_wi
  simp only [nI_ltI hj ha, nI_ltI hb hj]
  by_cases h1 : a ≤ j <;> by_cases h2 : j ≤ b <;> simp [h1, h2] <;> omega
