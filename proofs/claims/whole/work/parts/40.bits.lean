/-! bits counted: the machine's count on 24 bits, by bytes; sums -/
theorem av_usm : ∀ k : Nat, k < 32 → (UInt32.mod ((av_k (k : Int)).toUInt32 &&& Int32.toUInt32 31) 32).toBitVec.toNat = k := by decide +kernel
theorem av_ushr {m k : Nat} (hm : m < 2 ^ 31) (hk : k < 32) : ((nI m).toUInt32 >>> ((av_k (k : Int)).toUInt32 &&& Int32.toUInt32 31)).toInt32 = nI (m / 2 ^ k) := by
  apply Int32.toBitVec_inj.mp
  show BitVec.ofNat 32 m >>> (UInt32.mod ((av_k (k : Int)).toUInt32 &&& Int32.toUInt32 31) 32).toBitVec = BitVec.ofNat 32 (m / 2 ^ k)
  apply BitVec.eq_of_toNat_eq
  rw [BitVec.ushiftRight_eq', BitVec.toNat_ushiftRight, av_usm k hk, BitVec.toNat_ofNat, BitVec.toNat_ofNat, Nat.shiftRight_eq_div_pow, Nat.mod_eq_of_lt (by omega), Nat.mod_eq_of_lt]
  exact Nat.lt_of_le_of_lt (Nat.div_le_self _ _) (by omega)
def bN1 (m : Nat) : Nat := m - (m / 2 &&& 1431655765)
def bN2 (m : Nat) : Nat := (m &&& 858993459) + (m / 4 &&& 858993459)
def bN3 (m : Nat) : Nat := (m + m / 16) &&& 252645135
theorem bN1_le (m : Nat) : bN1 m ≤ m := Nat.sub_le _ _
theorem bN2_le (m : Nat) : bN2 m ≤ 2 * m := by
  have h1 : m &&& 858993459 ≤ m := Nat.and_le_left
  have h2 : m / 4 &&& 858993459 ≤ m / 4 := Nat.and_le_left
  unfold bN2
  omega
theorem bN3_le (m : Nat) : bN3 m ≤ 2 * m := by
  have h1 : (m + m / 16) &&& 252645135 ≤ m + m / 16 := Nat.and_le_left
  unfold bN3
  omega
theorem bc_nat {m : Nat} (hm : m < 2 ^ 24) : bc_x (nI m) = nI ((bN3 (bN2 (bN1 m)) + bN3 (bN2 (bN1 m)) / 256 + (bN3 (bN2 (bN1 m)) + bN3 (bN2 (bN1 m)) / 256) / 65536) % 64) := by
  have l1 := bN1_le m
  have l2 := bN2_le (bN1 m)
  have l3 := bN3_le (bN2 (bN1 m))
  have h2 : m / 2 &&& 1431655765 ≤ m / 2 := Nat.and_le_left
  have e1 : bc_1 (nI m) = nI (bN1 m) := by
    have := av_ushr (m := m) (k := 1) (by omega) (by decide)
    rw [show (2 : Nat) ^ 1 = 2 from rfl] at this
    unfold bc_1
    show nI m - (((nI m).toUInt32 >>> ((av_k ((1 : Nat) : Int)).toUInt32 &&& Int32.toUInt32 31)).toInt32 &&& nI 1431655765) = _
    rw [this, av_and, av_sub (by omega)]
    rfl
  have e2 : bc_2 (nI (bN1 m)) = nI (bN2 (bN1 m)) := by
    have := av_ushr (m := bN1 m) (k := 2) (by omega) (by decide)
    rw [show (2 : Nat) ^ 2 = 4 from rfl] at this
    unfold bc_2
    show (nI (bN1 m) &&& nI 858993459) + (((nI (bN1 m)).toUInt32 >>> ((av_k ((2 : Nat) : Int)).toUInt32 &&& Int32.toUInt32 31)).toInt32 &&& nI 858993459) = _
    rw [this, av_and, av_and, nI_add]
    rfl
  have e3 : bc_3 (nI (bN2 (bN1 m))) = nI (bN3 (bN2 (bN1 m))) := by
    have := av_ushr (m := bN2 (bN1 m)) (k := 4) (by omega) (by decide)
    rw [show (2 : Nat) ^ 4 = 16 from rfl] at this
    unfold bc_3
    show (nI (bN2 (bN1 m)) + ((nI (bN2 (bN1 m))).toUInt32 >>> ((av_k ((4 : Nat) : Int)).toUInt32 &&& Int32.toUInt32 31)).toInt32) &&& nI 252645135 = _
    rw [this, nI_add, av_and]
    rfl
  have e4 : ∀ x, x < 2 ^ 30 → bc_4 (nI x) = nI (x + x / 256) := by
    intro x hx
    have := av_ushr (m := x) (k := 8) (by omega) (by decide)
    rw [show (2 : Nat) ^ 8 = 256 from rfl] at this
    unfold bc_4
    show nI x + ((nI x).toUInt32 >>> ((av_k ((8 : Nat) : Int)).toUInt32 &&& Int32.toUInt32 31)).toInt32 = _
    rw [this, nI_add]
  have e5 : ∀ x, x < 2 ^ 31 → bc_5 (nI x) = nI (x + x / 65536) := by
    intro x hx
    have := av_ushr (m := x) (k := 16) (by omega) (by decide)
    rw [show (2 : Nat) ^ 16 = 65536 from rfl] at this
    unfold bc_5
    show nI x + ((nI x).toUInt32 >>> ((av_k ((16 : Nat) : Int)).toUInt32 &&& Int32.toUInt32 31)).toInt32 = _
    rw [this, nI_add]
  unfold bc_x
  rw [e1, e2, e3, e4 _ (by omega), e5 _ (by omega)]
  exact av_mask _ 6
theorem and_lo {z M : Nat} (h : z < 2 ^ 24) : z &&& M = z &&& (M % 2 ^ 24) := by
  have h1 : z &&& M ≤ z := Nat.and_le_left
  have := Nat.and_mod_two_pow (a := z) (b := M) (n := 24)
  rw [Nat.mod_eq_of_lt (by omega), Nat.mod_eq_of_lt h] at this
  exact this
theorem lane {x : Nat} (M : Nat) : x &&& M = ((x % 256) &&& (M % 256)) + 256 * ((x / 256) &&& (M / 256)) := by
  have h1 : (x &&& M) % 256 = (x % 256) &&& (M % 256) := Nat.and_mod_two_pow (n := 8)
  have h2 : (x &&& M) / 256 = (x / 256) &&& (M / 256) := Nat.and_div_two_pow (n := 8)
  have := Nat.div_add_mod (x &&& M) 256
  rw [h1, h2] at this
  omega
theorem ln1 : ∀ a, a < 256 → ∀ e, e < 2 → (a / 2 + 128 * e) &&& 85 = (a / 2) &&& 85 := by decide +kernel
theorem ln2 : ∀ a, a < 256 → ∀ e, e < 4 → (a / 4 + 64 * e) &&& 51 = (a / 4) &&& 51 := by decide +kernel
theorem bN1_ln {a y : Nat} (ha : a < 256) (hy : y < 65536) : bN1 (a + 256 * y) = bN1 a + 256 * bN1 y := by
  have l1 := lane (x := (a + 256 * y) / 2) 1431655765
  have l2 := lane (x := a / 2) 1431655765
  rw [show (a + 256 * y) / 2 % 256 = a / 2 + 128 * (y % 2) by omega, show (a + 256 * y) / 2 / 256 = y / 2 by omega, show 1431655765 % 256 = 85 from rfl, show 1431655765 / 256 = 5592405 from rfl, ln1 a ha (y % 2) (Nat.mod_lt _ (by decide))] at l1
  rw [show a / 2 % 256 = a / 2 by omega, show a / 2 / 256 = 0 by omega, show 1431655765 % 256 = 85 from rfl, Nat.zero_and] at l2
  have l3 : y / 2 &&& 1431655765 = y / 2 &&& 5592405 := and_lo (by omega)
  have l4 : a / 2 &&& 85 ≤ a / 2 := Nat.and_le_left
  have l5 : y / 2 &&& 5592405 ≤ y / 2 := Nat.and_le_left
  unfold bN1
  omega
theorem bN2_ln {a y : Nat} (ha : a < 256) (hy : y < 65536) : bN2 (a + 256 * y) = bN2 a + 256 * bN2 y := by
  have l1 := lane (x := (a + 256 * y) / 4) 858993459
  have l2 := lane (x := a / 4) 858993459
  have k1 := lane (x := a + 256 * y) 858993459
  have k2 := lane (x := a) 858993459
  rw [show (a + 256 * y) / 4 % 256 = a / 4 + 64 * (y % 4) by omega, show (a + 256 * y) / 4 / 256 = y / 4 by omega, show 858993459 % 256 = 51 from rfl, show 858993459 / 256 = 3355443 from rfl, ln2 a ha (y % 4) (Nat.mod_lt _ (by decide))] at l1
  rw [show a / 4 % 256 = a / 4 by omega, show a / 4 / 256 = 0 by omega, show 858993459 % 256 = 51 from rfl, Nat.zero_and] at l2
  rw [show (a + 256 * y) % 256 = a by omega, show (a + 256 * y) / 256 = y by omega, show 858993459 % 256 = 51 from rfl, show 858993459 / 256 = 3355443 from rfl] at k1
  rw [show a % 256 = a by omega, show a / 256 = 0 by omega, show 858993459 % 256 = 51 from rfl, Nat.zero_and] at k2
  have l3 : y / 4 &&& 858993459 = y / 4 &&& 3355443 := and_lo (by omega)
  have k3 : y &&& 858993459 = y &&& 3355443 := and_lo (by omega)
  unfold bN2
  omega
theorem ln3 : ∀ a, a < 128 → ∀ e, e < 7 → (a + a / 16 + 16 * e) &&& 15 = (a + a / 16) &&& 15 := by decide +kernel
theorem bN3_ln {a y : Nat} (ha : a < 128) (hs : a + a / 16 + 16 * (y % 16) < 256) (he : y % 16 < 7) (hy : y < 65536) : bN3 (a + 256 * y) = bN3 a + 256 * bN3 y := by
  have l1 := lane (x := a + 256 * y + (a + 256 * y) / 16) 252645135
  have l2 := lane (x := a + a / 16) 252645135
  rw [show (a + 256 * y + (a + 256 * y) / 16) % 256 = a + a / 16 + 16 * (y % 16) by omega, show (a + 256 * y + (a + 256 * y) / 16) / 256 = y + y / 16 by omega, show 252645135 % 256 = 15 from rfl, show 252645135 / 256 = 986895 from rfl, ln3 a ha _ he] at l1
  rw [show (a + a / 16) % 256 = a + a / 16 by omega, show (a + a / 16) / 256 = 0 by omega, show 252645135 % 256 = 15 from rfl, Nat.zero_and] at l2
  have l3 : (y + y / 16) &&& 252645135 = (y + y / 16) &&& 986895 := and_lo (by omega)
  unfold bN3
  omega
theorem bN_8 : ∀ a, a < 256 → bN2 (bN1 a) ≤ 68 ∧ bN2 (bN1 a) % 16 ≤ 4 ∧ bN3 (bN2 (bN1 a)) = sPop 8 a ∧ bN1 a < 256 := by decide +kernel
theorem sPop_eq : ∀ n m, sPop n m = sumN (fun i => if m.testBit i then 1 else 0) n
  | 0, _ => rfl
  | n + 1, m => by
    show sPop n m + _ = sumN _ n + _
    rw [sPop_eq n m]
theorem sumN_cg {f g : Nat → Nat} : ∀ {n : Nat}, (∀ i, i < n → f i = g i) → sumN f n = sumN g n
  | 0, _ => rfl
  | n + 1, h => by
    show sumN f n + f n = sumN g n + g n
    rw [sumN_cg (fun i hi => h i (by omega)), h n (by omega)]
theorem sumN_add (f : Nat → Nat) (a : Nat) : ∀ b, sumN f (a + b) = sumN f a + sumN (fun i => f (a + i)) b
  | 0 => rfl
  | b + 1 => by
    show sumN f (a + b) + f (a + b) = sumN f a + (sumN (fun i => f (a + i)) b + f (a + b))
    rw [sumN_add f a b]
    omega
theorem sumN_0 {f : Nat → Nat} : ∀ {n : Nat}, (∀ i, i < n → f i = 0) → sumN f n = 0
  | 0, _ => rfl
  | n + 1, h => by
    show sumN f n + f n = 0
    rw [sumN_0 (fun i hi => h i (by omega)), h n (by omega)]
theorem sumN_le {f : Nat → Nat} {c : Nat} : ∀ {n : Nat}, (∀ i, i < n → f i ≤ c) → sumN f n ≤ n * c
  | 0, _ => by simp [sumN]
  | n + 1, h => by
    show sumN f n + f n ≤ _
    have h1 := sumN_le (fun i hi => h i (by omega)) (n := n)
    have h2 := h n (by omega)
    rw [Nat.succ_mul]
    omega
theorem sPop_split (i k m : Nat) : sPop (i + k) m = sPop i (m % 2 ^ i) + sPop k (m / 2 ^ i) := by
  rw [sPop_eq, sPop_eq, sPop_eq, sumN_add]
  congr 1
  · refine sumN_cg (fun j hj => ?_)
    rw [Nat.testBit_mod_two_pow, decide_eq_true hj, Bool.true_and]
  · refine sumN_cg (fun j hj => ?_)
    rw [Nat.testBit_div_two_pow, Nat.add_comm]
theorem bc_24 {m : Nat} (hm : m < 2 ^ 24) : bc_x (nI m) = nI (sPop 24 m) := by
  rw [bc_nat hm]
  obtain ⟨a, b, c, ha, hb, hc, rfl⟩ : ∃ a b c, a < 256 ∧ b < 256 ∧ c < 256 ∧ m = a + 256 * (b + 256 * c) := ⟨m % 256, m / 256 % 256, m / 65536, by omega, by omega, by omega, by omega⟩
  obtain ⟨a1, a2, a3, a4⟩ := bN_8 a ha
  obtain ⟨b1, b2, b3, b4⟩ := bN_8 b hb
  obtain ⟨c1, c2, c3, c4⟩ := bN_8 c hc
  have e1 : bN1 (b + 256 * c) = bN1 b + 256 * bN1 c := bN1_ln hb (by omega)
  have e2 : bN2 (bN1 (b + 256 * c)) = bN2 (bN1 b) + 256 * bN2 (bN1 c) := by rw [e1]; exact bN2_ln b4 (by omega)
  have e3 : bN3 (bN2 (bN1 (b + 256 * c))) = bN3 (bN2 (bN1 b)) + 256 * bN3 (bN2 (bN1 c)) := by rw [e2]; exact bN3_ln (by omega) (by omega) (by omega) (by omega)
  have f1 : bN1 (a + 256 * (b + 256 * c)) = bN1 a + 256 * bN1 (b + 256 * c) := bN1_ln ha (by omega)
  have f2 : bN2 (bN1 (a + 256 * (b + 256 * c))) = bN2 (bN1 a) + 256 * bN2 (bN1 (b + 256 * c)) := by rw [f1]; exact bN2_ln a4 (by rw [e1]; omega)
  have f3 : bN3 (bN2 (bN1 (a + 256 * (b + 256 * c)))) = bN3 (bN2 (bN1 a)) + 256 * bN3 (bN2 (bN1 (b + 256 * c))) := by rw [f2]; exact bN3_ln (by omega) (by rw [e2]; omega) (by rw [e2]; omega) (by rw [e2]; omega)
  have p1 := sPop_split 8 16 (a + 256 * (b + 256 * c))
  have p2 := sPop_split 8 8 (b + 256 * c)
  rw [show (a + 256 * (b + 256 * c)) % 2 ^ 8 = a by omega, show (a + 256 * (b + 256 * c)) / 2 ^ 8 = b + 256 * c by omega] at p1
  rw [show (b + 256 * c) % 2 ^ 8 = b by omega, show (b + 256 * c) / 2 ^ 8 = c by omega] at p2
  rw [show (24 : Nat) = 8 + 16 from rfl, p1, show (16 : Nat) = 8 + 8 from rfl, p2, f3, e3, a3, b3, c3]
  have q1 := sPop_le 8 a
  have q2 := sPop_le 8 b
  have q3 := sPop_le 8 c
  congr 1
  generalize sPop 8 a = A at *
  generalize sPop 8 b = C at *
  generalize sPop 8 c = D at *
  have d1 : (A + 256 * (C + 256 * D)) / 256 = C + 256 * D := by omega
  rw [d1]
  have d2 : (A + 256 * (C + 256 * D) + (C + 256 * D)) / 65536 = D := by omega
  rw [d2]
  omega
theorem sPop_top {m top : Nat} (hm : m < 2 ^ top) {k : Nat} (hk : top ≤ k) : sPop k m = sPop top m := by
  obtain ⟨j, rfl⟩ : ∃ j, k = top + j := ⟨k - top, by omega⟩
  rw [sPop_split, Nat.mod_eq_of_lt hm, Nat.div_eq_of_lt hm, sPop_eq j, sumN_0 (fun i _ => by simp), Nat.add_zero]
theorem sPop_bits (p : Nat → Bool) {n k : Nat} (hk : n ≤ k) : sPop k (sBits p n) = sumN (fun i => if p i then 1 else 0) n := by
  rw [sPop_top (sBits_lt p n) hk, sPop_eq]
  refine sumN_cg (fun i hi => ?_)
  rw [sBits_bit, decide_eq_true hi, Bool.true_and]
