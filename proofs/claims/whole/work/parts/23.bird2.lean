theorem av_ones {T : Nat} (h : T < 32) : (nI 1 <<< (nI T &&& 31)) - nI 1 = nI (2 ^ T - 1) := by
  rw [av_shl 1 h, Nat.one_mul, av_sub (Nat.one_le_two_pow)]
theorem av_s1 (T : Nat) : nI (1 * 2 ^ T) - nI 1 = nI (2 ^ T - 1) := by rw [Nat.one_mul, av_sub Nat.one_le_two_pow]
theorem av_mask (a top : Nat) : nI a &&& nI (2 ^ top - 1) = nI (a % 2 ^ top) := by rw [av_and, Nat.and_two_pow_sub_one_eq_mod]
def sTall (B : Nat → Nat) : Nat := if B 2 = 4 then 10 else B 5
def sHm (B : Nat → Nat) (top : Nat) : Nat := if B 9 = 0 then ((2 ^ sTall B - 1) * 2 ^ sBot B) % 2 ^ top else 0
theorem sBot_le {B : Nat → Nat} (ok : al_ok B) : sBot B ≤ 11 := by
  obtain ⟨o1, o2, o3, o4, -⟩ := ok
  unfold sBot
  split <;> omega
theorem sTall_le {B : Nat → Nat} (ok : al_ok B) : 1 ≤ sTall B ∧ sTall B ≤ 10 := by
  obtain ⟨o1, o2, o3, o4, o5, o6, -⟩ := ok
  unfold sTall
  split <;> omega
theorem sHm_lt (B : Nat → Nat) (top : Nat) : sHm B top < 2 ^ top := by
  unfold sHm
  split
  · exact Nat.mod_lt _ (Nat.two_pow_pos _)
  · exact Nat.two_pow_pos _
theorem sp_heights (L : av_W) (d : Nat) {p : Nat} {N : av_N} {B : Nat → Nat} (hp : al_bp p) (hb : al_bd N p B) (ok : al_ok B) {top : Nat} (ht : top < 32) : av_C (av_S0 L) (d + 1) 6 [.ref p, .int (nI top)] N = some (some (.int (nI (sHm B top))), N) := by
  obtain ⟨s1, s2, s3, s4⟩ := al_bpE hp L
  have hbt := sBot_le ok
  have ok' := ok
  obtain ⟨o1, o2, o3, o4, o5, o6, o7, o8, o9, o10, o11, o12⟩ := ok
  apply eq_X0_heights
  simp (disch := omega) only [s1, hb.1 9, hb.1 2, hb.1 5, av_tg_s, av_kO, nI_eq, sp_bottom L d hp hb ok', av_bi_s, av_shl, av_s1, av_mask]
  unfold sHm sTall
  by_cases h9 : B 9 = 0
  · rw [if_pos h9, if_pos h9]
    by_cases h4 : B 2 = 4
    · rw [if_pos h4, if_pos h4]
    · rw [if_neg h4, if_neg h4]
  · rw [if_neg h9, if_neg h9]
theorem av_l63 : ∀ b, b < 64 → ((lN b &&& 63).toBitVec.smod 64).toNat = b := by decide +kernel
theorem av_shlL (a : Nat) {b : Nat} (hb : b < 64) : lN a <<< (lN b &&& 63) = lN (a * 2 ^ b) := by
  apply Int64.toBitVec_inj.mp
  show BitVec.ofNat 64 a <<< ((lN b &&& 63).toBitVec.smod 64) = BitVec.ofNat 64 (a * 2 ^ b)
  apply BitVec.eq_of_toNat_eq
  rw [BitVec.shiftLeft_eq', BitVec.toNat_shiftLeft, av_l63 b hb, BitVec.toNat_ofNat, BitVec.toNat_ofNat, Nat.shiftLeft_eq, Nat.mul_mod, Nat.mod_mod, ← Nat.mul_mod]
theorem av_shrL {a b : Nat} (ha : a < 2 ^ 63) (hb : b < 64) : lN a >>> (lN b &&& 63) = lN (a / 2 ^ b) := by
  apply Int64.toBitVec_inj.mp
  show (BitVec.ofNat 64 a).sshiftRight' ((lN b &&& 63).toBitVec.smod 64) = BitVec.ofNat 64 (a / 2 ^ b)
  apply BitVec.eq_of_toNat_eq
  have hm : (BitVec.ofNat 64 a).msb = false := by
    rw [BitVec.msb_eq_false_iff_two_mul_lt, BitVec.toNat_ofNat, Nat.mod_eq_of_lt (by omega)]
    omega
  rw [BitVec.sshiftRight', BitVec.sshiftRight_eq_of_msb_false hm, BitVec.toNat_ushiftRight, av_l63 b hb, BitVec.toNat_ofNat, BitVec.toNat_ofNat, Nat.shiftRight_eq_div_pow, Nat.mod_eq_of_lt (by omega), Nat.mod_eq_of_lt]
  exact Nat.lt_of_le_of_lt (Nat.div_le_self _ _) (by omega)
theorem av_orL (a b : Nat) : lN a ||| lN b = lN (a ||| b) := by
  apply Int64.toBitVec_inj.mp
  rw [Int64.toBitVec_or]
  show BitVec.ofNat 64 a ||| BitVec.ofNat 64 b = BitVec.ofNat 64 (a ||| b)
  apply BitVec.eq_of_toNat_eq
  rw [BitVec.toNat_or, BitVec.toNat_ofNat, BitVec.toNat_ofNat, BitVec.toNat_ofNat, Nat.or_mod_two_pow]
theorem av_onesL {T : Nat} (h : T < 64) : (lN 1 <<< (lN T &&& 63)) - lN 1 = lN (2 ^ T - 1) := by
  rw [av_shlL 1 h, Nat.one_mul, lN_sub (Nat.one_le_two_pow)]
/-- the hours of a stretch of ho from bg on, round the day -/
def sSmN (ho bg : Nat) : Nat := ((2 ^ ho - 1) * 2 ^ bg ||| (2 ^ ho - 1) * 2 ^ bg / 2 ^ 24) % 2 ^ 24
def sSm (B : Nat → Nat) (day : Nat) : Nat := sSmN (B 7) (sBeg B day)
theorem sSmN_bit : ∀ ho, ho < 25 → ∀ bg, bg < 24 → ∀ t, t < 24 → (sSmN ho bg).testBit t = decide ((t + 24 - bg) % 24 < ho) := by decide +kernel
theorem sBeg_lt {B : Nat → Nat} (day : Nat) : sBeg B day < 24 := by
  unfold sBeg
  split
  · exact Nat.mod_lt _ (by decide)
  · split
    · exact Nat.mod_lt _ (by decide)
    · split <;> exact Nat.mod_lt _ (by decide)
theorem av_m24 (a : Nat) : nI a &&& Int32.ofNat 16777215 = nI (a % 2 ^ 24) := av_mask a 24
theorem sp_span (L : av_W) (d : Nat) {p : Nat} {N : av_N} {B : Nat → Nat} (hp : al_bp p) (hb : al_bd N p B) (ok : al_ok B) {day : Nat} (hd : day < 2 ^ 20) : av_C (av_S0 L) (d + 2) 7 [.ref p, .int (nI day)] N = some (some (.int (nI (sSm B day))), N) := by
  obtain ⟨s1, s2, s3, s4⟩ := al_bpE hp L
  have ok' := ok
  obtain ⟨o1, o2, o3, o4, o5, o6, o7, o8, o9, o10, o11, o12⟩ := ok
  have hg := sBeg_lt (B := B) day
  apply eq_X0_span (d := d + 1)
  have hU : (2 ^ B 7 - 1) * 2 ^ sBeg B day < 2 ^ 63 := by
    have a1 : 2 ^ B 7 ≤ 2 ^ 24 := Nat.pow_le_pow_right (by decide) o9
    have a2 : 2 ^ sBeg B day ≤ 2 ^ 24 := Nat.pow_le_pow_right (by decide) (by omega)
    exact Nat.lt_of_le_of_lt (Nat.mul_le_mul (Nat.le_trans (Nat.sub_le _ _) a1) a2) (by decide)
  rw [s1, hb.1 7 (by decide) (by decide), av_tg_s, av_tg_s, sp_begins L d hp hb ok' hd, av_bi_s, av_kO]
  rw [show Int64.ofNat 1 = lN 1 from rfl, nI_l (by omega), nI_l (by omega), nI_l (by decide), av_onesL (by omega), av_shlL _ (by omega), av_shrL hU (by decide), av_orL, lN_i, av_m24]
  rfl

theorem av_bit {m h : Nat} (hm : m < 2 ^ 31) (hh : h < 32) : ((nI m >>> (nI h &&& 31)) &&& nI 1 = nI 0) ↔ m.testBit h = false := by
  rw [av_shr hm hh, av_and, Nat.and_one_is_mod, nI_eq (by omega) (by decide), Nat.testBit_eq_decide_div_mod_eq, decide_eq_false_iff_not]
  omega
def sHolds (B : Nat → Nat) (top day h t : Nat) : Bool := (sHm B top).testBit h && (sSm B day).testBit t
theorem sSm_lt (B : Nat → Nat) (day : Nat) : sSm B day < 2 ^ 24 := Nat.mod_lt _ (by decide)
theorem sp_holds (L : av_W) (d : Nat) {p : Nat} {N : av_N} {B : Nat → Nat} (hp : al_bp p) (hb : al_bd N p B) (ok : al_ok B) {top day h t : Nat} (ht : top ≤ 10) (hd : day < 2 ^ 20) (hh : h < 32) (htt : t < 32) : av_C (av_S0 L) (d + 3) 8 [.ref p, .int (nI h), .int (nI t), .int (nI top), .int (nI day)] N = some (some (.int (av_b (sHolds B top day h t))), N) := by
  obtain ⟨s1, s2, s3, s4⟩ := al_bpE hp L
  have b1 : sHm B top < 2 ^ 31 := Nat.lt_of_lt_of_le (sHm_lt B top) (Nat.pow_le_pow_right (by decide) (by omega))
  have b2 : sSm B day < 2 ^ 31 := Nat.lt_trans (sSm_lt B day) (by decide)
  apply eq_X0_holds (d := d + 2)
  simp only [s1, av_tg_s, sp_heights L (d + 1) hp hb ok (show top < 32 by omega), sp_span L d hp hb ok hd, av_bi_s, av_kO, av_bit b1 hh, av_bit b2 htt, av_bt_0, av_bt_1]
  unfold sHolds
  cases e1 : (sHm B top).testBit h <;> cases e2 : (sSm B day).testBit t <;> rfl
def bc_1 (x : Int32) : Int32 := x - ((x.toUInt32 >>> ((av_k 1).toUInt32 &&& Int32.toUInt32 31)).toInt32 &&& Int32.ofNat 1431655765)
def bc_2 (x : Int32) : Int32 := (x &&& Int32.ofNat 858993459) + ((x.toUInt32 >>> ((av_k 2).toUInt32 &&& Int32.toUInt32 31)).toInt32 &&& Int32.ofNat 858993459)
def bc_3 (x : Int32) : Int32 := (x + (x.toUInt32 >>> ((av_k 4).toUInt32 &&& Int32.toUInt32 31)).toInt32) &&& Int32.ofNat 252645135
def bc_4 (x : Int32) : Int32 := x + (x.toUInt32 >>> ((av_k 8).toUInt32 &&& Int32.toUInt32 31)).toInt32
def bc_5 (x : Int32) : Int32 := x + (x.toUInt32 >>> ((av_k 16).toUInt32 &&& Int32.toUInt32 31)).toInt32
def bc_x (x : Int32) : Int32 := bc_5 (bc_4 (bc_3 (bc_2 (bc_1 x)))) &&& av_k 63
theorem sp_bc (L : av_W) (d : Nat) (x : Int32) (N : av_N) : av_C (av_S0 L) d 217 [.int x] N = some (some (.int (bc_x x)), N) := by
  apply eq_J6_bitCount_0f7a4
  rfl
/-- how many of the first n bits stand -/
def sPop (n m : Nat) : Nat := match n with
  | 0 => 0
  | n + 1 => sPop n m + (if m.testBit n then 1 else 0)
theorem bc_10 : ∀ m, m < 1024 → bc_x (nI m) = nI (sPop 10 m) := by decide +kernel
