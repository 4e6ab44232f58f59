/-! the class's masks and the reference's counting come to the same -/
def anyN (p : Nat → Bool) : Nat → Bool
  | 0 => false
  | n + 1 => anyN p n || p n
theorem anyN_f {p : Nat → Bool} : ∀ {n : Nat}, anyN p n = false ↔ ∀ i, i < n → p i = false
  | 0 => ⟨fun _ i hi => absurd hi (Nat.not_lt_zero _), fun _ => rfl⟩
  | n + 1 => by
    show (anyN p n || p n) = false ↔ _
    rw [Bool.or_eq_false_iff, anyN_f]
    constructor
    · rintro ⟨h1, h2⟩ i hi
      by_cases e : i = n
      · rw [e]; exact h2
      · exact h1 i (by omega)
    · intro h
      exact ⟨fun i hi => h i (by omega), h n (by omega)⟩
theorem anyN_cg {p q : Nat → Bool} : ∀ {n : Nat}, (∀ i, i < n → p i = q i) → anyN p n = anyN q n
  | 0, _ => rfl
  | n + 1, h => by
    show (anyN p n || p n) = (anyN q n || q n)
    rw [anyN_cg (fun i hi => h i (by omega)), h n (by omega)]
def cntN (p : Nat → Bool) (n : Nat) : Nat := sumN (fun i => if p i then 1 else 0) n
theorem cntN_s (p : Nat → Bool) (n : Nat) : cntN p (n + 1) = cntN p n + (if p n then 1 else 0) := rfl
theorem cntN_any (p : Nat → Bool) : ∀ n, decide (0 < cntN p n) = anyN p n
  | 0 => rfl
  | n + 1 => by
    have ih := cntN_any p n
    rw [cntN_s]
    show _ = (anyN p n || p n)
    rw [← ih]
    cases p n
    · simp
    · simp
theorem cntN_but {p : Nat → Bool} {b : Nat} (hb : p b = true) : ∀ n, cntN p n = cntN (fun k => !(k == b) && p k) n + (if b < n then 1 else 0)
  | 0 => rfl
  | n + 1 => by
    have ih := cntN_but hb n
    rw [cntN_s, cntN_s, ih]
    by_cases e : n = b
    · subst e
      rw [hb, if_neg (Nat.lt_irrefl _), if_pos (Nat.lt_succ_self _)]
      simp
    · rw [show (n == b) = false from by simpa using e]
      by_cases h : b < n
      · rw [if_pos h, if_pos (show b < n + 1 by omega), Bool.not_false, Bool.true_and]
        omega
      · rw [if_neg h, if_neg (show ¬ b < n + 1 by omega), Bool.not_false, Bool.true_and]
        omega
theorem cntN_2 {p : Nat → Bool} {b n : Nat} (hb : p b = true) (hn : b < n) : decide (1 < cntN p n) = anyN (fun k => !(k == b) && p k) n := by
  rw [← cntN_any, cntN_but hb n, if_pos hn]
  apply decide_eq_decide.mpr
  omega
theorem sOnce_bit (B : Nat → Nat → Nat) (top day w t h : Nat) : ∀ n, (sOnce B top day w t n).testBit h = anyN (fun k => !(k == w) && sHolds (B k) top day h t) n
  | 0 => by
    show (0 : Nat).testBit h = false
    simp
  | n + 1 => by
    have ih := sOnce_bit B top day w t h n
    show (if n = w then sOnce B top day w t n else if (sSm (B n) day).testBit t then sOnce B top day w t n ||| sHm (B n) top else sOnce B top day w t n).testBit h = (anyN _ n || _)
    rw [← ih]
    unfold sHolds
    dsimp only
    by_cases e : n = w
    · rw [if_pos e, e]
      simp
    · rw [if_neg e, show (n == w) = false from by simpa using e]
      cases ht : (sSm (B n) day).testBit t
      · simp
      · simp [Nat.testBit_or]
theorem sTwice_bit (B : Nat → Nat → Nat) (top day w t h : Nat) : ∀ n, (sTwice B top day w t n).testBit h = decide (1 < cntN (fun k => !(k == w) && sHolds (B k) top day h t) n)
  | 0 => by
    show (0 : Nat).testBit h = false
    simp
  | n + 1 => by
    have ih := sTwice_bit B top day w t h n
    have io := sOnce_bit B top day w t h n
    rw [← cntN_any] at io
    show (if n = w then sTwice B top day w t n else if (sSm (B n) day).testBit t then sTwice B top day w t n ||| (sOnce B top day w t n &&& sHm (B n) top) else sTwice B top day w t n).testBit h = _
    rw [cntN_s]
    have hh : sHolds (B n) top day h t = ((sHm (B n) top).testBit h && (sSm (B n) day).testBit t) := rfl
    by_cases e : n = w
    · rw [if_pos e, ih, e]
      simp
    · rw [if_neg e, show (n == w) = false from by simpa using e, hh]
      cases ht : (sSm (B n) day).testBit t
      · rw [if_neg (by decide), ih]
        simp
      · rw [if_pos rfl, Nat.testBit_or, Nat.testBit_and, ih, io]
        cases hm : (sHm (B n) top).testBit h
        · simp
        · simp only [Bool.not_false, Bool.true_and, Bool.and_true, if_pos rfl, if_true]
          rw [← Bool.decide_or]
          apply decide_eq_decide.mpr
          omega
theorem sOnce_lt (B : Nat → Nat → Nat) (top day w t : Nat) : ∀ n, sOnce B top day w t n < 2 ^ top
  | 0 => Nat.two_pow_pos _
  | n + 1 => by
    have ih := sOnce_lt B top day w t n
    unfold sOnce
    split
    · exact ih
    · split
      · exact Nat.or_lt_two_pow ih (sHm_lt _ _)
      · exact ih
theorem and_lt_2 {x y n : Nat} (h : x < 2 ^ n) : x &&& y < 2 ^ n := Nat.lt_of_le_of_lt Nat.and_le_left h
theorem sTwice_lt (B : Nat → Nat → Nat) (top day w t : Nat) : ∀ n, sTwice B top day w t n < 2 ^ top
  | 0 => Nat.two_pow_pos _
  | n + 1 => by
    have ih := sTwice_lt B top day w t n
    unfold sTwice
    split
    · exact ih
    · split
      · exact Nat.or_lt_two_pow ih (and_lt_2 (sOnce_lt B top day w t n))
      · exact ih
theorem sHeld_pop (B : Nat → Nat → Nat) {n : Nat} (top day h t : Nat) (hn : n ≤ 10) : sPop 10 (sHeld B n top day h t) = cntN (fun b => sHolds (B b) top day h t) n := sPop_bits _ hn
theorem ne99 {n k : Nat} (hn : n ≤ 7) (hk : k < n) : (k == 99) = false := by
  have : k ≠ 99 := by omega
  simpa using this
theorem any99 {n : Nat} (hn : n ≤ 7) (p : Nat → Bool) : anyN (fun k => !(k == 99) && p k) n = anyN p n := anyN_cg (fun k hk => by
  show (!(k == 99) && p k) = _
  rw [ne99 hn hk]
  rfl)
theorem cnt99 {n : Nat} (hn : n ≤ 7) (p : Nat → Bool) : cntN (fun k => !(k == 99) && p k) n = cntN p n := sumN_cg (fun k hk => by
  show (if (!(k == 99) && p k) = true then 1 else 0) = _
  rw [ne99 hn hk]
  rfl)
/-- the free heights as the class keeps them -/
theorem sFree_once (B : Nat → Nat → Nat) {n : Nat} (top day t : Nat) (hn : n ≤ 7) : sFree B n top day t = sBits (fun h => !(sOnce B top day 99 t n).testBit h) top := by
  unfold sFree
  refine sBits_cg (fun h _ => ?_)
  rw [sOnce_bit, any99 hn]
  unfold sHeld
  cases ha : anyN (fun k => sHolds (B k) top day h t) n
  · rw [anyN_f] at ha
    rw [(sBits_0 _ _).mpr ha]
    rfl
  · have : ¬ sBits (fun b => sHolds (B b) top day h t) n = 0 := fun z => by
      rw [anyN_f.mpr ((sBits_0 _ _).mp z)] at ha
      cases ha
    show (_ == 0) = false
    simpa using this
theorem sCrowd_twice (B : Nat → Nat → Nat) {n : Nat} {top : Nat} (day : Nat) (hn : n ≤ 7) (ht : top ≤ 10) : sumN (fun t => sPop 10 (sTwice B top day 99 t n)) 24 = sCrowd B n top day := by
  unfold sCrowd sum2
  refine sumN_cg (fun t _ => ?_)
  rw [sPop_top (sTwice_lt _ _ _ _ _ _) ht, sPop_eq]
  refine sumN_cg (fun h _ => ?_)
  dsimp only
  rw [sTwice_bit, cnt99 hn, sHeld_pop B top day h t (by omega)]
  simp
theorem sumN_if (p : Nat → Bool) (X : Nat) : ∀ n, sumN (fun t => if p t then X else 0) n = X * sumN (fun t => if p t then 1 else 0) n
  | 0 => by simp [sumN]
  | n + 1 => by
    show sumN (fun t => if p t then X else 0) n + (if p n then X else 0) = X * (sumN (fun t => if p t then 1 else 0) n + (if p n then 1 else 0))
    rw [sumN_if p X n, Nat.mul_add]
    congr 1
    split
    · exact (Nat.mul_one X).symm
    · rfl
theorem sClash_pop (A C : Nat → Nat) {top : Nat} (day : Nat) (ht : top ≤ 10) : sPop 10 (sHm A top &&& sHm C top) * sPop 24 (sSm A day &&& sSm C day) = sClash A C top day := by
  unfold sClash sum2
  rw [sPop_top (and_lt_2 (sHm_lt A top)) ht, sPop_eq top, sPop_eq 24]
  rw [← sumN_if (fun t => (sSm A day &&& sSm C day).testBit t)]
  refine sumN_cg (fun t _ => ?_)
  rw [Nat.testBit_and]
  unfold sHolds
  dsimp only
  cases h1 : (sSm A day).testBit t
  · rw [Bool.false_and, if_neg (by decide)]
    exact (sumN_0 (fun h _ => by simp)).symm
  · cases h2 : (sSm C day).testBit t
    · rw [Bool.and_false, if_neg (by decide)]
      exact (sumN_0 (fun h _ => by simp)).symm
    · rw [Bool.true_and, if_pos rfl]
      refine sumN_cg (fun h _ => ?_)
      rw [Nat.testBit_and]
      simp
/-- how many strips of X others hold, too: by masks, and one by one -/
def sShr (B : Nat → Nat → Nat) (n top day b : Nat) (X : Nat → Nat) : Nat := sumN (fun t => if (sSm X day).testBit t then sPop 10 (sHm X top &&& sOnce B top day b t n) else 0) 24
theorem sShared_shr (B : Nat → Nat → Nat) {n top b : Nat} (day : Nat) (X : Nat → Nat) (hn : n ≤ 7) (ht : top ≤ 10) (hb : b < n) : sShr B n top day b X = sShared (sUpd B b X) n top day b := by
  unfold sShr sShared sum2
  refine sumN_cg (fun t _ => ?_)
  cases hS : (sSm X day).testBit t
  · rw [if_neg (by decide)]
    refine (sumN_0 (fun h _ => ?_)).symm
    dsimp only
    rw [sUpd_s]
    unfold sHolds
    rw [hS]
    simp
  · rw [if_pos rfl, sPop_top (and_lt_2 (sHm_lt X top)) ht, sPop_eq]
    refine sumN_cg (fun h _ => ?_)
    dsimp only
    rw [Nat.testBit_and, sOnce_bit, sHeld_pop _ _ _ _ _ (by omega), sUpd_s]
    cases hH : (sHm X top).testBit h
    · have : sHolds X top day h t = false := by unfold sHolds; rw [hH]; rfl
      rw [this]
      simp
    · have h1 : sHolds X top day h t = true := by unfold sHolds; rw [hH, hS]; rfl
      rw [h1, Bool.true_and, Bool.true_and, cntN_2 (b := b) (by rw [sUpd_s]; exact h1) hb]
      rw [anyN_cg (q := fun k => !(k == b) && sHolds (sUpd B b X k) top day h t)]
      intro i hi
      by_cases e : i = b
      · subst e
        simp
      · rw [sUpd_n _ _ e]
