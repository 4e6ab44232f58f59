/-! whom to evict -/
def sMinus (a b : Nat) : Nat := sBits (fun i => a.testBit i && !b.testBit i) 10
theorem sMinus_bit (a b i : Nat) : (sMinus a b).testBit i = (decide (i < 10) && (a.testBit i && !b.testBit i)) := sBits_bit _ _ _
theorem sMinus_lt (a b : Nat) : sMinus a b < 1024 := sBits_1024 _ (Nat.le_refl _)
theorem bit_10 {a i : Nat} (h : a < 1024) (hb : a.testBit i = true) : i < 10 := by
  cases Nat.lt_or_ge i 10 with
  | inl h => exact h
  | inr h2 =>
    rw [Nat.testBit_lt_two_pow (Nat.lt_of_lt_of_le h (Nat.pow_le_pow_right (by decide) h2 : 2 ^ 10 ≤ 2 ^ i))] at hb
    cases hb
theorem sMinus_bit' {a b i : Nat} (h : a < 1024) : (sMinus a b).testBit i = (a.testBit i && !b.testBit i) := by
  rw [sMinus_bit]
  cases ha : a.testBit i
  · simp
  · rw [decide_eq_true (bit_10 h ha), Bool.true_and]
theorem av_andn {a b : Nat} (ha : a < 1024) : nI a &&& (nI b ^^^ av_k (-1)) = nI (sMinus a b) := by
  rw [show av_k (-1) = nI 4294967295 from by decide, av_xor, av_and]
  congr 1
  apply Nat.eq_of_testBit_eq
  intro i
  rw [Nat.testBit_and, Nat.testBit_xor, sMinus_bit' ha]
  cases hb : a.testBit i
  · simp
  · have : ∀ i, i < 10 → (4294967295 : Nat).testBit i = true := by decide +kernel
    rw [this i (bit_10 ha hb), Bool.xor_true]
theorem sMinus_le {a b : Nat} (ha : a < 1024) : sMinus a b ≤ a := by
  have : sMinus a b = a &&& sMinus 1023 b := by
    apply Nat.eq_of_testBit_eq
    intro i
    rw [Nat.testBit_and, sMinus_bit' ha, sMinus_bit]
    cases hb : a.testBit i
    · simp
    · have : ∀ i, i < 10 → (1023 : Nat).testBit i = true := by decide +kernel
      rw [this i (bit_10 ha hb), decide_eq_true (bit_10 ha hb)]
      simp
  rw [this]
  exact Nat.and_le_left
theorem sumN_mono {f g : Nat → Nat} : ∀ {n : Nat}, (∀ i, i < n → f i ≤ g i) → sumN f n ≤ sumN g n
  | 0, _ => Nat.le_refl _
  | n + 1, h => Nat.add_le_add (sumN_mono (fun i hi => h i (by omega))) (h n (by omega))
theorem sMinus_pop {a b : Nat} (ha : a < 1024) : sPop 10 (sMinus a b) ≤ sPop 10 a := by
  rw [sPop_eq, sPop_eq]
  refine sumN_mono (fun i _ => ?_)
  rw [sMinus_bit' ha]
  cases a.testBit i <;> cases b.testBit i <;> simp
theorem sMinus_0 {a b : Nat} (ha : a < 1024) : sMinus a b = 0 ↔ ∀ i, a.testBit i = true → b.testBit i = true := by
  unfold sMinus
  rw [sBits_0]
  constructor
  · intro h i hi
    have := h i (bit_10 ha hi)
    rw [hi, Bool.true_and] at this
    simpa using this
  · intro h i _
    cases hi : a.testBit i
    · rfl
    · rw [h i hi]
      rfl
theorem sub_le {a b : Nat} (ha : a < 1024) (h : sMinus a b = 0) : a ≤ b := by
  have : a = b &&& a := by
    apply Nat.eq_of_testBit_eq
    intro i
    rw [Nat.testBit_and]
    cases hi : a.testBit i
    · simp
    · rw [(sMinus_0 ha).mp h i hi]
      rfl
  rw [this]
  exact Nat.and_le_left
theorem sPeace_cg {foe : Nat → Nat} {n g X Y : Nat} (h1 : ∀ b, g.testBit b = true → foe b = 0) (h2 : ∀ b i, g.testBit i = true → (foe b).testBit i = false) (hY : ∀ i, Y.testBit i = (X.testBit i && !g.testBit i)) : sPeace foe n Y = sPeace foe n X := by
  unfold sPeace
  congr 1
  refine anyN_cg (fun b _ => ?_)
  have e : Y &&& foe b = X &&& foe b := by
    apply Nat.eq_of_testBit_eq
    intro i
    rw [Nat.testBit_and, Nat.testBit_and, hY]
    cases hg : g.testBit i
    · simp
    · rw [h2 b i hg]
      simp
  rw [e, hY]
  cases hg : g.testBit b
  · simp
  · rw [h1 b hg]
    simp
def sEvC (good : Nat → Bool) (all : Nat) : Nat → Nat
  | 0 => all
  | k + 1 => if sPop 10 k < sPop 10 (sEvC good all k) then (if good k then k else sEvC good all k) else sEvC good all k
def sEvM (good : Nat → Bool) (all : Nat) : Nat → Nat
  | 0 => all
  | k + 1 => if sMinus k all = 0 then (if good k then (if sPop 10 k < sPop 10 (sEvM good all k) then k else if sPop 10 k = sPop 10 (sEvM good all k) then (if k < sEvM good all k then k else sEvM good all k) else sEvM good all k) else sEvM good all k) else sEvM good all k
def sLe (a b : Nat) : Prop := sPop 10 a < sPop 10 b ∨ (sPop 10 a = sPop 10 b ∧ a ≤ b)
theorem sEvC_ok {good : Nat → Bool} {all : Nat} (hg : good all = true) (hp : ∀ s, s ≤ all → sPop 10 s = sPop 10 all → s = all) : ∀ k, k ≤ all + 1 → good (sEvC good all k) = true ∧ sEvC good all k ≤ all ∧ (sEvC good all k = all ∨ sEvC good all k < k) ∧ ∀ s, s < k → good s = true → sLe (sEvC good all k) s := by
  intro k
  induction k with
  | zero => exact fun _ => ⟨hg, Nat.le_refl _, Or.inl rfl, fun s h => absurd h (Nat.not_lt_zero _)⟩
  | succ k ih =>
    intro hk
    obtain ⟨i1, i2, i3, i4⟩ := ih (by omega)
    unfold sEvC
    by_cases h1 : sPop 10 k < sPop 10 (sEvC good all k)
    · rw [if_pos h1]
      cases h2 : good k
      · rw [if_neg (by decide)]
        refine ⟨i1, i2, by omega, fun s hs hgs => ?_⟩
        by_cases e : s = k
        · rw [e, h2] at hgs
          cases hgs
        · exact i4 s (by omega) hgs
      · rw [if_pos rfl]
        refine ⟨h2, by omega, Or.inr (Nat.lt_succ_self _), fun s hs hgs => ?_⟩
        by_cases e : s = k
        · rw [e]
          exact Or.inr ⟨rfl, Nat.le_refl _⟩
        · rcases i4 s (by omega) hgs with h | h
          · exact Or.inl (by omega)
          · exact Or.inl (by omega)
    · rw [if_neg h1]
      refine ⟨i1, i2, by omega, fun s hs hgs => ?_⟩
      by_cases e : s = k
      · rw [e]
        by_cases h3 : sPop 10 (sEvC good all k) < sPop 10 k
        · exact Or.inl h3
        · refine Or.inr ⟨by omega, ?_⟩
          rcases i3 with h | h
          · rw [h] at h1 h3 ⊢
            have := hp k (by omega) (by omega)
            omega
          · omega
      · exact i4 s (by omega) hgs
theorem sEvM_ok {good : Nat → Bool} {all : Nat} (ha : all < 1024) (hg : good all = true) : ∀ k, k ≤ 1024 → good (sEvM good all k) = true ∧ sMinus (sEvM good all k) all = 0 ∧ sEvM good all k < 1024 ∧ ∀ s, s < k → sMinus s all = 0 → good s = true → s < 1024 → sLe (sEvM good all k) s := by
  intro k
  induction k with
  | zero => exact fun _ => ⟨hg, (sMinus_0 ha).mpr (fun _ h => h), ha, fun s h => absurd h (Nat.not_lt_zero _)⟩
  | succ k ih =>
    intro hk1
    obtain ⟨i1, i2, i3, i4⟩ := ih (by omega)
    have hk : k < 1024 := hk1
    have keep : ¬ (sMinus k all = 0 ∧ good k = true ∧ k < 1024) ∨ sLe (sEvM good all k) k → good (sEvM good all k) = true ∧ sMinus (sEvM good all k) all = 0 ∧ sEvM good all k < 1024 ∧ ∀ s, s < k + 1 → sMinus s all = 0 → good s = true → s < 1024 → sLe (sEvM good all k) s := by
      intro h
      refine ⟨i1, i2, i3, fun s hs h1 h2 h3 => ?_⟩
      by_cases e : s = k
      · rw [e] at h1 h2 h3 ⊢
        rcases h with h | h
        · exact absurd ⟨h1, h2, h3⟩ h
        · exact h
      · exact i4 s (by omega) h1 h2 h3
    have take : sMinus k all = 0 → good k = true → k < 1024 → sLe k (sEvM good all k) → good k = true ∧ sMinus k all = 0 ∧ k < 1024 ∧ ∀ s, s < k + 1 → sMinus s all = 0 → good s = true → s < 1024 → sLe k s := by
      intro h1 h2 h3 h4
      refine ⟨h2, h1, h3, fun s hs g1 g2 g3 => ?_⟩
      by_cases e : s = k
      · rw [e]
        exact Or.inr ⟨rfl, Nat.le_refl _⟩
      · have := i4 s (by omega) g1 g2 g3
        unfold sLe at this h4 ⊢
        omega
    unfold sEvM
    by_cases h1 : sMinus k all = 0
    · rw [if_pos h1]
      cases h2 : good k
      · rw [if_neg (by decide)]
        exact keep (Or.inl (fun z => by rw [h2] at z; exact absurd z.2.1 (by decide)))
      · rw [if_pos rfl]
        by_cases h3 : sPop 10 k < sPop 10 (sEvM good all k)
        · rw [if_pos h3]
          exact take h1 h2 hk (Or.inl h3)
        · rw [if_neg h3]
          by_cases h4 : sPop 10 k = sPop 10 (sEvM good all k)
          · rw [if_pos h4]
            by_cases h5 : k < sEvM good all k
            · rw [if_pos h5]
              exact take h1 h2 hk (Or.inr ⟨h4, by omega⟩)
            · rw [if_neg h5]
              exact keep (Or.inr (Or.inr ⟨h4.symm, by omega⟩))
          · rw [if_neg h4]
            exact keep (Or.inr (Or.inl (by omega)))
    · rw [if_neg h1]
      exact keep (Or.inl (fun z => h1 z.1))
theorem pop_all : ∀ n, n < 8 → ∀ s, s < 2 ^ n → sPop 10 s = sPop 10 (2 ^ n - 1) → s = 2 ^ n - 1 := by decide +kernel
theorem sPeace_0 (foe : Nat → Nat) (n : Nat) : sPeace foe n 0 = true := sPeace_s foe n 0 (fun k _ => by simp)
theorem ones_bit {n i : Nat} : (2 ^ n - 1).testBit i = decide (i < n) := Nat.testBit_two_pow_sub_one n i
theorem sMinus_self {a : Nat} (h : a < 1024) : sMinus a a = 0 := (sMinus_0 h).mpr (fun _ h => h)
/-- both ways find the same -/
theorem ev_same {foe : Nat → Nat} {n g : Nat} (hn : n ≤ 7) (hgl : g < 2 ^ n) (h1 : ∀ b, g.testBit b = true → foe b = 0) (h2 : ∀ b i, g.testBit i = true → (foe b).testBit i = false) : sEvC (fun s => sPeace foe n (sMinus (2 ^ n - 1) s)) (2 ^ n - 1) (2 ^ n - 1 + 1) = sEvM (fun s => sPeace foe n (sMinus (sMinus (2 ^ n - 1) g) s)) (sMinus (2 ^ n - 1) g) (sMinus (2 ^ n - 1) g + 1) := by
  have hp := two_pow_7 hn
  have hp0 := Nat.two_pow_pos n
  have hA : 2 ^ n - 1 < 1024 := by omega
  have hA' := sMinus_le (b := g) hA
  have hgood : ∀ s, sPeace foe n (sMinus (sMinus (2 ^ n - 1) g) s) = sPeace foe n (sMinus (2 ^ n - 1) s) := fun s => sPeace_cg h1 h2 (fun i => by
    rw [sMinus_bit' (sMinus_lt _ _), sMinus_bit' hA, sMinus_bit' hA]
    cases (2 ^ n - 1).testBit i <;> cases s.testBit i <;> cases g.testBit i <;> rfl)
  obtain ⟨c1, c2, -, c4⟩ := sEvC_ok (good := fun s => sPeace foe n (sMinus (2 ^ n - 1) s)) (all := 2 ^ n - 1) (by show sPeace foe n (sMinus (2 ^ n - 1) (2 ^ n - 1)) = true; rw [sMinus_self hA]; exact sPeace_0 _ _) (fun s hs hps => pop_all n (by omega) s (by omega) hps) (2 ^ n - 1 + 1) (Nat.le_refl _)
  obtain ⟨m1, m2, m3, m4⟩ := sEvM_ok (good := fun s => sPeace foe n (sMinus (sMinus (2 ^ n - 1) g) s)) (all := sMinus (2 ^ n - 1) g) (sMinus_lt _ _) (by show sPeace foe n (sMinus (sMinus (2 ^ n - 1) g) (sMinus (2 ^ n - 1) g)) = true; rw [sMinus_self (sMinus_lt _ _)]; exact sPeace_0 _ _) (sMinus (2 ^ n - 1) g + 1) (by omega)
  generalize sEvC (fun s => sPeace foe n (sMinus (2 ^ n - 1) s)) (2 ^ n - 1) (2 ^ n - 1 + 1) = r at *
  generalize sEvM (fun s => sPeace foe n (sMinus (sMinus (2 ^ n - 1) g) s)) (sMinus (2 ^ n - 1) g) (sMinus (2 ^ n - 1) g + 1) = r' at *
  have hr : r < 1024 := by omega
  -- r holds none that is out
  have k1 : sPeace foe n (sMinus (2 ^ n - 1) (sMinus r g)) = true := by
    rw [← hgood, ← c1, ← hgood]
    congr 1
    apply Nat.eq_of_testBit_eq
    intro i
    rw [sMinus_bit' (sMinus_lt _ _), sMinus_bit' (sMinus_lt _ _), sMinus_bit' hA, sMinus_bit' hr]
    cases (2 ^ n - 1).testBit i <;> cases r.testBit i <;> cases g.testBit i <;> rfl
  have k2 := sMinus_le (b := g) hr
  have k3 := sMinus_pop (b := g) hr
  have k4 := c4 (sMinus r g) (by omega) k1
  have k5 : r = sMinus r g := by
    rcases k4 with h | ⟨-, h⟩
    · omega
    · omega
  have k6 : sMinus r (sMinus (2 ^ n - 1) g) = 0 := (sMinus_0 hr).mpr (fun i hi => by
    rw [sMinus_bit' hA]
    have h3 := hi
    rw [k5, sMinus_bit' hr, hi, Bool.true_and] at h3
    rw [h3, Bool.and_true]
    cases Nat.lt_or_ge i n with
    | inl h => rw [ones_bit, decide_eq_true h]
    | inr h =>
      rw [Nat.testBit_lt_two_pow (Nat.lt_of_lt_of_le (show r < 2 ^ n by omega) (Nat.pow_le_pow_right (by decide) h))] at hi
      cases hi)
  have k7 := sub_le hr k6
  have a1 := m4 r (by omega) k6 (by rw [hgood]; exact c1) hr
  have k8 := sub_le m3 m2
  have a2 := c4 r' (by omega) (by rw [← hgood]; exact m1)
  unfold sLe at a1 a2
  omega
theorem sHolds_out {X : Nat → Nat} (h : ¬ X 9 = 0) (top day h' t : Nat) : sHolds X top day h' t = false := by
  unfold sHolds sHm
  rw [if_neg h]
  simp
theorem sClash_out1 {X Y : Nat → Nat} (h : ¬ X 9 = 0) (top day : Nat) : sClash X Y top day = 0 := by
  unfold sClash sum2
  exact sumN_0 (fun t _ => sumN_0 (fun h' _ => by dsimp only; rw [sHolds_out h]; rfl))
theorem sClash_out2 {X Y : Nat → Nat} (h : ¬ Y 9 = 0) (top day : Nat) : sClash X Y top day = 0 := by
  unfold sClash sum2
  exact sumN_0 (fun t _ => sumN_0 (fun h' _ => by dsimp only; rw [sHolds_out h, Bool.and_false]; rfl))
theorem sGone_9 {B : Nat → Nat → Nat} {n b : Nat} (h : (sGone B n).testBit b = true) : ¬ B b 9 = 0 := by
  unfold sGone at h
  rw [sBits_bit, Bool.and_eq_true] at h
  intro z
  rw [z] at h
  exact absurd h.2 (by decide)
theorem sFoe_1 (B : Nat → Nat → Nat) (n top day b : Nat) (h : (sGone B n).testBit b = true) : sFoe B n top day b = 0 := by
  unfold sFoe
  rw [sBits_0]
  intro i _
  rw [sClash_out1 (sGone_9 h)]
  simp
theorem sFoe_2 (B : Nat → Nat → Nat) (n top day b i : Nat) (h : (sGone B n).testBit i = true) : (sFoe B n top day b).testBit i = false := by
  unfold sFoe
  rw [sBits_bit, sClash_out2 (sGone_9 h)]
  simp
theorem ca_whoEvict (L : av_W) (d : Nat) {N : av_N} {n day : Nat} {B : Nat → Nat → Nat} {cs : List (Nat × Nat × List Nat)} (hc : al_cv N n day B cs) (hm : al_mv N n day B cs) : al_ask L (d + 20) N n day B cs 65 [.ref 9] 181 [.ref 142] := by
  obtain ⟨hs, e, he⟩ := hc
  have hn := hs.1
  have hp := two_pow_7 hn
  have hp0 := Nat.two_pow_pos n
  have hA : 2 ^ n - 1 < 1024 := by omega
  have hgl : sGone B n < 2 ^ n := sBits_lt _ n
  have same := ev_same hn hgl (sFoe_1 B n (sTop cs) day) (sFoe_2 B n (sTop cs) day)
  obtain ⟨N1, c1, k1, f1⟩ := sp_findFoes L (d + 15) hs he
  have hs1 : al_sn N1 10 27 n day B := al_sn_fr hs f1 (by omega) (fun q a b => by omega)
  have hA' := sMinus_le (b := sGone B n) hA
  have lC : ∀ k, k ≤ 2 ^ n - 1 + 1 → sEvC (fun s => sPeace (sFoe B n (sTop cs) day) n (sMinus (2 ^ n - 1) s)) (2 ^ n - 1) k ≤ 2 ^ n - 1 := fun k hk => (sEvC_ok (good := fun s => sPeace (sFoe B n (sTop cs) day) n (sMinus (2 ^ n - 1) s)) (all := 2 ^ n - 1) (by show sPeace _ n (sMinus (2 ^ n - 1) (2 ^ n - 1)) = true; rw [sMinus_self hA]; exact sPeace_0 _ _) (fun s hs hps => pop_all n (by omega) s (by omega) hps) k hk).2.1
  have lM : ∀ k, k ≤ 1024 → sEvM (fun s => sPeace (sFoe B n (sTop cs) day) n (sMinus (sMinus (2 ^ n - 1) (sGone B n)) s)) (sMinus (2 ^ n - 1) (sGone B n)) k < 1024 := fun k hk => (sEvM_ok (good := fun s => sPeace (sFoe B n (sTop cs) day) n (sMinus (sMinus (2 ^ n - 1) (sGone B n)) s)) (all := sMinus (2 ^ n - 1) (sGone B n)) (sMinus_lt _ _) (by show sPeace _ n (sMinus (sMinus (2 ^ n - 1) (sGone B n)) (sMinus (2 ^ n - 1) (sGone B n))) = true; rw [sMinus_self (sMinus_lt _ _)]; exact sPeace_0 _ _) k hk).2.2.1
  have keyC := lp_0 (P := fun k => av_V (av_S0 L) (d + 20) ta_X6_whoEvict 14 [.ref 9, .int (nI (2 ^ n - 1)), .int (nI (sEvC (fun s => sPeace (sFoe B n (sTop cs) day) n (sMinus (2 ^ n - 1) s)) (2 ^ n - 1) k)), .int (nI k)] [] N1 = some (some (.int (nI (sEvC (fun s => sPeace (sFoe B n (sTop cs) day) n (sMinus (2 ^ n - 1) s)) (2 ^ n - 1) (2 ^ n - 1 + 1)))), N1)) (2 ^ n - 1 + 1) (by
    apply eq_X6_whoEvict_14 (d := d + 19)
    rw [if_pos (nI_lt (Nat.lt_succ_self _) (by omega))]) (fun k hk ih => by
    have hl := lC k (by omega)
    have hpk := sPop_le 10 k
    have hpo := sp_isPeaceful L (d + 19) (N := N1) (X := sMinus (2 ^ n - 1) k) (foe := sFoe B n (sTop cs) day) hn hs1.2.1 k1 (Nat.lt_trans (sMinus_lt _ _) (by decide))
    have es : sEvC (fun s => sPeace (sFoe B n (sTop cs) day) n (sMinus (2 ^ n - 1) s)) (2 ^ n - 1) (k + 1) = if sPop 10 k < sPop 10 (sEvC (fun s => sPeace (sFoe B n (sTop cs) day) n (sMinus (2 ^ n - 1) s)) (2 ^ n - 1) k) then (if sPeace (sFoe B n (sTop cs) day) n (sMinus (2 ^ n - 1) k) then k else sEvC (fun s => sPeace (sFoe B n (sTop cs) day) n (sMinus (2 ^ n - 1) s)) (2 ^ n - 1) k) else sEvC (fun s => sPeace (sFoe B n (sTop cs) day) n (sMinus (2 ^ n - 1) s)) (2 ^ n - 1) k := rfl
    rw [es] at ih
    generalize sEvC (fun s => sPeace (sFoe B n (sTop cs) day) n (sMinus (2 ^ n - 1) s)) (2 ^ n - 1) k = S at *
    have hps := sPop_le 10 S
    apply eq_X6_whoEvict_14 (d := d + 19)
    rw [if_neg (nI_nlt (by omega) (by omega)), sp_bc10 L _ (show k < 1024 by omega), av_bi_s, sp_bc10 L _ (show S < 1024 by omega), av_bi_s, av_andn hA, hpo, av_bi_s]
    simp only [av_kP, av_b_0, nI_add, nI_ltI (show sPop 10 k < 2 ^ 31 by omega) (show sPop 10 S < 2 ^ 31 by omega)]
    by_cases h1 : sPop 10 k < sPop 10 S
    · rw [if_pos h1]
      rw [if_pos h1] at ih
      cases h2 : sPeace (sFoe B n (sTop cs) day) n (sMinus (2 ^ n - 1) k)
      · rw [h2] at ih
        rw [if_pos rfl]
        exact ih
      · rw [h2] at ih
        rw [if_neg (by decide)]
        exact ih
    · rw [if_neg h1]
      rw [if_neg h1] at ih
      exact ih)
  refine ask_of hm (.int (nI (sEvC (fun s => sPeace (sFoe B n (sTop cs) day) n (sMinus (2 ^ n - 1) s)) (2 ^ n - 1) (2 ^ n - 1 + 1)))) (N1 := N1) ?_ (al_fr_mono f1 (fun q z => by unfold al_dC; omega)) (fun M _ hmM => ?_)
  · apply eq_X6_whoEvict (d := d + 19)
    rw [c1, av_bv_s, hs1.2.1]
    simp only [av_kP]
    rw [av_ones (by omega)]
    exact keyC
  obtain ⟨M1, g1, k3, r1⟩ := sp_layFoes L (d + 13) hmM
  have hmM1 : al_mv M1 n day B cs := al_mv_fr hmM (fun q k a b c => (r1 q (by omega) k).1)
  refine ⟨M1, ?_, hmM1, al_f2_of r1 (fun q k z => by unfold al_qM; omega)⟩
  rw [same]
  have keyM := lp_0 (P := fun k => av_V (av_S0 L) (d + 20) ta_X7_whoEvict 18 [.ref 142, .int (nI (sMinus (2 ^ n - 1) (sGone B n))), .int (nI (sEvM (fun s => sPeace (sFoe B n (sTop cs) day) n (sMinus (sMinus (2 ^ n - 1) (sGone B n)) s)) (sMinus (2 ^ n - 1) (sGone B n)) k)), .int (nI k)] [] M1 = some (some (.int (nI (sEvM (fun s => sPeace (sFoe B n (sTop cs) day) n (sMinus (sMinus (2 ^ n - 1) (sGone B n)) s)) (sMinus (2 ^ n - 1) (sGone B n)) (sMinus (2 ^ n - 1) (sGone B n) + 1)))), M1)) (sMinus (2 ^ n - 1) (sGone B n) + 1) (by
    apply eq_X7_whoEvict_18 (d := d + 19)
    rw [if_pos (nI_lt (Nat.lt_succ_self _) (by omega))]) (fun k hk ih => by
    have hl := lM k (by omega)
    have hk2 : k < 1024 := by omega
    have hpk := sPop_le 10 k
    have hpo := sp_isPeacefulM L (d + 18) (N := M1) (X := sMinus (sMinus (2 ^ n - 1) (sGone B n)) k) (foe := sFoe B n (sTop cs) day) hn hmM1.2.1.1 k3 (Nat.lt_trans (sMinus_lt _ _) (by decide))
    have es : sEvM (fun s => sPeace (sFoe B n (sTop cs) day) n (sMinus (sMinus (2 ^ n - 1) (sGone B n)) s)) (sMinus (2 ^ n - 1) (sGone B n)) (k + 1) = if sMinus k (sMinus (2 ^ n - 1) (sGone B n)) = 0 then (if sPeace (sFoe B n (sTop cs) day) n (sMinus (sMinus (2 ^ n - 1) (sGone B n)) k) then (if sPop 10 k < sPop 10 (sEvM (fun s => sPeace (sFoe B n (sTop cs) day) n (sMinus (sMinus (2 ^ n - 1) (sGone B n)) s)) (sMinus (2 ^ n - 1) (sGone B n)) k) then k else if sPop 10 k = sPop 10 (sEvM (fun s => sPeace (sFoe B n (sTop cs) day) n (sMinus (sMinus (2 ^ n - 1) (sGone B n)) s)) (sMinus (2 ^ n - 1) (sGone B n)) k) then (if k < sEvM (fun s => sPeace (sFoe B n (sTop cs) day) n (sMinus (sMinus (2 ^ n - 1) (sGone B n)) s)) (sMinus (2 ^ n - 1) (sGone B n)) k then k else sEvM (fun s => sPeace (sFoe B n (sTop cs) day) n (sMinus (sMinus (2 ^ n - 1) (sGone B n)) s)) (sMinus (2 ^ n - 1) (sGone B n)) k) else sEvM (fun s => sPeace (sFoe B n (sTop cs) day) n (sMinus (sMinus (2 ^ n - 1) (sGone B n)) s)) (sMinus (2 ^ n - 1) (sGone B n)) k) else sEvM (fun s => sPeace (sFoe B n (sTop cs) day) n (sMinus (sMinus (2 ^ n - 1) (sGone B n)) s)) (sMinus (2 ^ n - 1) (sGone B n)) k) else sEvM (fun s => sPeace (sFoe B n (sTop cs) day) n (sMinus (sMinus (2 ^ n - 1) (sGone B n)) s)) (sMinus (2 ^ n - 1) (sGone B n)) k := rfl
    rw [es] at ih
    generalize sEvM (fun s => sPeace (sFoe B n (sTop cs) day) n (sMinus (sMinus (2 ^ n - 1) (sGone B n)) s)) (sMinus (2 ^ n - 1) (sGone B n)) k = S at *
    have hps := sPop_le 10 S
    have hlk := sMinus_lt k (sMinus (2 ^ n - 1) (sGone B n))
    apply eq_X7_whoEvict_18 (d := d + 19)
    rw [if_neg (nI_nlt (by omega) (by omega)), av_andn hk2, av_andn (sMinus_lt _ _), hpo, av_bi_s, sp_ones L _ hk2, av_bi_s, sp_ones L _ hl, av_bi_s, sp_ones L _ hk2, av_bi_s, sp_ones L _ hl, av_bi_s]
    simp (disch := omega) only [av_kP, av_b_0, nI_add, nI_ltI, nI_eq]
    by_cases h0 : sMinus k (sMinus (2 ^ n - 1) (sGone B n)) = 0
    · rw [if_pos h0]
      rw [if_pos h0] at ih
      cases h2 : sPeace (sFoe B n (sTop cs) day) n (sMinus (sMinus (2 ^ n - 1) (sGone B n)) k)
      · rw [h2] at ih
        rw [if_pos rfl]
        exact ih
      · rw [h2, if_pos rfl] at ih
        rw [if_neg (by decide)]
        by_cases h1 : sPop 10 k < sPop 10 S
        · rw [if_pos h1]
          rw [if_pos h1] at ih
          exact ih
        · rw [if_neg h1]
          rw [if_neg h1] at ih
          by_cases h3 : sPop 10 k = sPop 10 S
          · rw [if_pos h3]
            rw [if_pos h3] at ih
            by_cases h4 : k < S
            · rw [if_pos h4]
              rw [if_pos h4] at ih
              exact ih
            · rw [if_neg h4]
              rw [if_neg h4] at ih
              exact ih
          · rw [if_neg h3]
            rw [if_neg h3] at ih
            exact ih
    · rw [if_neg h0]
      rw [if_neg h0] at ih
      exact ih)
  apply eq_X7_whoEvict (d := d + 19)
  rw [g1, av_bv_s, hmM1.2.1.1, hmM1.2.2.1]
  rw [show ((av_k 1 <<< (nI n &&& 31)) - av_k 1) = nI (2 ^ n - 1) from by rw [av_kP]; exact av_ones (by omega), av_andn hA, av_kP]
  exact keyM
