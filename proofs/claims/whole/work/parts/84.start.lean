/-! both objects as they are made: the relation holds -/
def ag_I : List ag_E → Nat → Nat → Option Int32
  | [], _, _ => none
  | .inr (.inl (p, k, x)) :: es, p', k' => match Nat.beq p' p && Nat.beq k' k with
    | true => some x
    | false => ag_I es p' k'
  | .inr (.inr _) :: es, p', k' => ag_I es p' k'
  | .inl _ :: es, p', k' => ag_I es p' k'
theorem ag_IE {M : am_M} : ∀ (es : List ag_E) (p k : Nat), (ag_rp M es).1 p k = (ag_I es p k).getD (M.1 p k)
  | [], _, _ => rfl
  | .inl (t, n, c) :: es, p, k => ag_IE es p k
  | .inr (.inr (p', k', q)) :: es, p, k => ag_IE es p k
  | .inr (.inl (p', k', x)) :: es, p, k => by
    unfold ag_I
    show (if p = p' ∧ k = k' then x else (ag_rp M es).1 p k) = _
    cases hb : (Nat.beq p p' && Nat.beq k k') with
    | true =>
      rw [Bool.and_eq_true] at hb
      rw [if_pos ⟨Nat.eq_of_beq_eq_true hb.1, Nat.eq_of_beq_eq_true hb.2⟩]
      rfl
    | false =>
      rw [if_neg (fun w => by rw [w.1, w.2, Nat.beq_refl, Nat.beq_refl] at hb; cases hb)]
      exact ag_IE es p k
theorem ag_JE {M : am_M} : ∀ (es : List ag_E) (p k : Nat), (ag_rp M es).2.1 p k = M.2.1 p k
  | [], _, _ => rfl
  | .inl (t, n, c) :: es, p, k => ag_JE es p k
  | .inr (.inr (p', k', q)) :: es, p, k => ag_JE es p k
  | .inr (.inl (p', k', x)) :: es, p, k => ag_JE es p k
def ag_hi : List ag_E → Bool
  | [] => true
  | .inr (.inl (p, _, _)) :: es => Nat.ble 9 p && ag_hi es
  | .inr (.inr _) :: es => ag_hi es
  | .inl _ :: es => ag_hi es
theorem ag_hiE : ∀ (es : List ag_E) (p k : Nat), p < 9 → ag_hi es = true → ag_I es p k = none
  | [], _, _, _, _ => rfl
  | .inl (t, n, c) :: es, p, k, h, z => ag_hiE es p k h z
  | .inr (.inr (p', k', q)) :: es, p, k, h, z => ag_hiE es p k h z
  | .inr (.inl (p', k', x)) :: es, p, k, h, z => by
    unfold ag_hi at z
    rw [Bool.and_eq_true] at z
    have h9 := Nat.le_of_ble_eq_true z.1
    unfold ag_I
    split
    next hb =>
      rw [Bool.and_eq_true] at hb
      have := Nat.eq_of_beq_eq_true hb.1
      omega
    next hb => exact ag_hiE es p k h z.2
set_option maxRecDepth 100000 in
theorem ag_hi4 : ag_hi ag_l4 = true := by decide +kernel
theorem ag_at (L : Nat) (xs : Nat → Int32) {p k : Nat} (h : 9 ≤ p) {x : Int32} (hx : (ag_I ag_l4 p k).getD 0 = x) : (ag_N L xs).1 p k = x := by
  unfold ag_N
  show (ag_rp (ag_M0 L xs) ag_l4).1 p k = x
  rw [ag_IE]
  have e : (ag_M0 L xs).1 p k = 0 := if_neg (by omega)
  rw [e]
  exact hx
theorem ag_at2 (L : Nat) (xs : Nat → Int32) (p k : Nat) : (ag_N L xs).2 p k = 0 := by
  unfold ag_N
  dsimp only
  rw [ag_JE]
  rfl
theorem ag_at8 (L : Nat) (xs : Nat → Int32) {p : Nat} (h : p < 8) (k : Nat) : (ag_N L xs).1 p k = (am_roL p).getD k 0 := by
  unfold ag_N
  show (ag_rp (ag_M0 L xs) ag_l4).1 p k = _
  rw [ag_IE, ag_hiE ag_l4 p k (by omega) ag_hi4]
  show (if p < 9 then am_roI xs p k else 0) = _
  rw [if_pos (by omega)]
  exact if_pos h
set_option maxRecDepth 100000 in
theorem ag_t0 : ∀ a ∈ [(10, 1), (10, 2), (10, 3), (142, 0), (142, 1), (142, 2), (9, 5), (142, 11), (116, 1), (116, 2), (9, 2), (142, 50), (72, 1), (142, 13), (12, 4), (142, 36), (17, 4), (142, 41), (22, 4), (142, 42), (9, 8), (142, 75)], (ag_I ag_l4 a.1 a.2).getD 0 = nI 0 := by decide +kernel
set_option maxRecDepth 100000 in
theorem ag_t1 : (ag_I ag_l4 142 12).getD 0 = av_k (-1) ∧ (ag_I ag_l4 116 3).getD 0 = nI 10 := by decide +kernel
set_option maxRecDepth 100000 in
theorem ag_t2 : ∀ t, t < 6 → (ag_I ag_l4 (130 + 2 * t) 1).getD 0 = av_k (-1) ∧ (ag_I ag_l4 (130 + 2 * t) 2).getD 0 = nI 0 ∧ (ag_I ag_l4 195 t).getD 0 = av_k (-1) ∧ (ag_I ag_l4 196 t).getD 0 = nI 0 := by decide +kernel
set_option maxRecDepth 100000 in
theorem ag_t3 : ∀ k, k < 16 → (ag_I ag_l4 159 k).getD 0 = nI (sLetr.getD k 0) := by decide +kernel
theorem ag_0 (L : Nat) (xs : Nat → Int32) (p k : Nat) (h : (p, k) ∈ [(10, 1), (10, 2), (10, 3), (142, 0), (142, 1), (142, 2), (9, 5), (142, 11), (116, 1), (116, 2), (9, 2), (142, 50), (72, 1), (142, 13), (12, 4), (142, 36), (17, 4), (142, 41), (22, 4), (142, 42), (9, 8), (142, 75)]) (h9 : 9 ≤ p) : (ag_N L xs).1 p k = nI 0 := ag_at L xs h9 (ag_t0 (p, k) h)
theorem ag_m1 : av_k (-1) = av_k (((0 : Nat) : Int) - 1) := by decide
theorem ag_RR (L : Nat) (xs : Nat → Int32) : RR (ag_N L xs) := by
  have z := ag_0 L xs
  refine ⟨0, 0, fun _ _ => 0, 0, 0, fun _ => [], ?_, ?_, Nat.le_refl _, ?_, ?_, ?_, ?_, ?_, ?_, ?_, ?_⟩
  · refine ⟨⟨by decide, z 10 1 (by decide) (by decide), z 10 2 (by decide) (by decide), fun b hb => absurd hb (by omega), by decide⟩, z 10 3 (by decide) (by decide), ⟨z 142 0 (by decide) (by decide), z 142 1 (by decide) (by decide), fun b hb => absurd hb (by omega)⟩, z 142 2 (by decide) (by decide), ag_at L xs (by decide) ag_t1.1, by decide⟩
  · refine ⟨by decide, z 9 5 (by decide) (by decide), z 142 11 (by decide) (by decide), ⟨by decide, z 116 1 (by decide) (by decide), z 116 2 (by decide) (by decide), ag_at L xs (by decide) ag_t1.2, by decide, by decide, by decide, fun i hi => absurd hi (by exact Nat.not_lt_zero i)⟩, fun i hi => absurd hi (by omega)⟩
  · exact Or.inl ⟨z 9 2 (by decide) (by decide), z 142 50 (by decide) (by decide)⟩
  · exact ⟨0, fun _ => 0, Nat.zero_le _, z 72 1 (by decide) (by decide), z 142 13 (by decide) (by decide), fun j hj => absurd hj (by omega)⟩
  · exact ⟨0, fun _ _ => 0, Nat.zero_le _, ⟨z 12 4 (by decide) (by decide), fun r hr => absurd hr (by omega)⟩, z 142 36 (by decide) (by decide), fun r hr => absurd hr (by omega), fun r hr => absurd hr (by omega)⟩
  · exact ⟨0, fun _ _ => 0, Nat.zero_le _, ⟨z 17 4 (by decide) (by decide), fun r hr => absurd hr (by omega)⟩, z 142 41 (by decide) (by decide), fun r hr => absurd hr (by omega), fun r hr => absurd hr (by omega)⟩
  · exact ⟨0, fun _ _ => 0, Nat.zero_le _, ⟨z 22 4 (by decide) (by decide), fun r hr => absurd hr (by omega)⟩, z 142 42 (by decide) (by decide), fun r hr => absurd hr (by omega), fun r hr => absurd hr (by omega)⟩
  · refine ⟨fun _ => 0, fun _ => 0, fun _ _ => 0, fun t ht => ?_⟩
    obtain ⟨a1, a2, a3, a4⟩ := ag_t2 t ht
    refine ⟨Nat.zero_le _, Nat.zero_le _, fun _ => rfl, ag_at L xs (by omega) (a1.trans ag_m1), ag_at L xs (by omega) a2, ag_at L xs (by decide) (a3.trans ag_m1), ag_at L xs (by decide) a4, fun j _ => ⟨ag_at2 L xs _ _, ag_at2 L xs _ _⟩⟩
  · exact ⟨0, fun _ => 0, Nat.zero_le _, z 9 8 (by decide) (by decide), z 142 75 (by decide) (by decide), fun j hj => absurd hj (by omega)⟩
  · exact ⟨fun p hp k => ag_at8 L xs hp k, fun k hk => ag_at L xs (by decide) (ag_t3 k hk)⟩
