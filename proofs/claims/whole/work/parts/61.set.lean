/-! calls that change one group; set, evict, row -/
def uZ (q k : Nat) : Prop := (77 ≤ q ∧ q ≤ 115) ∨ (158 ≤ q ∧ q ≤ 165 ∧ q ≠ 159) ∨ q = 175 ∨ q = 176 ∨ q = 198 ∨ (q = 142 ∧ (k = 14 ∨ k = 15 ∨ k = 24 ∨ k = 25 ∨ k = 26 ∨ k = 30 ∨ k = 31))
theorem RA_B {N N2 : av_N} {n day e k : Nat} {B : Nat → Nat → Nat} {T : Nat → List (Nat × Nat × List Nat)} {n' day' e' : Nat} {B' : Nat → Nat → Nat} (hR : RA N n day B e k T) (hf : al_f2 (fun q k => uB q k ∨ uZ q k) N N2) (g : gB N2 n' day' B' e') (hn : n ≤ n') (hek : e' ≤ k) : RA N2 n' day' B' e' k T := by
  obtain ⟨hB, hE, he, hI, hF, hS, hL, hK, hT, hX, hO⟩ := hR
  refine ⟨g, gE_on hE (eqOn_of hf ?_), hek, gI_on hI (eqOn_of hf ?_), gF_on hF (eqOn_of hf ?_), gSx_on hS (eqOn_of hf ?_), gLx_le (gLx_on hL (eqOn_of hf ?_)) hn, gKx_le (gKx_on hK (eqOn_of hf ?_)) hn, gTx_on hT (eqOn_of hf ?_), gX_on hX (eqOn_of hf ?_), gO_on hO (eqOn_of hf ?_)⟩
  · intro q k h
    unfold uE at h
    unfold uB uZ
    omega
  · intro q k h
    unfold uI at h
    unfold uB uZ
    omega
  · intro q k h
    unfold uF at h
    unfold uB uZ
    omega
  · intro q k h
    unfold uS at h
    unfold uB uZ
    omega
  · intro q k h
    unfold uL at h
    unfold uB uZ
    omega
  · intro q k h
    unfold uK at h
    unfold uB uZ
    omega
  · intro q k h
    unfold uT at h
    unfold uB uZ
    omega
  · intro q k h
    unfold uX at h
    unfold uB uZ
    omega
  · intro q k h
    unfold uO at h
    unfold uB uZ
    omega
theorem RA_S {N N2 : av_N} {n day e k : Nat} {B : Nat → Nat → Nat} {T : Nat → List (Nat × Nat × List Nat)}  (hR : RA N n day B e k T) (hf : al_f2 (fun q k => uS q k ∨ uZ q k) N N2) (g : gSx N2) : RA N2 n day B e k T := by
  obtain ⟨hB, hE, he, hI, hF, hS, hL, hK, hT, hX, hO⟩ := hR
  refine ⟨gB_on hB (eqOn_of hf ?_), gE_on hE (eqOn_of hf ?_), he, gI_on hI (eqOn_of hf ?_), gF_on hF (eqOn_of hf ?_), g, gLx_on hL (eqOn_of hf ?_), gKx_on hK (eqOn_of hf ?_), gTx_on hT (eqOn_of hf ?_), gX_on hX (eqOn_of hf ?_), gO_on hO (eqOn_of hf ?_)⟩
  · intro q k h
    unfold uB at h
    unfold uS uZ
    omega
  · intro q k h
    unfold uE at h
    unfold uS uZ
    omega
  · intro q k h
    unfold uI at h
    unfold uS uZ
    omega
  · intro q k h
    unfold uF at h
    unfold uS uZ
    omega
  · intro q k h
    unfold uL at h
    unfold uS uZ
    omega
  · intro q k h
    unfold uK at h
    unfold uS uZ
    omega
  · intro q k h
    unfold uT at h
    unfold uS uZ
    omega
  · intro q k h
    unfold uX at h
    unfold uS uZ
    omega
  · intro q k h
    unfold uO at h
    unfold uS uZ
    omega
theorem RA_L {N N2 : av_N} {n day e k : Nat} {B : Nat → Nat → Nat} {T : Nat → List (Nat × Nat × List Nat)}  (hR : RA N n day B e k T) (hf : al_f2 (fun q k => uL q k ∨ uZ q k) N N2) (g : gLx N2 n) : RA N2 n day B e k T := by
  obtain ⟨hB, hE, he, hI, hF, hS, hL, hK, hT, hX, hO⟩ := hR
  refine ⟨gB_on hB (eqOn_of hf ?_), gE_on hE (eqOn_of hf ?_), he, gI_on hI (eqOn_of hf ?_), gF_on hF (eqOn_of hf ?_), gSx_on hS (eqOn_of hf ?_), g, gKx_on hK (eqOn_of hf ?_), gTx_on hT (eqOn_of hf ?_), gX_on hX (eqOn_of hf ?_), gO_on hO (eqOn_of hf ?_)⟩
  · intro q k h
    unfold uB at h
    unfold uL uZ
    omega
  · intro q k h
    unfold uE at h
    unfold uL uZ
    omega
  · intro q k h
    unfold uI at h
    unfold uL uZ
    omega
  · intro q k h
    unfold uF at h
    unfold uL uZ
    omega
  · intro q k h
    unfold uS at h
    unfold uL uZ
    omega
  · intro q k h
    unfold uK at h
    unfold uL uZ
    omega
  · intro q k h
    unfold uT at h
    unfold uL uZ
    omega
  · intro q k h
    unfold uX at h
    unfold uL uZ
    omega
  · intro q k h
    unfold uO at h
    unfold uL uZ
    omega
theorem RA_K {N N2 : av_N} {n day e k : Nat} {B : Nat → Nat → Nat} {T : Nat → List (Nat × Nat × List Nat)}  (hR : RA N n day B e k T) (hf : al_f2 (fun q k => uK q k ∨ uZ q k) N N2) (g : gKx N2 n) : RA N2 n day B e k T := by
  obtain ⟨hB, hE, he, hI, hF, hS, hL, hK, hT, hX, hO⟩ := hR
  refine ⟨gB_on hB (eqOn_of hf ?_), gE_on hE (eqOn_of hf ?_), he, gI_on hI (eqOn_of hf ?_), gF_on hF (eqOn_of hf ?_), gSx_on hS (eqOn_of hf ?_), gLx_on hL (eqOn_of hf ?_), g, gTx_on hT (eqOn_of hf ?_), gX_on hX (eqOn_of hf ?_), gO_on hO (eqOn_of hf ?_)⟩
  · intro q k h
    unfold uB at h
    unfold uK uZ
    omega
  · intro q k h
    unfold uE at h
    unfold uK uZ
    omega
  · intro q k h
    unfold uI at h
    unfold uK uZ
    omega
  · intro q k h
    unfold uF at h
    unfold uK uZ
    omega
  · intro q k h
    unfold uS at h
    unfold uK uZ
    omega
  · intro q k h
    unfold uL at h
    unfold uK uZ
    omega
  · intro q k h
    unfold uT at h
    unfold uK uZ
    omega
  · intro q k h
    unfold uX at h
    unfold uK uZ
    omega
  · intro q k h
    unfold uO at h
    unfold uK uZ
    omega
theorem RA_F {N N2 : av_N} {n day e k : Nat} {B : Nat → Nat → Nat} {T : Nat → List (Nat × Nat × List Nat)}  (hR : RA N n day B e k T) (hf : al_f2 (fun q k => uF q k ∨ uZ q k) N N2) (g : gF N2) : RA N2 n day B e k T := by
  obtain ⟨hB, hE, he, hI, hF, hS, hL, hK, hT, hX, hO⟩ := hR
  refine ⟨gB_on hB (eqOn_of hf ?_), gE_on hE (eqOn_of hf ?_), he, gI_on hI (eqOn_of hf ?_), g, gSx_on hS (eqOn_of hf ?_), gLx_on hL (eqOn_of hf ?_), gKx_on hK (eqOn_of hf ?_), gTx_on hT (eqOn_of hf ?_), gX_on hX (eqOn_of hf ?_), gO_on hO (eqOn_of hf ?_)⟩
  · intro q k h
    unfold uB at h
    unfold uF uZ
    omega
  · intro q k h
    unfold uE at h
    unfold uF uZ
    omega
  · intro q k h
    unfold uI at h
    unfold uF uZ
    omega
  · intro q k h
    unfold uS at h
    unfold uF uZ
    omega
  · intro q k h
    unfold uL at h
    unfold uF uZ
    omega
  · intro q k h
    unfold uK at h
    unfold uF uZ
    omega
  · intro q k h
    unfold uT at h
    unfold uF uZ
    omega
  · intro q k h
    unfold uX at h
    unfold uF uZ
    omega
  · intro q k h
    unfold uO at h
    unfold uF uZ
    omega
theorem RA_T {N N2 : av_N} {n day e k : Nat} {B : Nat → Nat → Nat} {T : Nat → List (Nat × Nat × List Nat)}  (hR : RA N n day B e k T) (hf : al_f2 (fun q k => uT q k ∨ uZ q k) N N2) (g : gTx N2) : RA N2 n day B e k T := by
  obtain ⟨hB, hE, he, hI, hF, hS, hL, hK, hT, hX, hO⟩ := hR
  refine ⟨gB_on hB (eqOn_of hf ?_), gE_on hE (eqOn_of hf ?_), he, gI_on hI (eqOn_of hf ?_), gF_on hF (eqOn_of hf ?_), gSx_on hS (eqOn_of hf ?_), gLx_on hL (eqOn_of hf ?_), gKx_on hK (eqOn_of hf ?_), g, gX_on hX (eqOn_of hf ?_), gO_on hO (eqOn_of hf ?_)⟩
  · intro q k h
    unfold uB at h
    unfold uT uZ
    omega
  · intro q k h
    unfold uE at h
    unfold uT uZ
    omega
  · intro q k h
    unfold uI at h
    unfold uT uZ
    omega
  · intro q k h
    unfold uF at h
    unfold uT uZ
    omega
  · intro q k h
    unfold uS at h
    unfold uT uZ
    omega
  · intro q k h
    unfold uL at h
    unfold uT uZ
    omega
  · intro q k h
    unfold uK at h
    unfold uT uZ
    omega
  · intro q k h
    unfold uX at h
    unfold uT uZ
    omega
  · intro q k h
    unfold uO at h
    unfold uT uZ
    omega
theorem RA_X {N N2 : av_N} {n day e k : Nat} {B : Nat → Nat → Nat} {T : Nat → List (Nat × Nat × List Nat)}  (hR : RA N n day B e k T) (hf : al_f2 (fun q k => uX q k ∨ uZ q k) N N2) (g : gX N2) : RA N2 n day B e k T := by
  obtain ⟨hB, hE, he, hI, hF, hS, hL, hK, hT, hX, hO⟩ := hR
  refine ⟨gB_on hB (eqOn_of hf ?_), gE_on hE (eqOn_of hf ?_), he, gI_on hI (eqOn_of hf ?_), gF_on hF (eqOn_of hf ?_), gSx_on hS (eqOn_of hf ?_), gLx_on hL (eqOn_of hf ?_), gKx_on hK (eqOn_of hf ?_), gTx_on hT (eqOn_of hf ?_), g, gO_on hO (eqOn_of hf ?_)⟩
  · intro q k h
    unfold uB at h
    unfold uX uZ
    omega
  · intro q k h
    unfold uE at h
    unfold uX uZ
    omega
  · intro q k h
    unfold uI at h
    unfold uX uZ
    omega
  · intro q k h
    unfold uF at h
    unfold uX uZ
    omega
  · intro q k h
    unfold uS at h
    unfold uX uZ
    omega
  · intro q k h
    unfold uL at h
    unfold uX uZ
    omega
  · intro q k h
    unfold uK at h
    unfold uX uZ
    omega
  · intro q k h
    unfold uT at h
    unfold uX uZ
    omega
  · intro q k h
    unfold uO at h
    unfold uX uZ
    omega
theorem RA_I {N N2 : av_N} {n day e k : Nat} {B : Nat → Nat → Nat} {T : Nat → List (Nat × Nat × List Nat)}  (hR : RA N n day B e k T) (hf : al_f2 (fun q k => uI q k ∨ uZ q k) N N2) (g : gI N2 k) : RA N2 n day B e k T := by
  obtain ⟨hB, hE, he, hI, hF, hS, hL, hK, hT, hX, hO⟩ := hR
  refine ⟨gB_on hB (eqOn_of hf ?_), gE_on hE (eqOn_of hf ?_), he, g, gF_on hF (eqOn_of hf ?_), gSx_on hS (eqOn_of hf ?_), gLx_on hL (eqOn_of hf ?_), gKx_on hK (eqOn_of hf ?_), gTx_on hT (eqOn_of hf ?_), gX_on hX (eqOn_of hf ?_), gO_on hO (eqOn_of hf ?_)⟩
  · intro q k h
    unfold uB at h
    unfold uI uZ
    omega
  · intro q k h
    unfold uE at h
    unfold uI uZ
    omega
  · intro q k h
    unfold uF at h
    unfold uI uZ
    omega
  · intro q k h
    unfold uS at h
    unfold uI uZ
    omega
  · intro q k h
    unfold uL at h
    unfold uI uZ
    omega
  · intro q k h
    unfold uK at h
    unfold uI uZ
    omega
  · intro q k h
    unfold uT at h
    unfold uI uZ
    omega
  · intro q k h
    unfold uX at h
    unfold uI uZ
    omega
  · intro q k h
    unfold uO at h
    unfold uI uZ
    omega
theorem call_no {L : av_W} {d : Nat} {N : av_N} {mc mm : Nat} {ac am : List Value} (hR : RR N) (v : Value) (h1 : av_C (av_S0 L) d mc ac N = some (some v, N)) (h2 : av_C (av_S0 L) d mm am N = some (some v, N)) : al_call L d N mc ac mm am := ⟨v, N, N, h1, h2, hR, fun _ => rfl⟩
/-- a bird set anew in both -/
theorem gB_up {N N2 : av_N} {n day e b : Nat} {B : Nat → Nat → Nat} {X : Nat → Nat} (h : gB N n day B e) (hb : b < n) (h1 : al_bd N2 (27 + 2 * b) X) (ok : al_ok X) (x1 : X 1 = b) (hm : al_md N2 n day (sUpd B b X)) (hg : N2.1 142 2 = nI (sGone (sUpd B b X) n)) (hf : ∀ q k, (q = 10 ∧ 1 ≤ k ∧ k ≤ 3) ∨ (27 ≤ q ∧ q ≤ 40 ∧ q ≠ 27 + 2 * b ∧ q ≠ 28 + 2 * b) ∨ (q = 142 ∧ k = 12) → N2.1 q k = N.1 q k) : gB N2 n day (sUpd B b X) e := by
  obtain ⟨⟨a1, a2, a3, a4, a5⟩, h2, h3, h4, h5, h6⟩ := h
  refine ⟨⟨a1, (hf _ _ (by omega)).trans a2, (hf _ _ (by omega)).trans a3, fun c hc => ?_, a5⟩, (hf _ _ (by omega)).trans h2, hm, hg, (hf _ _ (by omega)).trans h5, h6⟩
  by_cases e : c = b
  · subst e
    rw [sUpd_s]
    exact ⟨h1, ok, x1⟩
  · rw [sUpd_n _ _ e]
    obtain ⟨k1, k2⟩ := a4 c hc
    exact ⟨al_bd_on k1 (fun k => hf _ _ (by omega)) (fun k => hf _ _ (by omega)), k2⟩
theorem al_ok_f {X : Nat → Nat} (ok : al_ok X) {f k : Nat} (h : (f = 4 ∧ k ≤ 9) ∨ (f = 5 ∧ 1 ≤ k ∧ k ≤ 10) ∨ (f = 6 ∧ k < 24) ∨ (f = 7 ∧ 1 ≤ k ∧ k ≤ 24) ∨ (f = 8 ∧ k ≤ 9999) ∨ (f = 9 ∧ k ≤ 1) ∨ (10 ≤ f ∧ f < 14 ∧ k ≤ 9)) : al_ok (sSet X f k) := by
  obtain ⟨o1, o2, o3, o4, o5, o6, o7, o8, o9, o10, o11, o12⟩ := ok
  unfold al_ok sSet
  have key : ∀ g, (if g = f then k else X g) = k ∧ g = f ∨ (if g = f then k else X g) = X g ∧ g ≠ f := fun g => by
    by_cases e : g = f
    · exact Or.inl ⟨if_pos e, e⟩
    · exact Or.inr ⟨if_neg e, e⟩
  have k1 := key 1
  have k2 := key 2
  have k3 := key 3
  have k4 := key 4
  have k5 := key 5
  have k6 := key 6
  have k7 := key 7
  have k8 := key 8
  have k9 := key 9
  refine ⟨by omega, by omega, by omega, by omega, by omega, by omega, by omega, by omega, by omega, by omega, by omega, fun j hj => ?_⟩
  have kj := key (10 + j)
  have := o12 j hj
  omega
theorem cl_set (L : av_W) (d : Nat) {N : av_N} (hR : RR N) (x w z : Int32) : al_call L (d + 20) N 49 [.ref 9, .int x, .int w, .int z] 123 [.ref 142, .int x, .int w, .int z] := by
  have hR' := hR
  obtain ⟨n, day, B, e, k, T, h⟩ := hR
  have h0 := h
  obtain ⟨hB, hE, he, hI, hF, hS, hL, hK, hT, hX, hO⟩ := h0
  have hm := RA_mv hB hE he
  have hs := hB.1
  have hn := hs.1
  cases hx : av_lt x n
  · refine call_no hR' (.int (av_k (-1))) ?_ ?_
    · apply eq_X6_set (d := d + 19)
      rw [sp_birdAt_no L _ hs.2.1 hx, av_br_n]
    · apply eq_X7_set (d := d + 19)
      rw [sp_isBird L _ x hm.2.1.1 (by omega), av_bi_s, hx, av_if_fk]
  obtain ⟨b, hb, rfl⟩ := (av_ltE (by omega)).mp hx
  obtain ⟨kb, ok, k1⟩ := hs.2.2.2.1 b hb
  have hbp : al_bp (27 + 2 * b) := al_bp27 (by omega)
  obtain ⟨s1, s2, s3, s4⟩ := al_bpE hbp L
  have r0 : ∀ j, N.1 0 j = (am_roL 0).getD j 0 := hO.1 0 (by decide)
  have r1 : ∀ j, N.1 1 j = (am_roL 1).getD j 0 := hO.1 1 (by decide)
  cases hw : av_wi w (nI 0) (nI 4)
  · refine call_no hR' (.int (av_k (-1))) ?_ ?_
    · apply eq_X6_set (d := d + 19)
      simp only [av_kP]
      rw [sp_birdAt L _ hs.2.1 hn hb, av_br_s]
      by_cases hneg : w < nI 0
      · rw [if_pos hneg]
      · have h5 : ¬ w < nI 5 := fun z => by
          rw [nI_0] at hneg
          obtain ⟨j, hj, rfl⟩ := nI_of hneg
          rw [nI_ltI hj (by decide)] at z
          rw [av_wiN (by decide) (by decide) hj, decide_eq_true (by omega)] at hw
          cases hw
        rw [if_neg hneg, show Int32.ofNat 5 = nI 5 from rfl, if_neg h5]
    · apply eq_X7_set (d := d + 19)
      simp only [av_kP]
      rw [sp_isBird L _ _ hm.2.1.1 (by omega), av_bi_s, hx, av_if_t, sp_in, av_bi_s, hw, av_if_f]
  obtain ⟨j, hj4, rfl⟩ := av_wiD (by decide) hw
  -- what both do
  have bad : ∀ lo hi : Nat, N.1 0 j = nI lo → N.1 1 j = nI hi → (∀ M, av_C (av_S0 L) (d + 19) 121 [.ref 142, .int (nI j), .int z] M = some (some (.int (av_b (av_wi z (nI lo) (nI hi)))), M)) → av_wi z (nI lo) (nI hi) = false → al_call L (d + 20) N 49 [.ref 9, .int (nI b), .int (nI j), .int z] 123 [.ref 142, .int (nI b), .int (nI j), .int z] := by
    intro lo hi e1 e2 hg hz
    refine call_no hR' (.int (av_k (-2))) ?_ ?_
    · apply eq_X6_set (d := d + 19)
      simp only [av_kP]
      rw [sp_birdAt L _ hs.2.1 hn hb, av_br_s, if_neg (nI_nlt (Nat.zero_le _) (by omega)), show Int32.ofNat 5 = nI 5 from rfl, if_pos (nI_lt (by omega) (by decide)), if_pos (nI_lt (by omega) (by decide)), av_gx_s (by omega) (by omega), av_gx_s (by omega) (by omega), nI_clamp (by omega), e1, e2, sp_within, av_bi_s, hz, av_if_f]
    · apply eq_X7_set (d := d + 19)
      simp only [av_kP]
      rw [sp_isBird L _ _ hm.2.1.1 (by omega), av_bi_s, hx, av_if_t, sp_in, av_bi_s, hw, av_if_t, hg, av_bi_s, hz, av_if_f]
  have good : ∀ lo hi m : Nat, N.1 0 j = nI lo → N.1 1 j = nI hi → (∀ M, av_C (av_S0 L) (d + 19) 121 [.ref 142, .int (nI j), .int z] M = some (some (.int (av_b (av_wi z (nI lo) (nI hi)))), M)) → av_wi z (nI lo) (nI hi) = true → z = nI m → al_ok (sSet (B b) (4 + j) m) → al_call L (d + 20) N 49 [.ref 9, .int (nI b), .int (nI j), .int z] 123 [.ref 142, .int (nI b), .int (nI j), .int z] := by
    intro lo hi m e1 e2 hg hz hzm okm
    subst hzm
    have hF1 : al_f2 (fun q k => uB q k ∨ uZ q k) N (av_w N (27 + 2 * b) (4 + j) (nI m)) := al_f2_w N (by unfold uB; omega) _
    have hmv1 : al_mv (av_w N (27 + 2 * b) (4 + j) (nI m)) n day B (sTxt T e) := al_mv_fr hm (fun q k a b c => av_w_o _ _ _ _ _ (by omega))
    have hmv2 := al_mv_set hmv1 (b := b) (f := 4 + j) (by omega) m (fun _ => okm)
    have hbd : al_bd (av_w (av_w N (27 + 2 * b) (4 + j) (nI m)) (141 + (4 + j)) b (nI m)) (27 + 2 * b) (sSet (B b) (4 + j) m) := by
      have := al_bd_set (k := m) kb (f := 4 + j) (by omega) (fun g _ => rfl)
      exact al_bd_on this (fun k => av_w_o _ _ _ _ _ (by omega)) (fun k => av_w_o _ _ _ _ _ (by omega))
    refine ⟨.int (nI (B b (4 + j))), av_w N (27 + 2 * b) (4 + j) (nI m), av_w (av_w N (27 + 2 * b) (4 + j) (nI m)) (141 + (4 + j)) b (nI m), ?_, ?_, ⟨n, day, sUpd B b (sSet (B b) (4 + j) m), e, k, T, RA_B h (al_f2_tr hF1 (al_f2_w _ (by unfold uB; omega) _)) (gB_up hB hb hbd okm (by rw [sSet_n _ _ (by omega)]; exact k1) hmv2.2.1 hmv2.2.2.1 (fun q k hq => by rw [av_w_o _ _ _ _ _ (by omega), av_w_o _ _ _ _ _ (by omega)])) (Nat.le_refl _) he⟩, fun i => av_w_o _ _ _ _ _ (by omega)⟩
    · have hch : av_C (av_S0 L) (d + 19) 3 [.ref (27 + 2 * b), .int (nI j), .int (nI m)] N = some (some (.int (nI (B b (4 + j)))), av_w N (27 + 2 * b) (4 + j) (nI m)) := by
        rw [← kb.1 (4 + j) (by omega) (by omega)]
        apply eq_X0_change
        simp only [av_kP]
        rw [s1]
        rcases (by omega : j = 0 ∨ j = 1 ∨ j = 2 ∨ j = 3 ∨ j = 4) with rfl | rfl | rfl | rfl | rfl
        · rw [if_pos rfl, av_tg_s, av_tg_s]
        · rw [if_neg (by decide), if_pos rfl, av_tg_s, av_tg_s]
        · rw [if_neg (by decide), if_neg (by decide), if_pos rfl, av_tg_s, av_tg_s]
        · rw [if_neg (by decide), if_neg (by decide), if_neg (by decide), if_pos rfl, av_tg_s, av_tg_s]
        · rw [if_neg (by decide), if_neg (by decide), if_neg (by decide), if_neg (by decide), av_tg_s, av_tg_s]
      apply eq_X6_set (d := d + 19)
      simp only [av_kP]
      rw [sp_birdAt L _ hs.2.1 hn hb, av_br_s, if_neg (nI_nlt (Nat.zero_le _) (by omega)), show Int32.ofNat 5 = nI 5 from rfl, if_pos (nI_lt (by omega) (by decide)), if_pos (nI_lt (by omega) (by decide)), av_gx_s (by omega) (by omega), av_gx_s (by omega) (by omega), nI_clamp (by omega), e1, e2, sp_within, av_bi_s, hz, av_if_t, s1, av_tg_s, hch, av_bi_s]
    · have hpo := sp_partOf L (d + 19) hmv1 hb hj4
      have h39 : ∀ M : av_N, (j ≤ 1 → M = av_w (av_w N (27 + 2 * b) (4 + j) (nI m)) (141 + (4 + j)) b (nI m)) → (2 ≤ j → M = av_w N (27 + 2 * b) (4 + j) (nI m)) → av_V (av_S0 L) (d + 20) ta_X7_set 39 [.ref 142, .int (nI b), .int (nI j), .int (nI m), .int (nI (B b (4 + j)))] [] M = some (some (.int (nI (B b (4 + j)))), av_w (av_w N (27 + 2 * b) (4 + j) (nI m)) (141 + (4 + j)) b (nI m)) := by
        intro M hM1 hM2
        apply eq_X7_set_39 (d := d + 19)
        simp only [av_kP]
        simp (disch := omega) only [av_gx_s, nI_clamp]
        rcases (by omega : j = 0 ∨ j = 1 ∨ j = 2 ∨ j = 3 ∨ j = 4) with rfl | rfl | rfl | rfl | rfl
        · rw [if_neg (by decide), if_neg (by decide), if_neg (by decide), hM1 (by decide)]
        · rw [if_neg (by decide), if_neg (by decide), if_neg (by decide), hM1 (by decide)]
        · rw [if_pos rfl, if_neg (by decide), if_neg (by decide), hM2 (by decide)]
        · rw [if_neg (by decide), if_pos rfl, if_neg (by decide), hM2 (by decide)]
        · rw [if_neg (by decide), if_neg (by decide), if_pos rfl, hM2 (by decide)]
      apply eq_X7_set (d := d + 19)
      simp only [av_kP]
      rw [sp_isBird L _ _ hmv1.2.1.1 (by omega), av_bi_s, hx, av_if_t, sp_in, av_bi_s, hw, av_if_t, hg, av_bi_s, hz, av_if_t, hpo, av_bi_s]
      simp (disch := omega) only [av_gx_s, nI_clamp]
      rcases (by omega : j = 0 ∨ j = 1 ∨ j = 2 ∨ j = 3 ∨ j = 4) with rfl | rfl | rfl | rfl | rfl
      · rw [if_pos rfl, if_neg (by decide)]
        exact h39 _ (fun _ => rfl) (fun h => absurd h (by decide))
      · rw [if_neg (by decide), if_pos rfl]
        exact h39 _ (fun _ => rfl) (fun h => absurd h (by decide))
      · rw [if_neg (by decide), if_neg (by decide)]
        exact h39 _ (fun h => absurd h (by decide)) (fun _ => rfl)
      · rw [if_neg (by decide), if_neg (by decide)]
        exact h39 _ (fun h => absurd h (by decide)) (fun _ => rfl)
      · rw [if_neg (by decide), if_neg (by decide)]
        exact h39 _ (fun h => absurd h (by decide)) (fun _ => rfl)
  rcases (by omega : j = 0 ∨ j = 1 ∨ j = 2 ∨ j = 3 ∨ j = 4) with rfl | rfl | rfl | rfl | rfl
  · have hg : ∀ M, av_C (av_S0 L) (d + 19) 121 [.ref 142, .int (nI 0), .int z] M = some (some (.int (av_b (av_wi z (nI 0) (nI 9)))), M) := fun M => by
      apply eq_X7_isGood (d := d + 18)
      simp only [av_kP]
      rw [if_pos trivial, sp_isLow L, av_bi_s, av_bt_b]
    cases hz : av_wi z (nI 0) (nI 9)
    · exact bad 0 9 (r0 0) (r1 0) hg hz
    · obtain ⟨m, h1, h2, h3⟩ := (av_wiE (by decide) (by decide)).mp hz
      exact good 0 9 m (r0 0) (r1 0) hg hz h3 (al_ok_f ok (by omega))
  · have hg : ∀ M, av_C (av_S0 L) (d + 19) 121 [.ref 142, .int (nI 1), .int z] M = some (some (.int (av_b (av_wi z (nI 1) (nI 10)))), M) := fun M => by
      apply eq_X7_isGood (d := d + 18)
      simp only [av_kP]
      rw [if_neg (by decide), if_pos trivial, sp_in, av_bi_s, av_bt_b]
    cases hz : av_wi z (nI 1) (nI 10)
    · exact bad 1 10 (r0 1) (r1 1) hg hz
    · obtain ⟨m, h1, h2, h3⟩ := (av_wiE (by decide) (by decide)).mp hz
      exact good 1 10 m (r0 1) (r1 1) hg hz h3 (al_ok_f ok (by omega))
  · have hg : ∀ M, av_C (av_S0 L) (d + 19) 121 [.ref 142, .int (nI 2), .int z] M = some (some (.int (av_b (av_wi z (nI 0) (nI 23)))), M) := fun M => by
      apply eq_X7_isGood (d := d + 18)
      simp only [av_kP]
      rw [if_neg (by decide), if_neg (by decide), if_pos trivial, sp_isHour L, av_bi_s, av_bt_b]
    cases hz : av_wi z (nI 0) (nI 23)
    · exact bad 0 23 (r0 2) (r1 2) hg hz
    · obtain ⟨m, h1, h2, h3⟩ := (av_wiE (by decide) (by decide)).mp hz
      exact good 0 23 m (r0 2) (r1 2) hg hz h3 (al_ok_f ok (by omega))
  · have hg : ∀ M, av_C (av_S0 L) (d + 19) 121 [.ref 142, .int (nI 3), .int z] M = some (some (.int (av_b (av_wi z (nI 1) (nI 24)))), M) := fun M => by
      apply eq_X7_isGood (d := d + 18)
      simp only [av_kP]
      rw [if_neg (by decide), if_neg (by decide), if_neg (by decide), if_pos trivial, sp_in, av_bi_s, av_bt_b]
    cases hz : av_wi z (nI 1) (nI 24)
    · exact bad 1 24 (r0 3) (r1 3) hg hz
    · obtain ⟨m, h1, h2, h3⟩ := (av_wiE (by decide) (by decide)).mp hz
      exact good 1 24 m (r0 3) (r1 3) hg hz h3 (al_ok_f ok (by omega))
  · have hg : ∀ M, av_C (av_S0 L) (d + 19) 121 [.ref 142, .int (nI 4), .int z] M = some (some (.int (av_b (av_wi z (nI 0) (nI 9999)))), M) := fun M => by
      apply eq_X7_isGood (d := d + 18)
      simp only [av_kP]
      rw [if_neg (by decide), if_neg (by decide), if_neg (by decide), if_neg (by decide), sp_isPurse L, av_bi_s, av_bt_b]
    cases hz : av_wi z (nI 0) (nI 9999)
    · exact bad 0 9999 (r0 4) (r1 4) hg hz
    · obtain ⟨m, h1, h2, h3⟩ := (av_wiE (by decide) (by decide)).mp hz
      exact good 0 9999 m (r0 4) (r1 4) hg hz h3 (al_ok_f ok (by omega))
theorem cl_evict (L : av_W) (d : Nat) {N : av_N} (hR : RR N) (x : Int32) {z : Nat} (hz : z ≤ 1) : al_call L (d + 20) N 50 [.ref 9, .int x, .int (nI z)] 124 [.ref 142, .int x, .int (nI z)] := by
  have hR' := hR
  obtain ⟨n, day, B, e, k, T, h⟩ := hR
  have h0 := h
  obtain ⟨hB, hE, he, hI, hF, hS, hL, hK, hT, hX, hO⟩ := h0
  have hm := RA_mv hB hE he
  have hs := hB.1
  have hn := hs.1
  cases hx : av_lt x n
  · refine call_no hR' (.int (av_k (-1))) ?_ ?_
    · apply eq_X6_evict (d := d + 19)
      rw [sp_birdAt_no L _ hs.2.1 hx, av_br_n]
    · apply eq_X7_evict (d := d + 19)
      rw [sp_isBird L _ x hm.2.1.1 (by omega), av_bi_s, hx, av_if_fk]
  obtain ⟨b, hb, rfl⟩ := (av_ltE (by omega)).mp hx
  obtain ⟨kb, ok, k1⟩ := hs.2.2.2.1 b hb
  have hbp : al_bp (27 + 2 * b) := al_bp27 (by omega)
  obtain ⟨s1, s2, s3, s4⟩ := al_bpE hbp L
  have h9 : B b 9 ≤ 1 := ok.2.2.2.2.2.2.2.2.2.2.1
  have okz : al_ok (sSet (B b) 9 z) := al_ok_f ok (by omega)
  have hF1 : al_f2 (fun q k => uB q k ∨ uZ q k) N (av_w N (27 + 2 * b) 9 (nI z)) := al_f2_w N (by unfold uB; omega) _
  have hmv1 : al_mv (av_w N (27 + 2 * b) 9 (nI z)) n day B (sTxt T e) := al_mv_fr hm (fun q k a b c => av_w_o _ _ _ _ _ (by omega))
  have hmv2 := al_mv_out hmv1 (b := b) (x := z) hz
  have hbd : al_bd (av_w (av_w N (27 + 2 * b) 9 (nI z)) 142 2 (nI (sGone (sUpd B b (sSet (B b) 9 z)) n))) (27 + 2 * b) (sSet (B b) 9 z) := by
    have := al_bd_set (k := z) kb (f := 9) (by omega) (fun g _ => rfl)
    exact al_bd_on this (fun k => av_w_o _ _ _ _ _ (by omega)) (fun k => av_w_o _ _ _ _ _ (by omega))
  have hgl : sGone B n < 1024 := sBits_1024 _ (by omega)
  have g1 : z = 1 → sGone (sUpd B b (sSet (B b) 9 z)) n = sGone B n ||| 2 ^ b := fun hz1 => by
    unfold sGone
    rw [← sBits_or hb]
    refine sBits_cg (fun c hc => ?_)
    by_cases e : c = b
    · subst e
      rw [sUpd_s, sSet_s, if_pos rfl, hz1]
      rfl
    · rw [sUpd_n _ _ e, if_neg e]
  have g0 : z = 0 → sGone (sUpd B b (sSet (B b) 9 z)) n = sMinus (sGone B n) (2 ^ b) := fun hz0 => by
    apply Nat.eq_of_testBit_eq
    intro i
    rw [sMinus_bit' hgl, Nat.testBit_two_pow]
    unfold sGone
    rw [sBits_bit, sBits_bit]
    by_cases e : i = b
    · subst e
      rw [sUpd_s, sSet_s, hz0]
      simp
    · rw [sUpd_n _ _ e, decide_eq_false (show ¬ b = i from fun z => e z.symm), Bool.not_false, Bool.and_true]
  refine ⟨.int (nI (B b 9)), av_w N (27 + 2 * b) 9 (nI z), av_w (av_w N (27 + 2 * b) 9 (nI z)) 142 2 (nI (sGone (sUpd B b (sSet (B b) 9 z)) n)), ?_, ?_, ⟨n, day, sUpd B b (sSet (B b) 9 z), e, k, T, RA_B h (al_f2_tr hF1 (al_f2_w _ (by unfold uB; omega) _)) (gB_up hB hb hbd okz (by rw [sSet_n _ _ (by omega)]; exact k1) hmv2.2.1 hmv2.2.2.1 (fun q k hq => by
    rw [show (av_w (av_w N (27 + 2 * b) 9 (nI z)) 142 2 (nI (sGone (sUpd B b (sSet (B b) 9 z)) n))).1 q k = (av_w N (27 + 2 * b) 9 (nI z)).1 q k from am_up_n _ _ (by omega), av_w_o _ _ _ _ _ (by omega)])) (Nat.le_refl _) he⟩, fun i => av_w_o _ _ _ _ _ (by omega)⟩
  · apply eq_X6_evict (d := d + 19)
    simp only [av_kP]
    rw [sp_birdAt L _ hs.2.1 hn hb, av_br_s, s1, av_tg_s, av_tg_s, av_tg_s, kb.1 9 (by decide) (by decide), av_bt_n hz, av_bt_n hz]
    rcases (by omega : B b 9 = 0 ∨ B b 9 = 1) with h | h <;> rw [h]
    · rw [if_pos rfl]
    · rw [if_neg (by decide)]
  · have e2 : ∀ u v : Nat, u < 1024 → nI u &&& ((nI 1 <<< (nI v &&& 31)) ^^^ av_k (-1)) = nI (sMinus u (2 ^ v)) ∨ 32 ≤ v := fun u v hu => by
      by_cases hv : v < 32
      · rw [av_shl 1 hv, Nat.one_mul]
        exact Or.inl (av_andn hu)
      · exact Or.inr (by omega)
    have e3 := (e2 (sGone B n) b hgl).resolve_right (by omega)
    apply eq_X7_evict (d := d + 19)
    simp only [av_kP]
    rw [sp_isBird L _ _ hmv1.2.1.1 (by omega), av_bi_s, hx, av_if_t, hmv1.2.2.1, sp_hasG L _ hmv1 hb, av_bi_s, hmv1.2.2.1, e3, av_shl 1 (by omega), Nat.one_mul, av_or]
    rcases (by omega : z = 0 ∨ z = 1) with hz2 | hz2
    · rw [g0 hz2, hz2, if_pos rfl, if_pos rfl]
      rcases (by omega : B b 9 = 0 ∨ B b 9 = 1) with h | h <;> rw [h]
      · rfl
      · rfl
    · rw [g1 hz2, hz2]
      rcases (by omega : B b 9 = 0 ∨ B b 9 = 1) with h | h
      · rw [h, show ((0 : Nat) == 1) = false from rfl, av_if_f, if_neg (by decide)]
      · rw [h, show ((1 : Nat) == 1) = true from rfl, av_if_t, if_neg (by decide)]
