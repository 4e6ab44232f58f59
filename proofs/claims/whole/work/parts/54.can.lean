/-! can -/
theorem sLive_cg {X Y : Nat → Nat} (h : X = Y) (cs : List (Nat × Nat × List Nat)) (g t day m : Nat) : sLive X cs g t day m = sLive Y cs g t day m := by rw [h]
/-- whether anybody holds what row r tells, with bird b as X -/
def sAny (S B : Nat → Nat → Nat) (cs : List (Nat × Nat × List Nat)) (day n b : Nat) (X : Nat → Nat) (r : Nat) : Bool := anyN (fun c => !(c == b) && sSee S cs day (B c) r) n || sSee S cs day X r
def sCanL (S B : Nat → Nat → Nat) (cs : List (Nat × Nat × List Nat)) (day n b s : Nat) (X : Nat → Nat) : Bool := !anyN (fun r => !(sAny S B cs day n b X r == (S r 2 == 1))) s
theorem al_rows_fr2 {N N' : av_N} {P s w : Nat} {X : Nat → Nat → Nat} (h : al_rows N P s w X) {D : Nat → Nat → Prop} (hf : al_f2 D N N') (hD : ∀ q k, P ≤ q → q ≤ P + w → ¬ D q k) : al_rows N' P s w X := ⟨(al_f2_e hf (hD P 4 (Nat.le_refl _) (by omega))).trans h.1, fun r hr j hj => (al_f2_e hf (hD _ _ (by omega) (by omega))).trans (h.2 r hr j hj)⟩
theorem sp_isSeen (L : av_W) (d : Nat) {N : av_N} {n day b s p : Nat} {S B : Nat → Nat → Nat} {cs : List (Nat × Nat × List Nat)} {X : Nat → Nat} (hm : al_mv N n day (sUpd B b X) cs) (hD : day ≤ 9999) (hb : b < n) (hg : gS N p 36 166 169 s S) : ∃ N', av_C (av_S0 L) (d + 12) 186 [.ref 142] N = some (some (.int (av_b (sCanL S B cs day n b s X))), N') ∧ al_mv N' n day (sUpd B b X) cs ∧ al_f2 al_qM N N' := by
  have hn := hm.1
  obtain ⟨s5, -, g1, g2, g3⟩ := hg
  have fsg : ∀ M, al_f2 al_qM N M → M.1 142 36 = nI s ∧ ∀ r, r < s → M.1 166 r = nI (S r 0) ∧ M.1 167 r = nI (S r 1) ∧ M.1 168 r = nI (S r 3) ∧ M.1 169 r = nI (S r 2) := fun M h => ⟨(al_f2_e h (by unfold al_qM; omega)).trans g1, fun r hr => by
    obtain ⟨a1, a2, a3, a4⟩ := g2 r hr
    exact ⟨(al_f2_e h (by unfold al_qM; omega)).trans a1, (al_f2_e h (by unfold al_qM; omega)).trans a2, (al_f2_e h (by unfold al_qM; omega)).trans a3, (al_f2_e h (by unfold al_qM; omega)).trans a4⟩⟩
  have key := lp_0 (P := fun k => ∀ M, al_mv M n day (sUpd B b X) cs → al_f2 al_qM N M → ∃ N', av_V (av_S0 L) (d + 12) ta_X7_isSeen 4 [.ref 142, .int (av_b (!anyN (fun r => !(sAny S B cs day n b X r == (S r 2 == 1))) k)), .int (nI k)] [] M = some (some (.int (av_b (sCanL S B cs day n b s X))), N') ∧ al_mv N' n day (sUpd B b X) cs ∧ al_f2 al_qM N N') s (fun M hM hf => by
    refine ⟨M, ?_, hM, hf⟩
    apply eq_X7_isSeen_4 (d := d + 11)
    rw [(fsg M hf).1, if_neg (nI_nlt (Nat.le_refl _) (by omega)), av_bt_b]
    rfl) (fun k hk ih M hM hf => by
    obtain ⟨f1, f2⟩ := fsg M hf
    cases hany : anyN (fun r => !(sAny S B cs day n b X r == (S r 2 == 1))) k
    · obtain ⟨k0, k1, k2, k3⟩ := g3 k hk
      obtain ⟨M1, M2, c1, c2, hm2, c4, c5⟩ := sp_away L (d + 4) hM (m := S k 3) (by omega)
      obtain ⟨M3, c6, hm3, c7⟩ := c5 M2 (al_fr_rf _ _)
      obtain ⟨N', c8, c9, c10⟩ := ih M3 hm3 (al_f2_tr hf c7)
      refine ⟨N', ?_, c9, c10⟩
      have hM1 : al_f2 al_qM M M1 := by
        obtain ⟨M1', c1', k1', f1'⟩ := sp_save L (d + 11) hM
        rw [c1] at c1'
        cases c1'
        exact al_dS_q f1'
      obtain ⟨-, e1⟩ := fsg M1 (al_f2_tr hf hM1)
      obtain ⟨-, e2⟩ := fsg M2 (al_f2_tr hf c4)
      have hb2 := sp_heldBy L (d + 6) hm2 (h := S k 0) (t := S k 1) (by omega) (by omega)
      have hlt : sHeld (sGoN (sUpd B b X) cs day (S k 3)) n (sTop cs) (day + S k 3) (S k 0) (S k 1) < 2 ^ 31 := sBits_31 _ (by omega)
      have hz : (sHeld (sGoN (sUpd B b X) cs day (S k 3)) n (sTop cs) (day + S k 3) (S k 0) (S k 1) = 0) ↔ sAny S B cs day n b X k = false := by
        have e3 : ∀ c, sHolds (sGoN (sUpd B b X) cs day (S k 3) c) (sTop cs) (day + S k 3) (S k 0) (S k 1) = sSee S cs day (sUpd B b X c) k := fun _ => rfl
        unfold sHeld sAny
        rw [sBits_0, Bool.or_eq_false_iff, anyN_f]
        simp only [e3]
        constructor
        · intro h
          refine ⟨fun c hc => ?_, ?_⟩
          · by_cases e : c = b
            · rw [e]
              simp
            · have := h c hc
              rw [sUpd_n _ _ e] at this
              rw [this, Bool.and_false]
          · have := h b hb
            rw [sUpd_s] at this
            exact this
        · rintro ⟨h1, h2⟩ c hc
          by_cases e : c = b
          · rw [e, sUpd_s]
            exact h2
          · rw [sUpd_n _ _ e]
            have := h1 c hc
            rw [show (c == b) = false from by simpa using e] at this
            simpa using this
      have es : (!anyN (fun r => !(sAny S B cs day n b X r == (S r 2 == 1))) (k + 1)) = (sAny S B cs day n b X k == (S k 2 == 1)) := by
        show (!(anyN (fun r => !(sAny S B cs day n b X r == (S r 2 == 1))) k || !(sAny S B cs day n b X k == (S k 2 == 1)))) = _
        rw [hany, Bool.false_or, Bool.not_not]
      rw [es] at c8
      apply eq_X7_isSeen_4 (d := d + 11)
      rw [f1, if_pos (nI_lt hk (by omega)), Bool.not_false, av_if_tk, c1, av_bv_s, av_gx_s (by omega) (by omega), nI_clamp (by omega), (e1 k hk).2.2.1, c2, av_bv_s, av_gx_s (by omega) (by omega), av_gx_s (by omega) (by omega), (e2 k hk).1, (e2 k hk).2.1, hb2, av_bi_s, av_gx_s (by omega) (by omega), (e2 k hk).2.2.2, av_gx_s (by omega) (by omega), c6]
      simp only [av_bv_s, av_kP, nI_add, nI_eq hlt (show 0 < 2 ^ 31 by decide), hz]
      rcases (by omega : S k 2 = 0 ∨ S k 2 = 1) with h2 | h2
      · rw [h2] at c8 ⊢
        cases ha : sAny S B cs day n b X k
        · rw [ha] at c8
          rw [if_pos rfl, if_pos rfl]
          exact c8
        · rw [ha] at c8
          rw [if_neg (by decide), if_neg (by decide)]
          exact c8
      · rw [h2] at c8 ⊢
        cases ha : sAny S B cs day n b X k
        · rw [ha] at c8
          rw [if_pos rfl, if_neg (by decide)]
          exact c8
        · rw [ha] at c8
          rw [if_neg (by decide), if_pos rfl]
          exact c8
    · have hall : sCanL S B cs day n b s X = false := by
        unfold sCanL
        cases hz : anyN (fun r => !(sAny S B cs day n b X r == (S r 2 == 1))) s
        · rw [anyN_f] at hz
          rw [anyN_f.mpr (fun i hi => hz i (by omega))] at hany
          cases hany
        · rfl
      refine ⟨M, ?_, hM, hf⟩
      apply eq_X7_isSeen_4 (d := d + 11)
      rw [f1, if_pos (nI_lt hk (by omega)), Bool.not_true, av_if_fk, av_bt_b, hall])
  obtain ⟨N', c1, c2, c3⟩ := key N hm (al_f2_rf _ _)
  refine ⟨N', ?_, c2, c3⟩
  apply eq_X7_isSeen (d := d + 11)
  simp only [av_kP]
  exact c1
def sUpF (p : Nat → Bool) : Nat → Nat × Int32
  | 0 => (0, av_k (-5))
  | k + 1 => if p k then ((sUpF p k).1 + 1, if (sUpF p k).1 = 0 then nI k else (sUpF p k).2) else sUpF p k
def sDnF (p : Nat → Bool) : Nat → Nat × Int32
  | 0 => (0, av_k (-5))
  | j + 1 => if p (9 - j) then ((sDnF p j).1 + 1, nI (9 - j)) else sDnF p j
theorem sUpF_cg {p q : Nat → Bool} : ∀ {k : Nat}, (∀ i, i < k → p i = q i) → sUpF p k = sUpF q k
  | 0, _ => rfl
  | k + 1, h => by
    unfold sUpF
    rw [sUpF_cg (fun i hi => h i (by omega)), h k (by omega)]
theorem sDnF_cg {p q : Nat → Bool} (h : ∀ i, i < 10 → p i = q i) : ∀ k, sDnF p k = sDnF q k
  | 0 => rfl
  | k + 1 => by
    unfold sDnF
    rw [sDnF_cg h k, h (9 - k) (by omega)]
theorem up_dn_b : ∀ m, m < 1024 → sUpF (fun i => m.testBit i) 10 = sDnF (fun i => m.testBit i) 10 := by decide +kernel
theorem up_dn (p : Nat → Bool) : sUpF p 10 = sDnF p 10 := by
  have e : ∀ i, i < 10 → p i = (sBits p 10).testBit i := fun i hi => by rw [sBits_bit, decide_eq_true hi, Bool.true_and]
  rw [sUpF_cg e, sDnF_cg e 10]
  exact up_dn_b _ (sBits_1024 p (Nat.le_refl _))
theorem sUpF_le (p : Nat → Bool) : ∀ k, (sUpF p k).1 ≤ k
  | 0 => Nat.le_refl _
  | k + 1 => by
    have := sUpF_le p k
    unfold sUpF
    split
    · exact Nat.succ_le_succ this
    · omega
theorem beq_cg {a b : Nat} {c : Bool} (h : a = b ↔ c = true) : (a == b) = c := by
  cases c
  · have : ¬ a = b := fun z => by have := h.mp z; cases this
    simpa using this
  · rw [h.mpr rfl]
    simp
theorem canL_bits (S B : Nat → Nat → Nat) (cs : List (Nat × Nat × List Nat)) (day n b s : Nat) (X : Nat → Nat) : (sBits (fun r => anyN (fun c => !(c == b) && sSee S cs day (B c) r) n) s ||| sBits (sSee S cs day X) s == sBits (fun r => S r 2 == 1) s) = sCanL S B cs day n b s X := by
  rw [sBits_or2]
  apply beq_cg
  unfold sCanL
  constructor
  · intro h
    have h1 := sBits_inj h
    rw [anyN_f.mpr (fun r hr => ?_)]
    · rfl
    · have := h1 r hr
      unfold sAny
      rw [this]
      simp
  · intro h
    refine sBits_cg (fun r hr => ?_)
    cases hz : anyN (fun r => !(sAny S B cs day n b X r == (S r 2 == 1))) s
    · rw [anyN_f] at hz
      have := hz r hr
      unfold sAny at this
      simpa using this
    · rw [hz] at h
      cases h
theorem ca_can (L : av_W) (d : Nat) {N : av_N} {n day : Nat} {B : Nat → Nat → Nat} {cs : List (Nat × Nat × List Nat)} (hc : al_cv N n day B cs) (hm : al_mv N n day B cs) (hD : day ≤ 9999) {s : Nat} {S : Nat → Nat → Nat} (hg : gS N 12 36 166 169 s S) (x w : Int32) : al_ask L (d + 20) N n day B cs 69 [.ref 9, .int x, .int w] 187 [.ref 142, .int x, .int w] := by
  obtain ⟨hs, e, he⟩ := hc
  have hn := hs.1
  cases hx : av_lt x n
  · refine ask_eq hm (.int (av_k (-1))) ?_ ?_
    · apply eq_X6_can (d := d + 19)
      rw [sp_birdAt_no L _ hs.2.1 hx, av_br_n]
    · apply eq_X7_can (d := d + 19)
      rw [sp_isBird L _ x hm.2.1.1 (by omega), av_bi_s, hx, av_if_fk]
  obtain ⟨b, hb, rfl⟩ := (av_ltE (by omega)).mp hx
  obtain ⟨kb, ok, -⟩ := hs.2.2.2.1 b hb
  cases hw : av_wi w (nI 0) (nI 1)
  · refine ask_eq hm (.int (av_k (-1))) ?_ ?_
    · apply eq_X6_can (d := d + 19)
      simp only [av_kP]
      rw [sp_birdAt L _ hs.2.1 hn hb, av_br_s, sp_within, av_bi_s, hw, av_if_f]
    · apply eq_X7_can (d := d + 19)
      simp only [av_kP]
      rw [sp_isBird L _ _ hm.2.1.1 (by omega), av_bi_s, hx, av_if_t, sp_in, av_bi_s, hw, av_if_f]
  obtain ⟨s5, hr, g1, g2, g3⟩ := hg
  have fs : ∀ M, al_fr al_dH N M → al_sn M 10 27 n day B ∧ al_ce M e cs ∧ al_rows M 12 s 4 S := fun M h => ⟨al_cv_H hs h, al_ce_H he h, al_rows_fr hr h (fun q a b => by unfold al_dH; omega)⟩
  -- the class
  have lows := lp_0 (P := fun k => ∀ M, al_fr al_dH N M → ∃ N', av_V (av_S0 L) (d + 20) ta_X6_can 57 [.ref 9, .int (nI b), .int w, .ref (27 + 2 * b), .ref (116 + 2 * e), .int (nI (sBits (fun r => anyN (fun c => !(c == b) && sSee S cs day (B c) r) n) s)), .int (nI (sBits (fun r => S r 2 == 1) s)), .int (nI (sUpF (fun low => sCanL S B cs day n b s (sSet (B b) 4 low)) k).1), .int (sUpF (fun low => sCanL S B cs day n b s (sSet (B b) 4 low)) k).2, .int (nI k)] [] M = some (some (.int (if w = nI 0 then nI (sUpF (fun low => sCanL S B cs day n b s (sSet (B b) 4 low)) 10).1 else (sUpF (fun low => sCanL S B cs day n b s (sSet (B b) 4 low)) 10).2)), N') ∧ al_fr al_dH N N') 10 (fun M hM => by
    refine ⟨M, ?_, hM⟩
    apply eq_X6_can_57_a (d := d + 19)
    simp only [av_kP]
    rw [if_neg (nI_nlt (Nat.le_refl _) (by decide))]
    by_cases h : w = nI 0
    · rw [if_pos h, if_pos h]
    · rw [if_neg h, if_neg h]) (fun k hk ih M hM => by
    obtain ⟨hsM, heM, hrM⟩ := fs M hM
    obtain ⟨M1, c1, f1⟩ := sp_seenHeldBy L (d + 11) hsM heM hD s5 hrM g3 hb (show k ≤ 9 by omega)
    obtain ⟨N', c2, f2⟩ := ih M1 (al_fr_tr hM f1)
    refine ⟨N', ?_, f2⟩
    have hcn := sUpF_le (fun low => sCanL S B cs day n b s (sSet (B b) 4 low)) k
    have es : sUpF (fun low => sCanL S B cs day n b s (sSet (B b) 4 low)) (k + 1) = if sCanL S B cs day n b s (sSet (B b) 4 k) then ((sUpF (fun low => sCanL S B cs day n b s (sSet (B b) 4 low)) k).1 + 1, if (sUpF (fun low => sCanL S B cs day n b s (sSet (B b) 4 low)) k).1 = 0 then nI k else (sUpF (fun low => sCanL S B cs day n b s (sSet (B b) 4 low)) k).2) else sUpF (fun low => sCanL S B cs day n b s (sSet (B b) 4 low)) k := rfl
    rw [es] at c2
    have hbits := canL_bits S B cs day n b s (sSet (B b) 4 k)
    have hl1 : sBits (fun r => anyN (fun c => !(c == b) && sSee S cs day (B c) r) n) s ||| sBits (sSee S cs day (sSet (B b) 4 k)) s < 2 ^ 31 := by
      rw [sBits_or2]
      exact sBits_31 _ (by omega)
    have hl2 : sBits (fun r => S r 2 == 1) s < 2 ^ 31 := sBits_31 _ (by omega)
    generalize sUpF (fun low => sCanL S B cs day n b s (sSet (B b) 4 low)) k = U at *
    apply eq_X6_can_57_a (d := d + 19)
    simp only [av_kP]
    rw [if_pos (nI_lt hk (by decide)), c1, av_bi_s, av_or, nI_add, nI_add]
    simp only [nI_eq hl1 hl2, nI_eq (show U.1 < 2 ^ 31 by omega) (show 0 < 2 ^ 31 by decide)]
    cases hcan : sCanL S B cs day n b s (sSet (B b) 4 k)
    · rw [hcan] at c2 hbits
      rw [if_neg (by simpa using hbits)]
      exact c2
    · rw [hcan] at c2 hbits
      rw [if_pos (by simpa using hbits)]
      rw [if_pos rfl] at c2
      by_cases h0 : U.1 = 0
      · rw [if_pos h0]
        rw [if_pos h0] at c2
        exact c2
      · rw [if_neg h0]
        rw [if_neg h0] at c2
        exact c2)
  have others := lp_0 (P := fun k => ∀ M, al_fr al_dH N M → ∃ N', av_V (av_S0 L) (d + 20) ta_X6_can 21 [.ref 9, .int (nI b), .int w, .ref (27 + 2 * b), .ref (116 + 2 * e), .int (nI (sBits (fun r => anyN (fun c => !(c == b) && sSee S cs day (B c) r) k) s)), .int (nI k), am_junk, am_junk, am_junk] [] M = some (some (.int (if w = nI 0 then nI (sUpF (fun low => sCanL S B cs day n b s (sSet (B b) 4 low)) 10).1 else (sUpF (fun low => sCanL S B cs day n b s (sSet (B b) 4 low)) 10).2)), N') ∧ al_fr al_dH N N') n (fun M hM => by
    obtain ⟨hsM, heM, hrM⟩ := fs M hM
    obtain ⟨N', c2, f2⟩ := lows M hM
    refine ⟨N', ?_, f2⟩
    apply eq_X6_can_21_a (d := d + 19)
    simp only [av_kP]
    rw [hsM.2.1, if_neg (nI_nlt (Nat.le_refl _) (by omega)), sp_seenAsTold L _ s5 hrM (fun r hr => (g3 r hr).2.2.1), av_bi_s]
    exact c2) (fun k hk ih M hM => by
    obtain ⟨hsM, heM, hrM⟩ := fs M hM
    by_cases hkb : k = b
    · obtain ⟨N', c2, f2⟩ := ih M hM
      refine ⟨N', ?_, f2⟩
      have e2 : sBits (fun r => anyN (fun c => !(c == b) && sSee S cs day (B c) r) (k + 1)) s = sBits (fun r => anyN (fun c => !(c == b) && sSee S cs day (B c) r) k) s := sBits_cg (fun r _ => by
        show (anyN _ k || _) = _
        rw [hkb]
        simp)
      rw [e2] at c2
      apply eq_X6_can_21_a (d := d + 19)
      simp only [av_kP]
      rw [hsM.2.1, if_pos (nI_lt hk (by omega)), if_pos (congrArg nI hkb), nI_add]
      exact c2
    · obtain ⟨kbk, okk, -⟩ := hsM.2.2.2.1 k hk
      have hbp : al_bp (27 + 2 * k) := al_bp27 (by omega)
      obtain ⟨t1, t2, t3, t4⟩ := al_bpE hbp L
      have l9 : B k 4 ≤ 9 := okk.2.2.2.1
      obtain ⟨M1, c1, f1⟩ := sp_seenHeldBy L (d + 11) hsM heM hD s5 hrM g3 hk l9
      rw [sSet_id] at c1
      obtain ⟨N', c2, f2⟩ := ih M1 (al_fr_tr hM f1)
      refine ⟨N', ?_, f2⟩
      have e2 : sBits (fun r => anyN (fun c => !(c == b) && sSee S cs day (B c) r) (k + 1)) s = sBits (fun r => anyN (fun c => !(c == b) && sSee S cs day (B c) r) k) s ||| sBits (sSee S cs day (B k)) s := by
        rw [sBits_or2]
        refine sBits_cg (fun r _ => ?_)
        show (anyN _ k || (!(k == b) && sSee S cs day (B k) r)) = _
        rw [show (k == b) = false from by simpa using hkb]
        simp
      rw [e2] at c2
      apply eq_X6_can_21_a (d := d + 19)
      simp only [av_kP]
      rw [hsM.2.1, if_pos (nI_lt hk (by omega)), if_neg (nI_ne (by omega) (by omega) hkb), av_gx_s (by omega) (by omega), nI_clamp (by omega), al_R11 k (by omega), av_bd_s, av_gx_s (by omega) (by omega), av_bd_s, t1, av_tg_s, kbk.1 4 (by decide) (by decide), c1, av_bi_s, av_or, nI_add]
      exact c2)
  obtain ⟨N1, c1, f1⟩ := others N (al_fr_rf _ _)
  have e0 : sBits (fun r => anyN (fun c => !(c == b) && sSee S cs day (B c) r) 0) s = 0 := (sBits_0 _ _).mpr (fun r _ => rfl)
  rw [e0] at c1
  refine ask_of hm (.int (if w = nI 0 then nI (sUpF (fun low => sCanL S B cs day n b s (sSet (B b) 4 low)) 10).1 else (sUpF (fun low => sCanL S B cs day n b s (sSet (B b) 4 low)) 10).2)) (N1 := N1) ?_ (al_dHC f1) (fun M hfM hmM => ?_)
  · apply eq_X6_can (d := d + 19)
    simp only [av_kP]
    rw [sp_birdAt L _ hs.2.1 hn hb, av_br_s, sp_within, av_bi_s, hw, av_if_t, sp_estuaryNow L _ he, av_br_s]
    exact c1
  rw [up_dn]
  have hgM : ∀ M', al_f2 al_qM M M' → gS M' 12 36 166 169 s S := fun M' h => ⟨s5, al_rows_fr2 (al_rows_fr hr hfM (fun q a b => by unfold al_dC; omega)) h (fun q k a b => by unfold al_qM; omega), (al_f2_e h (by unfold al_qM; omega)).trans (((hfM 142 (by unfold al_dC; omega) 36).1).trans g1), fun r hr => by
    obtain ⟨a1, a2, a3, a4⟩ := g2 r hr
    exact ⟨(al_f2_e h (by unfold al_qM; omega)).trans (((hfM _ (by unfold al_dC; omega) _).1).trans a1), (al_f2_e h (by unfold al_qM; omega)).trans (((hfM _ (by unfold al_dC; omega) _).1).trans a2), (al_f2_e h (by unfold al_qM; omega)).trans (((hfM _ (by unfold al_dC; omega) _).1).trans a3), (al_f2_e h (by unfold al_qM; omega)).trans (((hfM _ (by unfold al_dC; omega) _).1).trans a4)⟩, g3⟩
  have hwas : M.1 145 b = nI (B b 4) := (hmM.2.1.2.2 b hb).2.2.1
  have keyM := lp_0 (P := fun j => ∀ M' y, al_f2 al_qM M M' → al_mv M' n day (sUpd B b (sSet (B b) 4 y)) cs → ∃ N', av_V (av_S0 L) (d + 20) ta_X7_can 23 [.ref 142, .int (nI b), .int w, .int (nI (B b 4)), .int (nI (sDnF (fun low => sCanL S B cs day n b s (sSet (B b) 4 low)) j).1), .int (sDnF (fun low => sCanL S B cs day n b s (sSet (B b) 4 low)) j).2, .int (av_k (9 - (j : Int)))] [] M' = some (some (.int (if w = nI 0 then nI (sDnF (fun low => sCanL S B cs day n b s (sSet (B b) 4 low)) 10).1 else (sDnF (fun low => sCanL S B cs day n b s (sSet (B b) 4 low)) 10).2)), N') ∧ al_mv N' n day B cs ∧ al_f2 al_qM M N') 10 (fun M' y hM hv2 => by
    have hv3 := al_mv_set hv2 (b := b) (f := 4) (by decide) (B b 4) (fun _ => by rw [sUpd_s, sSet_sSet, sSet_id]; exact ok)
    rw [sUpd_s, sSet_sSet, sSet_id, sUpd_sUpd, sUpd_id] at hv3
    refine ⟨_, ?_, hv3, al_f2_tr hM (al_f2_w M' (by unfold al_qM; omega) _)⟩
    apply eq_X7_can_23 (d := d + 19)
    rw [if_pos (by decide), av_gx_s (by omega) (by omega), nI_clamp (by omega)]
    simp only [av_kP]
    by_cases h : w = nI 0
    · rw [if_pos h, if_pos h]
    · rw [if_neg h, if_neg h]) (fun j hj ih M' y hM hv2 => by
    have hv3 := al_mv_set hv2 (b := b) (f := 4) (by decide) (9 - j) (fun _ => by rw [sUpd_s, sSet_sSet]; exact al_ok_4 ok (by omega))
    rw [sUpd_s, sSet_sSet, sUpd_sUpd] at hv3
    have hfw : al_f2 al_qM M (av_w M' 145 b (nI (9 - j))) := al_f2_tr hM (al_f2_w M' (by unfold al_qM; omega) _)
    obtain ⟨M1, c2, hm1, f2⟩ := sp_isSeen L (d + 7) hv3 hD hb (hgM _ hfw)
    obtain ⟨N', c3, h3, f3⟩ := ih M1 (9 - j) (al_f2_tr hfw f2) hm1
    refine ⟨N', ?_, h3, f3⟩
    have es : sDnF (fun low => sCanL S B cs day n b s (sSet (B b) 4 low)) (j + 1) = if sCanL S B cs day n b s (sSet (B b) 4 (9 - j)) then ((sDnF (fun low => sCanL S B cs day n b s (sSet (B b) 4 low)) j).1 + 1, nI (9 - j)) else sDnF (fun low => sCanL S B cs day n b s (sSet (B b) 4 low)) j := rfl
    rw [es] at c3
    have ek : av_k (9 - (j : Int)) = nI (9 - j) := by
      rw [← av_kN]
      congr 1
      omega
    have ed : nI (9 - j) + av_k (-1) = av_k (9 - ((j + 1 : Nat) : Int)) := by
      rw [← av_kN]
      refine (Int32.ofInt_add _ _).symm.trans ?_
      show av_k _ = av_k _
      congr 1
      omega
    apply eq_X7_can_23 (d := d + 19)
    rw [ek, if_neg (by rw [av_kP]; exact nI_nlt (Nat.zero_le _) (by omega)), av_gx_s (by omega) (by omega), nI_clamp (by omega), c2, av_bi_s, ed]
    simp only [av_kP, av_b_0, nI_add]
    cases hcan : sCanL S B cs day n b s (sSet (B b) 4 (9 - j))
    · rw [hcan] at c3
      rw [if_pos rfl]
      exact c3
    · rw [hcan] at c3
      rw [if_neg (by decide)]
      exact c3)
  obtain ⟨N4, c4, h4, f4⟩ := keyM M (B b 4) (al_f2_rf _ _) (by rw [sSet_id, sUpd_id]; exact hmM)
  refine ⟨N4, ?_, h4, f4⟩
  apply eq_X7_can (d := d + 19)
  simp only [av_kP]
  rw [sp_isBird L _ _ hmM.2.1.1 (by omega), av_bi_s, hx, av_if_t, sp_in, av_bi_s, hw, av_if_t, av_gx_s (by omega) (by omega), nI_clamp (by omega), hwas]
  exact c4
