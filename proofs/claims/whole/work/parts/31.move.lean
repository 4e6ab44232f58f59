/-! what stays: frames; a bird becomes another; a bird lives on -/
theorem av_w_o (N : av_N) (p k : Nat) (x : Int32) {q : Nat} (j : Nat) (h : q ≠ p) : (av_w N p k x).1 q j = N.1 q j := am_up_n _ _ (fun z => h z.1)
theorem av_w_k (N : av_N) (p k : Nat) (x : Int32) {q j : Nat} (h : j ≠ k) : (av_w N p k x).1 q j = N.1 q j := am_up_n _ _ (fun z => h z.2)
theorem av_w_s (N : av_N) (p k : Nat) (x : Int32) : (av_w N p k x).1 p k = x := am_up_s _ _ _ _
/-- outside D nothing has changed -/
def al_fr (D : Nat → Prop) (N N' : av_N) : Prop := ∀ q, ¬ D q → ∀ k, N'.1 q k = N.1 q k ∧ N'.2 q k = N.2 q k
theorem al_fr_rf (D : Nat → Prop) (N : av_N) : al_fr D N N := fun _ _ _ => ⟨rfl, rfl⟩
theorem al_fr_tr {D : Nat → Prop} {N N' N'' : av_N} (h : al_fr D N N') (h' : al_fr D N' N'') : al_fr D N N'' := fun q hq k => ⟨((h' q hq k).1).trans (h q hq k).1, ((h' q hq k).2).trans (h q hq k).2⟩
theorem al_fr_mono {D E : Nat → Prop} {N N' : av_N} (h : al_fr D N N') (hm : ∀ q, D q → E q) : al_fr E N N' := fun q hq k => h q (fun z => hq (hm q z)) k
theorem al_fr_w {D : Nat → Prop} (N : av_N) {p : Nat} (hp : D p) (k : Nat) (x : Int32) : al_fr D N (av_w N p k x) := fun _ hq j => ⟨av_w_o N p k x j (fun z => hq (z ▸ hp)), rfl⟩
theorem al_bd_fr {D : Nat → Prop} {N N' : av_N} {p : Nat} {B : Nat → Nat} (h : al_bd N p B) (hf : al_fr D N N') (h1 : ¬ D p) (h2 : ¬ D (p + 1)) : al_bd N' p B := ⟨fun f a b => ((hf p h1 f).1).trans (h.1 f a b), fun j hj => ((hf _ h2 j).1).trans (h.2 j hj)⟩
theorem al_es_fr {D : Nat → Prop} {N N' : av_N} {p : Nat} {F : List Nat} {g t : Nat} (h : al_es N p F g t) (hf : al_fr D N N') (h1 : ¬ D p) (h2 : ¬ D (p + 1)) : al_es N' p F g t := by
  obtain ⟨a1, a2, a3, a4, a5, a6, a7, a8⟩ := h
  exact ⟨a1, ((hf p h1 _).1).trans a2, ((hf p h1 _).1).trans a3, ((hf p h1 _).1).trans a4, a5, a6, a7, fun i hi => ((hf _ h2 _).1).trans (a8 i hi)⟩
theorem al_bp_ne {p q : Nat} (h : al_bp p) (h' : al_bp q) : p + 1 ≠ q := by
  rcases h with rfl | ⟨b, hb, rfl | rfl | rfl⟩ <;> rcases h' with rfl | ⟨c, hc, rfl | rfl | rfl⟩ <;> omega
theorem al_bp_ep {p q : Nat} (h : al_bp p) (h' : al_ep q) : p ≠ q ∧ p + 1 ≠ q ∧ p ≠ q + 1 := by
  obtain ⟨e, he, rfl⟩ := h'
  rcases h with rfl | ⟨b, hb, rfl | rfl | rfl⟩ <;> omega
theorem av_bt_n {α : Type} {j : Nat} (h : j ≤ 1) (A : Option α) : av_bt (nI j) A = A := by
  rcases (by omega : j = 0 ∨ j = 1) with rfl | rfl <;> rfl
def bwM (N : av_N) (p0 p1 : Nat) : av_N := av_w (av_w (av_w (av_w (av_w (av_w (av_w (av_w (av_w N p0 1 (N.1 p1 1)) p0 2 (N.1 p1 2)) p0 3 (N.1 p1 3)) p0 4 (N.1 p1 4)) p0 5 (N.1 p1 5)) p0 6 (N.1 p1 6)) p0 7 (N.1 p1 7)) p0 8 (N.1 p1 8)) p0 9 (N.1 p1 9)
def bwN (N : av_N) (p0 p1 : Nat) : av_N := av_cpI (bwM N p0 p1) (p1 + 1) (p0 + 1) (nI 0) (nI 0) (nI 4)
theorem av_gc_4 {α : Type} (A : Option α) : av_gc (nI 0) (nI 0) (nI 4) 4 4 A = A := if_pos (by decide)
theorem sp_become (L : av_W) (d : Nat) {p0 p1 : Nat} {N : av_N} {B : Nat → Nat} (h0 : al_bp p0) (h1 : al_bp p1) (hne : p1 ≠ p0) (hb : al_bd N p1 B) (ok : al_ok B) : av_C (av_S0 L) (d + 7) 2 [.ref p0, .ref p1] N = some (none, bwN N p0 p1) := by
  obtain ⟨s1, s2, s3, s4⟩ := al_bpE h0 L
  obtain ⟨t1, t2, t3, t4⟩ := al_bpE h1 L
  have h9 : B 9 ≤ 1 := ok.2.2.2.2.2.2.2.2.2.2.1
  apply eq_X0_become
  rw [s1, t1]
  simp only [↓av_tg_s, av_w_o _ _ _ _ _ hne]
  rw [hb.1 9 (by decide) (by decide), av_bt_n h9, s2, t2]
  simp only [↓av_bd_s, ↓av_tg_s]
  rw [s3, t3]
  simp only [↓av_tg_s]
  rw [av_ge_s (by omega), av_ge_s (by omega), av_kO, av_kO, av_gc_4, ← hb.1 9 (by decide) (by decide)]
  rfl
theorem bw_bd {N : av_N} {p0 p1 : Nat} {B : Nat → Nat} (h0 : al_bp p0) (h1 : al_bp p1) (hne : p1 ≠ p0) (hb : al_bd N p1 B) : al_bd (bwN N p0 p1) p0 B := by
  have a1 := al_bp_ne h1 h0
  have a2 := al_bp_ne h0 h1
  constructor
  · intro f f1 f9
    rw [← hb.1 f f1 f9]
    show (if p0 = p0 + 1 then _ else (bwM N p0 p1).1 p0 f) = _
    rw [if_neg (by omega)]
    unfold bwM
    rcases (by omega : f = 1 ∨ f = 2 ∨ f = 3 ∨ f = 4 ∨ f = 5 ∨ f = 6 ∨ f = 7 ∨ f = 8 ∨ f = 9) with rfl | rfl | rfl | rfl | rfl | rfl | rfl | rfl | rfl <;> simp [av_w, am_up]
  · intro j hj
    rw [← hb.2 j hj]
    show (if p0 + 1 = p0 + 1 then va_cpy ((bwM N p0 p1).1 (p1 + 1)) ((bwM N p0 p1).1 (p0 + 1)) (nI 0).toNatClampNeg (nI 0).toNatClampNeg (nI 4).toNatClampNeg j else _) = _
    rw [if_pos rfl, nI_clamp (by decide), nI_clamp (by decide)]
    unfold va_cpy
    rw [if_pos (by omega), show 0 + (j - 0) = j by omega]
    unfold bwM
    simp only [av_w_o _ _ _ _ _ (show p1 + 1 ≠ p0 from a1)]
theorem bw_fr (N : av_N) (p0 p1 : Nat) : al_fr (fun q => q = p0 ∨ q = p0 + 1) N (bwN N p0 p1) := by
  intro q hq k
  have q1 : q ≠ p0 := fun z => hq (Or.inl z)
  have q2 : q ≠ p0 + 1 := fun z => hq (Or.inr z)
  refine ⟨?_, rfl⟩
  show (if q = p0 + 1 then _ else (bwM N p0 p1).1 q k) = _
  rw [if_neg q2]
  unfold bwM
  simp only [av_w_o _ _ _ _ _ q1]
def sDay (B : Nat → Nat) (cs : List (Nat × Nat × List Nat)) (g t day : Nat) : Nat → Nat := fun f => if B 9 = 0 then (if f = 8 then sPurse (sLeft B cs g t day) else if f = 9 then (if sLeft B cs g t day < 0 then 1 else 0) else B f) else B f
theorem sPurse_le (z : Int) : sPurse z ≤ 9999 := by
  unfold sPurse
  split
  · omega
  · split <;> omega
theorem sDay_ok {B : Nat → Nat} {cs : List (Nat × Nat × List Nat)} {g t day : Nat} (ok : al_ok B) : al_ok (sDay B cs g t day) := by
  obtain ⟨o1, o2, o3, o4, o5, o6, o7, o8, o9, o10, o11, o12⟩ := ok
  have := sPurse_le (sLeft B cs g t day)
  unfold al_ok sDay
  by_cases h : B 9 = 0
  · simp only [if_pos h]
    refine ⟨o1, o2, o3, o4, o5, o6, o7, o8, o9, this, ?_, fun j hj => ?_⟩
    · show (if sLeft B cs g t day < 0 then 1 else 0) ≤ 1
      split <;> decide
    · rw [if_neg (by omega), if_neg (by omega)]
      exact o12 j hj
  · simp only [if_neg h]
    exact ⟨o1, o2, o3, o4, o5, o6, o7, o8, o9, o10, o11, o12⟩
theorem sp_day (L : av_W) (d : Nat) {p pb : Nat} {N : av_N} {B : Nat → Nat} {day : Nat} {g t : Nat} {cs : List (Nat × Nat × List Nat)} (he : al_ep p) (hs : al_es N p (sFl cs) g t) (hp : al_bp pb) (hb : al_bd N pb B) (ok : al_ok B) (hd : day < 2 ^ 20) (hc : ∀ c ∈ cs, sCl c) (hl : cs.length ≤ 10) : ∃ N', av_C (av_S0 L) (d + 4) 12 [.ref pb, .ref p, .int (nI day)] N = some (none, N') ∧ al_bd N' pb (sDay B cs g t day) ∧ al_fr (fun q => q = pb) N N' := by
  refine ⟨_, sp_liveADay L d he hs hp hb ok hd hc hl, ?_, ?_⟩
  · by_cases h : B 9 = 0
    · rw [if_pos h]
      refine ⟨fun f f1 f9 => ?_, fun j hj => ?_⟩
      · unfold sDay
        rw [if_pos h]
        by_cases f8 : f = 8
        · subst f8
          rw [av_w_s, if_pos rfl]
        · rw [av_w_k _ _ _ _ f8, if_neg f8]
          by_cases f9 : f = 9
          · subst f9
            rw [av_w_s, if_pos rfl]
            split <;> rfl
          · rw [av_w_k _ _ _ _ f9, if_neg f9]
            exact hb.1 f f1 (by omega)
      · rw [av_w_o _ _ _ _ _ (by omega), av_w_o _ _ _ _ _ (by omega)]
        unfold sDay
        rw [if_pos h, if_neg (by omega), if_neg (by omega)]
        exact hb.2 j hj
    · rw [if_neg h]
      have e : sDay B cs g t day = B := funext fun f => if_neg h
      rw [e]
      exact hb
  · by_cases h : B 9 = 0
    · rw [if_pos h]
      exact al_fr_tr (al_fr_w (D := fun q => q = pb) N (p := pb) rfl _ _) (al_fr_w (D := fun q => q = pb) _ (p := pb) rfl _ _)
    · rw [if_neg h]
      exact al_fr_rf _ _
def sLive (B : Nat → Nat) (cs : List (Nat × Nat × List Nat)) (g t day : Nat) : Nat → Nat → Nat
  | 0 => B
  | n + 1 => sDay (sLive B cs g t day n) cs g t (day + n)
theorem sLive_ok {B : Nat → Nat} {cs : List (Nat × Nat × List Nat)} {g t day : Nat} (ok : al_ok B) : ∀ n, al_ok (sLive B cs g t day n)
  | 0 => ok
  | n + 1 => sDay_ok (sLive_ok ok n)
theorem sp_live (L : av_W) (d : Nat) {p pb : Nat} {N : av_N} {B : Nat → Nat} {day n : Nat} {g t : Nat} {cs : List (Nat × Nat × List Nat)} (he : al_ep p) (hs : al_es N p (sFl cs) g t) (hp : al_bp pb) (hb : al_bd N pb B) (ok : al_ok B) (hd : day + n < 2 ^ 20) (hc : ∀ c ∈ cs, sCl c) (hl : cs.length ≤ 10) : ∃ N', av_C (av_S0 L) (d + 5) 11 [.ref pb, .ref p, .int (nI day), .int (nI n)] N = some (none, N') ∧ al_bd N' pb (sLive B cs g t day n) ∧ al_fr (fun q => q = pb) N N' := by
  obtain ⟨s1, s2, s3, s4⟩ := al_bpE hp L
  obtain ⟨e1, e2, e3⟩ := al_bp_ep hp he
  have key : ∀ (m k : Nat) (M : av_N), k + m = n → al_bd M pb (sLive B cs g t day k) → al_fr (fun q => q = pb) N M → ∃ N', av_V (av_S0 L) (d + 5) ta_X0_live 2 [.ref pb, .ref p, .int (nI day), .int (nI n), .int (nI k)] [] M = some (none, N') ∧ al_bd N' pb (sLive B cs g t day n) ∧ al_fr (fun q => q = pb) N N' := by
    intro m
    induction m with
    | zero =>
      intro k M hk hM hf
      have : k = n := by omega
      subst this
      refine ⟨M, ?_, hM, hf⟩
      apply eq_X0_live_2 (d := d + 4)
      rw [if_neg (nI_nlt (Nat.le_refl _) (by omega))]
    | succ m ih =>
      intro k M hk hM hf
      have hs' := al_es_fr hs hf (fun z => e1 z.symm) (fun z => e3 z.symm)
      obtain ⟨N1, c1, c2, c3⟩ := sp_day L d he hs' hp hM (sLive_ok ok k) (show day + k < 2 ^ 20 by omega) hc hl
      obtain ⟨N', c4, c5, c6⟩ := ih (k + 1) N1 (by omega) c2 (al_fr_tr hf c3)
      refine ⟨N', ?_, c5, c6⟩
      apply eq_X0_live_2 (d := d + 4)
      rw [if_pos (nI_lt (by omega) (by omega)), s1, av_tg_s, nI_add, c1, av_bv_s, av_kO, nI_add]
      exact c4
  obtain ⟨N', c4, c5, c6⟩ := key n 0 N (by omega) hb (al_fr_rf _ _)
  refine ⟨N', ?_, c5, c6⟩
  apply eq_X0_live (d := d + 4)
  rw [av_kO]
  exact c4
