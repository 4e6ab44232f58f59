/-! all of the state: groups of it, what each rests on, and the relation of both -/
def sHd (e : Nat) : Int32 := if e = 0 then av_k (-1) else nI (e - 1)
def sTxt (T : Nat → List (Nat × Nat × List Nat)) (e : Nat) : List (Nat × Nat × List Nat) := if e = 0 then [] else T (e - 1)
/-- birds, day, which text holds -/
def gB (N : av_N) (n day : Nat) (B : Nat → Nat → Nat) (e : Nat) : Prop := al_sn N 10 27 n day B ∧ N.1 10 3 = nI e ∧ al_md N n day B ∧ N.1 142 2 = nI (sGone B n) ∧ N.1 142 12 = sHd e ∧ day ≤ 9999
/-- a text of the reference -/
def al_mt (N : av_N) (i : Nat) (cs : List (Nat × Nat × List Nat)) : Prop := cs.length ≤ 10 ∧ ∀ c, c < cs.length → N.1 153 (10 * i + c) = nI (cs.getD c (0, 0, [])).1 ∧ N.1 154 (10 * i + c) = nI (cs.getD c (0, 0, [])).2.1 ∧ ((cs.getD c (0, 0, [])).1 ≤ 1 → ∃ a, N.1 155 (10 * i + c) = nI a ∧ N.1 156 (10 * i + c) = nI (a + (cs.getD c (0, 0, [])).2.2.length) ∧ a + (cs.getD c (0, 0, [])).2.2.length ≤ 100 * i + 100 ∧ ∀ j, j < (cs.getD c (0, 0, [])).2.2.length → N.1 157 (a + j) = sSgn ((cs.getD c (0, 0, [])).2.2.getD j 0))
def gE (N : av_N) (k : Nat) (T : Nat → List (Nat × Nat × List Nat)) : Prop := k ≤ 6 ∧ N.1 9 5 = nI k ∧ N.1 142 11 = nI k ∧ al_es N 116 [] 0 10 ∧ ∀ i, i < k → al_es N (118 + 2 * i) (sFl (T i)) (sGain (T i)) (sTop (T i)) ∧ N.1 152 i = nI (T i).length ∧ al_mt N i (T i) ∧ ∀ c ∈ T i, sCl c
def gF (N : av_N) : Prop := ∃ (f : Nat) (F : Nat → Nat), f ≤ 100 ∧ N.1 72 1 = nI f ∧ N.1 142 13 = nI f ∧ ∀ j, j < f → N.1 73 j = nI (F j) ∧ N.1 151 j = nI (F j) ∧ F j < 128
def gSx (N : av_N) : Prop := ∃ s S, gS N 12 36 166 169 s S
def gLx (N : av_N) (n : Nat) : Prop := ∃ s X, gL N 17 41 170 n s X
def gKx (N : av_N) (n : Nat) : Prop := ∃ s X, gK N 22 42 173 n s X
def gTx (N : av_N) : Prop := ∃ st ln it, gT N st ln it
def gX (N : av_N) : Prop := ∃ (r : Nat) (tr : Nat → Nat), r ≤ 1000 ∧ N.1 9 8 = nI r ∧ N.1 142 75 = nI r ∧ ∀ j, j < r → j < 20 → N.1 76 j = nI (tr j) ∧ N.1 194 j = nI (tr j)
def al_mdI (N : av_N) (n day : Nat) (B : Nat → Nat → Nat) : Prop := N.1 142 52 = nI n ∧ N.1 142 53 = nI day ∧ ∀ b, b < n → N.1 177 b = nI (B b 2) ∧ N.1 178 b = nI (B b 3) ∧ N.1 179 b = nI (B b 4) ∧ N.1 180 b = nI (B b 5) ∧ N.1 181 b = nI (B b 6) ∧ N.1 182 b = nI (B b 7) ∧ N.1 183 b = nI (B b 8) ∧ ∀ j, j < 4 → N.1 184 (4 * b + j) = nI (B b (10 + j))
def gIm (N : av_N) (k : Nat) : Prop := N.1 9 2 = nI 1 ∧ N.1 142 50 = nI 1 ∧ ∃ n day B e, e ≤ k ∧ day ≤ 9999 ∧ al_sn N 41 58 n day B ∧ N.1 41 3 = nI e ∧ al_mdI N n day B ∧ N.1 142 54 = nI (sGone B n) ∧ N.1 142 51 = sHd e ∧ (∃ s S, gS N 43 55 185 193 s S) ∧ (∃ s X, gL N 48 56 188 n s X) ∧ ∃ s X, gK N 53 57 191 n s X
def gI (N : av_N) (k : Nat) : Prop := (N.1 9 2 = nI 0 ∧ N.1 142 50 = nI 0) ∨ gIm N k
def sLetr : List Nat := [100, 101, 97, 114, 99, 104, 101, 97, 112, 103, 97, 105, 110, 116, 111, 112]
def gO (N : av_N) : Prop := (∀ p, p < 8 → ∀ k, N.1 p k = (am_roL p).getD k 0) ∧ ∀ k, k < 16 → N.1 159 k = nI (sLetr.getD k 0)
/-- both stand alike -/
def RA (N : av_N) (n day : Nat) (B : Nat → Nat → Nat) (e k : Nat) (T : Nat → List (Nat × Nat × List Nat)) : Prop := gB N n day B e ∧ gE N k T ∧ e ≤ k ∧ gI N k ∧ gF N ∧ gSx N ∧ gLx N n ∧ gKx N n ∧ gTx N ∧ gX N ∧ gO N
def RR (N : av_N) : Prop := ∃ n day B e k T, RA N n day B e k T
def uB (q k : Nat) : Prop := (q = 10 ∧ 1 ≤ k ∧ k ≤ 3) ∨ (27 ≤ q ∧ q ≤ 40) ∨ (q = 142 ∧ (k ≤ 2 ∨ k = 12)) ∨ (143 ≤ q ∧ q ≤ 150)
def uE (q k : Nat) : Prop := (q = 9 ∧ k = 5) ∨ (q = 142 ∧ k = 11) ∨ (116 ≤ q ∧ q ≤ 129) ∨ (152 ≤ q ∧ q ≤ 157)
def uI (q k : Nat) : Prop := (q = 9 ∧ k = 2) ∨ (41 ≤ q ∧ q ≤ 71) ∨ (q = 142 ∧ 50 ≤ k ∧ k ≤ 57) ∨ (177 ≤ q ∧ q ≤ 193)
def uF (q k : Nat) : Prop := (q = 72 ∧ k = 1) ∨ q = 73 ∨ (q = 142 ∧ k = 13) ∨ q = 151
def uS (q k : Nat) : Prop := (12 ≤ q ∧ q ≤ 16) ∨ (q = 142 ∧ k = 36) ∨ (166 ≤ q ∧ q ≤ 169)
def uL (q k : Nat) : Prop := (17 ≤ q ∧ q ≤ 21) ∨ (q = 142 ∧ k = 41) ∨ (170 ≤ q ∧ q ≤ 172)
def uK (q k : Nat) : Prop := (22 ≤ q ∧ q ≤ 26) ∨ (q = 142 ∧ k = 42) ∨ q = 173 ∨ q = 174
def uT (q _ : Nat) : Prop := (130 ≤ q ∧ q ≤ 141) ∨ (195 ≤ q ∧ q ≤ 197)
def uX (q k : Nat) : Prop := (q = 9 ∧ k = 8) ∨ q = 76 ∨ (q = 142 ∧ k = 75) ∨ q = 194
def uO (q _ : Nat) : Prop := q < 8 ∨ q = 159
def eqOn (U : Nat → Nat → Prop) (N N' : av_N) : Prop := ∀ q k, U q k → N'.1 q k = N.1 q k ∧ N'.2 q k = N.2 q k
theorem eqOn_of {U D : Nat → Nat → Prop} {N N' : av_N} (hf : al_f2 D N N') (h : ∀ q k, U q k → ¬ D q k) : eqOn U N N' := fun q k hu => hf q k (h q k hu)
theorem eqOn_1 {U : Nat → Nat → Prop} {N N' : av_N} (h : eqOn U N N') {q k : Nat} (hu : U q k) : N'.1 q k = N.1 q k := (h q k hu).1
theorem al_bd_on {N N' : av_N} {p : Nat} {B : Nat → Nat} (h : al_bd N p B) (h1 : ∀ k, N'.1 p k = N.1 p k) (h2 : ∀ k, N'.1 (p + 1) k = N.1 (p + 1) k) : al_bd N' p B := ⟨fun f a b => (h1 f).trans (h.1 f a b), fun j hj => (h2 j).trans (h.2 j hj)⟩
theorem al_sn_on {N N' : av_N} {P pb n day : Nat} {B : Nat → Nat → Nat} (h : al_sn N P pb n day B) (h1 : N'.1 P 1 = N.1 P 1) (h2 : N'.1 P 2 = N.1 P 2) (h3 : ∀ q k, pb ≤ q → q < pb + 14 → N'.1 q k = N.1 q k) : al_sn N' P pb n day B := by
  obtain ⟨a1, a2, a3, a4, a5⟩ := h
  refine ⟨a1, h1.trans a2, h2.trans a3, fun b hb => ?_, a5⟩
  obtain ⟨k1, k2⟩ := a4 b hb
  exact ⟨al_bd_on k1 (fun k => h3 _ k (by omega) (by omega)) (fun k => h3 _ k (by omega) (by omega)), k2⟩
theorem al_es_on {N N' : av_N} {p : Nat} {F : List Nat} {g t : Nat} (h : al_es N p F g t) (h1 : ∀ k, N'.1 p k = N.1 p k) (h2 : ∀ k, N'.1 (p + 1) k = N.1 (p + 1) k) : al_es N' p F g t := by
  obtain ⟨a1, a2, a3, a4, a5, a6, a7, a8⟩ := h
  exact ⟨a1, (h1 _).trans a2, (h1 _).trans a3, (h1 _).trans a4, a5, a6, a7, fun i hi => (h2 _).trans (a8 i hi)⟩
theorem gB_on {N N' : av_N} {n day e : Nat} {B : Nat → Nat → Nat} (h : gB N n day B e) (ho : eqOn uB N N') : gB N' n day B e := by
  obtain ⟨h1, h2, ⟨m1, m2, m3⟩, h4, h5, h6⟩ := h
  have o : ∀ q k, uB q k → N'.1 q k = N.1 q k := fun q k hu => (ho q k hu).1
  unfold uB at o
  refine ⟨al_sn_on h1 (o _ _ (by omega)) (o _ _ (by omega)) (fun q k a b => o _ _ (by omega)), (o _ _ (by omega)).trans h2, ⟨(o _ _ (by omega)).trans m1, (o _ _ (by omega)).trans m2, fun b hb => ?_⟩, (o _ _ (by omega)).trans h4, (o _ _ (by omega)).trans h5, h6⟩
  obtain ⟨x1, x2, x3, x4, x5, x6, x7, x8⟩ := m3 b hb
  exact ⟨(o _ _ (by omega)).trans x1, (o _ _ (by omega)).trans x2, (o _ _ (by omega)).trans x3, (o _ _ (by omega)).trans x4, (o _ _ (by omega)).trans x5, (o _ _ (by omega)).trans x6, (o _ _ (by omega)).trans x7, fun j hj => (o _ _ (by omega)).trans (x8 j hj)⟩
theorem al_mt_on {N N' : av_N} {i : Nat} {cs : List (Nat × Nat × List Nat)} (h : al_mt N i cs) (h1 : ∀ q c, 153 ≤ q → q ≤ 156 → c < 10 * i + 10 → N'.1 q c = N.1 q c) (h2 : ∀ c, c < 100 * i + 100 → N'.1 157 c = N.1 157 c) : al_mt N' i cs := by
  obtain ⟨a1, a2⟩ := h
  refine ⟨a1, fun c hc => ?_⟩
  obtain ⟨b1, b2, b3⟩ := a2 c hc
  refine ⟨(h1 _ _ (by omega) (by omega) (by omega)).trans b1, (h1 _ _ (by omega) (by omega) (by omega)).trans b2, fun hw => ?_⟩
  obtain ⟨a, c1, c2, c3, c4⟩ := b3 hw
  exact ⟨a, (h1 _ _ (by omega) (by omega) (by omega)).trans c1, (h1 _ _ (by omega) (by omega) (by omega)).trans c2, c3, fun j hj => (h2 _ (by omega)).trans (c4 j hj)⟩
theorem gE_on {N N' : av_N} {k : Nat} {T : Nat → List (Nat × Nat × List Nat)} (h : gE N k T) (ho : eqOn uE N N') : gE N' k T := by
  obtain ⟨h1, h2, h3, h4, h5⟩ := h
  have o : ∀ q k, uE q k → N'.1 q k = N.1 q k := fun q k hu => (ho q k hu).1
  unfold uE at o
  refine ⟨h1, (o _ _ (by omega)).trans h2, (o _ _ (by omega)).trans h3, al_es_on h4 (fun k => o _ _ (by omega)) (fun k => o _ _ (by omega)), fun i hi => ?_⟩
  obtain ⟨a1, a2, a3, a4⟩ := h5 i hi
  exact ⟨al_es_on a1 (fun k => o _ _ (by omega)) (fun k => o _ _ (by omega)), (o _ _ (by omega)).trans a2, al_mt_on a3 (fun q c x y _ => o _ _ (by omega)) (fun c _ => o _ _ (by omega)), a4⟩
theorem gF_on {N N' : av_N} (h : gF N) (ho : eqOn uF N N') : gF N' := by
  obtain ⟨f, F, h1, h2, h3, h4⟩ := h
  have o : ∀ q k, uF q k → N'.1 q k = N.1 q k := fun q k hu => (ho q k hu).1
  unfold uF at o
  exact ⟨f, F, h1, (o _ _ (by omega)).trans h2, (o _ _ (by omega)).trans h3, fun j hj => ⟨(o _ _ (by omega)).trans (h4 j hj).1, (o _ _ (by omega)).trans (h4 j hj).2.1, (h4 j hj).2.2⟩⟩
theorem al_rows_on {N N' : av_N} {P s w : Nat} {X : Nat → Nat → Nat} (h : al_rows N P s w X) (h1 : ∀ q k, P ≤ q → q ≤ P + w → N'.1 q k = N.1 q k) : al_rows N' P s w X := ⟨(h1 _ _ (Nat.le_refl _) (by omega)).trans h.1, fun r hr j hj => (h1 _ _ (by omega) (by omega)).trans (h.2 r hr j hj)⟩
theorem gS_on {N N' : av_N} {P fs p ph s : Nat} {S : Nat → Nat → Nat} (h : gS N P fs p ph s S) (h1 : ∀ q k, P ≤ q → q ≤ P + 4 → N'.1 q k = N.1 q k) (h2 : N'.1 142 fs = N.1 142 fs) (h3 : ∀ q k, (p ≤ q ∧ q ≤ p + 2) ∨ q = ph → N'.1 q k = N.1 q k) : gS N' P fs p ph s S := by
  obtain ⟨a1, a2, a3, a4, a5⟩ := h
  exact ⟨a1, al_rows_on a2 h1, h2.trans a3, fun r hr => ⟨(h3 _ _ (by omega)).trans (a4 r hr).1, (h3 _ _ (by omega)).trans (a4 r hr).2.1, (h3 _ _ (by omega)).trans (a4 r hr).2.2.1, (h3 _ _ (by omega)).trans (a4 r hr).2.2.2⟩, a5⟩
theorem gL_on {N N' : av_N} {P fs p n s : Nat} {X : Nat → Nat → Nat} (h : gL N P fs p n s X) (h1 : ∀ q k, P ≤ q → q ≤ P + 4 → N'.1 q k = N.1 q k) (h2 : N'.1 142 fs = N.1 142 fs) (h3 : ∀ q k, p ≤ q → q ≤ p + 2 → N'.1 q k = N.1 q k) : gL N' P fs p n s X := by
  obtain ⟨a1, a2, a3, a4, a5⟩ := h
  exact ⟨a1, al_rows_on a2 (fun q k a b => h1 q k a (by omega)), h2.trans a3, fun r hr => ⟨(h3 _ _ (by omega) (by omega)).trans (a4 r hr).1, (h3 _ _ (by omega) (by omega)).trans (a4 r hr).2.1, (h3 _ _ (by omega) (by omega)).trans (a4 r hr).2.2⟩, a5⟩
theorem gK_on {N N' : av_N} {P fs p n s : Nat} {X : Nat → Nat → Nat} (h : gK N P fs p n s X) (h1 : ∀ q k, P ≤ q → q ≤ P + 4 → N'.1 q k = N.1 q k) (h2 : N'.1 142 fs = N.1 142 fs) (h3 : ∀ q k, p ≤ q → q ≤ p + 1 → N'.1 q k = N.1 q k) : gK N' P fs p n s X := by
  obtain ⟨a1, a2, a3, a4, a5⟩ := h
  exact ⟨a1, al_rows_on a2 (fun q k a b => h1 q k a (by omega)), h2.trans a3, fun r hr => ⟨(h3 _ _ (by omega) (by omega)).trans (a4 r hr).1, (h3 _ _ (by omega) (by omega)).trans (a4 r hr).2⟩, a5⟩
theorem gSx_on {N N' : av_N} (h : gSx N) (ho : eqOn uS N N') : gSx N' := by
  obtain ⟨s, S, h⟩ := h
  have o : ∀ q k, uS q k → N'.1 q k = N.1 q k := fun q k hu => (ho q k hu).1
  unfold uS at o
  exact ⟨s, S, gS_on h (fun q k a b => o _ _ (by omega)) (o _ _ (by omega)) (fun q k a => o _ _ (by omega))⟩
theorem gLx_on {N N' : av_N} {n : Nat} (h : gLx N n) (ho : eqOn uL N N') : gLx N' n := by
  obtain ⟨s, S, h⟩ := h
  have o : ∀ q k, uL q k → N'.1 q k = N.1 q k := fun q k hu => (ho q k hu).1
  unfold uL at o
  exact ⟨s, S, gL_on h (fun q k a b => o _ _ (by omega)) (o _ _ (by omega)) (fun q k a b => o _ _ (by omega))⟩
theorem gKx_on {N N' : av_N} {n : Nat} (h : gKx N n) (ho : eqOn uK N N') : gKx N' n := by
  obtain ⟨s, S, h⟩ := h
  have o : ∀ q k, uK q k → N'.1 q k = N.1 q k := fun q k hu => (ho q k hu).1
  unfold uK at o
  exact ⟨s, S, gK_on h (fun q k a b => o _ _ (by omega)) (o _ _ (by omega)) (fun q k a b => o _ _ (by omega))⟩
theorem gTx_on {N N' : av_N} (h : gTx N) (ho : eqOn uT N N') : gTx N' := by
  obtain ⟨st, ln, it, h⟩ := h
  refine ⟨st, ln, it, fun t ht => ?_⟩
  obtain ⟨a1, a2, a3, a4, a5, a6, a7, a8⟩ := h t ht
  have o : ∀ q k, uT q k → N'.1 q k = N.1 q k := fun q k hu => (ho q k hu).1
  have o2 : ∀ q k, uT q k → N'.2 q k = N.2 q k := fun q k hu => (ho q k hu).2
  unfold uT at o o2
  exact ⟨a1, a2, a3, (o _ _ (by omega)).trans a4, (o _ _ (by omega)).trans a5, (o _ _ (by omega)).trans a6, (o _ _ (by omega)).trans a7, fun j hj => ⟨(o2 _ _ (by omega)).trans (a8 j hj).1, (o2 _ _ (by omega)).trans (a8 j hj).2⟩⟩
theorem gX_on {N N' : av_N} (h : gX N) (ho : eqOn uX N N') : gX N' := by
  obtain ⟨r, tr, h1, h2, h3, h4⟩ := h
  have o : ∀ q k, uX q k → N'.1 q k = N.1 q k := fun q k hu => (ho q k hu).1
  unfold uX at o
  exact ⟨r, tr, h1, (o _ _ (by omega)).trans h2, (o _ _ (by omega)).trans h3, fun j a b => ⟨(o _ _ (by omega)).trans (h4 j a b).1, (o _ _ (by omega)).trans (h4 j a b).2⟩⟩
theorem gO_on {N N' : av_N} (h : gO N) (ho : eqOn uO N N') : gO N' := by
  have o : ∀ q k, uO q k → N'.1 q k = N.1 q k := fun q k hu => (ho q k hu).1
  unfold uO at o
  exact ⟨fun p hp k => (o _ _ (by omega)).trans (h.1 p hp k), fun k hk => (o _ _ (by omega)).trans (h.2 k hk)⟩
theorem gI_on {N N' : av_N} {k : Nat} (h : gI N k) (ho : eqOn uI N N') : gI N' k := by
  have o : ∀ q k, uI q k → N'.1 q k = N.1 q k := fun q k hu => (ho q k hu).1
  unfold uI at o
  rcases h with ⟨h1, h2⟩ | ⟨h1, h2, n, day, B, e, h3, h4, h5, h6, ⟨m1, m2, m3⟩, h8, h9, ⟨s, S, h10⟩, ⟨s2, X, h11⟩, s3, Y, h12⟩
  · exact Or.inl ⟨(o _ _ (by omega)).trans h1, (o _ _ (by omega)).trans h2⟩
  · refine Or.inr ⟨(o _ _ (by omega)).trans h1, (o _ _ (by omega)).trans h2, n, day, B, e, h3, h4, al_sn_on h5 (o _ _ (by omega)) (o _ _ (by omega)) (fun q k a b => o _ _ (by omega)), (o _ _ (by omega)).trans h6, ⟨(o _ _ (by omega)).trans m1, (o _ _ (by omega)).trans m2, fun b hb => ?_⟩, (o _ _ (by omega)).trans h8, (o _ _ (by omega)).trans h9, ⟨s, S, gS_on h10 (fun q k a b => o _ _ (by omega)) (o _ _ (by omega)) (fun q k a => o _ _ (by omega))⟩, ⟨s2, X, gL_on h11 (fun q k a b => o _ _ (by omega)) (o _ _ (by omega)) (fun q k a b => o _ _ (by omega))⟩, s3, Y, gK_on h12 (fun q k a b => o _ _ (by omega)) (o _ _ (by omega)) (fun q k a b => o _ _ (by omega))⟩
    obtain ⟨x1, x2, x3, x4, x5, x6, x7, x8⟩ := m3 b hb
    exact ⟨(o _ _ (by omega)).trans x1, (o _ _ (by omega)).trans x2, (o _ _ (by omega)).trans x3, (o _ _ (by omega)).trans x4, (o _ _ (by omega)).trans x5, (o _ _ (by omega)).trans x6, (o _ _ (by omega)).trans x7, fun j hj => (o _ _ (by omega)).trans (x8 j hj)⟩
theorem gI_le {N : av_N} {k k' : Nat} (h : gI N k) (hk : k ≤ k') : gI N k' := by
  rcases h with h | ⟨h1, h2, n, day, B, e, h3, h4⟩
  · exact Or.inl h
  · exact Or.inr ⟨h1, h2, n, day, B, e, Nat.le_trans h3 hk, h4⟩
theorem gLx_le {N : av_N} {n n' : Nat} (h : gLx N n) (hn : n ≤ n') : gLx N n' := by
  obtain ⟨s, X, h1, h2, h3, h4, h5⟩ := h
  exact ⟨s, X, h1, h2, h3, h4, fun r hr => ⟨Nat.lt_of_lt_of_le (h5 r hr).1 hn, (h5 r hr).2⟩⟩
theorem gKx_le {N : av_N} {n n' : Nat} (h : gKx N n) (hn : n ≤ n') : gKx N n' := by
  obtain ⟨s, X, h1, h2, h3, h4, h5⟩ := h
  exact ⟨s, X, h1, h2, h3, h4, fun r hr => ⟨Nat.lt_of_lt_of_le (h5 r hr).1 hn, (h5 r hr).2⟩⟩
theorem sTxt_cl {N : av_N} {e k : Nat} {T : Nat → List (Nat × Nat × List Nat)} (h : gE N k T) (he : e ≤ k) : (∀ c ∈ sTxt T e, sCl c) ∧ (sTxt T e).length ≤ 10 := by
  unfold sTxt
  split
  · exact ⟨fun c hc => absurd hc List.not_mem_nil, by decide⟩
  · exact ⟨(h.2.2.2.2 (e - 1) (by omega)).2.2.2, (h.2.2.2.2 (e - 1) (by omega)).2.2.1.1⟩
theorem al_ce_of {N : av_N} {n day e k : Nat} {B : Nat → Nat → Nat} {T : Nat → List (Nat × Nat × List Nat)} (hb : gB N n day B e) (h : gE N k T) (he : e ≤ k) : al_ce N e (sTxt T e) := by
  have hk := h.1
  refine ⟨by omega, hb.2.1, ?_, (sTxt_cl h he).1, (sTxt_cl h he).2⟩
  by_cases e0 : e = 0
  · subst e0
    exact h.2.2.2.1
  · have := (h.2.2.2.2 (e - 1) (by omega)).1
    unfold sTxt
    rw [if_neg e0, show 116 + 2 * e = 118 + 2 * (e - 1) by omega]
    exact this
theorem RA_cv {N : av_N} {n day e k : Nat} {B : Nat → Nat → Nat} {T : Nat → List (Nat × Nat × List Nat)} (hb : gB N n day B e) (h : gE N k T) (he : e ≤ k) : al_cv N n day B (sTxt T e) := ⟨hb.1, e, al_ce_of hb h he⟩
theorem RA_mv {N : av_N} {n day e k : Nat} {B : Nat → Nat → Nat} {T : Nat → List (Nat × Nat × List Nat)} (hb : gB N n day B e) (h : gE N k T) (he : e ≤ k) : al_mv N n day B (sTxt T e) := by
  obtain ⟨hs, h2, hm, hg, hd, h9⟩ := hb
  refine ⟨hs.1, hm, hg, ?_, fun b hb => (hs.2.2.2.1 b hb).2, hs.2.2.2.2⟩
  have hk := h.1
  by_cases e0 : e = 0
  · subst e0
    exact ⟨0, Or.inl ⟨hd, rfl, rfl⟩, ⟨Nat.zero_le 10, fun c hc => absurd hc (Nat.not_lt_zero _)⟩, fun c hc => absurd hc List.not_mem_nil⟩
  · obtain ⟨a1, a2, ⟨b1, b2⟩, a4⟩ := h.2.2.2.2 (e - 1) (by omega)
    have et : sTxt T e = T (e - 1) := if_neg e0
    rw [et]
    refine ⟨10 * (e - 1), Or.inr ⟨e - 1, by omega, ?_, rfl, a2⟩, ⟨b1, fun c hc => ?_⟩, a4⟩
    · rw [hd]
      exact if_neg e0
    · obtain ⟨c1, c2, c3⟩ := b2 c hc
      refine ⟨c1, c2, fun hw => ?_⟩
      obtain ⟨a, d1, d2, d3, d4⟩ := c3 hw
      exact ⟨a, d1, d2, by omega, d4⟩
/-- a call done by both: the same answer, and both stand alike -/
def al_call (L : av_W) (d : Nat) (N : av_N) (mc : Nat) (ac : List Value) (mm : Nat) (am : List Value) : Prop := ∃ v N1 N2, av_C (av_S0 L) d mc ac N = some (some v, N1) ∧ av_C (av_S0 L) d mm am N1 = some (some v, N2) ∧ RR N2 ∧ ∀ j, N1.1 8 j = N.1 8 j
theorem call_of {L : av_W} {d : Nat} {N : av_N} {n day e k : Nat} {B : Nat → Nat → Nat} {T : Nat → List (Nat × Nat × List Nat)} {mc mm : Nat} {ac am : List Value} (hR : RA N n day B e k T) (h : al_ask L d N n day B (sTxt T e) mc ac mm am) : al_call L d N mc ac mm am := by
  obtain ⟨v, N1, N2, c1, f1, c2, hm, f2⟩ := h
  have F : al_f2 (fun q k => al_dC q ∨ al_qM q k) N N2 := al_f2_tr (al_f2_of f1 (fun q k z => Or.inl z)) (al_f2_mono f2 (fun q k z => Or.inr z))
  obtain ⟨hB, hE, he, hI, hF, hS, hL, hK, hT, hX, hO⟩ := hR
  have o : ∀ q k, ¬ (al_dC q ∨ al_qM q k) → N2.1 q k = N.1 q k := fun q k h => (F q k h).1
  unfold al_dC al_qM at o
  refine ⟨v, N1, N2, c1, c2, ⟨n, day, B, e, k, T, ⟨al_sn_on hB.1 (o _ _ (by omega)) (o _ _ (by omega)) (fun q k a b => o _ _ (by omega)), (o _ _ (by omega)).trans hB.2.1, hm.2.1, hm.2.2.1, (o _ _ (by omega)).trans hB.2.2.2.2.1, hB.2.2.2.2.2⟩, gE_on hE (eqOn_of F ?_), he, gI_on hI (eqOn_of F ?_), gF_on hF (eqOn_of F ?_), gSx_on hS (eqOn_of F ?_), gLx_on hL (eqOn_of F ?_), gKx_on hK (eqOn_of F ?_), gTx_on hT (eqOn_of F ?_), gX_on hX (eqOn_of F ?_), gO_on hO (eqOn_of F ?_)⟩, fun j => (f1 8 (by unfold al_dC; omega) j).1⟩
  · intro q k h
    unfold uE at h
    unfold al_dC al_qM
    omega
  · intro q k h
    unfold uI at h
    unfold al_dC al_qM
    omega
  · intro q k h
    unfold uF at h
    unfold al_dC al_qM
    omega
  · intro q k h
    unfold uS at h
    unfold al_dC al_qM
    omega
  · intro q k h
    unfold uL at h
    unfold al_dC al_qM
    omega
  · intro q k h
    unfold uK at h
    unfold al_dC al_qM
    omega
  · intro q k h
    unfold uT at h
    unfold al_dC al_qM
    omega
  · intro q k h
    unfold uX at h
    unfold al_dC al_qM
    omega
  · intro q k h
    unfold uO at h
    unfold al_dC al_qM
    omega
theorem cl_of (L : av_W) (d : Nat) {N : av_N} (hR : RR N) (x w : Int32) : al_call L (d + 20) N 48 [.ref 9, .int x, .int w] 155 [.ref 142, .int x, .int w] := by
  obtain ⟨n, day, B, e, k, T, h⟩ := hR
  have h0 := h
  obtain ⟨hB, hE, he, hI, hF, hS, hL, hK, hT, hX, hO⟩ := h0
  exact call_of h (ca_of L d (RA_cv hB hE he) (RA_mv hB hE he) x w)
theorem cl_told (L : av_W) (d : Nat) {N : av_N} (hR : RR N) (w : Int32) : al_call L (d + 20) N 54 [.ref 9, .int w] 161 [.ref 142, .int w] := by
  obtain ⟨n, day, B, e, k, T, h⟩ := hR
  have h0 := h
  obtain ⟨hB, hE, he, hI, hF, hS, hL, hK, hT, hX, hO⟩ := h0
  exact call_of h (ca_told L d (RA_cv hB hE he) (RA_mv hB hE he) w)
theorem cl_held (L : av_W) (d : Nat) {N : av_N} (hR : RR N) (x y : Int32) : al_call L (d + 20) N 55 [.ref 9, .int x, .int y] 163 [.ref 142, .int x, .int y] := by
  obtain ⟨n, day, B, e, k, T, h⟩ := hR
  have h0 := h
  obtain ⟨hB, hE, he, hI, hF, hS, hL, hK, hT, hX, hO⟩ := h0
  exact call_of h (ca_held L d (RA_cv hB hE he) (RA_mv hB hE he) x y)
theorem cl_free (L : av_W) (d : Nat) {N : av_N} (hR : RR N) (y : Int32) : al_call L (d + 20) N 56 [.ref 9, .int y] 164 [.ref 142, .int y] := by
  obtain ⟨n, day, B, e, k, T, h⟩ := hR
  have h0 := h
  obtain ⟨hB, hE, he, hI, hF, hS, hL, hK, hT, hX, hO⟩ := h0
  exact call_of h (ca_free L d (RA_cv hB hE he) (RA_mv hB hE he) y)
theorem cl_clash (L : av_W) (d : Nat) {N : av_N} (hR : RR N) (x y : Int32) : al_call L (d + 20) N 57 [.ref 9, .int x, .int y] 166 [.ref 142, .int x, .int y] := by
  obtain ⟨n, day, B, e, k, T, h⟩ := hR
  have h0 := h
  obtain ⟨hB, hE, he, hI, hF, hS, hL, hK, hT, hX, hO⟩ := h0
  exact call_of h (ca_clash L d (RA_cv hB hE he) (RA_mv hB hE he) x y)
theorem cl_worst (L : av_W) (d : Nat) {N : av_N} (hR : RR N) : al_call L (d + 20) N 58 [.ref 9] 167 [.ref 142] := by
  obtain ⟨n, day, B, e, k, T, h⟩ := hR
  have h0 := h
  obtain ⟨hB, hE, he, hI, hF, hS, hL, hK, hT, hX, hO⟩ := h0
  exact call_of h (ca_worst L d (RA_cv hB hE he) (RA_mv hB hE he) )
theorem cl_on (L : av_W) (d : Nat) {N : av_N} (hR : RR N) (x w : Int32) : al_call L (d + 20) N 60 [.ref 9, .int x, .int w] 173 [.ref 142, .int x, .int w] := by
  obtain ⟨n, day, B, e, k, T, h⟩ := hR
  have h0 := h
  obtain ⟨hB, hE, he, hI, hF, hS, hL, hK, hT, hX, hO⟩ := h0
  exact call_of h (ca_on L d (RA_cv hB hE he) (RA_mv hB hE he) hB.2.2.2.2.2 x w)
theorem cl_empty (L : av_W) (d : Nat) {N : av_N} (hR : RR N) (x : Int32) : al_call L (d + 20) N 61 [.ref 9, .int x] 174 [.ref 142, .int x] := by
  obtain ⟨n, day, B, e, k, T, h⟩ := hR
  have h0 := h
  obtain ⟨hB, hE, he, hI, hF, hS, hL, hK, hT, hX, hO⟩ := h0
  exact call_of h (ca_empty L d (RA_cv hB hE he) (RA_mv hB hE he) hB.2.2.2.2.2 x)
theorem cl_lower (L : av_W) (d : Nat) {N : av_N} (hR : RR N) (x w : Int32) : al_call L (d + 20) N 62 [.ref 9, .int x, .int w] 176 [.ref 142, .int x, .int w] := by
  obtain ⟨n, day, B, e, k, T, h⟩ := hR
  have h0 := h
  obtain ⟨hB, hE, he, hI, hF, hS, hL, hK, hT, hX, hO⟩ := h0
  exact call_of h (ca_lower L d (RA_cv hB hE he) (RA_mv hB hE he) x w)
theorem cl_sooner (L : av_W) (d : Nat) {N : av_N} (hR : RR N) (x w : Int32) : al_call L (d + 20) N 63 [.ref 9, .int x, .int w] 177 [.ref 142, .int x, .int w] := by
  obtain ⟨n, day, B, e, k, T, h⟩ := hR
  have h0 := h
  obtain ⟨hB, hE, he, hI, hF, hS, hL, hK, hT, hX, hO⟩ := h0
  exact call_of h (ca_sooner L d (RA_cv hB hE he) (RA_mv hB hE he) x w)
theorem cl_let (L : av_W) (d : Nat) {N : av_N} (hR : RR N) (w : Int32) : al_call L (d + 20) N 64 [.ref 9, .int w] 180 [.ref 142, .int w] := by
  obtain ⟨n, day, B, e, k, T, h⟩ := hR
  have h0 := h
  obtain ⟨hB, hE, he, hI, hF, hS, hL, hK, hT, hX, hO⟩ := h0
  exact call_of h (ca_let L d (RA_cv hB hE he) (RA_mv hB hE he) w)
theorem cl_whoEvict (L : av_W) (d : Nat) {N : av_N} (hR : RR N) : al_call L (d + 20) N 65 [.ref 9] 181 [.ref 142] := by
  obtain ⟨n, day, B, e, k, T, h⟩ := hR
  have h0 := h
  obtain ⟨hB, hE, he, hI, hF, hS, hL, hK, hT, hX, hO⟩ := h0
  exact call_of h (ca_whoEvict L d (RA_cv hB hE he) (RA_mv hB hE he) )
theorem cl_ways (L : av_W) (d : Nat) {N : av_N} (hR : RR N) (x : Int32) : al_call L (d + 20) N 66 [.ref 9, .int x] 183 [.ref 142, .int x] := by
  obtain ⟨n, day, B, e, k, T, h⟩ := hR
  have h0 := h
  obtain ⟨hB, hE, he, hI, hF, hS, hL, hK, hT, hX, hO⟩ := h0
  exact call_of h (ca_ways L d (RA_cv hB hE he) (RA_mv hB hE he) x)
theorem cl_outs (L : av_W) (d : Nat) {N : av_N} (hR : RR N) (x : Int32) : al_call L (d + 20) N 67 [.ref 9, .int x] 184 [.ref 142, .int x] := by
  obtain ⟨n, day, B, e, k, T, h⟩ := hR
  have h0 := h
  obtain ⟨hB, hE, he, hI, hF, hS, hL, hK, hT, hX, hO⟩ := h0
  exact call_of h (ca_outs L d (RA_cv hB hE he) (RA_mv hB hE he) x)
theorem cl_can (L : av_W) (d : Nat) {N : av_N} (hR : RR N) (x w : Int32) : al_call L (d + 20) N 69 [.ref 9, .int x, .int w] 187 [.ref 142, .int x, .int w] := by
  obtain ⟨n, day, B, e, k, T, h⟩ := hR
  have h0 := h
  obtain ⟨hB, hE, he, hI, hF, hS, hL, hK, hT, hX, hO⟩ := h0
  obtain ⟨s, S, hS⟩ := hS
  exact call_of h (ca_can L d (RA_cv hB hE he) (RA_mv hB hE he) hB.2.2.2.2.2 hS x w)
theorem cl_odds (L : av_W) (d : Nat) {N : av_N} (hR : RR N) (y w : Int32) : al_call L (d + 20) N 70 [.ref 9, .int y, .int w] 190 [.ref 142, .int y, .int w] := by
  obtain ⟨n, day, B, e, k, T, h⟩ := hR
  have h0 := h
  obtain ⟨hB, hE, he, hI, hF, hS, hL, hK, hT, hX, hO⟩ := h0
  exact call_of h (ca_odds L d (RA_cv hB hE he) (RA_mv hB hE he) y w)
theorem cl_mean (L : av_W) (d : Nat) {N : av_N} (hR : RR N) (w : Int32) : al_call L (d + 20) N 71 [.ref 9, .int w] 191 [.ref 142, .int w] := by
  obtain ⟨n, day, B, e, k, T, h⟩ := hR
  have h0 := h
  obtain ⟨hB, hE, he, hI, hF, hS, hL, hK, hT, hX, hO⟩ := h0
  exact call_of h (ca_mean L d (RA_cv hB hE he) (RA_mv hB hE he) w)
theorem cl_leased (L : av_W) (d : Nat) {N : av_N} (hR : RR N) (w : Int32) : al_call L (d + 20) N 73 [.ref 9, .int w] 193 [.ref 142, .int w] := by
  obtain ⟨n, day, B, e, k, T, h⟩ := hR
  have h0 := h
  obtain ⟨hB, hE, he, hI, hF, hS, hL, hK, hT, hX, hO⟩ := h0
  obtain ⟨s, S, hS⟩ := hS
  obtain ⟨s2, X, hL⟩ := hL
  obtain ⟨s3, Y, hK⟩ := hK
  exact call_of h (ca_leased L d (RA_cv hB hE he) (RA_mv hB hE he) hS.1 hK.1 hS.2.1.1 hK.2.1.1 hL w)
theorem cl_looked (L : av_W) (d : Nat) {N : av_N} (hR : RR N) : al_call L (d + 20) N 75 [.ref 9] 195 [.ref 142] := by
  obtain ⟨n, day, B, e, k, T, h⟩ := hR
  have h0 := h
  obtain ⟨hB, hE, he, hI, hF, hS, hL, hK, hT, hX, hO⟩ := h0
  obtain ⟨s3, Y, hK⟩ := hK
  exact call_of h (ca_looked L d (RA_cv hB hE he) (RA_mv hB hE he) hK )
theorem cl_judge (L : av_W) (d : Nat) {N : av_N} (hR : RR N) (x y : Int32) : al_call L (d + 20) N 76 [.ref 9, .int x, .int y] 196 [.ref 142, .int x, .int y] := by
  obtain ⟨n, day, B, e, k, T, h⟩ := hR
  have h0 := h
  obtain ⟨hB, hE, he, hI, hF, hS, hL, hK, hT, hX, hO⟩ := h0
  obtain ⟨st, ln, it, hT⟩ := hT
  exact call_of h (ca_judge L d (RA_cv hB hE he) (RA_mv hB hE he) hT x y)
