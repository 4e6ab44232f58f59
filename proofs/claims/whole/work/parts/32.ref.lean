/-! the reference's texts: where the clauses of the one that holds stand, its gain and top -/
def sSgn : Nat → Int32
  | 0 => av_k (-33) | 1 => av_k (-38) | 2 => av_k (-124)
  | u + 3 => nI u
def al_bg (N : av_N) (b0 n : Nat) : Prop := (N.1 142 12 = av_k (-1) ∧ b0 = 0 ∧ n = 0) ∨ ∃ e, e < 6 ∧ N.1 142 12 = nI e ∧ b0 = 10 * e ∧ N.1 152 e = nI n
def al_mc (N : av_N) (b0 : Nat) (cs : List (Nat × Nat × List Nat)) : Prop := cs.length ≤ 10 ∧ ∀ c, c < cs.length → N.1 153 (b0 + c) = nI (cs.getD c (0, 0, [])).1 ∧ N.1 154 (b0 + c) = nI (cs.getD c (0, 0, [])).2.1 ∧
  ((cs.getD c (0, 0, [])).1 ≤ 1 → ∃ a, N.1 155 (b0 + c) = nI a ∧ N.1 156 (b0 + c) = nI (a + (cs.getD c (0, 0, [])).2.2.length) ∧ a + (cs.getD c (0, 0, [])).2.2.length ≤ 600 ∧ ∀ i, i < (cs.getD c (0, 0, [])).2.2.length → N.1 157 (a + i) = sSgn ((cs.getD c (0, 0, [])).2.2.getD i 0))
/-- the text that holds, as the reference keeps it -/
def al_me (N : av_N) (b0 : Nat) (cs : List (Nat × Nat × List Nat)) : Prop := al_bg N b0 cs.length ∧ al_mc N b0 cs ∧ ∀ c ∈ cs, sCl c
theorem al_bg_le {N : av_N} {b0 n : Nat} (h : al_bg N b0 n) (hn : n ≤ 10) : b0 + n ≤ 60 := by
  rcases h with ⟨-, rfl, rfl⟩ | ⟨e, he, -, rfl, -⟩ <;> omega
theorem sp_begin (L : av_W) (d : Nat) {N : av_N} {b0 n : Nat} (h : al_bg N b0 n) : av_C (av_S0 L) d 142 [.ref 142] N = some (some (.int (nI b0)), N) := by
  apply eq_X7_begin
  rcases h with ⟨h, rfl, -⟩ | ⟨e, he, h, rfl, -⟩
  · rw [h, if_pos (by decide)]
    rfl
  · rw [h, av_kO, if_neg (nI_nlt (Nat.zero_le _) (by omega)), av_kO, av_mul]
theorem sp_behind (L : av_W) (d : Nat) {N : av_N} {b0 n : Nat} (h : al_bg N b0 n) : av_C (av_S0 L) d 143 [.ref 142] N = some (some (.int (nI (b0 + n))), N) := by
  apply eq_X7_behind
  rcases h with ⟨h, rfl, rfl⟩ | ⟨e, he, h, rfl, h2⟩
  · rw [h, if_pos (by decide)]
    rfl
  · rw [h, av_kO, if_neg (nI_nlt (Nat.zero_le _) (by omega)), av_gx_s (by omega) (by omega), av_kO, av_mul, nI_clamp (by omega), h2, nI_add]
def sLast (w : Nat) : List (Nat × Nat × List Nat) → Nat → Nat
  | [], x => x
  | c :: cs, x => sLast w cs (if c.1 = w then c.2.1 else x)
theorem sLast_le {w : Nat} : ∀ (cs : List (Nat × Nat × List Nat)) (x : Nat), (∀ c ∈ cs, sCl c) → x ≤ 99 → sLast w cs x ≤ 99
  | [], _, _, h => h
  | c :: cs, x, hc, h => by
    have := (hc c List.mem_cons_self).2.1
    refine sLast_le cs _ (fun y hy => hc y (List.mem_cons_of_mem _ hy)) ?_
    split <;> omega
theorem sp_lastOf (L : av_W) (d : Nat) {N : av_N} {b0 : Nat} {cs : List (Nat × Nat × List Nat)} (h : al_me N b0 cs) {w x : Nat} (hw : w ≤ 3) : av_C (av_S0 L) (d + 1) 144 [.ref 142, .int (nI w), .int (nI x)] N = some (some (.int (nI (sLast w cs x))), N) := by
  obtain ⟨hg, ⟨hl, hm⟩, hcl⟩ := h
  have h60 := al_bg_le hg hl
  have key : ∀ (r pre : List (Nat × Nat × List Nat)) (y : Nat), cs = pre ++ r → av_V (av_S0 L) (d + 1) ta_X7_lastOf 5 [.ref 142, .int (nI w), .int (nI x), .int (nI y), .int (nI (b0 + pre.length))] [] N = some (some (.int (nI (sLast w r y))), N) := by
    intro r
    induction r with
    | nil =>
      intro pre y hcs
      have : cs.length = pre.length := by rw [hcs]; simp
      apply eq_X7_lastOf_5
      rw [sp_behind L d hg, av_bi_s, this, if_neg (nI_nlt (Nat.le_refl _) (by omega))]
      rfl
    | cons c r ih =>
      intro pre y hcs
      have hlen : cs.length = pre.length + (r.length + 1) := by rw [hcs]; simp
      obtain ⟨m1, m2, -⟩ := hm pre.length (by omega)
      have hgd : cs.getD pre.length (0, 0, []) = c := by
        rw [hcs, List.getD_eq_getElem?_getD, List.getElem?_append_right (Nat.le_refl _), Nat.sub_self]
        rfl
      rw [hgd] at m1 m2
      have hc := hcl c (by rw [hcs]; simp)
      have ih' := fun y => ih (pre ++ [c]) y (by rw [hcs]; simp)
      rw [show (pre ++ [c]).length = pre.length + 1 by simp] at ih'
      have w3 := hc.1
      apply eq_X7_lastOf_5
      rw [sp_behind L d hg, av_bi_s, if_pos (nI_lt (by omega) (by omega)), av_gx_s (by omega) (by omega), nI_clamp (by omega), m1, m2, av_kO, nI_add, av_gx_s (by omega) (by omega)]
      unfold sLast
      by_cases e : c.1 = w
      · rw [if_pos (congrArg nI e), if_pos e]
        exact ih' c.2.1
      · rw [if_neg (fun z => e ((nI_eq (by omega) (by omega)).mp z)), if_neg e]
        exact ih' y
  apply eq_X7_lastOf
  rw [sp_begin L d hg, av_bi_s]
  exact key cs [] x rfl
def sTop (cs : List (Nat × Nat × List Nat)) : Nat := if sLast 3 cs 10 < 1 then 1 else if 10 < sLast 3 cs 10 then 10 else sLast 3 cs 10
theorem sTop_le (cs : List (Nat × Nat × List Nat)) : 1 ≤ sTop cs ∧ sTop cs ≤ 10 := by
  unfold sTop
  split
  · omega
  · split <;> omega
theorem sp_topM (L : av_W) (d : Nat) {N : av_N} {b0 : Nat} {cs : List (Nat × Nat × List Nat)} (h : al_me N b0 cs) : av_C (av_S0 L) (d + 2) 145 [.ref 142] N = some (some (.int (nI (sTop cs))), N) := by
  have hle := sLast_le (w := 3) cs 10 h.2.2 (by decide)
  apply eq_X7_top (d := d + 1)
  rw [av_kO, av_kO, sp_lastOf L d h (by decide), av_bi_s, av_kO]
  simp (disch := omega) only [nI_ltI]
  unfold sTop
  by_cases h1 : sLast 3 cs 10 < 1
  · rw [if_pos h1, if_pos h1]
  · rw [if_neg h1, if_neg h1]
    by_cases h2 : 10 < sLast 3 cs 10
    · rw [if_pos h2, if_pos h2]
    · rw [if_neg h2, if_neg h2]
