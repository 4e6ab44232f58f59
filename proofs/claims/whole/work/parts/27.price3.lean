/-- how many tests among the tokens -/
def sNt : List Nat → Nat
  | [] => 0
  | x :: ts => (if x < 3 then 0 else 1) + sNt ts
theorem sNt_app : ∀ (a b : List Nat), sNt (a ++ b) = sNt a + sNt b := by
  intro a b
  induction a with
  | nil => show sNt b = 0 + sNt b; omega
  | cons x a ih =>
    show (if x < 3 then 0 else 1) + sNt (a ++ b) = (if x < 3 then 0 else 1) + sNt a + sNt b
    rw [ih]
    omega
set_option maxHeartbeats 1000000 in
theorem pr_toks {L : av_W} {d p pb : Nat} {N : av_N} {B : Nat → Nat} {day : Nat} {P : Int32} {q : av_Q} {F : List Nat} {g t : Nat} (he : al_ep p) (hs : al_es N p F g t) (hp : al_bp pb) (hb : al_bd N pb B) (ok : al_ok B) (hd : day < 2 ^ 20) : ∀ (ts : List Nat) (s s' : List Bool) (i : Nat) (v7 : Value), (∀ j, j < ts.length → F.getD (i + j) 0 = sCls (ts.getD j 0)) → i + ts.length ≤ F.length → (∀ x ∈ ts, sTok x) → sEv (sTr B day) ts s = some s' → s.length + sNt ts ≤ 60 → (v7 = am_junk ∨ ∃ x, v7 = .int x) →
    (∀ v, (v = am_junk ∨ ∃ x, v = .int x) → al_V L (d + 1) p pb (nI day) P (lN (sB s')) (i + ts.length) v N = some q) → al_V L (d + 1) p pb (nI day) P (lN (sB s)) i v7 N = some q := by
  intro ts
  induction ts with
  | nil =>
    intro s s' i v7 _ _ _ hev _ hv h
    cases hev
    exact h v7 hv
  | cons x ts ih =>
    intro s s' i v7 hF hl htk hev hsz hv h
    rw [List.length_cons] at hl h
    rw [show sNt (x :: ts) = (if x < 3 then 0 else 1) + sNt ts from rfl] at hsz
    have h0 : F.getD i 0 = sCls x := hF 0 (by rw [List.length_cons]; omega)
    have hi : i < F.length := by omega
    have next : ∀ (s1 : List Bool) (o : Nat), sEv (sTr B day) ts s1 = some s' → s1.length + sNt ts ≤ 60 → al_V L (d + 1) p pb (nI day) P (lN (sB s1)) (i + 1) (.int (nI o)) N = some q := by
      intro s1 o hev1 hsz1
      refine ih s1 s' (i + 1) _ (fun j hj => ?_) (by omega) (fun y hy => htk y (List.mem_cons_of_mem _ hy)) hev1 hsz1 (Or.inr ⟨_, rfl⟩) (fun v hv => ?_)
      · have := hF (j + 1) (by rw [List.length_cons]; omega)
        rw [show i + 1 + j = i + (j + 1) by omega, this]
        rfl
      · have := h v hv
        rw [show i + 1 + ts.length = i + (ts.length + 1) by omega]
        exact this
    have hm : sB s < 2 ^ 60 := Nat.lt_of_lt_of_le (sB_lt s) (Nat.pow_le_pow_right (by decide) (by omega))
    rcases htk x List.mem_cons_self with hx | ⟨u, rfl, hu, hus⟩
    · rcases (by omega : x = 0 ∨ x = 1 ∨ x = 2) with rfl | rfl | rfl
      · cases s with
        | nil => cases hev
        | cons a s1 =>
          refine pr_step he hs hi hv (k := 0) (o := 0) h0 (by decide) (by decide) ?_
          rw [if_pos rfl, av_xorL]
          have := next ((!a) :: s1) 0 hev (by rw [List.length_cons] at hsz ⊢; rw [if_pos (by decide)] at hsz; omega)
          unfold sB at this ⊢
          rw [sB_not]
          exact this
      · cases s with
        | nil => cases hev
        | cons b s1 => cases s1 with
          | nil => cases hev
          | cons a s2 =>
            refine pr_step he hs hi hv (k := 1) (o := 0) h0 (by decide) (by decide) ?_
            have hm2 : sB s2 < 2 ^ 60 := by
              have e : sB (b :: a :: s2) = (if b then 1 else 0) + 2 * ((if a then 1 else 0) + 2 * sB s2) := rfl
              omega
            have := next ((a && b) :: s2) 0 hev (by rw [List.length_cons, List.length_cons, if_pos (by decide)] at hsz; rw [List.length_cons]; omega)
            rw [if_neg (by decide), if_pos rfl, av_shrL (by omega) (by decide), av_orL, av_andL]
            rw [show sB (b :: a :: s2) = (if b then 1 else 0) + 2 * ((if a then 1 else 0) + 2 * sB s2) from rfl, show (2 : Nat) ^ 1 = 2 from rfl, sB_half, sB_and a b _ hm2]
            exact this
      · cases s with
        | nil => cases hev
        | cons b s1 => cases s1 with
          | nil => cases hev
          | cons a s2 =>
            refine pr_step he hs hi hv (k := 2) (o := 0) h0 (by decide) (by decide) ?_
            have := next ((a || b) :: s2) 0 hev (by rw [List.length_cons, List.length_cons, if_pos (by decide)] at hsz; rw [List.length_cons]; omega)
            rw [if_neg (by decide), if_neg (by decide), if_pos rfl, av_shrL (by omega) (by decide), av_andL, av_orL]
            rw [show sB (b :: a :: s2) = (if b then 1 else 0) + 2 * ((if a then 1 else 0) + 2 * sB s2) from rfl, show (2 : Nat) ^ 1 = 2 from rfl, sB_half, sB_or a b]
            exact this
    · have hev' : sEv (sTr B day) ts (sTest (sTr B day) u :: s) = some s' := hev
      have hll : sLet (u / 1000) < 128 := by
        rcases (by omega : u / 1000 = 0 ∨ u / 1000 = 1 ∨ u / 1000 = 2 ∨ u / 1000 = 3 ∨ u / 1000 = 4 ∨ u / 1000 = 5) with h | h | h | h | h | h <;> rw [h] <;> decide
      have hn : u % 100 < 100 := Nat.mod_lt _ (by decide)
      refine pr_step he hs hi hv (k := 3) (o := (sLet (u / 1000) * 128 + (60 + u / 100 % 10)) * 128 + u % 100) h0 (by decide) (by omega) ?_
      have := next (sTest (sTr B day) u :: s) ((sLet (u / 1000) * 128 + (60 + u / 100 % 10)) * 128 + u % 100) hev' (by rw [List.length_cons]; rw [if_neg (by omega)] at hsz; omega)
      rw [if_neg (by decide), if_neg (by decide), if_neg (by decide), if_pos rfl, sp_passes L d hp hb ok hd hu hus, av_bi_s, av_shlL _ (by decide), av_orL, av_orL, show (2 : Nat) ^ 1 = 2 from rfl]
      have p1 := sB_push (sB s) (sTest (sTr B day) u)
      rw [show sB (sTest (sTr B day) u :: s) = (if sTest (sTr B day) u then 1 else 0) + 2 * sB s from rfl, ← p1] at this
      cases hT : sTest (sTr B day) u
      · rw [hT] at this
        rw [if_pos (show av_b false = nI 0 from rfl)]
        exact this
      · rw [hT] at this
        rw [if_neg (show ¬ av_b true = nI 0 by decide)]
        exact this
/-- the steps of a text's clauses (word 0 dear, 1 cheap, 2 gain, 3 top; number; tokens), and what they come to -/
def sFl : List (Nat × Nat × List Nat) → List Nat
  | [] => []
  | c :: cs => (if c.1 ≤ 1 then c.2.2.map sCls ++ [4 + c.1 + 8 * c.2.1] else []) ++ sFl cs
def sVal (tr : Nat → Nat) (code : List Nat) : Bool := match sEv tr code [] with
  | some [v] => v
  | _ => false
def sSum (tr : Nat → Nat) : List (Nat × Nat × List Nat) → Int → Int
  | [], z => z
  | c :: cs, z => sSum tr cs (if c.1 = 0 then (if sVal tr c.2.2 then z + c.2.1 else z) else if c.1 = 1 then (if sVal tr c.2.2 then z - c.2.1 else z) else z)
def sPrice (tr : Nat → Nat) (cs : List (Nat × Nat × List Nat)) : Nat := (sSum tr cs 1).toNat
/-- a clause as it may stand: 1 or 2 digits; its tokens good for every bird -/
def sCl (c : Nat × Nat × List Nat) : Prop := c.1 ≤ 3 ∧ c.2.1 ≤ 99 ∧ (c.1 ≤ 1 → (c.2.2.length ≤ 98 ∧ sNt c.2.2 ≤ 50) ∧ (∀ x ∈ c.2.2, sTok x) ∧ ∀ tr, ∃ v, sEv tr c.2.2 [] = some [v])
theorem lg_c1 : lg_cmp (lN 1 &&& lN 1) (lN 0) ≠ nI 0 := by decide
theorem lg_c0 : lg_cmp (lN 0 &&& lN 1) (lN 0) = nI 0 := by decide
