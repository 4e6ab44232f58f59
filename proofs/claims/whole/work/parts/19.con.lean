/-! both objects are made: a log of what the makers do, and that the small machine does it -/
abbrev ag_E : Type := (Nat × Nat × Nat) ⊕ ((Nat × Nat × Int32) ⊕ (Nat × Nat × Nat))
def ag_M0 (L : Nat) (xs : Nat → Int32) : am_M := ((fun p k => if p < 9 then am_roI xs p k else 0), (fun _ _ => 0), (fun _ _ => none), (fun p => if p < 9 then am_roS L p else (1000, 0)), 9, 0)
def ag_r1 (M : am_M) : ag_E → am_M
  | .inl (t, n, c) => am_new M t n c
  | .inr (.inl (p, k, x)) => am_wr M p k (.int x)
  | .inr (.inr (p, k, q)) => am_wr M p k (.ref q)
/-- what a log makes of the memory: its head is the latest -/
def ag_rp (M : am_M) : List ag_E → am_M
  | [] => M
  | e :: es => ag_r1 (ag_rp M es) e
def ag_nx : List ag_E → Nat
  | [] => 9
  | .inl _ :: es => ag_nx es + 1
  | .inr _ :: es => ag_nx es
def ag_sh : List ag_E → Nat → Option (Nat × Nat)
  | [], _ => none
  | .inl (t, n, _) :: es, p => match Nat.beq p (ag_nx es) with
    | true => some (t, n)
    | false => ag_sh es p
  | .inr _ :: es, p => ag_sh es p
def ag_R : List ag_E → Nat → Nat → Option Nat
  | [], _, _ => none
  | .inr (.inr (p, k, q)) :: es, p', k' => match Nat.beq p' p && Nat.beq k' k with
    | true => some q
    | false => ag_R es p' k'
  | _ :: es, p', k' => ag_R es p' k'
theorem ag_nxE {M : am_M} (h : am_nx M = 9) : ∀ es, am_nx (ag_rp M es) = ag_nx es
  | [] => h
  | .inl (t, n, c) :: es => congrArg (· + 1) (ag_nxE h es)
  | .inr (.inl (p, k, x)) :: es => (am_wr_nx _ _ _ _).trans (ag_nxE h es)
  | .inr (.inr (p, k, q)) :: es => (am_wr_nx _ _ _ _).trans (ag_nxE h es)
theorem ag_shE {M : am_M} (h : am_nx M = 9) : ∀ (es : List ag_E) (p : Nat) (s : Nat × Nat), ag_sh es p = some s → am_sh (ag_rp M es) p = s
  | [], _, _, z => by cases z
  | .inl (t, n, c) :: es, p, s, z => by
    unfold ag_sh at z
    show (if p = am_nx (ag_rp M es) then (t, n) else am_sh (ag_rp M es) p) = s
    rw [ag_nxE h es]
    split at z
    next hb =>
      rw [if_pos (Nat.eq_of_beq_eq_true hb)]
      exact Option.some.inj z
    next hb =>
      rw [if_neg (fun w => by rw [w, Nat.beq_refl] at hb; cases hb)]
      exact ag_shE h es p s z
  | .inr (.inl (p', k, x)) :: es, p, s, z => (am_wr_sh _ _ _ _ _).trans (ag_shE h es p s z)
  | .inr (.inr (p', k, q)) :: es, p, s, z => (am_wr_sh _ _ _ _ _).trans (ag_shE h es p s z)
theorem ag_RE {M : am_M} : ∀ (es : List ag_E) (p k q : Nat), ag_R es p k = some q → (ag_rp M es).2.2.1 p k = some q
  | [], _, _, _, z => by cases z
  | .inl (t, n, c) :: es, p, k, q, z => ag_RE es p k q z
  | .inr (.inl (p', k', x)) :: es, p, k, q, z => ag_RE es p k q z
  | .inr (.inr (p', k', x)) :: es, p, k, q, z => by
    unfold ag_R at z
    show (if p = p' ∧ k = k' then some x else (ag_rp M es).2.2.1 p k) = some q
    split at z
    next hb =>
      rw [Bool.and_eq_true] at hb
      rw [if_pos ⟨Nat.eq_of_beq_eq_true hb.1, Nat.eq_of_beq_eq_true hb.2⟩]
      exact z
    next hb =>
      rw [if_neg (fun w => by rw [w.1, w.2, Nat.beq_refl, Nat.beq_refl] at hb; cases hb)]
      exact ag_RE es p k q z
def ag_pl : Instr → Bool
  | .iconst _ | .bipush _ | .sipush _ | .aload_n _ | .aload _ | .iload_n _ | .iload _ | .istore_n _ | .istore _ | .astore_n _ | .astore _ | .dup | .goto _ | .if_icmp _ _ => true
  | _ => false
def ag_D : am_M := ((fun _ _ => 0), (fun _ _ => 0), (fun _ _ => none), (fun _ => (1000, 0)), 9, 0)
def ag_tg {α : Type} (s : Option (Nat × Nat)) (f : Nat → Nat → Option α) : Option α := match s with
  | some (t, n) => f t n
  | none => none
def ag_F (cont : Nat → List Value → List Value → List ag_E → Option (List ag_E)) (ins : Instr) (aux : List Nat) (i : Nat) (ls st : List Value) (es : List ag_E) : Option (List ag_E) :=
  match ins, aux, st with
  | .new _, [ci, _, _, _], st => cont (i + 1) ls (.ref (ag_nx es) :: st) (.inl (ci, am_fnum ci, am_fnum ci) :: es)
  | .newarray _, [t, _], .int n :: st => if n < 0 ∨ 65536 < n.toNatClampNeg then none else cont (i + 1) ls (.ref (ag_nx es) :: st) (.inl (100 + t, n.toNatClampNeg, n.toNatClampNeg) :: es)
  | .anewarray _, [t, _, _], .int n :: st => if n < 0 ∨ 65536 < n.toNatClampNeg then none else cont (i + 1) ls (.ref (ag_nx es) :: st) (.inl (100 + t, n.toNatClampNeg, n.toNatClampNeg) :: es)
  | .putfield _, [ci, k, _], .int x :: .ref p :: st => (match ag_sh es p with
    | some (t, _) => if t = ci ∧ am_okv (am_fty ci k) (.int x) = true then cont (i + 1) ls st (.inr (.inl (p, k, x)) :: es) else none
    | none => none)
  | .putfield _, [ci, k, _], .ref q :: .ref p :: st => (match ag_sh es p with
    | some (t, _) => if t = ci ∧ am_okv (am_fty ci k) (.ref q) = true then cont (i + 1) ls st (.inr (.inr (p, k, q)) :: es) else none
    | none => none)
  | .aastore, [t, ci], .ref v :: .int j :: .ref p :: st => (match ag_sh es p, ag_sh es v with
    | some (t', n), some (c', _) => if c' = ci ∧ t' = t ∧ am_R0 ≤ p ∧ ¬ j < 0 ∧ j.toNatClampNeg < n then cont (i + 1) ls st (.inr (.inr (p, j.toNatClampNeg, v)) :: es) else none
    | _, _ => none)
  | .iastore, _, .int x :: .int j :: .ref p :: st => (match ag_sh es p with
    | some (t', n) => if t' = 100 ∧ am_R0 ≤ p ∧ ¬ j < 0 ∧ j.toNatClampNeg < n then cont (i + 1) ls st (.inr (.inl (p, j.toNatClampNeg, x)) :: es) else none
    | none => none)
  | .getfield _, [ci, k, _], .ref p :: st => (match ag_sh es p, ag_R es p k with
    | some (t, _), some q => if t = ci then (match am_fty ci k with
      | .object _ => cont (i + 1) ls (.ref q :: st) es
      | .array _ => cont (i + 1) ls (.ref q :: st) es
      | _ => none) else none
    | _, _ => none)
  | .arraylength, _, .ref p :: st => (match ag_sh es p with
    | some (t, n) => if 100 ≤ t ∧ t ≤ 106 then cont (i + 1) ls (.int (Int32.ofNat n) :: st) es else none
    | none => none)
  | .iinc k n, _, st => (match ls[k]? with
    | some (.int x) => (match am_set1 ls k (.int (x + Int32.ofInt n)) with
      | some l => cont (i + 1) l st es
      | none => none)
    | _ => none)
  | ins, aux, st => match ag_pl ins with
    | true => (match am_step ins aux i ls st ag_D with
      | some (i', ls', st', _) => cont i' ls' st' es
      | none => none)
    | false => none
def ag_run : Nat → Nat → List am_A → Nat → List Value → List Value → List ag_E → Option (List ag_E)
  | 0, _, _, _, _, _, _ => none
  | n + 1, d, co, i, ls, st, es => match co[i]? with
    | none => none
    | some (_, ins, aux) => match ins, aux, st with
      | .return_, _, [] => some es
      | .invokespecial _, 4 :: _, .ref _ :: st => (match d with
        | d' + 7 => if (st.map fun v => v.category).sum ≤ 8 then ag_run n (d' + 7) co (i + 1) ls st es else none
        | _ => none)
      | .invokespecial _, kd :: mi :: na :: ci :: _, st => (match st.drop na with
        | .ref p :: rest => (match ag_sh es p, d, am_P mi with
          | some (t, _), d' + 1, some inf => if t = ci ∧ (kd = 2 ∨ kd = 3) ∧ na ≤ st.length ∧ (rest.map fun v => v.category).sum ≤ 8 ∧ (am_lay (.ref p :: (st.take na).reverse)).length ≤ inf.2.2.1 then (match ag_run n d' inf.2.2.2.2.2 0 (am_entry (.ref p :: (st.take na).reverse) inf.2.2.1) [] es with
            | some es1 => ag_run n (d' + 1) co (i + 1) ls rest es1
            | none => none) else none
          | _, _, _ => none)
        | _ => none)
      | ins, aux, st => match am_isRet ins || am_isInv ins with
        | true => none
        | false => ag_F (fun i ls st es => ag_run n d co i ls st es) ins aux i ls st es
theorem ag_ld {ls st : List Value} {i pc k : Nat} {M M' : am_M} {i' : Nat} {ls' st' : List Value} (M1 : am_M) (h : am_ldL ls st i pc M k = some (i', ls', st', M')) : am_ldL ls st i pc M1 k = some (i', ls', st', M1) := by
  unfold am_ldL at h ⊢
  split at h <;> first | (cases h; done) | (cases h; rfl) | (cases h; simp_all)
theorem ag_st {ls st : List Value} {i pc k : Nat} {M M' : am_M} {i' : Nat} {ls' st' : List Value} (M1 : am_M) (h : am_stL ls st i pc M k = some (i', ls', st', M')) : am_stL ls st i pc M1 k = some (i', ls', st', M1) := by
  unfold am_stL at h ⊢
  split at h <;> first | (cases h; done) | (obtain ⟨l, h1, h2⟩ := Option.map_eq_some_iff.mp h; cases h2; rw [h1]; rfl)
set_option maxHeartbeats 4000000 in
theorem ag_plE {ins : Instr} {aux : List Nat} {i : Nat} {ls st : List Value} {M M' : am_M} {i' : Nat} {ls' st' : List Value} (M1 : am_M) (hp : ag_pl ins = true) (h : am_step ins aux i ls st M = some (i', ls', st', M')) : am_step ins aux i ls st M1 = some (i', ls', st', M1) := by
  unfold am_step at h
  split at h <;> first
    | (cases hp; done)
    | (cases h; done)
    | (cases h; rfl)
    | exact ag_ld M1 h
    | exact ag_st M1 h
    | (split at h <;> first | (cases h; done) | (rename_i hk; cases h; exact if_pos hk))
set_option maxHeartbeats 4000000 in
theorem ag_FE {M : am_M} (hM : am_nx M = 9) {cont : Nat → List Value → List Value → List ag_E → Option (List ag_E)} {ins : Instr} {aux : List Nat} {i : Nat} {ls st : List Value} {es r : List ag_E} (h : ag_F cont ins aux i ls st es = some r) : ∃ (i' : Nat) (ls' st' : List Value) (es' : List ag_E), am_step ins aux i ls st (ag_rp M es) = some (i', ls', st', ag_rp M es') ∧ cont i' ls' st' es' = some r := by
  unfold ag_F at h
  split at h
  · refine ⟨_, _, _, _, ?_, h⟩
    show some (_, _, Value.ref (am_nx (ag_rp M es)) :: _, _) = _
    rw [ag_nxE hM]
    rfl
  · split at h
    · cases h
    next hn =>
      refine ⟨_, _, _, _, ?_, h⟩
      show (if _ then none else some (_, _, Value.ref (am_nx (ag_rp M es)) :: _, _)) = _
      rw [if_neg hn, ag_nxE hM]
      rfl
  · split at h
    · cases h
    next hn =>
      refine ⟨_, _, _, _, ?_, h⟩
      show (if _ then none else some (_, _, Value.ref (am_nx (ag_rp M es)) :: _, _)) = _
      rw [if_neg hn, ag_nxE hM]
      rfl
  · split at h
    next hs =>
      split at h
      next hc =>
        refine ⟨_, _, _, _, ?_, h⟩
        have e := ag_shE hM _ _ _ hs
        show (if (am_sh (ag_rp M es) _).1 = _ ∧ _ then _ else _) = _
        rw [if_pos ⟨by rw [e]; exact hc.1, hc.2⟩]
        rfl
      · cases h
    · cases h
  · split at h
    next hs =>
      split at h
      next hc =>
        refine ⟨_, _, _, _, ?_, h⟩
        have e := ag_shE hM _ _ _ hs
        show (if (am_sh (ag_rp M es) _).1 = _ ∧ _ then _ else _) = _
        rw [if_pos ⟨by rw [e]; exact hc.1, hc.2⟩]
        rfl
      · cases h
    · cases h
  · split at h
    next hs hv =>
      split at h
      next hc =>
        refine ⟨_, _, _, _, ?_, h⟩
        have e := ag_shE hM _ _ _ hs
        have e2 := ag_shE hM _ _ _ hv
        show (if (am_sh (ag_rp M es) _).1 = _ then am_sv _ _ _ _ _ _ _ _ else _) = _
        rw [if_pos (by rw [e2]; exact hc.1)]
        unfold am_sv
        rw [if_pos ⟨by rw [e]; exact hc.2.1, hc.2.2.1⟩, if_neg (by
          unfold am_bad
          rw [e, Bool.or_eq_true, decide_eq_true_eq, decide_eq_true_eq]
          exact fun w => w.elim hc.2.2.2.1 (fun w => absurd hc.2.2.2.2 (Nat.not_lt.mpr w)))]
        rfl
      · cases h
    · cases h
  · split at h
    next hs =>
      split at h
      next hc =>
        refine ⟨_, _, _, _, ?_, h⟩
        have e := ag_shE hM _ _ _ hs
        show am_sv _ _ _ _ _ _ _ _ = _
        unfold am_sv
        rw [if_pos ⟨by rw [e]; exact hc.1, hc.2.1⟩, if_neg (by
          unfold am_bad
          rw [e, Bool.or_eq_true, decide_eq_true_eq, decide_eq_true_eq]
          exact fun w => w.elim hc.2.2.1 (fun w => absurd hc.2.2.2 (Nat.not_lt.mpr w)))]
        rfl
      · cases h
    · cases h
  · split at h
    next hs hR =>
      split at h
      next hc =>
        have e := ag_shE hM _ _ _ hs
        have e2 := ag_RE (M := M) _ _ _ _ hR
        split at h
        next hf =>
          refine ⟨_, _, _, _, ?_, h⟩
          show (if (am_sh (ag_rp M es) _).1 = _ then some (_, _, am_rd (fun q => q) (ag_rp M es) _ _ _ :: _, _) else _) = _
          rw [if_pos (by rw [e]; exact hc), hf]
          show some (_, _, va_rf (((ag_rp M es).2.2.1 _ _).map fun q => q) :: _, _) = _
          rw [e2]
          rfl
        next hf =>
          refine ⟨_, _, _, _, ?_, h⟩
          show (if (am_sh (ag_rp M es) _).1 = _ then some (_, _, am_rd (fun q => q) (ag_rp M es) _ _ _ :: _, _) else _) = _
          rw [if_pos (by rw [e]; exact hc), hf]
          show some (_, _, va_rf (((ag_rp M es).2.2.1 _ _).map fun q => q) :: _, _) = _
          rw [e2]
          rfl
        · cases h
      · cases h
    · cases h
  · split at h
    next hs =>
      split at h
      next hc =>
        refine ⟨_, _, _, _, ?_, h⟩
        have e := ag_shE hM _ _ _ hs
        show (if 100 ≤ (am_sh (ag_rp M es) _).1 ∧ _ then some (_, _, Value.int (Int32.ofNat (am_sh (ag_rp M es) _).2) :: _, _) else _) = _
        rw [e, if_pos hc]
      · cases h
    · cases h
  · split at h
    next hk =>
      split at h
      next hs =>
        refine ⟨_, _, _, _, ?_, h⟩
        show (match ls[_]? with
          | some (Value.int x) => Option.map (fun ls' => (i + 1, ls', _, ag_rp M es)) (am_set1 ls _ (Value.int (x + Int32.ofInt _)))
          | _ => none) = _
        rw [hk]
        show Option.map _ (am_set1 _ _ _) = _
        rw [hs]
        rfl
      · cases h
    · cases h
  · split at h
    next hp =>
      split at h
      next hs => exact ⟨_, _, _, _, ag_plE _ hp hs, h⟩
      · cases h
    · cases h
theorem ag_callE {kd mi na ci : Nat} {tl : List Nat} {st : List Value} {p : Nat} {rest : List Value} {M : am_M} (hk : kd = 2 ∨ kd = 3) (hdr : st.drop na = .ref p :: rest) (h1 : (am_sh M p).1 = ci) (h2 : na ≤ st.length) (h3 : (rest.map fun v => v.category).sum ≤ 8) : am_call (kd :: mi :: na :: ci :: tl) st M = some (mi, .ref p :: (st.take na).reverse, rest) := by
  unfold am_call
  split
  next z =>
    injection z with z1 z2
    omega
  next z =>
    injection z with z1 z2
    injection z2 with z2 z3
    injection z3 with z3 z4
    injection z4 with z4 z5
    subst z1 z2 z3 z4
    rw [if_pos (by omega), hdr]
    exact if_pos ⟨h2, h1, h3⟩
  next z1 z2 => exact (z2 _ _ _ _ _ rfl).elim
theorem ag_runE {M : am_M} (hM : am_nx M = 9) : ∀ (n d : Nat) (co : List am_A) (i : Nat) (ls st : List Value) (es r : List ag_E), ag_run n d co i ls st es = some r → am_run am_P n d co i ls st (ag_rp M es) = some (none, ag_rp M r) := by
  intro n
  induction n with
  | zero => intro d co i ls st es r h; cases h
  | succ n ih =>
    intro d co i ls st es r h
    unfold ag_run at h
    split at h
    · cases h
    next pc ins aux hi =>
      unfold am_run
      rw [hi]
      dsimp only
      split at h
      · cases h
        rfl
      · split at h
        · split at h
          next hs =>
            rw [if_neg (show ¬ am_isRet (Instr.invokespecial _) = true from fun z => Bool.false_ne_true z), if_pos (show am_isInv (Instr.invokespecial _) = true from rfl), av_cnone (by decide)]
            dsimp only
            rw [show am_prim (4 :: _) i ls (.ref _ :: _) (ag_rp M es) = _ from if_pos hs]
            exact ih _ _ _ _ _ _ _ h
          · cases h
        · cases h
      · split at h
        next hdr =>
          split at h
          next hsh hP =>
            split at h
            next hc =>
              split at h
              next hrun =>
                have e := ag_shE hM _ _ _ hsh
                rw [if_neg (show ¬ am_isRet (Instr.invokespecial _) = true from fun z => Bool.false_ne_true z), if_pos (show am_isInv (Instr.invokespecial _) = true from rfl)]
                rw [ag_callE hc.2.1 hdr (by rw [e]; exact hc.1) hc.2.2.1 hc.2.2.2.1]
                dsimp only
                rw [hP]
                dsimp only
                rw [if_pos hc.2.2.2.2, ih _ _ _ _ _ _ _ hrun]
                exact ih _ _ _ _ _ _ _ h
              · cases h
            · cases h
          · cases h
        · cases h
      · split at h
        · cases h
        next hri =>
          rw [Bool.or_eq_false_iff] at hri
          obtain ⟨i', ls', st', es', h1, h2⟩ := ag_FE hM h
          rw [if_neg (by rw [hri.1]; decide), if_neg (by rw [hri.2]; decide), h1]
          exact ih _ _ _ _ _ _ _ h2
def ag_l1 : List ag_E := [.inl (6, 17, 17)]
def ag_a_0 : List ag_E := .inl (0, 10, 10) :: .inr (.inr (10, 6, 22)) :: .inr (.inr (22, 3, 26)) :: .inl (100, 8, 8) :: .inr (.inr (22, 2, 25)) :: .inl (100, 8, 8) :: .inr (.inr (22, 1, 24)) :: .inl (100, 8, 8) :: .inr (.inr (22, 0, 23)) :: .inl (100, 8, 8) :: .inr (.inl (22, 4, 0)) :: .inl (3, 5, 5) :: .inr (.inr (10, 5, 17)) :: .inr (.inr (17, 3, 21)) :: .inl (100, 6, 6) :: .inr (.inr (17, 2, 20)) :: .inl (100, 6, 6) :: .inr (.inr (17, 1, 19)) :: .inl (100, 6, 6) :: .inr (.inr (17, 0, 18)) :: .inl (100, 6, 6) :: .inr (.inl (17, 4, 0)) :: .inl (3, 5, 5) :: .inr (.inr (10, 4, 12)) :: .inr (.inr (12, 3, 16)) :: .inl (100, 5, 5) :: .inr (.inr (12, 2, 15)) :: .inl (100, 5, 5) :: .inr (.inr (12, 1, 14)) :: .inl (100, 5, 5) :: .inr (.inr (12, 0, 13)) :: .inl (100, 5, 5) :: .inr (.inl (12, 4, 0)) :: .inl (3, 5, 5) :: .inr (.inl (10, 3, 0)) :: .inr (.inl (10, 2, 0)) :: .inr (.inl (10, 1, 0)) :: .inr (.inr (10, 0, 11)) :: .inl (106, 7, 7) :: .inl (4, 7, 7) :: ag_l1
def ag_a_1 : List ag_E := .inr (.inr (43, 1, 45)) :: .inl (100, 5, 5) :: .inr (.inr (43, 0, 44)) :: .inl (100, 5, 5) :: .inr (.inl (43, 4, 0)) :: .inl (3, 5, 5) :: .inr (.inl (41, 3, 0)) :: .inr (.inl (41, 2, 0)) :: .inr (.inl (41, 1, 0)) :: .inr (.inr (41, 0, 42)) :: .inl (106, 7, 7) :: .inl (4, 7, 7) :: .inr (.inr (9, 0, 10)) :: .inr (.inr (11, 6, 39)) :: .inr (.inr (39, 0, 40)) :: .inl (100, 4, 4) :: .inl (0, 10, 10) :: .inr (.inr (11, 5, 37)) :: .inr (.inr (37, 0, 38)) :: .inl (100, 4, 4) :: .inl (0, 10, 10) :: .inr (.inr (11, 4, 35)) :: .inr (.inr (35, 0, 36)) :: .inl (100, 4, 4) :: .inl (0, 10, 10) :: .inr (.inr (11, 3, 33)) :: .inr (.inr (33, 0, 34)) :: .inl (100, 4, 4) :: .inl (0, 10, 10) :: .inr (.inr (11, 2, 31)) :: .inr (.inr (31, 0, 32)) :: .inl (100, 4, 4) :: .inl (0, 10, 10) :: .inr (.inr (11, 1, 29)) :: .inr (.inr (29, 0, 30)) :: .inl (100, 4, 4) :: .inl (0, 10, 10) :: .inr (.inr (11, 0, 27)) :: .inr (.inr (27, 0, 28)) :: .inl (100, 4, 4) :: ag_a_0
def ag_a_2 : List ag_E := .inl (0, 10, 10) :: .inr (.inr (42, 2, 62)) :: .inr (.inr (62, 0, 63)) :: .inl (100, 4, 4) :: .inl (0, 10, 10) :: .inr (.inr (42, 1, 60)) :: .inr (.inr (60, 0, 61)) :: .inl (100, 4, 4) :: .inl (0, 10, 10) :: .inr (.inr (42, 0, 58)) :: .inr (.inr (58, 0, 59)) :: .inl (100, 4, 4) :: .inl (0, 10, 10) :: .inr (.inr (41, 6, 53)) :: .inr (.inr (53, 3, 57)) :: .inl (100, 8, 8) :: .inr (.inr (53, 2, 56)) :: .inl (100, 8, 8) :: .inr (.inr (53, 1, 55)) :: .inl (100, 8, 8) :: .inr (.inr (53, 0, 54)) :: .inl (100, 8, 8) :: .inr (.inl (53, 4, 0)) :: .inl (3, 5, 5) :: .inr (.inr (41, 5, 48)) :: .inr (.inr (48, 3, 52)) :: .inl (100, 6, 6) :: .inr (.inr (48, 2, 51)) :: .inl (100, 6, 6) :: .inr (.inr (48, 1, 50)) :: .inl (100, 6, 6) :: .inr (.inr (48, 0, 49)) :: .inl (100, 6, 6) :: .inr (.inl (48, 4, 0)) :: .inl (3, 5, 5) :: .inr (.inr (41, 4, 43)) :: .inr (.inr (43, 3, 47)) :: .inl (100, 5, 5) :: .inr (.inr (43, 2, 46)) :: .inl (100, 5, 5) :: ag_a_1
def ag_a_3 : List ag_E := .inl (100, 5, 5) :: .inr (.inl (79, 4, 0)) :: .inl (3, 5, 5) :: .inr (.inl (77, 3, 0)) :: .inr (.inl (77, 2, 0)) :: .inr (.inl (77, 1, 0)) :: .inr (.inr (77, 0, 78)) :: .inl (106, 7, 7) :: .inl (4, 7, 7) :: .inr (.inl (9, 8, 0)) :: .inr (.inr (9, 7, 76)) :: .inl (100, 20, 20) :: .inr (.inr (9, 6, 75)) :: .inl (105, 6, 6) :: .inr (.inl (9, 5, 0)) :: .inr (.inr (9, 4, 74)) :: .inl (104, 7, 7) :: .inr (.inr (9, 3, 72)) :: .inr (.inl (72, 2, 0)) :: .inr (.inl (72, 1, 0)) :: .inr (.inr (72, 0, 73)) :: .inl (102, 100, 100) :: .inl (2, 3, 3) :: .inr (.inl (9, 2, 0)) :: .inr (.inr (9, 1, 41)) :: .inr (.inr (42, 6, 70)) :: .inr (.inr (70, 0, 71)) :: .inl (100, 4, 4) :: .inl (0, 10, 10) :: .inr (.inr (42, 5, 68)) :: .inr (.inr (68, 0, 69)) :: .inl (100, 4, 4) :: .inl (0, 10, 10) :: .inr (.inr (42, 4, 66)) :: .inr (.inr (66, 0, 67)) :: .inl (100, 4, 4) :: .inl (0, 10, 10) :: .inr (.inr (42, 3, 64)) :: .inr (.inr (64, 0, 65)) :: .inl (100, 4, 4) :: ag_a_2
def ag_a_4 : List ag_E := .inl (100, 4, 4) :: .inl (0, 10, 10) :: .inr (.inr (78, 1, 96)) :: .inr (.inr (96, 0, 97)) :: .inl (100, 4, 4) :: .inl (0, 10, 10) :: .inr (.inr (78, 0, 94)) :: .inr (.inr (94, 0, 95)) :: .inl (100, 4, 4) :: .inl (0, 10, 10) :: .inr (.inr (77, 6, 89)) :: .inr (.inr (89, 3, 93)) :: .inl (100, 8, 8) :: .inr (.inr (89, 2, 92)) :: .inl (100, 8, 8) :: .inr (.inr (89, 1, 91)) :: .inl (100, 8, 8) :: .inr (.inr (89, 0, 90)) :: .inl (100, 8, 8) :: .inr (.inl (89, 4, 0)) :: .inl (3, 5, 5) :: .inr (.inr (77, 5, 84)) :: .inr (.inr (84, 3, 88)) :: .inl (100, 6, 6) :: .inr (.inr (84, 2, 87)) :: .inl (100, 6, 6) :: .inr (.inr (84, 1, 86)) :: .inl (100, 6, 6) :: .inr (.inr (84, 0, 85)) :: .inl (100, 6, 6) :: .inr (.inl (84, 4, 0)) :: .inl (3, 5, 5) :: .inr (.inr (77, 4, 79)) :: .inr (.inr (79, 3, 83)) :: .inl (100, 5, 5) :: .inr (.inr (79, 2, 82)) :: .inl (100, 5, 5) :: .inr (.inr (79, 1, 81)) :: .inl (100, 5, 5) :: .inr (.inr (79, 0, 80)) :: ag_a_3
def ag_a_5 : List ag_E := .inr (.inl (116, 2, 0)) :: .inr (.inl (116, 1, 0)) :: .inr (.inr (116, 0, 117)) :: .inl (100, 100, 100) :: .inl (1, 4, 4) :: .inr (.inr (9, 16, 115)) :: .inl (101, 10, 10) :: .inr (.inr (9, 15, 114)) :: .inl (101, 10, 10) :: .inr (.inr (9, 14, 113)) :: .inl (100, 7, 7) :: .inr (.inr (9, 13, 112)) :: .inl (100, 7, 7) :: .inr (.inr (9, 12, 111)) :: .inl (100, 24, 24) :: .inr (.inr (9, 11, 110)) :: .inl (100, 24, 24) :: .inr (.inr (9, 10, 108)) :: .inr (.inr (108, 0, 109)) :: .inl (100, 4, 4) :: .inl (0, 10, 10) :: .inr (.inr (9, 9, 77)) :: .inr (.inr (78, 6, 106)) :: .inr (.inr (106, 0, 107)) :: .inl (100, 4, 4) :: .inl (0, 10, 10) :: .inr (.inr (78, 5, 104)) :: .inr (.inr (104, 0, 105)) :: .inl (100, 4, 4) :: .inl (0, 10, 10) :: .inr (.inr (78, 4, 102)) :: .inr (.inr (102, 0, 103)) :: .inl (100, 4, 4) :: .inl (0, 10, 10) :: .inr (.inr (78, 3, 100)) :: .inr (.inr (100, 0, 101)) :: .inl (100, 4, 4) :: .inl (0, 10, 10) :: .inr (.inr (78, 2, 98)) :: .inr (.inr (98, 0, 99)) :: ag_a_4
def ag_a_6 : List ag_E := .inr (.inr (128, 0, 129)) :: .inl (100, 100, 100) :: .inl (1, 4, 4) :: .inr (.inr (74, 5, 126)) :: .inr (.inl (126, 3, 10)) :: .inr (.inl (126, 2, 0)) :: .inr (.inl (126, 1, 0)) :: .inr (.inr (126, 0, 127)) :: .inl (100, 100, 100) :: .inl (1, 4, 4) :: .inr (.inr (74, 4, 124)) :: .inr (.inl (124, 3, 10)) :: .inr (.inl (124, 2, 0)) :: .inr (.inl (124, 1, 0)) :: .inr (.inr (124, 0, 125)) :: .inl (100, 100, 100) :: .inl (1, 4, 4) :: .inr (.inr (74, 3, 122)) :: .inr (.inl (122, 3, 10)) :: .inr (.inl (122, 2, 0)) :: .inr (.inl (122, 1, 0)) :: .inr (.inr (122, 0, 123)) :: .inl (100, 100, 100) :: .inl (1, 4, 4) :: .inr (.inr (74, 2, 120)) :: .inr (.inl (120, 3, 10)) :: .inr (.inl (120, 2, 0)) :: .inr (.inl (120, 1, 0)) :: .inr (.inr (120, 0, 121)) :: .inl (100, 100, 100) :: .inl (1, 4, 4) :: .inr (.inr (74, 1, 118)) :: .inr (.inl (118, 3, 10)) :: .inr (.inl (118, 2, 0)) :: .inr (.inl (118, 1, 0)) :: .inr (.inr (118, 0, 119)) :: .inl (100, 100, 100) :: .inl (1, 4, 4) :: .inr (.inr (74, 0, 116)) :: .inr (.inl (116, 3, 10)) :: ag_a_5
def ag_a_7 : List ag_E := .inr (.inr (75, 5, 140)) :: .inr (.inl (140, 2, 0)) :: .inr (.inl (140, 1, (-1))) :: .inr (.inr (140, 0, 141)) :: .inl (101, 60, 60) :: .inl (5, 3, 3) :: .inr (.inr (75, 4, 138)) :: .inr (.inl (138, 2, 0)) :: .inr (.inl (138, 1, (-1))) :: .inr (.inr (138, 0, 139)) :: .inl (101, 60, 60) :: .inl (5, 3, 3) :: .inr (.inr (75, 3, 136)) :: .inr (.inl (136, 2, 0)) :: .inr (.inl (136, 1, (-1))) :: .inr (.inr (136, 0, 137)) :: .inl (101, 60, 60) :: .inl (5, 3, 3) :: .inr (.inr (75, 2, 134)) :: .inr (.inl (134, 2, 0)) :: .inr (.inl (134, 1, (-1))) :: .inr (.inr (134, 0, 135)) :: .inl (101, 60, 60) :: .inl (5, 3, 3) :: .inr (.inr (75, 1, 132)) :: .inr (.inl (132, 2, 0)) :: .inr (.inl (132, 1, (-1))) :: .inr (.inr (132, 0, 133)) :: .inl (101, 60, 60) :: .inl (5, 3, 3) :: .inr (.inr (75, 0, 130)) :: .inr (.inl (130, 2, 0)) :: .inr (.inl (130, 1, (-1))) :: .inr (.inr (130, 0, 131)) :: .inl (101, 60, 60) :: .inl (5, 3, 3) :: .inr (.inr (74, 6, 128)) :: .inr (.inl (128, 3, 10)) :: .inr (.inl (128, 2, 0)) :: .inr (.inl (128, 1, 0)) :: ag_a_6
def ag_l3 : List ag_E := .inl (7, 81, 81) :: ag_a_7
def ag_b_0 : List ag_E := .inr (.inr (142, 23, 158)) :: .inl (100, 101, 101) :: .inr (.inr (142, 22, 157)) :: .inl (100, 600, 600) :: .inr (.inr (142, 21, 156)) :: .inl (100, 60, 60) :: .inr (.inr (142, 20, 155)) :: .inl (100, 60, 60) :: .inr (.inr (142, 19, 154)) :: .inl (100, 60, 60) :: .inr (.inr (142, 18, 153)) :: .inl (100, 60, 60) :: .inr (.inr (142, 17, 152)) :: .inl (100, 6, 6) :: .inr (.inr (142, 16, 151)) :: .inl (100, 100, 100) :: .inr (.inl (142, 15, 0)) :: .inr (.inl (142, 14, 0)) :: .inr (.inl (142, 13, 0)) :: .inr (.inl (142, 12, (-1))) :: .inr (.inl (142, 11, 0)) :: .inr (.inr (142, 10, 150)) :: .inl (100, 28, 28) :: .inr (.inr (142, 9, 149)) :: .inl (100, 7, 7) :: .inr (.inr (142, 8, 148)) :: .inl (100, 7, 7) :: .inr (.inr (142, 7, 147)) :: .inl (100, 7, 7) :: .inr (.inr (142, 6, 146)) :: .inl (100, 7, 7) :: .inr (.inr (142, 5, 145)) :: .inl (100, 7, 7) :: .inr (.inr (142, 4, 144)) :: .inl (100, 7, 7) :: .inr (.inr (142, 3, 143)) :: .inl (100, 7, 7) :: .inr (.inl (142, 2, 0)) :: .inr (.inl (142, 1, 0)) :: .inr (.inl (142, 0, 0)) :: ag_l3
def ag_b_1 : List ag_E := .inr (.inr (142, 38, 167)) :: .inl (100, 5, 5) :: .inr (.inr (142, 37, 166)) :: .inl (100, 5, 5) :: .inr (.inl (142, 36, 0)) :: .inr (.inr (142, 35, 165)) :: .inl (101, 10, 10) :: .inr (.inr (142, 34, 164)) :: .inl (101, 10, 10) :: .inr (.inr (142, 33, 163)) :: .inl (100, 7, 7) :: .inr (.inr (142, 32, 162)) :: .inl (100, 7, 7) :: .inr (.inl (142, 31, 0)) :: .inr (.inl (142, 30, 0)) :: .inr (.inr (142, 29, 161)) :: .inl (100, 7, 7) :: .inr (.inr (142, 28, 160)) :: .inl (103, 100, 100) :: .inr (.inr (142, 27, 159)) :: .inr (.inl (159, 15, 112)) :: .inr (.inl (159, 14, 111)) :: .inr (.inl (159, 13, 116)) :: .inr (.inl (159, 12, 110)) :: .inr (.inl (159, 11, 105)) :: .inr (.inl (159, 10, 97)) :: .inr (.inl (159, 9, 103)) :: .inr (.inl (159, 8, 112)) :: .inr (.inl (159, 7, 97)) :: .inr (.inl (159, 6, 101)) :: .inr (.inl (159, 5, 104)) :: .inr (.inl (159, 4, 99)) :: .inr (.inl (159, 3, 114)) :: .inr (.inl (159, 2, 97)) :: .inr (.inl (159, 1, 101)) :: .inr (.inl (159, 0, 100)) :: .inl (100, 16, 16) :: .inr (.inl (142, 26, 0)) :: .inr (.inl (142, 25, 0)) :: .inr (.inl (142, 24, 0)) :: ag_b_0
def ag_b_2 : List ag_E := .inr (.inr (142, 63, 182)) :: .inl (100, 7, 7) :: .inr (.inr (142, 62, 181)) :: .inl (100, 7, 7) :: .inr (.inr (142, 61, 180)) :: .inl (100, 7, 7) :: .inr (.inr (142, 60, 179)) :: .inl (100, 7, 7) :: .inr (.inr (142, 59, 178)) :: .inl (100, 7, 7) :: .inr (.inr (142, 58, 177)) :: .inl (100, 7, 7) :: .inr (.inl (142, 57, 0)) :: .inr (.inl (142, 56, 0)) :: .inr (.inl (142, 55, 0)) :: .inr (.inl (142, 54, 0)) :: .inr (.inl (142, 53, 0)) :: .inr (.inl (142, 52, 0)) :: .inr (.inl (142, 51, (-1))) :: .inr (.inl (142, 50, 0)) :: .inr (.inr (142, 49, 176)) :: .inl (100, 7, 7) :: .inr (.inr (142, 48, 175)) :: .inl (100, 7, 7) :: .inr (.inr (142, 47, 174)) :: .inl (100, 8, 8) :: .inr (.inr (142, 46, 173)) :: .inl (100, 8, 8) :: .inr (.inr (142, 45, 172)) :: .inl (100, 6, 6) :: .inr (.inr (142, 44, 171)) :: .inl (100, 6, 6) :: .inr (.inr (142, 43, 170)) :: .inl (100, 6, 6) :: .inr (.inl (142, 42, 0)) :: .inr (.inl (142, 41, 0)) :: .inr (.inr (142, 40, 169)) :: .inl (103, 5, 5) :: .inr (.inr (142, 39, 168)) :: .inl (100, 5, 5) :: ag_b_1
def ag_b_3 : List ag_E := .inr (.inr (142, 80, 198)) :: .inl (101, 60, 60) :: .inr (.inr (142, 79, 197)) :: .inl (101, 360, 360) :: .inr (.inr (142, 78, 196)) :: .inl (100, 6, 6) :: .inr (.inr (142, 77, 195)) :: .inr (.inl (195, 5, (-1))) :: .inr (.inl (195, 4, (-1))) :: .inr (.inl (195, 3, (-1))) :: .inr (.inl (195, 2, (-1))) :: .inr (.inl (195, 1, (-1))) :: .inr (.inl (195, 0, (-1))) :: .inl (100, 6, 6) :: .inr (.inr (142, 76, 194)) :: .inl (100, 20, 20) :: .inr (.inl (142, 75, 0)) :: .inr (.inr (142, 74, 193)) :: .inl (103, 5, 5) :: .inr (.inr (142, 73, 192)) :: .inl (100, 8, 8) :: .inr (.inr (142, 72, 191)) :: .inl (100, 8, 8) :: .inr (.inr (142, 71, 190)) :: .inl (100, 6, 6) :: .inr (.inr (142, 70, 189)) :: .inl (100, 6, 6) :: .inr (.inr (142, 69, 188)) :: .inl (100, 6, 6) :: .inr (.inr (142, 68, 187)) :: .inl (100, 5, 5) :: .inr (.inr (142, 67, 186)) :: .inl (100, 5, 5) :: .inr (.inr (142, 66, 185)) :: .inl (100, 5, 5) :: .inr (.inr (142, 65, 184)) :: .inl (100, 28, 28) :: .inr (.inr (142, 64, 183)) :: .inl (100, 7, 7) :: ag_b_2
def ag_e1 : ag_E → ag_E → Bool
  | .inl a, .inl b => decide (a = b)
  | .inr (.inl a), .inr (.inl b) => decide (a = b)
  | .inr (.inr a), .inr (.inr b) => decide (a = b)
  | _, _ => false
theorem ag_e1E {x y : ag_E} (h : ag_e1 x y = true) : x = y := by
  unfold ag_e1 at h
  split at h
  · rw [of_decide_eq_true h]
  · rw [of_decide_eq_true h]
  · rw [of_decide_eq_true h]
  · cases h
def ag_el : List ag_E → List ag_E → Bool
  | [], [] => true
  | x :: xs, y :: ys => ag_e1 x y && ag_el xs ys
  | _, _ => false
theorem ag_elE : ∀ (xs ys : List ag_E), ag_el xs ys = true → xs = ys
  | [], [], _ => rfl
  | x :: xs, y :: ys, h => by
    unfold ag_el at h
    rw [Bool.and_eq_true] at h
    rw [ag_e1E h.1, ag_elE xs ys h.2]
  | [], y :: ys, h => by cases h
  | x :: xs, [], h => by cases h
def ag_is (o : Option (List ag_E)) (l : List ag_E) : Bool := match o with
  | some x => ag_el x l
  | none => false
theorem ag_isE {o : Option (List ag_E)} {l : List ag_E} (h : ag_is o l = true) : o = some l := by
  unfold ag_is at h
  split at h
  · rw [ag_elE _ _ h]
  · cases h
set_option maxRecDepth 200000 in
theorem ag_c6 : ag_run 3000 1399 ta_X6_init 0 (am_entry [.ref 9] 2) [] ag_l1 = some ag_a_7 := ag_isE (by decide +kernel)
set_option maxRecDepth 200000 in
theorem ag_c7 : ag_run 3000 1399 ta_X7_init 0 (am_entry [.ref 142] 1) [] ag_l3 = some ag_b_3 := ag_isE (by decide +kernel)
abbrev ag_l2 : List ag_E := ag_a_7
abbrev ag_l4 : List ag_E := ag_b_3
