/-! what kind of value a method gives back -/
def rt_int : Instr → Bool
  | .return_ | .lreturn | .areturn => false
  | _ => true
def rt_long : Instr → Bool
  | .return_ | .ireturn | .areturn => false
  | _ => true
theorem rt_kind {F : Instr → Bool} {K : Option Value → Prop} (hret : ∀ ins aux st v, am_isRet ins = true → F ins = true → am_ret ins aux st = some v → K v) (P : Nat → Option am_I) : ∀ (n d : Nat) (co : List am_A) (i : Nat) (ls st : List Value) (M : am_M) (r : Option Value × am_M), (co.all fun a => F a.2.1) = true → am_run P n d co i ls st M = some r → K r.1 := by
  intro n
  induction n with
  | zero => intro d co i ls st M r hco h; cases h
  | succ n ih =>
    intro d co i ls st M r hco h
    unfold am_run at h
    split at h
    · cases h
    next pc ins aux hi =>
      split at h
      next hr =>
        have hm : (pc, ins, aux) ∈ co := List.mem_of_getElem? hi
        have hF : F ins = true := List.all_eq_true.mp hco _ hm
        cases hv : am_ret ins aux st with
        | none =>
          rw [hv] at h
          cases h
        | some v =>
          rw [hv] at h
          cases h
          exact hret ins aux st v hr hF hv
      next hr =>
        split at h
        next hv =>
          split at h
          next mi as rest hc =>
            split at h
            next d' inf hP =>
              split at h
              next hl =>
                split at h
                next v M1 h1 => exact ih _ _ _ _ _ _ _ hco h
                next => cases h
              next => cases h
            next => cases h
          next hc =>
            split at h
            next d' i' ls' st' M' hp => exact ih _ _ _ _ _ _ _ hco h
            next => cases h
        next hv =>
          split at h
          next i' ls' st' M' hp => exact ih _ _ _ _ _ _ _ hco h
          next => cases h
theorem rt_ri : ∀ (ins : Instr) (aux : List Nat) (st : List Value) (v : Option Value), am_isRet ins = true → rt_int ins = true → am_ret ins aux st = some v → ∃ x, v = some (.int x) := by
  intro ins aux st v h1 h2 h3
  unfold am_ret at h3
  split at h3
  · cases h2
  · cases h3; exact ⟨_, rfl⟩
  · split at h3
    · cases h3; exact ⟨_, rfl⟩
    · cases h3
  · cases h2
  · cases h2
  · cases h2
  · cases h3
theorem rt_rl : ∀ (ins : Instr) (aux : List Nat) (st : List Value) (v : Option Value), am_isRet ins = true → rt_long ins = true → am_ret ins aux st = some v → ∃ x, v = some (.long x) := by
  intro ins aux st v h1 h2 h3
  unfold am_ret at h3
  split at h3
  · cases h2
  · cases h2
  · cases h2
  · cases h3; exact ⟨_, rfl⟩
  · cases h2
  · cases h2
  · cases h3
def rt_all (F : Instr → Bool) (mi : Nat) : Bool := match am_P mi with
  | some inf => inf.2.2.2.2.2.all fun a => F a.2.1
  | none => true
theorem rt_C {F : Instr → Bool} {K : Option Value → Prop} (hret : ∀ ins aux st v, am_isRet ins = true → F ins = true → am_ret ins aux st = some v → K v) {S : av_S} {d mi : Nat} {as : List Value} {N : av_N} {q : av_Q} (hm : rt_all F mi = true) (h : av_C S d mi as N = some q) : K q.1 := by
  unfold av_C at h
  unfold rt_all at hm
  split at h
  next inf hi =>
    rw [hi] at hm
    obtain ⟨n, hn⟩ := av_V_R h
    exact rt_kind hret am_P n d _ _ _ _ _ _ hm hn
  next => cases h
theorem rt_ints : ∀ mi ∈ [47, 48, 49, 50, 51, 52, 53, 54, 55, 56, 57, 58, 59, 60, 61, 62, 63, 64, 65, 67, 68, 69, 72, 73, 74, 75, 76, 77, 78, 79, 80, 81, 82, 83, 84, 86], rt_all rt_int mi = true := by decide
theorem rt_longs : ∀ mi ∈ [66, 70, 71, 85], rt_all rt_long mi = true := by decide
