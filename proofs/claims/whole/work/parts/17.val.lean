/-! the small machine once both objects stand: only numbers change; what a run comes to, and a tree of what it does -/
theorem am_run_fuel (P : Nat → Option am_I) : ∀ (n m d : Nat) (co : List am_A) (i : Nat) (ls st : List Value) (M : am_M) (r : Option Value × am_M), n ≤ m → am_run P n d co i ls st M = some r → am_run P m d co i ls st M = some r := by
  intro n
  induction n with
  | zero => intro m d co i ls st M r hm h; cases h
  | succ n ih =>
    intro m d co i ls st M r hm h
    obtain ⟨m, rfl⟩ : ∃ k, m = k + 1 := ⟨m - 1, by omega⟩
    have hm' : n ≤ m := by omega
    unfold am_run at h
    split at h
    · cases h
    next pc ins aux hi =>
      split at h
      next hr =>
        unfold am_run
        rw [hi]
        dsimp only
        rw [if_pos hr]
        exact h
      next hr =>
        split at h
        next hv =>
          split at h
          next mi as rest hc =>
            split at h
            next d' inf hP =>
              split at h
              next hl =>
                split at h
                next v M1 h1 =>
                  unfold am_run
                  rw [hi]
                  dsimp only
                  rw [if_neg hr, if_pos hv, hc]
                  dsimp only
                  rw [hP]
                  dsimp only
                  rw [if_pos hl, ih _ _ _ _ _ _ _ _ hm' h1]
                  exact ih _ _ _ _ _ _ _ _ hm' h
                next => cases h
              next => cases h
            next => cases h
          next hc =>
            split at h
            next d' i' ls' st' M' hp =>
              unfold am_run
              rw [hi]
              dsimp only
              rw [if_neg hr, if_pos hv, hc]
              dsimp only
              rw [hp]
              exact ih _ _ _ _ _ _ _ _ hm' h
            next => cases h
        next hv =>
          split at h
          next i' ls' st' M' hp =>
            unfold am_run
            rw [hi]
            dsimp only
            rw [if_neg hr, if_neg hv, hp]
            exact ih _ _ _ _ _ _ _ _ hm' h
          next => cases h
abbrev av_N : Type := (Nat → Nat → Int32) × (Nat → Nat → Int64)
abbrev av_Q : Type := Option Value × av_N
def av_R (S : av_S) (d : Nat) (co : List am_A) (i : Nat) (ls st : List Value) (N : av_N) (q : av_Q) : Prop := ∃ n, am_run am_P n d co i ls st (N.1, N.2, S) = some (q.1, q.2.1, q.2.2, S)
theorem av_R_one {S : av_S} {d : Nat} {co : List am_A} {i : Nat} {ls st : List Value} {N : av_N} {q q' : av_Q} (h : av_R S d co i ls st N q) (h' : av_R S d co i ls st N q') : q = q' := by
  obtain ⟨n, h⟩ := h
  obtain ⟨n', h'⟩ := h'
  have a := am_run_fuel am_P n (n + n') _ _ _ _ _ _ _ (by omega) h
  have b := am_run_fuel am_P n' (n + n') _ _ _ _ _ _ _ (by omega) h'
  rw [a] at b
  obtain ⟨q1, q2, q3⟩ := q
  obtain ⟨p1, p2, p3⟩ := q'
  cases b
  rfl
/-- what the run comes to, if it ends -/
noncomputable def av_V (S : av_S) (d : Nat) (co : List am_A) (i : Nat) (ls st : List Value) (N : av_N) : Option av_Q := @dite _ (∃ q, av_R S d co i ls st N q) (Classical.propDecidable _) (fun h => some (Classical.choose h)) (fun _ => none)
theorem av_V_of {S : av_S} {d : Nat} {co : List am_A} {i : Nat} {ls st : List Value} {N : av_N} {q : av_Q} (h : av_R S d co i ls st N q) : av_V S d co i ls st N = some q := by
  unfold av_V
  rw [dif_pos ⟨q, h⟩]
  exact congrArg some (av_R_one (Classical.choose_spec (⟨q, h⟩ : ∃ q, av_R S d co i ls st N q)) h)
theorem av_V_R {S : av_S} {d : Nat} {co : List am_A} {i : Nat} {ls st : List Value} {N : av_N} {q : av_Q} (h : av_V S d co i ls st N = some q) : av_R S d co i ls st N q := by
  unfold av_V at h
  split at h
  next h1 =>
    cases h
    exact Classical.choose_spec h1
  · cases h
/-- a call of a method by its number -/
noncomputable def av_C (S : av_S) (d mi : Nat) (as : List Value) (N : av_N) : Option av_Q := match am_P mi with
  | some inf => av_V S d inf.2.2.2.2.2 0 (am_entry as inf.2.2.1) [] N
  | none => none
def av_k (n : Int) : Int32 := Int32.ofInt n
def av_tt {α : Type} (b : Bool) (A : Option α) : Option α := match b with
  | true => A
  | false => none
def av_tg {α : Type} (s : Nat × Nat) (t : Nat) (A : Option α) : Option α := match Nat.beq s.1 t with
  | true => A
  | false => none
def av_gx {α : Type} (j : Int32) (n : Nat) (A : Option α) : Option α := if ¬ j < 0 ∧ j.toNatClampNeg < n then A else none
def av_ge {α : Type} (p : Nat) (A : Option α) : Option α := match Nat.ble 9 p with
  | true => A
  | false => none
def av_al {α : Type} (s : Nat × Nat) (A : Option α) : Option α := match Nat.ble 100 s.1 && Nat.ble s.1 106 with
  | true => A
  | false => none
def av_bt {α : Type} (x : Int32) (A : Option α) : Option α := if x = 0 ∨ x = 1 then A else none
def av_nz {α : Type} (y : Int32) (A : Option α) : Option α := if y = 0 then none else A
def av_if {α : Type} (c : Jvm.ClassFile.Cond) (x y : Int32) (A B : α) : α := match c with
  | .eq => if x = y then A else B
  | .ne => if x = y then B else A
  | .lt => if x < y then A else B
  | .ge => if x < y then B else A
  | .gt => if y < x then A else B
  | .le => if y < x then B else A
def av_sw {α : Type} : Int → List Nat → Int32 → Nat → (Nat → α) → α
  | _, [], _, t, f => f t
  | lo, a :: as, x, t, f => if x = av_k lo then f a else av_sw (lo + 1) as x t f
def av_lk {α : Type} : List (Int × Int) → List Nat → Int32 → Nat → (Nat → α) → α
  | (a, _) :: ps, t :: ts, x, d, f => if x = av_k a then f t else av_lk ps ts x d f
  | _, _, _, d, f => f d
def av_nf {α : Type} : List Value → (List Value → α) → α
  | [], f => f []
  | v :: vs, f => av_nf vs fun l => f (v :: l)
def av_w (N : av_N) (p k : Nat) (x : Int32) : av_N := (am_up N.1 p k x, N.2)
def av_wl (N : av_N) (p k : Nat) (x : Int64) : av_N := (N.1, am_up N.2 p k x)
def av_isSt : Instr → Bool
  | .istore_n _ | .istore _ | .lstore_n _ | .lstore _ | .astore_n _ | .astore _ | .iinc _ _ => true
  | _ => false
/-- what may go the plain way -/
def av_ok : Instr → Bool
  | .new _ | .newarray _ | .anewarray _ | .aastore | .putfield _ | .iastore | .lastore | .bastore => false
  | _ => true
def av_rng (n : Int) : Bool := Nat.ble n.toNat 2147483647 && Nat.ble (-n).toNat 2147483648
def av_F (S : av_S) (cont : Nat → List Value → List Value → av_N → Option av_Q) (ins : Instr) (aux : List Nat) (i : Nat) (ls st : List Value) (N : av_N) : Option av_Q :=
  match ins, aux, st with
  | .iconst n, _, st => cont (i + 1) ls (.int (av_k n) :: st) N
  | .bipush n, _, st => av_tt (Nat.ble n.toNat 127 && Nat.ble (-n).toNat 128) (cont (i + 1) ls (.int (av_k n) :: st) N)
  | .sipush n, _, st => av_tt (Nat.ble n.toNat 32767 && Nat.ble (-n).toNat 32768) (cont (i + 1) ls (.int (av_k n) :: st) N)
  | .iload_n k, _, st => match ls[k.val]? with
    | some (.int x) => cont (i + 1) ls (.int x :: st) N
    | _ => none
  | .iload k, _, st => match ls[k]? with
    | some (.int x) => cont (i + 1) ls (.int x :: st) N
    | _ => none
  | .aload_n k, _, st => match ls[k.val]? with
    | some (.ref x) => cont (i + 1) ls (.ref x :: st) N
    | some .null => cont (i + 1) ls (.null :: st) N
    | _ => none
  | .aload k, _, st => match ls[k]? with
    | some (.ref x) => cont (i + 1) ls (.ref x :: st) N
    | some .null => cont (i + 1) ls (.null :: st) N
    | _ => none
  | .iadd, _, .int y :: .int x :: st => cont (i + 1) ls (.int (x + y) :: st) N
  | .isub, _, .int y :: .int x :: st => cont (i + 1) ls (.int (x - y) :: st) N
  | .idiv, _, .int y :: .int x :: st => av_nz y (cont (i + 1) ls (.int (x / y) :: st) N)
  | .irem, _, .int y :: .int x :: st => av_nz y (cont (i + 1) ls (.int (x - x / y * y) :: st) N)
  | .ifCond c _, [t], .int x :: st => av_if c x (av_k 0) (cont t ls st N) (cont (i + 1) ls st N)
  | .if_icmp c _, [t], .int y :: .int x :: st => av_if c x y (cont t ls st N) (cont (i + 1) ls st N)
  | .tableswitch _ lo hi _, _ :: t :: ts, .int x :: st => av_tt (decide (hi - lo + 1 = (ts.length : Int)) && (av_rng lo && av_rng hi)) (av_sw lo ts x t fun t => cont t ls st N)
  | .lookupswitch _ ps, _ :: t :: ts, .int x :: st => av_tt (ps.toList.all fun q => av_rng q.1) (av_lk ps.toList ts x t fun t => cont t ls st N)
  | .getfield _, [ci, k, _], .ref p :: st => av_tg (S.2.1 p) ci (match am_fty ci k with
    | .long => cont (i + 1) ls (.long (N.2 p k) :: st) N
    | .object _ => (am_MR p k).bind fun q => cont (i + 1) ls (.ref q :: st) N
    | .array _ => (am_MR p k).bind fun q => cont (i + 1) ls (.ref q :: st) N
    | _ => cont (i + 1) ls (.int (N.1 p k) :: st) N)
  | .putfield _, [ci, k, _], v :: .ref p :: st => av_tg (S.2.1 p) ci (match am_fty ci k, v with
    | .int, .int x => cont (i + 1) ls st (av_w N p k x)
    | .long, .long x => cont (i + 1) ls st (av_wl N p k x)
    | .boolean, .int x => av_bt x (cont (i + 1) ls st (av_w N p k x))
    | _, _ => none)
  | .iaload, _, .int j :: .ref p :: st => av_tg (S.2.1 p) 100 (av_gx j (S.2.1 p).2 (cont (i + 1) ls (.int (N.1 p j.toNatClampNeg) :: st) N))
  | .laload, _, .int j :: .ref p :: st => av_tg (S.2.1 p) 101 (av_gx j (S.2.1 p).2 (cont (i + 1) ls (.long (N.2 p j.toNatClampNeg) :: st) N))
  | .baload, [t], .int j :: .ref p :: st => av_tg (S.2.1 p) t (av_gx j (S.2.1 p).2 (cont (i + 1) ls (.int (N.1 p j.toNatClampNeg) :: st) N))
  | .aaload, [t], .int j :: .ref p :: st => av_tg (S.2.1 p) t (av_gx j (S.2.1 p).2 ((am_MR p j.toNatClampNeg).bind fun q => cont (i + 1) ls (.ref q :: st) N))
  | .iastore, _, .int x :: .int j :: .ref p :: st => av_ge p (av_tg (S.2.1 p) 100 (av_gx j (S.2.1 p).2 (cont (i + 1) ls st (av_w N p j.toNatClampNeg x))))
  | .lastore, _, .long x :: .int j :: .ref p :: st => av_ge p (av_tg (S.2.1 p) 101 (av_gx j (S.2.1 p).2 (cont (i + 1) ls st (av_wl N p j.toNatClampNeg x))))
  | .bastore, [t], .int x :: .int j :: .ref p :: st => av_ge p (av_tg (S.2.1 p) t (av_gx j (S.2.1 p).2 (cont (i + 1) ls st (av_w N p j.toNatClampNeg (am_nar t x)))))
  | .arraylength, _, .ref p :: st => av_al (S.2.1 p) (cont (i + 1) ls (.int (Int32.ofNat (S.2.1 p).2) :: st) N)
  | ins, aux, st => match av_ok ins with
    | false => none
    | true => match am_step ins aux i ls st (N.1, N.2, S) with
      | some (i', ls', st', _) => (match av_isSt ins with
        | true => av_nf ls' fun l => cont i' l st' N
        | false => cont i' ls' st' N)
      | none => none
def av_bv (o : Option av_Q) (f : av_N → Option av_Q) : Option av_Q := match o with
  | some (none, N) => f N
  | _ => none
def av_bi (o : Option av_Q) (f : Int32 → av_N → Option av_Q) : Option av_Q := match o with
  | some (some (.int x), N) => f x N
  | _ => none
def av_bl (o : Option av_Q) (f : Int64 → av_N → Option av_Q) : Option av_Q := match o with
  | some (some (.long x), N) => f x N
  | _ => none
def av_br (o : Option av_Q) (f : Nat → av_N → Option av_Q) (g : av_N → Option av_Q) : Option av_Q := match o with
  | some (some (.ref p), N) => f p N
  | some (some .null, N) => g N
  | _ => none
def av_sm (st : List Value) : Bool := Nat.ble (st.map fun v => v.category).sum 8
def av_call (call : Nat → Nat → List Value → av_N → Option av_Q) (cont : List Value → av_N → Option av_Q) (d mi : Nat) (as rest : List Value) (N : av_N) : Option av_Q := match d, am_P mi with
  | d' + 1, some inf => match Nat.ble (am_lay as).length inf.2.2.1 && av_sm rest with
    | true => (match inf.2.2.2.1 with
      | none => av_bv (call d' mi as N) fun N => cont rest N
      | some .long => av_bl (call d' mi as N) fun x N => cont (.long x :: rest) N
      | some (.object _) => av_br (call d' mi as N) (fun p N => cont (.ref p :: rest) N) (fun N => cont (.null :: rest) N)
      | some _ => av_bi (call d' mi as N) fun x N => cont (.int x :: rest) N)
    | false => none
  | _, _ => none
def av_cpI (N : av_N) (p q : Nat) (sp dp n : Int32) : av_N := ((fun a j => if a = q then va_cpy (N.1 p) (N.1 q) sp.toNatClampNeg dp.toNatClampNeg n.toNatClampNeg j else N.1 a j), N.2)
def av_cpJ (N : av_N) (p q : Nat) (sp dp n : Int32) : av_N := (N.1, (fun a j => if a = q then va_cpy (N.2 p) (N.2 q) sp.toNatClampNeg dp.toNatClampNeg n.toNatClampNeg j else N.2 a j))
def av_gc {α : Type} (sp dp n : Int32) (lp lq : Nat) (A : Option α) : Option α := if ¬ sp < 0 ∧ ¬ dp < 0 ∧ ¬ n < 0 ∧ sp.toNatClampNeg + n.toNatClampNeg ≤ lp ∧ dp.toNatClampNeg + n.toNatClampNeg ≤ lq then A else none
def av_inv (S : av_S) (call : Nat → Nat → List Value → av_N → Option av_Q) (cont : List Value → av_N → Option av_Q) (d : Nat) (aux : List Nat) (st : List Value) (N : av_N) : Option av_Q :=
  match aux, st with
  | 1 :: mi :: n :: _, st => (match Nat.ble n st.length with
    | true => av_call call cont d mi (st.take n).reverse (st.drop n) N
    | false => none)
  | 5 :: t :: _, .int n :: .int dp :: .ref q :: .int sp :: .ref p :: st => (match d with
    | _ + 7 => av_tg (S.2.1 p) t (av_tg (S.2.1 q) t (av_ge p (av_ge q (av_gc sp dp n (S.2.1 p).2 (S.2.1 q).2 (av_tt (av_sm st) (match t with
      | 100 => cont st (av_cpI N p q sp dp n)
      | 101 => cont st (av_cpJ N p q sp dp n)
      | _ => none))))))
    | _ => none)
  | 6 :: _, .int k :: .ref p :: st => (match d with
    | _ + 7 => av_tg (S.2.1 p) 200 (av_gx k (S.2.1 p).2 (av_tt (av_sm st) (cont (.int (N.1 p k.toNatClampNeg) :: st) N)))
    | _ => none)
  | 7 :: _, .ref p :: st => (match d with
    | _ + 7 => av_tg (S.2.1 p) 200 (av_tt (av_sm st) (cont (.int (Int32.ofNat (S.2.1 p).2) :: st) N))
    | _ => none)
  | kd :: mi :: n :: ci :: _, st => (match Nat.ble kd 3 && Nat.ble n st.length with
    | true => (match st.drop n with
      | .ref p :: rest => av_tg (S.2.1 p) ci (av_call call cont d mi (.ref p :: (st.take n).reverse) rest N)
      | _ => none)
    | false => none)
  | _, _ => none
def av_ret (ins : Instr) (aux : List Nat) (st : List Value) (N : av_N) : Option av_Q := match ins, aux, st with
  | .return_, _, [] => some (none, N)
  | .ireturn, [0], [.int x] => some (some (.int x), N)
  | .ireturn, [1], [.int x] => av_bt x (some (some (.int x), N))
  | .lreturn, _, [.long x] => some (some (.long x), N)
  | .areturn, _, [.ref p] => some (some (.ref p), N)
  | .areturn, _, [.null] => some (some .null, N)
  | _, _, _ => none
/-- one instruction: returns, calls, all else -/
def av_G (S : av_S) (call : Nat → Nat → List Value → av_N → Option av_Q) (cont : Nat → List Value → List Value → av_N → Option av_Q) (d : Nat) (co : List am_A) (i : Nat) (ls st : List Value) (N : av_N) : Option av_Q := match co[i]? with
  | none => none
  | some (_, ins, aux) => match am_isRet ins with
    | true => av_ret ins aux st N
    | false => match am_isInv ins with
      | true => av_inv S call (fun st N => cont (i + 1) ls st N) d aux st N
      | false => av_F S cont ins aux i ls st N
noncomputable def av_T (S : av_S) (cut : List Nat) (d : Nat) (co : List am_A) : Nat → Nat → List Value → List Value → av_N → Option av_Q
  | 0, i, ls, st, N => av_V S d co i ls st N
  | n + 1, i, ls, st, N => av_G S (av_C S) (fun i ls st N => match cut.elem i with
    | true => av_V S d co i ls st N
    | false => av_T S cut d co n i ls st N) d co i ls st N
/-! the tree says no more than the run -/
theorem av_nfE {α : Type} : ∀ (l : List Value) (f : List Value → α), av_nf l f = f l
  | [], _ => rfl
  | v :: vs, f => av_nfE vs fun l => f (v :: l)
theorem av_ttE {α : Type} {b : Bool} {A : Option α} {q : α} (h : av_tt b A = some q) : b = true ∧ A = some q := by
  cases b
  · cases h
  · exact ⟨rfl, h⟩
theorem av_tgE {α : Type} {s : Nat × Nat} {t : Nat} {A : Option α} {q : α} (h : av_tg s t A = some q) : s.1 = t ∧ A = some q := by
  unfold av_tg at h
  split at h
  next hb => exact ⟨Nat.eq_of_beq_eq_true hb, h⟩
  · cases h
theorem av_gxE {α : Type} {j : Int32} {n : Nat} {A : Option α} {q : α} (h : av_gx j n A = some q) : (¬ j < 0 ∧ j.toNatClampNeg < n) ∧ A = some q := by
  unfold av_gx at h
  split at h
  next hb => exact ⟨hb, h⟩
  · cases h
theorem av_geE {α : Type} {p : Nat} {A : Option α} {q : α} (h : av_ge p A = some q) : 9 ≤ p ∧ A = some q := by
  unfold av_ge at h
  split at h
  next hb => exact ⟨Nat.le_of_ble_eq_true hb, h⟩
  · cases h
theorem av_alE {α : Type} {s : Nat × Nat} {A : Option α} {q : α} (h : av_al s A = some q) : (100 ≤ s.1 ∧ s.1 ≤ 106) ∧ A = some q := by
  unfold av_al at h
  split at h
  next hb =>
    rw [Bool.and_eq_true] at hb
    exact ⟨⟨Nat.le_of_ble_eq_true hb.1, Nat.le_of_ble_eq_true hb.2⟩, h⟩
  · cases h
theorem av_btE {α : Type} {x : Int32} {A : Option α} {q : α} (h : av_bt x A = some q) : (x = 0 ∨ x = 1) ∧ A = some q := by
  unfold av_bt at h
  split at h
  next hb => exact ⟨hb, h⟩
  · cases h
theorem av_nzE {α : Type} {y : Int32} {A : Option α} {q : α} (h : av_nz y A = some q) : y ≠ 0 ∧ A = some q := by
  unfold av_nz at h
  split at h
  · cases h
  next hb => exact ⟨hb, h⟩
theorem av_ifE {α : Type} {c : Jvm.ClassFile.Cond} {x y : Int32} {A B : α} : av_if c x y A B = if am_cond c x y = true then A else B := by
  have hle : x ≤ y ↔ ¬ y < x := by rw [Int32.le_iff_toInt_le, Int32.lt_iff_toInt_lt]; omega
  have hle' : y ≤ x ↔ ¬ x < y := by rw [Int32.le_iff_toInt_le, Int32.lt_iff_toInt_lt]; omega
  cases c <;> simp only [av_if, am_cond, decide_eq_true_eq, Bool.not_eq_true', decide_eq_false_iff_not]
  · by_cases h : x = y
    · rw [if_pos h, if_neg (fun z => z h)]
    · rw [if_neg h, if_pos h]
  · by_cases h : x < y
    · rw [if_pos h, if_neg (fun z => hle'.mp z h)]
    · rw [if_neg h, if_pos (hle'.mpr h)]
  · by_cases h : y < x
    · rw [if_pos h, if_neg (fun z => hle.mp z h)]
    · rw [if_neg h, if_pos (hle.mpr h)]
theorem av_rngE {n : Int} (h : av_rng n = true) : -2147483648 ≤ n ∧ n ≤ 2147483647 := by
  unfold av_rng at h
  rw [Bool.and_eq_true] at h
  have h1 := Nat.le_of_ble_eq_true h.1
  have h2 := Nat.le_of_ble_eq_true h.2
  omega
theorem av_kI {n : Int} (h1 : -2147483648 ≤ n) (h2 : n ≤ 2147483647) : (av_k n).toInt = n := by
  unfold av_k
  rw [Int32.toInt_ofInt]
  show n.bmod 4294967296 = n
  exact Int.bmod_eq_of_le (by omega) (by omega)
theorem av_kX {n : Int} {x : Int32} (h : av_rng n = true) : x = av_k n ↔ x.toInt = n := by
  obtain ⟨h1, h2⟩ := av_rngE h
  rw [← Int32.toInt_inj, av_kI h1 h2]
theorem av_swE {α : Type} : ∀ (ts : List Nat) (lo : Int) (x : Int32) (t : Nat) (f : Nat → α), -2147483648 ≤ lo → lo + (ts.length : Int) ≤ 2147483648 → av_sw lo ts x t f = f (if x.toInt < lo ∨ lo + (ts.length : Int) ≤ x.toInt then t else ts.getD (x.toInt - lo).toNat 0) := by
  intro ts
  induction ts with
  | nil =>
    intro lo x t f h1 h2
    rw [if_pos (by simp; omega)]
    rfl
  | cons a as ih =>
    intro lo x t f h1 h2
    rw [List.length_cons] at h2 ⊢
    have hk : x = av_k lo ↔ x.toInt = lo := by rw [← Int32.toInt_inj, av_kI h1 (by omega)]
    show (if x = av_k lo then f a else av_sw (lo + 1) as x t f) = _
    by_cases h : x = av_k lo
    · rw [if_pos h]
      have e := hk.mp h
      rw [if_neg (by omega), show (x.toInt - lo).toNat = 0 from by omega]
      rfl
    · rw [if_neg h, ih (lo + 1) x t f (by omega) (by omega)]
      have e : ¬ x.toInt = lo := fun z => h (hk.mpr z)
      by_cases h9 : x.toInt < lo ∨ lo + ((as.length + 1 : Nat) : Int) ≤ x.toInt
      · rw [if_pos h9, if_pos (by omega)]
      · rw [if_neg h9, if_neg (by omega), show (x.toInt - lo).toNat = (x.toInt - (lo + 1)).toNat + 1 from by omega]
        rfl
theorem av_swF {α : Type} {ts : List Nat} {lo hi : Int} {x : Int32} {t : Nat} {f : Nat → α} (h : hi - lo + 1 = (ts.length : Int)) (h1 : -2147483648 ≤ lo) (h2 : hi ≤ 2147483647) : av_sw lo ts x t f = f (if x.toInt < lo ∨ hi < x.toInt then t else ts.getD (x.toInt - lo).toNat 0) := by
  rw [av_swE ts lo x t f h1 (by omega)]
  have e : (lo + (ts.length : Int) ≤ x.toInt) = (hi < x.toInt) := propext ⟨fun w => by omega, fun w => by omega⟩
  simp only [e]
theorem av_lkE {α : Type} : ∀ (ps : List (Int × Int)) (ts : List Nat) (x : Int32) (d : Nat) (f : Nat → α), (ps.all fun q => av_rng q.1) = true → av_lk ps ts x d f = f (am_look ps ts d x.toInt) := by
  intro ps
  induction ps with
  | nil => intro ts x d f _; rfl
  | cons a as ih =>
    intro ts x d f h
    rw [List.all_cons, Bool.and_eq_true] at h
    cases ts with
    | nil => rfl
    | cons t ts =>
      show (if x = av_k a.1 then f t else av_lk as ts x d f) = f (if x.toInt = a.1 then t else am_look as ts d x.toInt)
      by_cases h9 : x = av_k a.1
      · rw [if_pos h9, if_pos ((av_kX h.1).mp h9)]
      · rw [if_neg h9, if_neg (fun z => h9 ((av_kX h.1).mpr z))]
        exact ih ts x d f h.2
theorem av_b8 {n : Int} (h : (Nat.ble n.toNat 127 && Nat.ble (-n).toNat 128) = true) : (Int8.ofInt n).toInt32 = av_k n := by
  rw [Bool.and_eq_true] at h
  have h1 := Nat.le_of_ble_eq_true h.1
  have h2 := Nat.le_of_ble_eq_true h.2
  apply Int32.toInt_inj.mp
  rw [av_kI (by omega) (by omega), Int8.toInt_toInt32, Int8.toInt_ofInt]
  show n.bmod 256 = n
  exact Int.bmod_eq_of_le (by omega) (by omega)
theorem av_b16 {n : Int} (h : (Nat.ble n.toNat 32767 && Nat.ble (-n).toNat 32768) = true) : (Int16.ofInt n).toInt32 = av_k n := by
  rw [Bool.and_eq_true] at h
  have h1 := Nat.le_of_ble_eq_true h.1
  have h2 := Nat.le_of_ble_eq_true h.2
  apply Int32.toInt_inj.mp
  rw [av_kI (by omega) (by omega), Int16.toInt_toInt32, Int16.toInt_ofInt]
  show n.bmod 65536 = n
  exact Int.bmod_eq_of_le (by omega) (by omega)
theorem av_badF {S : av_S} {N : av_N} {p : Nat} {j : Int32} (h : ¬ j < 0 ∧ j.toNatClampNeg < (S.2.1 p).2) : am_bad (N.1, N.2, S) p j = false := by
  unfold am_bad
  rw [Bool.or_eq_false_iff]
  exact ⟨decide_eq_false h.1, decide_eq_false (Nat.not_le.mpr h.2)⟩
set_option maxHeartbeats 4000000 in
theorem av_okE {ins : Instr} {aux : List Nat} {i : Nat} {ls st : List Value} {M : am_M} {i' : Nat} {ls' st' : List Value} {M' : am_M} (ok : av_ok ins = true) (h : am_step ins aux i ls st M = some (i', ls', st', M')) : M' = M := by
  unfold am_step at h
  split at h <;> first
    | (cases ok; done)
    | (cases h; done)
    | (cases h; rfl)
    | (obtain ⟨_, _, _, _, _, rfl⟩ := am_ld0 h; rfl)
    | (obtain ⟨_, _, _, _, _, rfl⟩ := am_ld1 h; rfl)
    | (rcases am_ld2 h with ⟨_, _, _, _, _, rfl⟩ | ⟨_, _, _, _, rfl⟩ <;> rfl)
    | (obtain ⟨_, _, _, _, _, _, rfl⟩ := am_st0 h; rfl)
    | (obtain ⟨_, _, _, _, _, _, rfl⟩ := am_st1 h; rfl)
    | (obtain ⟨_, _, _, _, _, _, _, rfl⟩ := am_st2 h; rfl)
    | (obtain ⟨_, _, _, _, _, rfl⟩ := am_ldE h; rfl)
    | (split at h <;> first | (cases h; rfl) | (obtain ⟨_, _, h2⟩ := Option.map_eq_some_iff.mp h; cases h2; rfl) | cases h)
set_option maxHeartbeats 4000000 in
theorem av_Fe {S : av_S} (H : ∀ p k q, am_MR p k = some q → S.1 p k = some q) {cont : Nat → List Value → List Value → av_N → Option av_Q} {ins : Instr} {aux : List Nat} {i : Nat} {ls st : List Value} {N : av_N} {q : av_Q} (h : av_F S cont ins aux i ls st N = some q) : ∃ (i' : Nat) (ls' st' : List Value) (N' : av_N), am_step ins aux i ls st (N.1, N.2, S) = some (i', ls', st', N'.1, N'.2, S) ∧ cont i' ls' st' N' = some q := by
  have k0 : av_k 0 = 0 := by decide
  unfold av_F at h
  split at h
  · exact ⟨_, _, _, _, rfl, h⟩
  · obtain ⟨hb, h⟩ := av_ttE h
    refine ⟨_, _, _, N, ?_, h⟩
    rw [← av_b8 hb]
    rfl
  · obtain ⟨hb, h⟩ := av_ttE h
    refine ⟨_, _, _, N, ?_, h⟩
    rw [← av_b16 hb]
    rfl
  · split at h
    next hk =>
      refine ⟨_, _, _, N, ?_, h⟩
      show am_ldL ls _ _ i _ 0 = _
      unfold am_ldL
      rw [hk]
      rfl
    · cases h
  · split at h
    next hk =>
      refine ⟨_, _, _, N, ?_, h⟩
      show am_ldL ls _ _ i _ 0 = _
      unfold am_ldL
      rw [hk]
      rfl
    · cases h
  · split at h
    next hk =>
      refine ⟨_, _, _, N, ?_, h⟩
      show am_ldL ls _ _ i _ 2 = _
      unfold am_ldL
      rw [hk]
      rfl
    next hk =>
      refine ⟨_, _, _, N, ?_, h⟩
      show am_ldL ls _ _ i _ 2 = _
      unfold am_ldL
      rw [hk]
      rfl
    · cases h
  · split at h
    next hk =>
      refine ⟨_, _, _, N, ?_, h⟩
      show am_ldL ls _ _ i _ 2 = _
      unfold am_ldL
      rw [hk]
      rfl
    next hk =>
      refine ⟨_, _, _, N, ?_, h⟩
      show am_ldL ls _ _ i _ 2 = _
      unfold am_ldL
      rw [hk]
      rfl
    · cases h
  · exact ⟨_, _, _, _, rfl, h⟩
  · exact ⟨_, _, _, _, rfl, h⟩
  · obtain ⟨hy, h⟩ := av_nzE h
    exact ⟨_, _, _, N, if_neg hy, h⟩
  · obtain ⟨hy, h⟩ := av_nzE h
    exact ⟨_, _, _, N, if_neg hy, h⟩
  · rw [av_ifE, k0] at h
    refine ⟨_, _, _, N, rfl, ?_⟩
    split at h
    next hc => rw [if_pos hc]; exact h
    next hc => rw [if_neg hc]; exact h
  · rw [av_ifE] at h
    refine ⟨_, _, _, N, rfl, ?_⟩
    split at h
    next hc => rw [if_pos hc]; exact h
    next hc => rw [if_neg hc]; exact h
  · obtain ⟨hb, h⟩ := av_ttE h
    rw [Bool.and_eq_true, Bool.and_eq_true, decide_eq_true_eq] at hb
    have r1 := av_rngE hb.2.1
    have r2 := av_rngE hb.2.2
    rw [av_swF hb.1 r1.1 r2.2] at h
    exact ⟨_, _, _, N, rfl, h⟩
  · obtain ⟨hb, h⟩ := av_ttE h
    rw [av_lkE _ _ _ _ _ hb] at h
    exact ⟨_, _, _, N, rfl, h⟩
  · obtain ⟨ht, h⟩ := av_tgE h
    split at h
    next hf =>
      refine ⟨_, _, _, N, ?_, h⟩
      show (if (S.2.1 _).1 = _ then _ else none) = _
      rw [if_pos ht, hf]
      rfl
    next hf =>
      obtain ⟨q', h1, h2⟩ := Option.bind_eq_some_iff.mp h
      refine ⟨_, _, _, N, ?_, h2⟩
      show (if (S.2.1 _).1 = _ then some (_, _, am_rd (fun q => q) (N.1, N.2, S) _ _ _ :: _, _) else none) = _
      rw [if_pos ht, hf]
      show some (_, _, va_rf ((S.1 _ _).map fun q => q) :: _, _) = _
      rw [H _ _ _ h1]
      rfl
    next hf =>
      obtain ⟨q', h1, h2⟩ := Option.bind_eq_some_iff.mp h
      refine ⟨_, _, _, N, ?_, h2⟩
      show (if (S.2.1 _).1 = _ then some (_, _, am_rd (fun q => q) (N.1, N.2, S) _ _ _ :: _, _) else none) = _
      rw [if_pos ht, hf]
      show some (_, _, va_rf ((S.1 _ _).map fun q => q) :: _, _) = _
      rw [H _ _ _ h1]
      rfl
    next n1 n2 n3 =>
      refine ⟨_, _, _, N, ?_, h⟩
      show (if (S.2.1 _).1 = _ then some (_, _, am_rd (fun q => q) (N.1, N.2, S) _ _ _ :: _, _) else none) = _
      rw [if_pos ht]
      generalize am_fty _ _ = ty at n1 n2 n3 ⊢
      cases ty <;> first | rfl | exact (n1 rfl).elim | exact (n2 _ rfl).elim | exact (n3 _ rfl).elim
  · obtain ⟨ht, h⟩ := av_tgE h
    split at h
    next hf _ =>
      refine ⟨_, _, _, _, ?_, h⟩
      show (if (S.2.1 _).1 = _ ∧ am_okv _ _ = true then _ else none) = _
      rw [if_pos ⟨ht, by rw [hf]; rfl⟩]
      rfl
    next hf _ =>
      refine ⟨_, _, _, _, ?_, h⟩
      show (if (S.2.1 _).1 = _ ∧ am_okv _ _ = true then _ else none) = _
      rw [if_pos ⟨ht, by rw [hf]; rfl⟩]
      rfl
    next hf _ =>
      obtain ⟨hx, h⟩ := av_btE h
      refine ⟨_, _, _, _, ?_, h⟩
      show (if (S.2.1 _).1 = _ ∧ am_okv _ _ = true then _ else none) = _
      rw [if_pos ⟨ht, by rw [hf]; rcases hx with rfl | rfl <;> rfl⟩]
      rfl
    · cases h
  · obtain ⟨ht, h⟩ := av_tgE h
    obtain ⟨hg, h⟩ := av_gxE h
    refine ⟨_, _, _, N, ?_, h⟩
    show am_ld _ _ _ _ _ _ _ _ = _
    unfold am_ld
    show (if (S.2.1 _).1 = _ then _ else _) = _
    rw [if_pos ht, av_badF hg]
    rfl
  · obtain ⟨ht, h⟩ := av_tgE h
    obtain ⟨hg, h⟩ := av_gxE h
    refine ⟨_, _, _, N, ?_, h⟩
    show am_ld _ _ _ _ _ _ _ _ = _
    unfold am_ld
    show (if (S.2.1 _).1 = _ then _ else _) = _
    rw [if_pos ht, av_badF hg]
    rfl
  · obtain ⟨ht, h⟩ := av_tgE h
    obtain ⟨hg, h⟩ := av_gxE h
    refine ⟨_, _, _, N, ?_, h⟩
    show am_ld _ _ _ _ _ _ _ _ = _
    unfold am_ld
    show (if (S.2.1 _).1 = _ then _ else _) = _
    rw [if_pos ht, av_badF hg]
    rfl
  · obtain ⟨ht, h⟩ := av_tgE h
    obtain ⟨hg, h⟩ := av_gxE h
    obtain ⟨q', h1, h2⟩ := Option.bind_eq_some_iff.mp h
    refine ⟨_, _, _, N, ?_, h2⟩
    show am_ld _ _ _ _ _ _ _ _ = _
    unfold am_ld
    show (if (S.2.1 _).1 = _ then _ else _) = _
    rw [if_pos ht, av_badF hg]
    show some (_, _, va_rf (S.1 _ _) :: _, _) = _
    rw [H _ _ _ h1]
    rfl
  · obtain ⟨hp, h⟩ := av_geE h
    obtain ⟨ht, h⟩ := av_tgE h
    obtain ⟨hg, h⟩ := av_gxE h
    refine ⟨_, _, _, _, ?_, h⟩
    show am_sv _ _ _ _ _ _ _ _ = _
    unfold am_sv
    rw [if_pos ⟨ht, hp⟩, av_badF hg]
    rfl
  · obtain ⟨hp, h⟩ := av_geE h
    obtain ⟨ht, h⟩ := av_tgE h
    obtain ⟨hg, h⟩ := av_gxE h
    refine ⟨_, _, _, _, ?_, h⟩
    show am_sv _ _ _ _ _ _ _ _ = _
    unfold am_sv
    rw [if_pos ⟨ht, hp⟩, av_badF hg]
    rfl
  · obtain ⟨hp, h⟩ := av_geE h
    obtain ⟨ht, h⟩ := av_tgE h
    obtain ⟨hg, h⟩ := av_gxE h
    refine ⟨_, _, _, _, ?_, h⟩
    show am_sv _ _ _ _ _ _ _ _ = _
    unfold am_sv
    rw [if_pos ⟨ht, hp⟩, av_badF hg]
    rfl
  · obtain ⟨ht, h⟩ := av_alE h
    exact ⟨_, _, _, N, if_pos ht, h⟩
  · split at h
    · cases h
    next hok =>
      split at h
      next hs =>
        have e := av_okE hok hs
        refine ⟨_, _, _, N, by rw [hs, e], ?_⟩
        split at h
        · rw [av_nfE] at h
          exact h
        · exact h
      · cases h
theorem av_callE {S : av_S} {cont : List Value → av_N → Option av_Q} {d mi : Nat} {as rest : List Value} {N : av_N} {q : av_Q} (h : av_call (av_C S) cont d mi as rest N = some q) :
    ∃ (d' : Nat) (inf : am_I) (v : Option Value) (N1 : av_N), d = d' + 1 ∧ am_P mi = some inf ∧ (am_lay as).length ≤ inf.2.2.1 ∧ (rest.map fun v => v.category).sum ≤ 8 ∧ av_C S d' mi as N = some (v, N1) ∧ cont (v.toList ++ rest) N1 = some q := by
  unfold av_call at h
  split at h
  next d' inf hP =>
    split at h
    next hb =>
      rw [Bool.and_eq_true] at hb
      have b1 := Nat.le_of_ble_eq_true hb.1
      have b2 := Nat.le_of_ble_eq_true hb.2
      split at h
      · unfold av_bv at h
        split at h
        next hc => exact ⟨d', inf, _, _, rfl, hP, b1, b2, hc, h⟩
        · cases h
      · unfold av_bl at h
        split at h
        next hc => exact ⟨d', inf, _, _, rfl, hP, b1, b2, hc, h⟩
        · cases h
      · unfold av_br at h
        split at h
        next hc => exact ⟨d', inf, _, _, rfl, hP, b1, b2, hc, h⟩
        next hc => exact ⟨d', inf, _, _, rfl, hP, b1, b2, hc, h⟩
        · cases h
      · unfold av_bi at h
        split at h
        next hc => exact ⟨d', inf, _, _, rfl, hP, b1, b2, hc, h⟩
        · cases h
    · cases h
  · cases h
theorem av_R_step {S : av_S} {d : Nat} {co : List am_A} {i : Nat} {ls st : List Value} {N : av_N} {q : av_Q} {pc : Nat} {ins : Instr} {aux : List Nat} (hi : co[i]? = some (pc, ins, aux)) (hr : am_isRet ins = false) (hv : am_isInv ins = false) {i' : Nat} {ls' st' : List Value} {N' : av_N} (hs : am_step ins aux i ls st (N.1, N.2, S) = some (i', ls', st', N'.1, N'.2, S)) (h : av_R S d co i' ls' st' N' q) : av_R S d co i ls st N q := by
  obtain ⟨n, h⟩ := h
  refine ⟨n + 1, ?_⟩
  unfold am_run
  rw [hi]
  dsimp only
  rw [if_neg (by rw [hr]; decide), if_neg (by rw [hv]; decide), hs]
  exact h
theorem av_R_call {S : av_S} {d' : Nat} {co : List am_A} {i : Nat} {ls st : List Value} {N : av_N} {q : av_Q} {pc : Nat} {ins : Instr} {aux : List Nat} (hi : co[i]? = some (pc, ins, aux)) (hr : am_isRet ins = false) (hv : am_isInv ins = true) {mi : Nat} {as rest : List Value} (hc : am_call aux st (N.1, N.2, S) = some (mi, as, rest)) {inf : am_I} (hP : am_P mi = some inf) (hl : (am_lay as).length ≤ inf.2.2.1) {v : Option Value} {N1 : av_N} (hC : av_C S d' mi as N = some (v, N1)) (h : av_R S (d' + 1) co (i + 1) ls (v.toList ++ rest) N1 q) : av_R S (d' + 1) co i ls st N q := by
  obtain ⟨n, h⟩ := h
  unfold av_C at hC
  rw [hP] at hC
  obtain ⟨n', h'⟩ := av_V_R hC
  refine ⟨n + n' + 1, ?_⟩
  unfold am_run
  rw [hi]
  dsimp only
  rw [if_neg (by rw [hr]; decide), if_pos hv, hc]
  dsimp only
  rw [hP]
  dsimp only
  rw [if_pos hl, am_run_fuel am_P n' (n + n') _ _ _ _ _ _ _ (by omega) h']
  exact am_run_fuel am_P n (n + n') _ _ _ _ _ _ _ (by omega) h
theorem av_R_prim {S : av_S} {d' : Nat} {co : List am_A} {i : Nat} {ls st : List Value} {N : av_N} {q : av_Q} {pc : Nat} {ins : Instr} {aux : List Nat} (hi : co[i]? = some (pc, ins, aux)) (hr : am_isRet ins = false) (hv : am_isInv ins = true) (hc : am_call aux st (N.1, N.2, S) = none) {i' : Nat} {ls' st' : List Value} {N' : av_N} (hp : am_prim aux i ls st (N.1, N.2, S) = some (i', ls', st', N'.1, N'.2, S)) (h : av_R S (d' + 7) co i' ls' st' N' q) : av_R S (d' + 7) co i ls st N q := by
  obtain ⟨n, h⟩ := h
  refine ⟨n + 1, ?_⟩
  unfold am_run
  rw [hi]
  dsimp only
  rw [if_neg (by rw [hr]; decide), if_pos hv, hc]
  dsimp only
  rw [hp]
  exact h
theorem av_cnone {kd : Nat} {tl : List Nat} {st : List Value} {M : am_M} (h : 4 ≤ kd) : am_call (kd :: tl) st M = none := by
  unfold am_call
  split
  next e => injection e with e1 e2; omega
  next e => injection e with e1 e2; rw [if_neg (by omega)]
  · rfl
theorem av_retE {ins : Instr} {aux : List Nat} {st : List Value} {N : av_N} {q : av_Q} (h : av_ret ins aux st N = some q) : am_ret ins aux st = some q.1 ∧ q.2 = N := by
  unfold av_ret at h
  split at h
  · cases h; exact ⟨rfl, rfl⟩
  · cases h; exact ⟨rfl, rfl⟩
  · obtain ⟨hx, h⟩ := av_btE h
    cases h
    exact ⟨if_pos hx, rfl⟩
  · cases h; exact ⟨rfl, rfl⟩
  · cases h; exact ⟨rfl, rfl⟩
  · cases h; exact ⟨rfl, rfl⟩
  · cases h
set_option maxHeartbeats 4000000 in
theorem av_GE {S : av_S} (H : ∀ p k q, am_MR p k = some q → S.1 p k = some q) {cont : Nat → List Value → List Value → av_N → Option av_Q} {d : Nat} {co : List am_A} {i : Nat} {ls st : List Value} {N : av_N} {q : av_Q} (h : av_G S (av_C S) cont d co i ls st N = some q) (hcont : ∀ i ls st N q, cont i ls st N = some q → av_V S d co i ls st N = some q) : av_V S d co i ls st N = some q := by
  apply av_V_of
  unfold av_G at h
  split at h
  · cases h
  next pc ins aux hi =>
    split at h
    next hr =>
      obtain ⟨e1, e2⟩ := av_retE h
      refine ⟨1, ?_⟩
      unfold am_run
      rw [hi]
      dsimp only
      rw [if_pos hr, e1, e2]
      rfl
    next hr =>
      split at h
      next hv =>
        unfold av_inv at h
        split at h
        · split at h
          next hb =>
            obtain ⟨d', inf, v, N1, rfl, hP, hl, hs, hC, h⟩ := av_callE h
            exact av_R_call hi hr hv (if_pos ⟨Nat.le_of_ble_eq_true hb, hs⟩) hP hl hC (av_V_R (hcont _ _ _ _ _ h))
          · cases h
        · split at h
          · obtain ⟨t1, h⟩ := av_tgE h
            obtain ⟨t2, h⟩ := av_tgE h
            obtain ⟨r1, h⟩ := av_geE h
            obtain ⟨r2, h⟩ := av_geE h
            unfold av_gc at h
            split at h
            next hg =>
              obtain ⟨hs, h⟩ := av_ttE h
              have hs := Nat.le_of_ble_eq_true hs
              split at h
              · refine av_R_prim hi hr hv (av_cnone (by decide)) ?_ (av_V_R (hcont _ _ _ _ _ h))
                exact if_pos ⟨t1, t2, r1, r2, hg.1, hg.2.1, hg.2.2.1, hg.2.2.2.1, hg.2.2.2.2, hs⟩
              · refine av_R_prim hi hr hv (av_cnone (by decide)) ?_ (av_V_R (hcont _ _ _ _ _ h))
                exact if_pos ⟨t1, t2, r1, r2, hg.1, hg.2.1, hg.2.2.1, hg.2.2.2.1, hg.2.2.2.2, hs⟩
              · cases h
            · cases h
          · cases h
        · split at h
          · obtain ⟨t1, h⟩ := av_tgE h
            obtain ⟨hg, h⟩ := av_gxE h
            obtain ⟨hs, h⟩ := av_ttE h
            have hs := Nat.le_of_ble_eq_true hs
            refine av_R_prim (N' := N) hi hr hv (av_cnone (by decide)) ?_ (av_V_R (hcont _ _ _ _ _ h))
            refine Eq.trans (if_pos (And.intro t1 hs)) ?_
            rw [av_badF hg]
            rfl
          · cases h
        · split at h
          · obtain ⟨t1, h⟩ := av_tgE h
            obtain ⟨hs, h⟩ := av_ttE h
            have hs := Nat.le_of_ble_eq_true hs
            refine av_R_prim (N' := N) hi hr hv (av_cnone (by decide)) ?_ (av_V_R (hcont _ _ _ _ _ h))
            exact if_pos ⟨t1, hs⟩
          · cases h
        · rename_i n1 n5 n6 n7
          split at h
          next hb =>
            rw [Bool.and_eq_true] at hb
            have b1 := Nat.le_of_ble_eq_true hb.1
            have b2 := Nat.le_of_ble_eq_true hb.2
            split at h
            next hdr =>
              obtain ⟨t1, h⟩ := av_tgE h
              obtain ⟨d', inf, v, N1, rfl, hP, hl, hs, hC, h⟩ := av_callE h
              refine av_R_call hi hr hv ?_ hP hl hC (av_V_R (hcont _ _ _ _ _ h))
              unfold am_call
              split
              next e => injection e with e1 e2; injection e2 with e2 e3; injection e3 with e3 e4; first | exact (n1 e1).elim | exact (n1 _ _ _ e).elim
              next e =>
                injection e with e1 e2
                injection e2 with e2 e3
                injection e3 with e3 e4
                injection e4 with e4 e5
                subst e1 e2 e3 e4
                rw [if_pos (by omega), hdr]
                exact if_pos ⟨b2, t1, hs⟩
              next e1 e2 => exact (e2 _ _ _ _ _ rfl).elim
            · cases h
          · cases h
        · cases h
      next hv =>
        obtain ⟨i', ls', st', N', hs, h⟩ := av_Fe H h
        exact av_R_step hi hr hv hs (av_V_R (hcont _ _ _ _ _ h))
theorem av_TE {S : av_S} (H : ∀ p k q, am_MR p k = some q → S.1 p k = some q) {cut : List Nat} {d : Nat} {co : List am_A} : ∀ (n i : Nat) (ls st : List Value) (N : av_N) (q : av_Q), av_T S cut d co n i ls st N = some q → av_V S d co i ls st N = some q := by
  intro n
  induction n with
  | zero => intro i ls st N q h; exact h
  | succ n ih =>
    intro i ls st N q h
    refine av_GE H (cont := fun i ls st N => match cut.elem i with
      | true => av_V S d co i ls st N
      | false => av_T S cut d co n i ls st N) h ?_
    intro i ls st N q h
    split at h
    · exact h
    · exact ih _ _ _ _ _ h
