theorem am_tgtE {co : List am_A} {pc t : Nat} {off : Int} (h : am_tgt co pc off t = true) : ∃ q : Nat, am_pc co t = some q ∧ (pc : Int) + off = (q : Int) := by
  unfold am_tgt at h
  cases hc : co[t]? with
  | none => rw [hc] at h; cases h
  | some a =>
    rw [hc] at h
    exact ⟨a.1, by simp [am_pc, hc], by simpa using h⟩
theorem am_ld0 {ls st : List Value} {j i : Nat} {M : am_M} {i' : Nat} {ls' st' : List Value} {M' : am_M} (h : am_ldL ls st j i M 0 = some (i', ls', st', M')) : ∃ x : Int32, ls[j]? = some (.int x) ∧ i' = i + 1 ∧ ls' = ls ∧ st' = .int x :: st ∧ M' = M := by
  unfold am_ldL at h
  split at h <;> first | (cases h; exact ⟨_, by assumption, rfl, rfl, rfl, rfl⟩) | (rename_i q; cases q) | cases h
theorem am_ld1 {ls st : List Value} {j i : Nat} {M : am_M} {i' : Nat} {ls' st' : List Value} {M' : am_M} (h : am_ldL ls st j i M 1 = some (i', ls', st', M')) : ∃ x : Int64, ls[j]? = some (.long x) ∧ i' = i + 1 ∧ ls' = ls ∧ st' = .long x :: st ∧ M' = M := by
  unfold am_ldL at h
  split at h <;> first | (cases h; exact ⟨_, by assumption, rfl, rfl, rfl, rfl⟩) | (rename_i q; cases q) | cases h
theorem am_ld2 {ls st : List Value} {j i : Nat} {M : am_M} {i' : Nat} {ls' st' : List Value} {M' : am_M} (h : am_ldL ls st j i M 2 = some (i', ls', st', M')) : (∃ x : Nat, ls[j]? = some (.ref x) ∧ i' = i + 1 ∧ ls' = ls ∧ st' = .ref x :: st ∧ M' = M) ∨ (ls[j]? = some .null ∧ i' = i + 1 ∧ ls' = ls ∧ st' = .null :: st ∧ M' = M) := by
  unfold am_ldL at h
  split at h <;> first | (cases h; exact Or.inl ⟨_, by assumption, rfl, rfl, rfl, rfl⟩) | (cases h; exact Or.inr ⟨by assumption, rfl, rfl, rfl, rfl⟩) | (rename_i q; cases q) | cases h
theorem am_st0 {ls st : List Value} {j i : Nat} {M : am_M} {i' : Nat} {ls' st' : List Value} {M' : am_M} (h : am_stL ls st j i M 0 = some (i', ls', st', M')) : ∃ (x : Int32) (st0 : List Value), st = .int x :: st0 ∧ am_set1 ls j (.int x) = some ls' ∧ i' = i + 1 ∧ st' = st0 ∧ M' = M := by
  unfold am_stL at h
  split at h <;> first | (obtain ⟨a, h1, h2⟩ := Option.map_eq_some_iff.mp h; cases h2; exact ⟨_, _, rfl, h1, rfl, rfl, rfl⟩) | (rename_i q; cases q) | cases h
theorem am_st1 {ls st : List Value} {j i : Nat} {M : am_M} {i' : Nat} {ls' st' : List Value} {M' : am_M} (h : am_stL ls st j i M 1 = some (i', ls', st', M')) : ∃ (x : Int64) (st0 : List Value), st = .long x :: st0 ∧ am_set2 ls j (.long x) = some ls' ∧ i' = i + 1 ∧ st' = st0 ∧ M' = M := by
  unfold am_stL at h
  split at h <;> first | (obtain ⟨a, h1, h2⟩ := Option.map_eq_some_iff.mp h; cases h2; exact ⟨_, _, rfl, h1, rfl, rfl, rfl⟩) | (rename_i q; cases q) | cases h
theorem am_st2 {ls st : List Value} {j i : Nat} {M : am_M} {i' : Nat} {ls' st' : List Value} {M' : am_M} (h : am_stL ls st j i M 2 = some (i', ls', st', M')) : ∃ (v : Value) (st0 : List Value), (v = .null ∨ ∃ x, v = .ref x) ∧ st = v :: st0 ∧ am_set1 ls j v = some ls' ∧ i' = i + 1 ∧ st' = st0 ∧ M' = M := by
  unfold am_stL at h
  split at h <;> first | (obtain ⟨a, h1, h2⟩ := Option.map_eq_some_iff.mp h; cases h2; exact ⟨_, _, Or.inr ⟨_, rfl⟩, rfl, h1, rfl, rfl, rfl⟩) | (obtain ⟨a, h1, h2⟩ := Option.map_eq_some_iff.mp h; cases h2; exact ⟨_, _, Or.inl rfl, rfl, h1, rfl, rfl, rfl⟩) | (rename_i q; cases q) | cases h
theorem am_ldE {M : am_M} {tag p : Nat} {i : Int32} {v : Value} {ls st : List Value} {pc i' : Nat} {ls' st' : List Value} {M' : am_M} (h : am_ld M tag p i v ls st pc = some (i', ls', st', M')) : (am_sh M p).1 = tag ∧ am_bad M p i = false ∧ i' = pc + 1 ∧ ls' = ls ∧ st' = v :: st ∧ M' = M := by
  unfold am_ld at h
  split at h
  next h1 =>
    split at h
    · cases h
    next h2 =>
      cases h
      exact ⟨h1, by simpa using h2, rfl, rfl, rfl, rfl⟩
  · cases h
theorem am_svE {M : am_M} {tag p : Nat} {i : Int32} {v : Value} {ls st : List Value} {pc i' : Nat} {ls' st' : List Value} {M' : am_M} (h : am_sv M tag p i v ls st pc = some (i', ls', st', M')) : (am_sh M p).1 = tag ∧ am_R0 ≤ p ∧ am_bad M p i = false ∧ i' = pc + 1 ∧ ls' = ls ∧ st' = st ∧ M' = am_wr M p i.toNatClampNeg v := by
  unfold am_sv at h
  split at h
  next h1 =>
    split at h
    · cases h
    next h2 =>
      cases h
      exact ⟨h1.1, h1.2, by simpa using h2, rfl, rfl, rfl, rfl⟩
  · cases h
theorem am_lt {α : Type} {P : α → Prop} {a : α} {locs : List α} (h : ∀ q ∈ locs, P q) (ha : P a) : ∀ q ∈ locs ++ [a], P q := by
  intro q hq
  rcases List.mem_append.mp hq with h1 | h1
  · exact h q h1
  · rw [List.mem_singleton] at h1
    rw [h1]
    exact ha
theorem am_lookE : ∀ (ps : List (Int × Int)) (ts : List Nat) (d : Int) (t : Nat) (x : Int) (co : List am_A) (pc : Nat), am_tgt co pc d t = true → am_zipT co pc (ps.map fun q => q.2) ts = true → ∃ q : Nat, am_pc co (am_look ps ts t x) = some q ∧ (pc : Int) + Op.lookupswitch.offset ps d x = (q : Int) := by
  intro ps
  induction ps with
  | nil =>
    intro ts d t x co pc h1 h2
    cases ts with
    | nil => exact am_tgtE h1
    | cons a ts => cases h2
  | cons a ps ih =>
    intro ts d t x co pc h1 h2
    cases ts with
    | nil => cases h2
    | cons u ts =>
      rw [List.map_cons] at h2
      unfold am_zipT at h2
      rw [Bool.and_eq_true] at h2
      unfold am_look Op.lookupswitch.offset
      by_cases e : x = a.1
      · rw [if_pos e, if_pos e.symm]
        exact am_tgtE h2.1
      · rw [if_neg e, if_neg (fun z => e z.symm)]
        exact ih ts d t x co pc h1 h2.2
theorem am_zipE : ∀ (os : List Int) (ts : List Nat) (co : List am_A) (pc n : Nat), am_zipT co pc os ts = true → n < ts.length → ∃ (o : Int) (q : Nat), os[n]? = some o ∧ am_pc co (ts.getD n 0) = some q ∧ (pc : Int) + o = (q : Int) := by
  intro os
  induction os with
  | nil =>
    intro ts co pc n h hn
    cases ts with
    | nil => simp at hn
    | cons a ts => cases h
  | cons o os ih =>
    intro ts co pc n h hn
    cases ts with
    | nil => cases h
    | cons u ts =>
      unfold am_zipT at h
      rw [Bool.and_eq_true] at h
      cases n with
      | zero =>
        obtain ⟨q, h1, h2⟩ := am_tgtE h.1
        exact ⟨o, q, rfl, h1, h2⟩
      | succ n =>
        obtain ⟨o', q, h1, h2, h3⟩ := ih ts co pc n h.2 (by simpa using hn)
        exact ⟨o', q, by simpa using h1, by simpa using h2, h3⟩
section AMS
variable {p : Program} {l : Launch} {e : Env} {R : Room} {s : State} {m : MethodId} {args : Array Value} {below : List Frame} {meth : Method} {c : Code} {H : Heap} {locs : List Loc} {cells slots : Nat} {Q : State → Prop}
variable {cc : ByteArray} {pc : Nat} {arr : Array Slot} {rest : List Value} {D : va_G} {ct : Nat → ClassId} {ro : Nat → Nat} {b : Nat} {s0 : State} {L : Nat} {xs : Nat → Int32} {M : am_M} {own nm : String} {ret : Option FieldType} {co : List am_A}
theorem am_Wif0 (hx : p.tables.exec = Jvm.exec) (hb : c.code = cc) {cd : Jvm.ClassFile.Cond} {off : Int} {x : Int32} {tgt i t : Nat} (hdg : decode cc pc = .ok (.ifCond cd off, 3)) (ht : (pc : Int) + off = (tgt : Int)) (h1 : am_pc co t = some tgt) (h2 : am_pc co (i + 1) = some (pc + 3))
    (kk : ∀ pc', am_pc co (if am_cond cd x 0 then t else i + 1) = some pc' → W p l e R s m args below meth c H locs cells slots Q (F0 m pc' arr rest)) : W p l e R s m args below meth c H locs cells slots Q (F0 m pc arr (.int x :: rest)) := by
  cases cd with
  | eq => exact lv_if_eq hx hb hdg ht (fun z => kk _ (by simp [am_cond, z, h1])) (fun z => kk _ (by simp [am_cond, z, h2]))
  | ne => exact lv_if_ne hx hb hdg ht (fun z => kk _ (by simp [am_cond, z, h1])) (fun z => kk _ (by simp [am_cond, z, h2]))
  | lt => exact lv_if_lt hx hb hdg ht (fun z => kk _ (by rw [show am_cond .lt x 0 = true from decide_eq_true z]; exact h1)) (fun z => kk _ (by rw [show am_cond .lt x 0 = false from decide_eq_false z]; exact h2))
  | ge => exact lv_if_ge hx hb hdg ht (fun z => kk _ (by rw [show am_cond .ge x 0 = true from decide_eq_true z]; exact h1)) (fun z => kk _ (by rw [show am_cond .ge x 0 = false from decide_eq_false z]; exact h2))
  | gt => exact lv_if_gt hx hb hdg ht (fun z => kk _ (by rw [show am_cond .gt x 0 = true from decide_eq_true z]; exact h1)) (fun z => kk _ (by rw [show am_cond .gt x 0 = false from decide_eq_false z]; exact h2))
  | le => exact lv_if_le hx hb hdg ht (fun z => kk _ (by rw [show am_cond .le x 0 = true from decide_eq_true z]; exact h1)) (fun z => kk _ (by rw [show am_cond .le x 0 = false from decide_eq_false z]; exact h2))
theorem am_Wif2 (hx : p.tables.exec = Jvm.exec) (hb : c.code = cc) {cd : Jvm.ClassFile.Cond} {off : Int} {x y : Int32} {tgt i t : Nat} (hdg : decode cc pc = .ok (.if_icmp cd off, 3)) (ht : (pc : Int) + off = (tgt : Int)) (h1 : am_pc co t = some tgt) (h2 : am_pc co (i + 1) = some (pc + 3))
    (kk : ∀ pc', am_pc co (if am_cond cd x y then t else i + 1) = some pc' → W p l e R s m args below meth c H locs cells slots Q (F0 m pc' arr rest)) : W p l e R s m args below meth c H locs cells slots Q (F0 m pc arr (.int y :: .int x :: rest)) := by
  cases cd with
  | eq => exact lv_icmp_eq hx hb hdg ht (fun z => kk _ (by simp [am_cond, z, h1])) (fun z => kk _ (by simp [am_cond, z, h2]))
  | ne => exact lv_icmp_ne hx hb hdg ht (fun z => kk _ (by simp [am_cond, z, h1])) (fun z => kk _ (by simp [am_cond, z, h2]))
  | lt => exact lv_icmp_lt hx hb hdg ht (fun z => kk _ (by rw [show am_cond .lt x y = true from decide_eq_true z]; exact h1)) (fun z => kk _ (by rw [show am_cond .lt x y = false from decide_eq_false z]; exact h2))
  | ge => exact lv_icmp_ge hx hb hdg ht (fun z => kk _ (by rw [show am_cond .ge x y = true from decide_eq_true z]; exact h1)) (fun z => kk _ (by rw [show am_cond .ge x y = false from decide_eq_false z]; exact h2))
  | gt => exact lv_icmp_gt hx hb hdg ht (fun z => kk _ (by rw [show am_cond .gt x y = true from decide_eq_true z]; exact h1)) (fun z => kk _ (by rw [show am_cond .gt x y = false from decide_eq_false z]; exact h2))
  | le => exact lv_icmp_le hx hb hdg ht (fun z => kk _ (by rw [show am_cond .le x y = true from decide_eq_true z]; exact h1)) (fun z => kk _ (by rw [show am_cond .le x y = false from decide_eq_false z]; exact h2))
set_option maxHeartbeats 8000000 in
theorem am_simple (hx : p.tables.exec = Jvm.exec) (hb : c.code = cc) (C : am_C0 D ct ro b s0 L xs) (hW : s0.WarmedH s.vm) (hown : s.vm.findClass own = some m.cls) (hnm : nm = "<init>" → meth.name = "<init>") (hG : am_G D ct ro s0 L xs M H) {ls : List Value} {nL : Nat} (hlr : am_lr (am_ad s0 ro) ls arr nL) (hlo : ∀ q ∈ locs, s0.heap.size ≤ q.base)
    {i : Nat} {ins : Instr} {aux : List Nat} {st : List Value} (hd : decode cc pc = .ok (ins, am_len ins aux)) (hf : am_falls ins = true → am_pc co (i + 1) = some (pc + am_len ins aux)) (hk : am_chkI own nm ret co pc ins aux = true)
    {i' : Nat} {ls' st' : List Value} {M' : am_M} (h : am_step ins aux i ls st M = some (i', ls', st', M')) {c0 u0 : Nat} (hc0 : c0 ≤ am_nx M) (hu0 : u0 ≤ am_us M) (hc : am_nx M' - c0 ≤ R.cells) (hs : am_us M' - u0 ≤ R.slots)
    (kk : ∀ (H' : Heap) (locs' : List Loc) (arr' : Array Slot) (pc' : Nat), am_pc co i' = some pc' → am_G D ct ro s0 L xs M' H' → am_lr (am_ad s0 ro) ls' arr' nL → (∀ q ∈ locs', s0.heap.size ≤ q.base) →
      W p l e R s m args below meth c H' locs' (am_nx M' - c0) (am_us M' - u0) Q (F0 m pc' arr' (st'.map (am_cv (am_ad s0 ro))))) :
    W p l e R s m args below meth c H locs (am_nx M - c0) (am_us M - u0) Q (F0 m pc arr (st.map (am_cv (am_ad s0 ro)))) := by
  have adW : ∀ q, am_R0 ≤ q → s0.heap.size ≤ am_ad s0 ro q := fun q hq => by rw [am_adW hq]; omega
  unfold am_step at h
  split at h
  case h_1 =>
    cases h
    exact lv_iconst hx hb hd rfl (kk _ _ _ _ (hf rfl) hG hlr hlo)
  case h_2 =>
    cases h
    exact lv_bipush hx hb hd rfl (kk _ _ _ _ (hf rfl) hG hlr hlo)
  case h_3 =>
    cases h
    exact lv_sipush hx hb hd rfl (kk _ _ _ _ (hf rfl) hG hlr hlo)
  case h_4 =>
    cases h
    exact lv_lconst hx hb hd rfl (kk _ _ _ _ (hf rfl) hG hlr hlo)
  case h_5 =>
    cases h
    exact lv_null hx hb hd (kk _ _ _ _ (hf rfl) hG hlr hlo)
  case h_6 =>
    cases h
    exact lv_ldc hx hb hown (am_word C hW hk rfl args) hd (kk _ _ _ _ (hf rfl) hG hlr hlo)
  case h_7 =>
    cases h
    simp only [am_chkI, Bool.and_eq_true, decide_eq_true_eq] at hk
    exact am_Wldcs hx hb C hW hown hk.1.1.2 hk.1.2 hk.1.1.1 hk.2 hd (kk _ _ _ _ (hf rfl) hG hlr hlo)
  case h_8 =>
    cases h
    exact lv_ldcw hx hb hown (am_word C hW hk rfl args) hd (kk _ _ _ _ (hf rfl) hG hlr hlo)
  case h_9 =>
    cases h
    exact lv_ldc2 hx hb hown (am_word C hW hk rfl args) hd (kk _ _ _ _ (hf rfl) hG hlr hlo)
  case h_10 =>
    obtain ⟨x, h1, rfl, rfl, rfl, rfl⟩ := am_ld0 h
    exact lv_iload_n hx hb hd rfl (am_lget hlr h1 rfl) (kk _ _ _ _ (hf rfl) hG hlr hlo)
  case h_11 =>
    obtain ⟨x, h1, rfl, rfl, rfl, rfl⟩ := am_ld0 h
    exact lv_iload hx hb hd (am_lget hlr h1 rfl) (kk _ _ _ _ (hf rfl) hG hlr hlo)
  case h_12 =>
    obtain ⟨x, h1, rfl, rfl, rfl, rfl⟩ := am_ld1 h
    exact lv_lload_n hx hb hd rfl (am_lget hlr h1 rfl) (kk _ _ _ _ (hf rfl) hG hlr hlo)
  case h_13 =>
    obtain ⟨x, h1, rfl, rfl, rfl, rfl⟩ := am_ld1 h
    exact lv_lload hx hb hd (am_lget hlr h1 rfl) (kk _ _ _ _ (hf rfl) hG hlr hlo)
  case h_14 =>
    rcases am_ld2 h with ⟨x, h1, rfl, rfl, rfl, rfl⟩ | ⟨h1, rfl, rfl, rfl, rfl⟩
    · exact lv_aload_n hx hb hd rfl (am_lget hlr h1 rfl) (kk _ _ _ _ (hf rfl) hG hlr hlo)
    · exact lv_aload_nN hx hb hd rfl (am_lget hlr h1 rfl) (kk _ _ _ _ (hf rfl) hG hlr hlo)
  case h_15 =>
    rcases am_ld2 h with ⟨x, h1, rfl, rfl, rfl, rfl⟩ | ⟨h1, rfl, rfl, rfl, rfl⟩
    · exact lv_aload hx hb hd (am_lget hlr h1 rfl) (kk _ _ _ _ (hf rfl) hG hlr hlo)
    · exact lv_aloadN hx hb hd (am_lget hlr h1 rfl) (kk _ _ _ _ (hf rfl) hG hlr hlo)
  case h_16 =>
    obtain ⟨x, st0, rfl, h1, rfl, rfl, rfl⟩ := am_st0 h
    have hn := am_lset1i h1
    rw [hlr.2.2.1] at hn
    exact lv_istore_n hx hb hd rfl (am_lr_has hlr) hn rfl fun arr' hl => kk _ _ _ _ (hf rfl) hG (am_lset1 hlr.2.2.1 h1 hl).2 hlo
  case h_17 =>
    obtain ⟨x, st0, rfl, h1, rfl, rfl, rfl⟩ := am_st0 h
    have hn := am_lset1i h1
    rw [hlr.2.2.1] at hn
    exact lv_istore hx hb hd (am_lr_has hlr) hn rfl fun arr' hl => kk _ _ _ _ (hf rfl) hG (am_lset1 hlr.2.2.1 h1 hl).2 hlo
  case h_18 =>
    obtain ⟨x, st0, rfl, h1, rfl, rfl, rfl⟩ := am_st1 h
    have hn := am_lset2i h1
    rw [hlr.2.2.1] at hn
    exact lv_lstore_n hx hb hd rfl (am_lr_has hlr) hn rfl fun arr' hl => kk _ _ _ _ (hf rfl) hG (am_lset2 hlr.2.2.1 h1 hl) hlo
  case h_19 =>
    obtain ⟨x, st0, rfl, h1, rfl, rfl, rfl⟩ := am_st1 h
    have hn := am_lset2i h1
    rw [hlr.2.2.1] at hn
    exact lv_lstore hx hb hd (am_lr_has hlr) hn rfl fun arr' hl => kk _ _ _ _ (hf rfl) hG (am_lset2 hlr.2.2.1 h1 hl) hlo
  case h_20 =>
    obtain ⟨v, st0, hv, rfl, h1, rfl, rfl, rfl⟩ := am_st2 h
    have hn := am_lset1i h1
    rw [hlr.2.2.1] at hn
    rcases hv with rfl | ⟨x, rfl⟩
    · exact lv_astore_nN hx hb hd rfl (am_lr_has hlr) hn rfl fun arr' hl => kk _ _ _ _ (hf rfl) hG (am_lset1 (v := .null) hlr.2.2.1 h1 hl).2 hlo
    · exact lv_astore_n hx hb hd rfl (am_lr_has hlr) hn rfl fun arr' hl => kk _ _ _ _ (hf rfl) hG (am_lset1 (v := .ref x) hlr.2.2.1 h1 hl).2 hlo
  case h_21 =>
    obtain ⟨v, st0, hv, rfl, h1, rfl, rfl, rfl⟩ := am_st2 h
    have hn := am_lset1i h1
    rw [hlr.2.2.1] at hn
    rcases hv with rfl | ⟨x, rfl⟩
    · exact lv_astoreN hx hb hd (am_lr_has hlr) hn rfl fun arr' hl => kk _ _ _ _ (hf rfl) hG (am_lset1 (v := .null) hlr.2.2.1 h1 hl).2 hlo
    · exact lv_astore hx hb hd (am_lr_has hlr) hn rfl fun arr' hl => kk _ _ _ _ (hf rfl) hG (am_lset1 (v := .ref x) hlr.2.2.1 h1 hl).2 hlo
  case h_22 =>
    split at h
    next x hv =>
      obtain ⟨a, h1, h2⟩ := Option.map_eq_some_iff.mp h
      cases h2
      have hn := am_lset1i h1
      rw [hlr.2.2.1] at hn
      obtain ⟨j, hj⟩ := List.getElem?_of_mem (am_lv_mem (ad := am_ad s0 ro) (q := (_, .int x)).mpr ⟨_, hv, rfl, rfl⟩)
      exact lv_iinc hx hb hd (am_lr_has hlr) hj rfl hn rfl fun arr' hl => kk _ _ _ _ (hf rfl) hG (am_lset1 hlr.2.2.1 h1 hl).2 hlo
    next => cases h
  case h_23 =>
    cases h
    exact lv_iadd hx hb hd (kk _ _ _ _ (hf rfl) hG hlr hlo)
  case h_24 =>
    cases h
    exact lv_isub hx hb hd (kk _ _ _ _ (hf rfl) hG hlr hlo)
  case h_25 =>
    cases h
    exact lv_imul hx hb hd (kk _ _ _ _ (hf rfl) hG hlr hlo)
  case h_26 =>
    cases h
    exact lv_iand hx hb hd (kk _ _ _ _ (hf rfl) hG hlr hlo)
  case h_27 =>
    cases h
    exact lv_ior hx hb hd (kk _ _ _ _ (hf rfl) hG hlr hlo)
  case h_28 =>
    cases h
    exact lv_ixor hx hb hd (kk _ _ _ _ (hf rfl) hG hlr hlo)
  case h_29 =>
    split at h
    · cases h
    next hne =>
      cases h
      exact lv_idiv hx hb hd hne (kk _ _ _ _ (hf rfl) hG hlr hlo)
  case h_30 =>
    split at h
    · cases h
    next hne =>
      cases h
      exact lv_irem hx hb hd hne (kk _ _ _ _ (hf rfl) hG hlr hlo)
  case h_31 =>
    cases h
    exact lv_ineg hx hb hd (kk _ _ _ _ (hf rfl) hG hlr hlo)
  case h_32 =>
    cases h
    exact lv_ishl hx hb hd (kk _ _ _ _ (hf rfl) hG hlr hlo)
  case h_33 =>
    cases h
    exact lv_ishr hx hb hd (kk _ _ _ _ (hf rfl) hG hlr hlo)
  case h_34 =>
    cases h
    exact lv_iushr hx hb hd rfl (kk _ _ _ _ (hf rfl) hG hlr hlo)
  case h_35 =>
    cases h
    exact lv_ladd hx hb hd (kk _ _ _ _ (hf rfl) hG hlr hlo)
  case h_36 =>
    cases h
    exact lv_lsub hx hb hd (kk _ _ _ _ (hf rfl) hG hlr hlo)
  case h_37 =>
    cases h
    exact lv_land hx hb hd (kk _ _ _ _ (hf rfl) hG hlr hlo)
  case h_38 =>
    cases h
    exact lv_lor hx hb hd (kk _ _ _ _ (hf rfl) hG hlr hlo)
  case h_39 =>
    cases h
    exact lv_lxor hx hb hd (kk _ _ _ _ (hf rfl) hG hlr hlo)
  case h_40 =>
    cases h
    exact lv_lshl hx hb hd rfl (kk _ _ _ _ (hf rfl) hG hlr hlo)
  case h_41 =>
    cases h
    exact lv_lshr hx hb hd rfl (kk _ _ _ _ (hf rfl) hG hlr hlo)
  case h_42 =>
    cases h
    exact W.lcmp hx hb hd (kk _ _ _ _ (hf rfl) hG hlr hlo)
  case h_43 =>
    cases h
    exact lv_i2l hx hb hd rfl (kk _ _ _ _ (hf rfl) hG hlr hlo)
  case h_44 =>
    cases h
    exact lv_l2i hx hb hd rfl (kk _ _ _ _ (hf rfl) hG hlr hlo)
  case h_45 =>
    cases h
    exact lv_i2b hx hb hd rfl (kk _ _ _ _ (hf rfl) hG hlr hlo)
  case h_46 =>
    cases h
    exact lv_i2s hx hb hd rfl (kk _ _ _ _ (hf rfl) hG hlr hlo)
  case h_47 =>
    split at h
    next hcv =>
      cases h
      exact lv_dup hx hb hd (by rw [am_cat]; exact hcv) (kk _ _ _ _ (hf rfl) hG hlr hlo)
    · cases h
  case h_48 =>
    split at h
    next hcv =>
      cases h
      exact lv_pop hx hb hd (by rw [am_cat]; exact hcv) (kk _ _ _ _ (hf rfl) hG hlr hlo)
    · cases h
  case h_49 =>
    split at h
    next hcv =>
      cases h
      exact lv_dup2_11 hx hb hd (by rw [am_cat]; exact hcv.1) (by rw [am_cat]; exact hcv.2) (kk _ _ _ _ (hf rfl) hG hlr hlo)
    · cases h
  case h_50 =>
    cases h
    obtain ⟨q, h1, h2⟩ := am_tgtE hk
    exact lv_goto hx hb hd h2 (kk _ _ _ _ h1 hG hlr hlo)
  case h_51 =>
    cases h
    obtain ⟨q, h1, h2⟩ := am_tgtE hk
    exact am_Wif0 hx hb hd h2 h1 (hf rfl) fun pc' hp => kk _ _ _ _ hp hG hlr hlo
  case h_52 =>
    cases h
    obtain ⟨q, h1, h2⟩ := am_tgtE hk
    exact am_Wif2 hx hb hd h2 h1 (hf rfl) fun pc' hp => kk _ _ _ _ hp hG hlr hlo
  case h_53 =>
    cases h
    exact lv_ifnull hx hb hd (kk _ _ _ _ (hf rfl) hG hlr hlo)
  case h_54 =>
    cases h
    obtain ⟨q, h1, h2⟩ := am_tgtE hk
    exact lv_ifnullN hx hb hd h2 (kk _ _ _ _ h1 hG hlr hlo)
  case h_55 =>
    cases h
    obtain ⟨q, h1, h2⟩ := am_tgtE hk
    exact lv_ifnonnull hx hb hd h2 (kk _ _ _ _ h1 hG hlr hlo)
  case h_56 =>
    cases h
    exact lv_ifnonnullN hx hb hd (kk _ _ _ _ (hf rfl) hG hlr hlo)
  case h_57 =>
    rename_i d lo hi os hd0 t ts x st0
    cases h
    simp only [am_chkI, Bool.and_eq_true, decide_eq_true_eq] at hk
    by_cases hr : x.toInt < lo ∨ hi < x.toInt
    · obtain ⟨q, h1, h2⟩ := am_tgtE hk.1.1
      rw [if_pos hr] at kk
      exact lv_tableOut hx hb hd hr h2 (kk _ _ _ _ h1 hG hlr hlo)
    · rw [if_neg hr] at kk
      obtain ⟨hr1, hr2⟩ := not_or.mp hr
      obtain ⟨o, q, h0, h1, h2⟩ := am_zipE _ _ _ _ (x.toInt - lo).toNat hk.1.2 (by omega)
      exact lv_tableIn hx hb hd hr1 hr2 (by rw [← Array.getElem?_toList]; exact h0) h2 (kk _ _ _ _ h1 hG hlr hlo)
  case h_58 =>
    cases h
    simp only [am_chkI, Bool.and_eq_true] at hk
    obtain ⟨q, h1, h2⟩ := am_lookE _ _ _ _ _ _ _ hk.1.1 hk.1.2
    exact lv_lookup hx hb hd hk.2 rfl h2 (kk _ _ _ _ h1 hG hlr hlo)
  case h_59 =>
    split at h
    next hq =>
      cases h
      simp only [am_chkI, Bool.and_eq_true, decide_eq_true_eq] at hk
      refine am_Wget hx hb C hW hown hG hk.1.1 hk.1.2 hk.2 hq hd ?_
      have := kk _ _ _ _ (hf rfl) hG hlr hlo
      rw [List.map_cons, am_rd_cv] at this
      exact this
    · cases h
  case h_60 =>
    split at h
    next hq =>
      cases h
      simp only [am_chkI, Bool.and_eq_true, Bool.or_eq_true, decide_eq_true_eq] at hk
      refine am_Wput hx hb C hW hown hG hk.1.1.1 hk.1.1.2 hk.1.2 hq.1 hq.2 ?_ hd fun H' j hG' => ?_
      · rcases hk.2 with z | z
        · exact Or.inl z
        · exact Or.inr ⟨z.1.1, hnm z.1.2, z.2⟩
      · have := kk _ _ _ _ (hf rfl) hG' hlr (am_lt (a := ⟨_, j⟩) hlo (adW _ (am_obj hG hk.1.1.1 hq.1).1))
        rw [am_wr_nx, am_wr_us] at this
        exact this
    · cases h
  case h_61 =>
    cases h
    simp only [am_chkI, Bool.and_eq_true, decide_eq_true_eq] at hk
    exact am_Wgets hx hb C hW hown hG hk.1 hk.2 hd (kk _ _ _ _ (hf rfl) hG hlr hlo)
  case h_62 =>
    obtain ⟨h1, h2, rfl, rfl, rfl, rfl⟩ := am_ldE h
    exact am_Wald (t := 0) hx hb C hW hG (by decide) h1 h2 (Or.inl ⟨rfl, rfl⟩) hd (kk _ _ _ _ (hf rfl) hG hlr hlo)
  case h_63 =>
    obtain ⟨h1, h2, rfl, rfl, rfl, rfl⟩ := am_ldE h
    exact am_Wald (t := 1) hx hb C hW hG (by decide) h1 h2 (Or.inr (Or.inl ⟨rfl, rfl⟩)) hd (kk _ _ _ _ (hf rfl) hG hlr hlo)
  case h_64 =>
    obtain ⟨h1, h2, rfl, rfl, rfl, rfl⟩ := am_ldE h
    simp only [am_chkI, decide_eq_true_eq] at hk
    rcases hk with rfl | rfl
    · exact am_Wald (t := 2) hx hb C hW hG (by decide) h1 h2 (Or.inr (Or.inr (Or.inl ⟨Or.inl rfl, rfl⟩))) hd (kk _ _ _ _ (hf rfl) hG hlr hlo)
    · exact am_Wald (t := 3) hx hb C hW hG (by decide) h1 h2 (Or.inr (Or.inr (Or.inl ⟨Or.inr rfl, rfl⟩))) hd (kk _ _ _ _ (hf rfl) hG hlr hlo)
  case h_65 =>
    obtain ⟨h1, h2, rfl, rfl, rfl, rfl⟩ := am_ldE h
    simp only [am_chkI, decide_eq_true_eq] at hk
    have := kk _ _ _ _ (hf rfl) hG hlr hlo
    rw [List.map_cons, am_rf_cv] at this
    have h3 : ∀ u : Nat, 104 ≤ u → u ≤ 106 → u = 104 ∨ u = 105 ∨ u = 106 := by omega
    rcases h3 _ hk.1 hk.2 with rfl | rfl | rfl
    · exact am_Wald (t := 4) hx hb C hW hG (by decide) h1 h2 (Or.inr (Or.inr (Or.inr ⟨by decide, rfl⟩))) hd this
    · exact am_Wald (t := 5) hx hb C hW hG (by decide) h1 h2 (Or.inr (Or.inr (Or.inr ⟨by decide, rfl⟩))) hd this
    · exact am_Wald (t := 6) hx hb C hW hG (by decide) h1 h2 (Or.inr (Or.inr (Or.inr ⟨by decide, rfl⟩))) hd this
  case h_66 =>
    obtain ⟨h1, h0, h2, rfl, rfl, rfl, rfl⟩ := am_svE h
    refine am_Wist (t := 0) hx hb C hW hG h0 (Or.inl rfl) h1 h2 (Or.inl ⟨rfl, rfl⟩) hd fun H' j hG' => ?_
    · have := kk _ _ _ _ (hf rfl) hG' hlr (am_lt (a := ⟨_, j⟩) hlo (adW _ h0))
      rw [am_wr_nx, am_wr_us] at this
      exact this
  case h_67 =>
    obtain ⟨h1, h0, h2, rfl, rfl, rfl, rfl⟩ := am_svE h
    refine am_Wlst hx hb C hW hG h0 h1 h2 hd fun H' j hG' => ?_
    · have := kk _ _ _ _ (hf rfl) hG' hlr (am_lt (a := ⟨_, j⟩) hlo (adW _ h0))
      rw [am_wr_nx, am_wr_us] at this
      exact this
  case h_68 =>
    obtain ⟨h1, h0, h2, rfl, rfl, rfl, rfl⟩ := am_svE h
    simp only [am_chkI, decide_eq_true_eq] at hk
    rcases hk with rfl | rfl
    · refine am_Wist (t := 2) hx hb C hW hG h0 (Or.inr (Or.inl rfl)) h1 h2 (Or.inr ⟨Or.inl rfl, rfl⟩) hd fun H' j hG' => ?_
      have := kk _ _ _ _ (hf rfl) hG' hlr (am_lt (a := ⟨_, j⟩) hlo (adW _ h0))
      rw [am_wr_nx, am_wr_us] at this
      exact this
    · refine am_Wist (t := 3) hx hb C hW hG h0 (Or.inr (Or.inr rfl)) h1 h2 (Or.inr ⟨Or.inr rfl, rfl⟩) hd fun H' j hG' => ?_
      have := kk _ _ _ _ (hf rfl) hG' hlr (am_lt (a := ⟨_, j⟩) hlo (adW _ h0))
      rw [am_wr_nx, am_wr_us] at this
      exact this
  case h_69 =>
    split at h
    next hv =>
      obtain ⟨h1, h0, h2, rfl, rfl, rfl, rfl⟩ := am_svE h
      simp only [am_chkI, decide_eq_true_eq] at hk
      have fin : ∀ t : Nat, am_tys t = am_tys t := fun _ => rfl
      rcases hk with ⟨rfl, rfl⟩ | ⟨rfl, rfl⟩ | ⟨rfl, rfl⟩
      · refine am_Wast (t := 4) (ci := 1) hx hb C hW hG h0 (Or.inl ⟨rfl, rfl⟩) h1 hv h2 hd fun H' j hG' => ?_
        have := kk _ _ _ _ (hf rfl) hG' hlr (am_lt (a := ⟨_, j⟩) hlo (adW _ h0))
        rw [am_wr_nx, am_wr_us] at this
        exact this
      · refine am_Wast (t := 5) (ci := 5) hx hb C hW hG h0 (Or.inr (Or.inl ⟨rfl, rfl⟩)) h1 hv h2 hd fun H' j hG' => ?_
        have := kk _ _ _ _ (hf rfl) hG' hlr (am_lt (a := ⟨_, j⟩) hlo (adW _ h0))
        rw [am_wr_nx, am_wr_us] at this
        exact this
      · refine am_Wast (t := 6) (ci := 0) hx hb C hW hG h0 (Or.inr (Or.inr ⟨rfl, rfl⟩)) h1 hv h2 hd fun H' j hG' => ?_
        have := kk _ _ _ _ (hf rfl) hG' hlr (am_lt (a := ⟨_, j⟩) hlo (adW _ h0))
        rw [am_wr_nx, am_wr_us] at this
        exact this
    · cases h
  case h_70 =>
    split at h
    next hq =>
      cases h
      exact am_Walen hx hb C hW hG hq.1 hq.2 hd (kk _ _ _ _ (hf rfl) hG hlr hlo)
    · cases h
  case h_71 =>
    split at h
    · cases h
    next hn =>
      cases h
      obtain ⟨hn1, hn2⟩ := not_or.mp hn
      have e1 : ∀ tag n cost, am_nx (am_new M tag n cost) - c0 = am_nx M - c0 + 1 := fun tag n cost => by show am_nx M + 1 - c0 = _; omega
      have e2 : ∀ tag n cost, am_us (am_new M tag n cost) - u0 = am_us M - u0 + cost := fun tag n cost => by show am_us M + cost - u0 = _; omega
      rw [e1] at hc
      rw [e2] at hs
      simp only [am_chkI, Bool.and_eq_true, decide_eq_true_eq] at hk
      refine am_Wnewa hx hb C hW hG hk.1.1 hk.1.2 hk.2 hn1 hn2 hc hs hd fun H' hG' => ?_
      have := kk _ _ _ _ (hf rfl) hG' hlr hlo
      rw [e1, e2] at this
      exact this
  case h_72 =>
    split at h
    · cases h
    next hn =>
      cases h
      obtain ⟨hn1, hn2⟩ := not_or.mp hn
      have e1 : ∀ tag n cost, am_nx (am_new M tag n cost) - c0 = am_nx M - c0 + 1 := fun tag n cost => by show am_nx M + 1 - c0 = _; omega
      have e2 : ∀ tag n cost, am_us (am_new M tag n cost) - u0 = am_us M - u0 + cost := fun tag n cost => by show am_us M + cost - u0 = _; omega
      rw [e1] at hc
      rw [e2] at hs
      rename_i x t w w2 n st0
      have hk : decide (4 ≤ t ∧ t ≤ 6) = true ∧ (match am_tys t with
        | .object C => am_w w (.classLink own x C) && am_w w2 (.arrayOver (.object C))
        | _ => false) = true := by
        have hk : (decide (4 ≤ t ∧ t ≤ 6) && (match am_tys t with
          | .object C => am_w w (.classLink own x C) && am_w w2 (.arrayOver (.object C))
          | _ => false)) = true := hk
        exact (Bool.and_eq_true _ _).mp hk
      obtain ⟨k1, k2⟩ := hk
      have k1 := of_decide_eq_true k1
      split at k2
      next Cn hty =>
        rw [Bool.and_eq_true] at k2
        refine am_Wanew hx hb C hW hown hG k1 hty k2.1 k2.2 hn1 hn2 hc hs hd fun H' hG' => ?_
        have := kk _ _ _ _ (hf rfl) hG' hlr hlo
        rw [e1, e2] at this
        exact this
      next => cases k2
  case h_73 =>
    cases h
    have e1 : ∀ tag n cost, am_nx (am_new M tag n cost) - c0 = am_nx M - c0 + 1 := fun tag n cost => by show am_nx M + 1 - c0 = _; omega
    have e2 : ∀ tag n cost, am_us (am_new M tag n cost) - u0 = am_us M - u0 + cost := fun tag n cost => by show am_us M + cost - u0 = _; omega
    rw [e1] at hc
    rw [e2] at hs
    simp only [am_chkI, Bool.and_eq_true, decide_eq_true_eq] at hk
    refine am_Wnew hx hb C hW hown hG hk.1.1.1 hk.1.1.2 hk.1.2 hk.2 hc hs hd fun H' hG' => ?_
    have := kk _ _ _ _ (hf rfl) hG' hlr hlo
    rw [e1, e2] at this
    exact this
  case h_74 =>
    cases h
end AMS
