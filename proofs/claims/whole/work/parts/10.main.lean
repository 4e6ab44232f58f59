theorem am_str7 {D : va_G} {ct : Nat → ClassId} {ro : Nat → Nat} {s0 : State} {L : Nat} {xs : Nat → Int32} {M : am_M} {H : Heap} (hG : am_G D ct ro s0 L xs M H) {q : Nat} (h : (am_sh M q).1 = 200) : 4 ≤ q ∧ q < 8 ∧ (am_sh M q).2 = (am_roL q).length ∧ (∀ k, M.1 q k = (am_roL q).getD k 0) ∧ am_ad s0 ro q = ro q := by
  obtain ⟨g1, g2, g3, g4, g5, g6⟩ := hG
  rcases Nat.lt_or_ge q am_R0 with z | z
  · obtain ⟨e1, e2⟩ := g5 q z
    rw [e1] at h
    have hq : 4 ≤ q ∧ q < 8 := by
      unfold am_roS at h
      split at h
      · exact absurd (show (100 : Nat) = 200 from h) (by decide)
      · split at h
        · exact ⟨by omega, by assumption⟩
        · exact absurd (show (100 : Nat) = 200 from h) (by decide)
    refine ⟨hq.1, hq.2, ?_, fun k => ?_, am_adR z⟩
    · rw [e1]
      unfold am_roS
      rw [if_neg (by omega), if_pos hq.2]
    · rw [e2 k]
      unfold am_roI
      rw [if_pos hq.2]
  · exfalso
    rcases Nat.lt_or_ge q (am_nx M) with y | y
    · rcases g4 q z y with w | w
      · exact absurd w.1 (by omega)
      · exact absurd w.2.1 (by omega)
    · rw [(g6 q y).1] at h
      exact absurd (show (1000 : Nat) = 200 from h) (by decide)
theorem am_G_copy {D : va_G} {ct : Nat → ClassId} {ro : Nat → Nat} {s0 : State} {L : Nat} {xs : Nat → Int32} {M M' : am_M} {H H' : Heap} (hG : am_G D ct ro s0 L xs M H) {q t : Nat} (h1 : am_R0 ≤ q) (hq : q < am_nx M) (ht : t ≤ 6) (hsq : (am_sh M q).1 = 100 + t) (hs : ∀ x, am_sh M' x = am_sh M x) (hnx : am_nx M' = am_nx M) (hr : ∀ x, x ≠ q → ∀ k, M'.1 x k = M.1 x k ∧ M'.2.1 x k = M.2.1 x k ∧ M'.2.2.1 x k = M.2.2.1 x k)
    (he : H'[am_ad s0 ro q]? = some (arrV (ct t) (am_sh M q).2 (fun j => am_rd (am_ad s0 ro) M' q j (am_tys t)))) (hz : H'.size = H.size) (ho : ∀ x : Nat, x ≠ am_ad s0 ro q → H'[x]? = H[x]?) : am_G D ct ro s0 L xs M' H' := by
  obtain ⟨g1, g2, g3, g4, g5, g6⟩ := hG
  refine ⟨by rw [hz, hnx]; exact g1, by rw [hnx]; exact g2, fun x hx => ?_, fun x x1 x2 => ?_, fun x hx => ?_, fun x hx => ?_⟩
  · rw [ho x (by rw [am_adW h1]; omega)]
    exact g3 x hx
  · rw [hnx] at x2
    by_cases e : x = q
    · subst e
      refine Or.inr ?_
      rw [hs, hsq, show 100 + t - 100 = t by omega]
      exact ⟨by omega, by omega, he⟩
    · refine am_cell_kept (g4 x x1 x2) (hs x) (fun j ty => ?_) (ho _ fun z => e (am_adI x1 h1 z))
      obtain ⟨r1, r2, r3⟩ := hr x e j
      cases ty <;> simp [am_rd, r1, r2, r3]
  · have e : x ≠ q := by omega
    rw [hs]
    exact ⟨(g5 x hx).1, fun j => by rw [(hr x e j).1]; exact (g5 x hx).2 j⟩
  · rw [hnx] at hx
    have e : x ≠ q := by omega
    rw [hs]
    exact ⟨(g6 x hx).1, fun j => by rw [(hr x e j).1, (hr x e j).2.1, (hr x e j).2.2]; exact (g6 x hx).2 j⟩
theorem am_chk1 {P : Nat → Option am_I} {own : String} {ins : Instr} {mi n : Nat} {tl : List Nat} {inf : am_I} (h : am_chkC P own ins (1 :: mi :: n :: tl) = true) (hP : P mi = some inf) : ∃ x w1 w2 w3 w4, ins = .invokestatic x ∧ am_w w1 (.methodLink own x inf.1) = true ∧ am_w w2 (.code inf.1 inf.2.1 inf.2.2.1 inf.2.2.2.1) = true ∧ am_w w3 (.static inf.1) = true ∧ am_w w4 (.initialized inf.1.cls) = true ∧ am_chkN inf n = true := by
  generalize hx : 1 :: mi :: n :: tl = aux at h
  unfold am_chkC at h
  split at h <;> first | (cases hx; done) | (cases h; done) | skip
  cases hx
  rw [hP] at h
  simp only [Bool.and_eq_true] at h
  exact ⟨_, _, _, _, _, rfl, h.1.1.1.1, h.1.1.1.2, h.1.1.2, h.1.2, h.2⟩
theorem am_chk4 {P : Nat → Option am_I} {own : String} {ins : Instr} {kd mi n ci : Nat} {tl : List Nat} {inf : am_I} (h : am_chkC P own ins (kd :: mi :: n :: ci :: tl) = true) (hkd : kd < 4) (hk1 : kd ≠ 1) (hP : P mi = some inf) :
    (∃ x w1 w2 w3 w4 w5, ins = .invokevirtual x ∧ ci < 8 ∧ inf.1.cls = am_cn ci ∧ am_w w1 (.methodLink own x inf.1) = true ∧ am_w w2 (.code inf.1 inf.2.1 inf.2.2.1 inf.2.2.2.1) = true ∧ am_w w3 (.instanceMethod inf.1) = true ∧ am_w w4 (.selects (am_cn ci) inf.1 inf.1) = true ∧ am_w w5 (.initialized inf.1.cls) = true ∧ am_chkN inf n = true) ∨
    (∃ x w1 w2 w3 w4, ins = .invokespecial x ∧ inf.1.name = "<init>" ∧ inf.2.2.2.1 = none ∧ am_w w1 (.methodLink own x inf.1) = true ∧ am_w w2 (.code inf.1 inf.2.1 inf.2.2.1 none) = true ∧ am_w w3 (.instanceMethod inf.1) = true ∧ am_w w4 (.initialized inf.1.cls) = true ∧ am_chkN inf n = true) ∨
    (∃ x w1 w2 w3 w4, ins = .invokespecial x ∧ inf.1.name = "<init>" ∧ inf.2.2.2.1 = none ∧ am_w w1 (.methodLinkNest own x inf.1 "AirByYard") = true ∧ am_w w2 (.code inf.1 inf.2.1 inf.2.2.1 none) = true ∧ am_w w3 (.instanceMethod inf.1) = true ∧ am_w w4 (.initialized inf.1.cls) = true ∧ am_chkN inf n = true) := by
  generalize hx : kd :: mi :: n :: ci :: tl = aux at h
  unfold am_chkC at h
  split at h
  · cases hx
    rw [hP] at h
    simp only [Bool.and_eq_true, decide_eq_true_eq] at h
    exact Or.inl ⟨_, _, _, _, _, _, rfl, h.1.1.1.1.1.1.1, h.1.1.1.1.1.1.2, h.1.1.1.1.1.2, h.1.1.1.1.2, h.1.1.1.2, h.1.1.2, h.1.2, h.2⟩
  · cases hx
    exact absurd rfl hk1
  · cases hx
    rw [hP] at h
    simp only [Bool.and_eq_true, decide_eq_true_eq] at h
    exact Or.inr (Or.inl ⟨_, _, _, _, _, rfl, h.1.1.1.1.1.1, h.1.1.1.1.1.2, h.1.1.1.1.2, h.1.1.1.2, h.1.1.2, h.1.2, h.2⟩)
  · cases hx
    rw [hP] at h
    simp only [Bool.and_eq_true, decide_eq_true_eq] at h
    exact Or.inr (Or.inr ⟨_, _, _, _, _, rfl, h.1.1.1.1.1.1, h.1.1.1.1.1.2, h.1.1.1.1.2, h.1.1.1.2, h.1.1.2, h.1.2, h.2⟩)
  · cases hx
    exact absurd hkd (by decide)
  · cases hx
    exact absurd hkd (by decide)
  · cases hx
    exact absurd hkd (by decide)
  · cases hx
    exact absurd hkd (by decide)
  · cases h
theorem am_chkP {P : Nat → Option am_I} {own : String} {ins : Instr} {kd : Nat} {tl : List Nat} (h : am_chkC P own ins (kd :: tl) = true) (hkd : 4 ≤ kd) :
    (∃ x w1 w2 w3, kd = 4 ∧ ins = .invokespecial x ∧ am_w w1 (.methodLink own x objectInit) = true ∧ am_w w2 (.instanceMethod objectInit) = true ∧ am_w w3 (.code objectInit ⟨#[0xb1]⟩ 1 none) = true) ∨
    (∃ x t w1 w2 w3 w4, kd = 5 ∧ ins = .invokestatic x ∧ tl = [t, w1, w2, w3, w4] ∧ am_w w1 (.methodLink own x arraycopyName) = true ∧ am_w w2 (.native arraycopyName) = true ∧ am_w w3 (.static arraycopyName) = true ∧ am_w w4 (.initialized "java/lang/System") = true) ∨
    (∃ x w1 w2 w3 w4 w5, kd = 6 ∧ ins = .invokevirtual x ∧ am_w w1 (.methodLink own x yJ0_charAt_5068e) = true ∧ am_w w2 (.code yJ0_charAt_5068e cJ0_charAt_5068e 2 (some .char)) = true ∧ am_w w3 (.instanceMethod yJ0_charAt_5068e) = true ∧ am_w w4 (.selects RJ0 yJ0_charAt_5068e yJ0_charAt_5068e) = true ∧ am_w w5 (.initialized RJ0) = true) ∨
    (∃ x w1 w2 w3 w4 w5, kd = 7 ∧ ins = .invokevirtual x ∧ am_w w1 (.methodLink own x yJ0_length_8abf5) = true ∧ am_w w2 (.code yJ0_length_8abf5 cJ0_length_8abf5 1 (some .int)) = true ∧ am_w w3 (.instanceMethod yJ0_length_8abf5) = true ∧ am_w w4 (.selects RJ0 yJ0_length_8abf5 yJ0_length_8abf5) = true ∧ am_w w5 (.initialized RJ0) = true) := by
  generalize hx : kd :: tl = au at h
  unfold am_chkC at h
  split at h
  · cases hx
    exact absurd hkd (by decide)
  · cases hx
    exact absurd hkd (by decide)
  · cases hx
    exact absurd hkd (by decide)
  · cases hx
    exact absurd hkd (by decide)
  · cases hx
    simp only [Bool.and_eq_true] at h
    exact Or.inl ⟨_, _, _, _, rfl, rfl, h.1.1, h.1.2, h.2⟩
  · cases hx
    simp only [Bool.and_eq_true] at h
    exact Or.inr (Or.inl ⟨_, _, _, _, _, _, rfl, rfl, rfl, h.1.1.1, h.1.1.2, h.1.2, h.2⟩)
  · cases hx
    simp only [Bool.and_eq_true] at h
    exact Or.inr (Or.inr (Or.inl ⟨_, _, _, _, _, _, rfl, rfl, h.1.1.1.1, h.1.1.1.2, h.1.1.2, h.1.2, h.2⟩))
  · cases hx
    simp only [Bool.and_eq_true] at h
    exact Or.inr (Or.inr (Or.inr ⟨_, _, _, _, _, _, rfl, rfl, h.1.1.1.1, h.1.1.1.2, h.1.1.2, h.1.2, h.2⟩))
  · cases h
theorem am_len2 (as : List Value) (ad : Nat → Nat) : (as.map (am_cv ad)).reverse = as.reverse.map (am_cv ad) := List.map_reverse.symm
/-- the walk of a method from any of its instructions on -/
def am_B (P : Nat → Option am_I) (D : va_G) (ct : Nat → ClassId) (ro : Nat → Nat) (b : Nat) (s0 : State) (L : Nat) (xs : Nat → Int32) (n : Nat) : Prop :=
  ∀ (d : Nat) (inf : am_I) (i : Nat) (ls st : List Value) (M : am_M) (r : Option Value) (M' : am_M), am_okF P inf → am_run P n d inf.2.2.2.2.2 i ls st M = some (r, M') →
  ∀ {p : Program} {l : Launch} {e : Env} {R : Room} {s : State} {m : MethodId} {args : Array Value} {below : List Frame} {meth : Method} {c : Code} {H : Heap} {locs : List Loc} {Q : State → Prop} {arr : Array Slot} {pc c0 u0 : Nat},
  p.tables.exec = Jvm.exec → c.code = inf.2.1 → c.maxLocals = inf.2.2.1 → s0.WarmedH s.vm → s.vm.findClass inf.2.2.2.2.1 = some m.cls → (inf.1.name = "<init>" → meth.name = "<init>") → am_G D ct ro s0 L xs M H → am_lr (am_ad s0 ro) ls arr inf.2.2.1 → (∀ q ∈ locs, s0.heap.size ≤ q.base) →
  am_pc inf.2.2.2.2.2 i = some pc → c0 ≤ am_nx M → u0 ≤ am_us M → am_nx M' - c0 ≤ R.cells → am_us M' - u0 ≤ R.slots → d ≤ R.frames → 60 * d ≤ R.locals →
  (∀ (H' : Heap) (locs' : List Loc) (arr' : Array Slot) (pc' : Nat) (ins' : Instr), decode inf.2.1 pc' = .ok (ins', 1) → am_rk inf.2.2.2.1 r ins' → am_G D ct ro s0 L xs M' H' → (∀ q ∈ locs', s0.heap.size ≤ q.base) →
    W p l e R s m args below meth c H' locs' (am_nx M' - c0) (am_us M' - u0) Q (F0 m pc' arr' (r.toList.map (am_cv (am_ad s0 ro))))) →
  W p l e R s m args below meth c H locs (am_nx M - c0) (am_us M - u0) Q (F0 m pc arr (st.map (am_cv (am_ad s0 ro))))
set_option maxHeartbeats 4000000 in
/-- a method's contract out of its walk -/
theorem am_AB {P : Nat → Option am_I} {D : va_G} {ct : Nat → ClassId} {ro : Nat → Nat} {b : Nat} {s0 : State} {L : Nat} {xs : Nat → Int32} {n : Nat} (hB : am_B P D ct ro b s0 L xs n) {d : Nat} {inf : am_I} {as : List Value} {M : am_M} {r : Option Value} {M1 : am_M} (ok : am_okF P inf) (hlay : (am_lay as).length ≤ inf.2.2.1)
    (h : am_run P n d inf.2.2.2.2.2 0 (am_entry as inf.2.2.1) [] M = some (r, M1)) (l : Launch) : am_con D ct ro s0 L xs l d inf as M r M1 := by
  obtain ⟨k1, k2, k3, k4⟩ := id ok
  refine va_MetF (cc := inf.2.1) (maxL := inf.2.2.1) (ret := inf.2.2.2.1) k1 rfl ?_
  intro p e s m args below meth c s₁ B hml hv
  obtain ⟨rfl, hW, hG⟩ := hv
  have hown : s.vm.findClass inf.2.2.2.2.1 = some m.cls := k2 ▸ findClass_of_methodNamed B.named
  have hnm : inf.1.name = "<init>" → meth.name = "<init>" := fun z => (name_of_methodNamed B.named B.method).1.trans z
  rw [lg_entry_eq]
  have hlr := am_entryL (am_ad s0 ro) as hlay
  have hmono := am_run_mono P _ _ _ _ _ _ _ _ _ h
  have key := hB d inf 0 (am_entry as inf.2.2.1) [] M r M1 ok h (p := p) (l := l) (e := e) (R := (headSpec [Cond.code inf.1 inf.2.1 inf.2.2.1 inf.2.2.2.1] { frames := d, cells := am_nx M1 - am_nx M, slots := am_us M1 - am_us M, locals := 60 * d }).room) (s := s) (m := m) (args := (as.map (am_cv (am_ad s0 ro))).toArray) (below := below) (meth := meth) (c := c) (H := s.heap) (locs := [])
    (Q := MQ below (am_Qc D ct ro s0 L xs M1 r) (as.map (am_cv (am_ad s0 ro))).toArray s (am_nx M1 - am_nx M) (am_us M1 - am_us M) (fun q => s0.heap.size ≤ q)) (c0 := am_nx M) (u0 := am_us M)
    B.exec B.bytes hml hW hown hnm hG hlr (fun q hq => absurd hq List.not_mem_nil) k3 (Nat.le_refl _) (Nat.le_refl _) (Nat.le_refl _) (Nat.le_refl _) (Nat.le_refl _) (Nat.le_refl _) ?_
  · rw [Nat.sub_self, Nat.sub_self] at key
    exact key
  · intro H' locs' arr' pc' ins' hd hrk hG' hlo'
    have hlocks := B.notSynchronized
    rcases hrk with ⟨rfl, rfl, hret⟩ | ⟨rfl, x, rfl, hret⟩ | ⟨rfl, x, rfl, hret⟩ | ⟨rfl, hr, Cn, hret⟩
    · exact W.vret B.exec B.bytes (B.returns.trans hret) (fun t ht _ => ⟨rfl, by rw [ht]; exact hG'⟩) hlo' hd
    · rcases hret with hret | ⟨hret, hx⟩
      · exact W.iret B.exec B.bytes (B.returns.trans hret) (fun t ht _ => ⟨rfl, by rw [ht]; exact hG'⟩) hlo' hd
      · exact W.zret B.exec B.bytes (B.returns.trans hret) (by rcases hx with rfl | rfl <;> decide) (fun t ht _ => ⟨rfl, by rw [ht]; exact hG'⟩) hlo' hd
    · exact W.lret B.exec B.bytes (B.returns.trans hret) (fun t ht _ => ⟨rfl, by rw [ht]; exact hG'⟩) hlo' hd
    · rcases hr with rfl | ⟨q, rfl⟩
      · exact W.aret B.exec B.bytes (B.returns.trans hret) (Or.inl ⟨_, rfl⟩) (Or.inl rfl) (fun t ht _ => ⟨rfl, by rw [ht]; exact hG'⟩) hlo' hd
      · exact W.aret B.exec B.bytes (B.returns.trans hret) (Or.inl ⟨_, rfl⟩) (Or.inr ⟨_, rfl⟩) (fun t ht _ => ⟨rfl, by rw [ht]; exact hG'⟩) hlo' hd
set_option maxHeartbeats 8000000 in
theorem am_main {P : Nat → Option am_I} {D : va_G} {ct : Nat → ClassId} {ro : Nat → Nat} {b : Nat} {s0 : State} {L : Nat} {xs : Nat → Int32} (hP : ∀ mi inf, P mi = some inf → am_okF P inf) (C : am_C0 D ct ro b s0 L xs) : ∀ n, am_B P D ct ro b s0 L xs n := by
  intro n
  induction n with
  | zero => intro d inf i ls st M r M' ok h; cases h
  | succ n ih =>
    intro d inf i ls st M r M' ok h p l e R s m args below meth c H locs Q arr pc c0 u0 hx hb hml hW hown hnm hG hlr hlo hpc hc0 hu0 hc hs hF hLc K
    have hmono := am_run_mono P _ _ _ _ _ _ _ _ _ h
    unfold am_run at h
    split at h
    · cases h
    next pc' ins aux hi =>
      have epc : pc' = pc := by
        unfold am_pc at hpc
        rw [hi] at hpc
        exact Option.some.inj hpc
      subst epc
      have hchk := ok.2.2.2 i (List.getElem?_eq_some_iff.mp hi).1
      unfold am_chk at hchk
      rw [hi] at hchk
      simp only [Bool.and_eq_true, Bool.or_eq_true, Bool.not_eq_true', decide_eq_true_eq] at hchk
      obtain ⟨⟨hd, hf⟩, hk⟩ := hchk
      have hf : am_falls ins = true → am_pc inf.2.2.2.2.2 (i + 1) = some (pc' + am_len ins aux) := fun z => by
        rcases hf with q | q
        · rw [z] at q; cases q
        · exact q
      split at h
      next hret =>
        have hinv : am_isInv ins = false := by cases ins <;> first | rfl | cases hret
        rw [hinv] at hk
        obtain ⟨r', h1, h2⟩ := Option.map_eq_some_iff.mp h
        cases h2
        obtain ⟨e1, e2, e3⟩ := am_retE hk h1
        rw [e2]
        rw [e3] at hd
        exact K H locs arr pc' ins hd e1 hG hlo
      next hret =>
        have hsz : c.maxLocals = arr.size := hml.trans hlr.1.symm
        split at h
        next hinv =>
          rw [if_pos hinv] at hk
          have hf3 : am_pc inf.2.2.2.2.2 (i + 1) = some (pc' + 3) := by
            have := hf (by cases ins <;> first | rfl | cases hinv)
            rw [this]
            cases ins <;> first | rfl | cases hinv
          have hd3 : decode inf.2.1 pc' = .ok (ins, 3) := by
            rw [hd]
            cases ins <;> first | rfl | cases hinv
          split at h
          next mi as rest hcall =>
            split at h
            next d' inf' hPm =>
              split at h
              next hlay =>
                split at h
                next v M1 hrun =>
                  have ok' := hP _ _ hPm
                  have hM := am_AB ih ok' hlay hrun l
                  have m1 := am_run_mono P _ _ _ _ _ _ _ _ _ hrun
                  have m2 := am_run_mono P _ _ _ _ _ _ _ _ _ h
                  have ec : am_nx M - c0 + (am_nx M1 - am_nx M) = am_nx M1 - c0 := by omega
                  have eu : am_us M - u0 + (am_us M1 - am_us M) = am_us M1 - u0 := by omega
                  have kk : ∀ (H' : Heap) (locs' : List Loc), am_G D ct ro s0 L xs M1 H' → (∀ q ∈ locs', s0.heap.size ≤ q.base) → W p l e R s m args below meth c H' locs' (am_nx M - c0 + (am_nx M1 - am_nx M)) (am_us M - u0 + (am_us M1 - am_us M)) Q (F0 m (pc' + 3) arr ((v.map (am_cv (am_ad s0 ro))).toList ++ rest.map (am_cv (am_ad s0 ro)))) := by
                    intro H' locs' hG' hlo'
                    rw [ec, eu]
                    have := ih (d' + 1) inf (i + 1) ls (v.toList ++ rest) M1 r M' ok h hx hb hml hW hown hnm hG' hlr hlo' hf3 (Nat.le_trans hc0 m1.1) (Nat.le_trans hu0 m1.2) hc hs hF hLc K
                    rw [List.map_append] at this
                    cases v with
                    | none => exact this
                    | some w => exact this
                  have hcc : am_nx M - c0 + (am_nx M1 - am_nx M) ≤ R.cells := by omega
                  have hss : am_us M - u0 + (am_us M1 - am_us M) ≤ R.slots := by omega
                  rcases am_callE hcall with ⟨na, tl, rfl, hlen, rfl, hsum⟩ | ⟨kd, na, ci, tl, q, as', rfl, hkd, hk1, rfl, hlen, rfl, hq, hsum⟩
                  · obtain ⟨x, w1, w2, w3, w4, rfl, a1, a2, a3, a4, a5⟩ := am_chk1 hk hPm
                    have := am_WcallS hx hb hsz C hW hown hG hlo hM a5 a1 a2 a3 a4 hF hLc hlen hsum hcc hss hd3 kk
                    rw [am_len2, ← List.map_append] at this
                    exact this
                  · rcases am_chk4 hk hkd hk1 hPm with ⟨x, w1, w2, w3, w4, w5, rfl, b1, b2, a1, a2, a3, a4, a5, a6⟩ | ⟨x, w1, w2, w3, w4, rfl, b1, b2, a1, a2, a3, a4, a6⟩ | ⟨x, w1, w2, w3, w4, rfl, b1, b2, a1, a2, a3, a4, a6⟩
                    · have := am_WcallV hx hb hsz C hW hown hG hlo hM b1 b2 hq a6 a1 a2 a3 a4 a5 hF hLc hlen hsum hcc hss hd3 kk
                      rw [am_len2] at this
                      rw [List.map_append]
                      exact this
                    · have := am_WcallI hx hb hsz C hW hown hG hlo hM b1 b2 a6 a1 (by rw [b2]; exact a2) a3 a4 hF hLc hlen hsum hcc hss hd3 kk
                      rw [am_len2] at this
                      rw [List.map_append]
                      exact this
                    · have := am_WcallN hx hb hsz C hW hown hG hlo hM b1 b2 a6 a1 (by rw [b2]; exact a2) a3 a4 hF hLc hlen hsum hcc hss hd3 kk
                      rw [am_len2] at this
                      rw [List.map_append]
                      exact this
                · cases h
              · cases h
            · cases h
          next hcall =>
            split at h
            next d' i' ls' st' M1 hpr =>
              have m1 := am_prim_mono hpr
              have m2 := am_run_mono P _ _ _ _ _ _ _ _ _ h
              have kk : ∀ (H' : Heap) (locs' : List Loc), i' = i + 1 → ls' = ls → am_G D ct ro s0 L xs M1 H' → (∀ q ∈ locs', s0.heap.size ≤ q.base) → W p l e R s m args below meth c H' locs' (am_nx M - c0) (am_us M - u0) Q (F0 m (pc' + 3) arr (st'.map (am_cv (am_ad s0 ro)))) := by
                intro H' locs' e1 e2 hG' hlo'
                subst e1
                subst e2
                rw [m1.1, m1.2]
                exact ih (d' + 7) inf (i + 1) ls' st' M1 r M' ok h hx hb hml hW hown hnm hG' hlr hlo' hf3 (by omega) (by omega) hc hs hF hLc K
              have hF7 : 7 ≤ R.frames := by omega
              have hL7 : 420 ≤ R.locals := by omega
              unfold am_prim at hpr
              split at hpr
              · obtain ⟨x, w1, w2, w3, -, rfl, a1, a2, a3⟩ | ⟨_, _, _, _, _, _, z, -⟩ | ⟨_, _, _, _, _, _, z, -⟩ | ⟨_, _, _, _, _, _, z, -⟩ := am_chkP hk (by decide)
                · split at hpr
                  next hsum =>
                    cases hpr
                    exact am_Wobj hx hb hsz C hW hown a1 a2 a3 (by omega) (by omega) (by rw [am_cats]; exact hsum) hd3 (kk _ _ rfl rfl hG hlo)
                  · cases hpr
                · cases z
                · cases z
                · cases z
              · obtain ⟨_, _, _, _, z, -⟩ | ⟨x, t', w1, w2, w3, w4, -, rfl, htl, a1, a2, a3, a4⟩ | ⟨_, _, _, _, _, _, z, -⟩ | ⟨_, _, _, _, _, _, z, -⟩ := am_chkP hk (by decide)
                · cases z
                · split at hpr
                  next hc9 =>
                    obtain ⟨t1, t2, r1, r2, n1, n2, n3, n4, n5, hsum⟩ := hc9
                    split at hpr
                    · cases hpr
                      obtain ⟨y1, y2⟩ := am_rowW (t := 0) hG r1 (by decide) t1
                      obtain ⟨z1, z2⟩ := am_rowW (t := 0) hG r2 (by decide) t2
                      refine am_Wcopy (α := Int32) (t := 0) (fun z => .int z) hx hb hsz C hW hown (by decide) y2 z2 (fun _ => rfl) (fun _ => rfl) a1 a2 a3 a4 n1 n2 n3 n4 n5 hF7 hL7 (by rw [am_cats]; exact hsum) hd3 fun H1 locs1 b1 b2 b3 b4 => ?_
                      refine kk H1 locs1 rfl rfl (am_G_copy (t := 0) hG r2 z1 (by decide) t2 (fun _ => rfl) rfl (fun x hx k => ⟨?_, rfl, rfl⟩) (by rw [b1]; congr 2; funext j; exact congrArg Value.int (if_pos rfl).symm) b2 b3) (fun q hq => ?_)
                      · exact if_neg hx
                      · rcases b4 q hq with h9 | h9
                        · exact hlo q h9
                        · rw [h9, am_adW r2]
                          omega
                    · cases hpr
                      obtain ⟨y1, y2⟩ := am_rowW (t := 1) hG r1 (by decide) t1
                      obtain ⟨z1, z2⟩ := am_rowW (t := 1) hG r2 (by decide) t2
                      refine am_Wcopy (α := Int64) (t := 1) (fun z => .long z) hx hb hsz C hW hown (by decide) y2 z2 (fun _ => rfl) (fun _ => rfl) a1 a2 a3 a4 n1 n2 n3 n4 n5 hF7 hL7 (by rw [am_cats]; exact hsum) hd3 fun H1 locs1 b1 b2 b3 b4 => ?_
                      refine kk H1 locs1 rfl rfl (am_G_copy (t := 1) hG r2 z1 (by decide) t2 (fun _ => rfl) rfl (fun x hx k => ⟨rfl, ?_, rfl⟩) (by rw [b1]; congr 2; funext j; exact congrArg Value.long (if_pos rfl).symm) b2 b3) (fun q hq => ?_)
                      · exact if_neg hx
                      · rcases b4 q hq with h9 | h9
                        · exact hlo q h9
                        · rw [h9, am_adW r2]
                          omega
                    · cases hpr
                  · cases hpr
                · cases z
                · cases z
              · obtain ⟨_, _, _, _, z, -⟩ | ⟨_, _, _, _, _, _, z, -⟩ | ⟨x, w1, w2, w3, w4, w5, -, rfl, a1, a2, a3, a4, a5⟩ | ⟨_, _, _, _, _, _, z, -⟩ := am_chkP hk (by decide)
                · cases z
                · cases z
                · split at hpr
                  next hc9 =>
                    split at hpr
                    · cases hpr
                    next hbad =>
                      cases hpr
                      obtain ⟨s1, s2, s3, s4, s5⟩ := am_str7 hG hc9.1
                      obtain ⟨y1, y2, y3⟩ := C.2.2.2.2.2.2 l _ s1 s2
                      obtain ⟨q1, q2⟩ := am_badE (by simpa using hbad)
                      rw [s3] at q2
                      have fin := kk _ _ rfl rfl hG hlo
                      rw [List.map_cons] at fin
                      rw [List.map_cons, List.map_cons]
                      show W p l e R s m args below meth c H locs _ _ Q (F0 m pc' arr (Value.int _ :: Value.ref (am_ad s0 ro _) :: _))
                      rw [s5]
                      refine am_Wstr (as := [.int _]) hx hb hsz C hW hown hG (y3 _ (fun w => w.elim q1 (fun w => absurd q2 (Nat.not_lt.mpr w)))) y1 (n := 1) (by decide +kernel) ⟨by decide, by decide⟩ (by decide) a1 a2 a3 a4 a5 hF7 hL7 rfl (by rw [am_cats]; exact hc9.2) (by omega) (by omega) hd3 ?_
                      rw [s4] at fin
                      exact fin
                  · cases hpr
                · cases z
              · obtain ⟨_, _, _, _, z, -⟩ | ⟨_, _, _, _, _, _, z, -⟩ | ⟨_, _, _, _, _, _, z, -⟩ | ⟨x, w1, w2, w3, w4, w5, -, rfl, a1, a2, a3, a4, a5⟩ := am_chkP hk (by decide)
                · cases z
                · cases z
                · cases z
                · split at hpr
                  next hc9 =>
                    cases hpr
                    obtain ⟨s1, s2, s3, s4, s5⟩ := am_str7 hG hc9.1
                    obtain ⟨y1, y2, y3⟩ := C.2.2.2.2.2.2 l _ s1 s2
                    have fin := kk _ _ rfl rfl hG hlo
                    rw [List.map_cons] at fin
                    rw [List.map_cons]
                    show W p l e R s m args below meth c H locs _ _ Q (F0 m pc' arr (Value.ref (am_ad s0 ro _) :: _))
                    rw [s5]
                    refine am_Wstr (as := []) hx hb hsz C hW hown hG y2 y1 (n := 0) (by decide +kernel) ⟨by decide, by decide⟩ (by decide) a1 a2 a3 a4 a5 hF7 hL7 rfl (by rw [am_cats]; exact hc9.2) (by omega) (by omega) hd3 ?_
                    rw [s3] at fin
                    exact fin
                  · cases hpr
              · cases hpr
            · cases h
        next hinv =>
          rw [if_neg hinv] at hk
          split at h
          next i' ls' st' M1 hst =>
            have m1 := am_step_mono hst
            have m2 := am_run_mono P _ _ _ _ _ _ _ _ _ h
            exact am_simple hx hb C hW hown hnm hG hlr hlo hd hf hk hst hc0 hu0 (by omega) (by omega) fun H' locs' arr' pc'' hp hG' hlr' hlo' =>
              ih d inf i' ls' st' M1 r M' ok h hx hb hml hW hown hnm hG' hlr' hlo' hp (Nat.le_trans hc0 m1.1) (Nat.le_trans hu0 m1.2) hc hs hF hLc K
          · cases h
