def am_gv : Jvm.Cond := Jvm.Cond.and given_1 narrow_1
def am_tmS (i : Nat) : Term := .string RX2 (am_stx (i + 4))
set_option maxRecDepth 100000 in
theorem am_g1 : ∀ p, p < 4 → Cond.arrayOf (.static "AirByYard" (am_stN p) "[I") .int ∈ flatC am_gv ∧ Cond.eq (.length (.static "AirByYard" (am_stN p) "[I")) (.int (Int32.ofNat (am_roL p).length)) ∈ flatC am_gv := by decide +kernel
set_option maxRecDepth 100000 in
theorem am_g2 : ∀ p, p < 4 → ∀ j, j < (am_roL p).length → Cond.eq (.elem (.static "AirByYard" (am_stN p) "[I") (.int (Int32.ofNat j))) (.int ((am_roL p).getD j 0)) ∈ flatC am_gv := by decide +kernel
set_option maxRecDepth 100000 in
theorem am_g3 : ∀ i, i < 4 → Cond.exactly (am_tmS i) "java/lang/String" ∈ flatC am_gv ∧ Cond.eq (.field (am_tmS i) "java/lang/String" "coder" "B") (.int 0) ∈ flatC am_gv ∧ Cond.arrayOf (.field (am_tmS i) "java/lang/String" "value" "[B") .byte ∈ flatC am_gv ∧ Cond.eq (.length (.field (am_tmS i) "java/lang/String" "value" "[B")) (.int (Int32.ofNat (am_roL (i + 4)).length)) ∈ flatC am_gv := by decide +kernel
set_option maxRecDepth 100000 in
theorem am_g4 : ∀ i, i < 4 → ∀ j, j < (am_roL (i + 4)).length → Cond.eq (.elem (.field (am_tmS i) "java/lang/String" "value" "[B") (.int (Int32.ofNat j))) (.int ((am_roL (i + 4)).getD j 0)) ∈ flatC am_gv := by decide +kernel
set_option maxRecDepth 100000 in
theorem am_g5 : ∀ i, i < 4 → ∀ j, j < 4 → i ≠ j → (Cond.not (Cond.eq (am_tmS i) (am_tmS j)) ∈ flatC am_gv ∨ Cond.not (Cond.eq (am_tmS j) (am_tmS i)) ∈ flatC am_gv) := by decide +kernel
theorem am_g6 : Cond.eq (.static "java/lang/String" "COMPACT_STRINGS" "Z") (.int 1) ∈ flatC am_gv := by decide +kernel
theorem am_g7 : Cond.isRef (.static "jdk/internal/util/Preconditions" "SIOOBE_FORMATTER" "Ljava/util/function/BiFunction;") ∈ flatC am_gv := by decide +kernel
theorem am_t1 : ∀ p, p < 4 → Cond.laysStatic "AirByYard" (am_stN p) "[I" ∈ lw_tbl := by decide +kernel
theorem am_t2 : Cond.initialized "AirByYard" ∈ lw_tbl ∧ Cond.initialized "java/lang/String" ∈ lw_tbl ∧ Cond.initialized "jdk/internal/util/Preconditions" ∈ lw_tbl ∧ Cond.laysStatic "java/lang/String" "COMPACT_STRINGS" "Z" ∈ lw_tbl ∧ Cond.laysStatic "jdk/internal/util/Preconditions" "SIOOBE_FORMATTER" "Ljava/util/function/BiFunction;" ∈ lw_tbl := by decide +kernel
theorem am_t3 : ∀ i, i < 4 → Cond.stringRef RX2 (am_stx (i + 4)) (am_stt (i + 4)) ∈ lw_tbl := by decide +kernel
theorem am_t4 : ∀ t, t < 4 → Cond.arrayClass (am_tys t) ∈ lw_tbl := by decide +kernel
theorem am_t5 : Cond.arrayOver (.object RX1) ∈ lw_tbl ∧ Cond.arrayOver (.object RX5) ∈ lw_tbl ∧ Cond.arrayOver (.object RX0) ∈ lw_tbl := by decide +kernel
theorem am_t6 : ∀ ci, ci < 8 → Cond.instantiable (am_cn ci) (am_fnum ci) ∈ lw_tbl := by decide +kernel
theorem am_chars : ∀ i, i < 4 → ∀ j, j < (am_roL (i + 4)).length → ((((am_roL (i + 4)).getD j 0) &&& 255).toUInt32 % 65536).toInt32 = (am_roL (i + 4)).getD j 0 := by decide +kernel
theorem am_knowC {args : Array Value} {s : State} (hts : ∀ w ∈ lw_tbl, w.before args s = true) : ∃ D : va_G, ∀ ci, ci < 8 → u_Kn s (am_cn ci) (am_fT ci) (am_fnum ci) (D.1 ci) (D.2 ci) := by
  have h : ∀ ci : Nat, ∃ q : ClassId × (Nat → Nat), ci < 8 → u_Kn s (am_cn ci) (am_fT ci) (am_fnum ci) q.1 q.2 := by
    intro ci
    by_cases hc : ci < 8
    · obtain ⟨cC, iS, hk⟩ := u_known (C := am_cn ci) (T := am_fT ci) (N := am_fnum ci) (n := am_fnum ci) hts (fun w hw => by
        obtain ⟨k, hk, rfl⟩ := List.mem_map.mp hw
        exact am_lays ci hc k (List.mem_range.mp hk)) (hts _ (am_t6 ci hc))
      exact ⟨(cC, iS), fun _ => hk⟩
    · exact ⟨(0, fun _ => 0), fun z => absurd z hc⟩
  obtain ⟨f, hf⟩ := Classical.axiomOfChoice h
  exact ⟨(fun ci => (f ci).1, fun ci => (f ci).2), hf⟩
theorem am_arrO {args : Array Value} {s : State} {Cn : String} (h : (Cond.arrayOver (.object Cn)).before args s = true) : ∃ cA : ClassId, ArrOfT s cA (.object Cn) ∧ va_RA s cA (.object Cn) := by
  obtain ⟨comp, c, k, h1, h2, h3, h4, h5⟩ := Cond.arrayOver_spec h
  exact ⟨c, fun n z => ⟨(fun q hq => by cases hq), k, h3, comp, h4⟩, k, comp, h3, h4, h1, h5⟩
theorem am_arrP {args : Array Value} {s : State} {ty : FieldType} (h : (Cond.arrayClass ty).before args s = true) (hp : ∀ C, ty ≠ .object C) : ∃ cA : ClassId, ArrOfT s cA ty ∧ va_RA s cA ty := by
  obtain ⟨c, k, comp, h1, h2, h3⟩ := Cond.arrayClass_spec h
  refine ⟨c, fun n z => ⟨(fun q hq => by cases hq), k, h2, comp, h3⟩, ?_⟩
  cases ty <;> first | exact h1 | exact absurd rfl (hp _)
theorem am_knowA {args : Array Value} {s : State} (hts : ∀ w ∈ lw_tbl, w.before args s = true) : ∃ ct : Nat → ClassId, ∀ t, t ≤ 6 → ArrOfT s (ct t) (am_tys t) ∧ va_RA s (ct t) (am_tys t) := by
  have h : ∀ t : Nat, ∃ cA : ClassId, t ≤ 6 → ArrOfT s cA (am_tys t) ∧ va_RA s cA (am_tys t) := by
    intro t
    rcases (by omega : t = 0 ∨ t = 1 ∨ t = 2 ∨ t = 3 ∨ t = 4 ∨ t = 5 ∨ t = 6 ∨ 6 < t) with rfl | rfl | rfl | rfl | rfl | rfl | rfl | z
    · obtain ⟨c, hc⟩ := am_arrP (hts _ (am_t4 0 (by decide))) (fun C z => by cases z)
      exact ⟨c, fun _ => hc⟩
    · obtain ⟨c, hc⟩ := am_arrP (hts _ (am_t4 1 (by decide))) (fun C z => by cases z)
      exact ⟨c, fun _ => hc⟩
    · obtain ⟨c, hc⟩ := am_arrP (hts _ (am_t4 2 (by decide))) (fun C z => by cases z)
      exact ⟨c, fun _ => hc⟩
    · obtain ⟨c, hc⟩ := am_arrP (hts _ (am_t4 3 (by decide))) (fun C z => by cases z)
      exact ⟨c, fun _ => hc⟩
    · obtain ⟨c, hc⟩ := am_arrO (hts _ am_t5.1)
      exact ⟨c, fun _ => hc⟩
    · obtain ⟨c, hc⟩ := am_arrO (hts _ am_t5.2.1)
      exact ⟨c, fun _ => hc⟩
    · obtain ⟨c, hc⟩ := am_arrO (hts _ am_t5.2.2)
      exact ⟨c, fun _ => hc⟩
    · exact ⟨0, fun y => by omega⟩
  exact Classical.axiomOfChoice h
/-- all that a run needs of the machine's start -/
theorem am_begin {s : State} {b L : Nat} {xs : Nat → Int32} (hts : ∀ w ∈ lw_tbl, w.before #[Value.ref b] s = true) (hX : va_X b L xs s s.heap) (hgv : am_gv.before #[Value.ref b] s = true) : ∃ (D : va_G) (ct : Nat → ClassId) (ro : Nat → Nat), ro 8 = b ∧ am_C0 D ct ro b s L xs := by
  have hf := flat_of_before _ hgv
  have hA : ∀ a : Nat, a < s.heap.size → ¬ am_Ar s a := fun a h => Nat.not_le.mpr h
  obtain ⟨D, hD⟩ := am_knowC hts
  obtain ⟨ct, hct⟩ := am_knowA hts
  have hst : ∀ p : Nat, ∃ t : Nat, p < 4 → (Term.static "AirByYard" (am_stN p) "[I").eval #[Value.ref b] s none [] s = some (.ref t) ∧ va_T .int t (am_roL p).length (fun j => .int ((am_roL p).getD j 0)) (am_Ar s) s s.heap := by
    intro p
    by_cases hp : p < 4
    · obtain ⟨t, h1, h2⟩ := va_Tof (f := fun j => .int ((am_roL p).getD j 0)) (A := am_Ar s) (by rcases (by omega : p = 0 ∨ p = 1 ∨ p = 2 ∨ p = 3) with rfl | rfl | rfl | rfl <;> decide) (hf _ (am_g1 p hp).1) (va_eqt (hf _ (am_g1 p hp).2)) (fun j hj => va_eqt (hf _ (am_g2 p hp j hj))) hA
      exact ⟨t, fun _ => ⟨h1, h2⟩⟩
    · exact ⟨0, fun z => absurd z hp⟩
  obtain ⟨ts, hts4⟩ := Classical.axiomOfChoice hst
  obtain ⟨adK, adV, hS, hev⟩ := vk_Sof (args := #[Value.ref b]) (s := s) (N := 4) (tm := am_tmS) (len := [5, 6, 5, 4]) (byt := [am_roL 4, am_roL 5, am_roL 6, am_roL 7]) (A := am_Ar s) (by decide) (fun i hi => hf _ (am_g3 i hi).1) (fun i hi => hf _ (am_g3 i hi).2.1) (fun i hi => hf _ (am_g3 i hi).2.2.1)
    (fun i hi => by
      have := hf _ (am_g3 i hi).2.2.2
      rcases (by omega : i = 0 ∨ i = 1 ∨ i = 2 ∨ i = 3) with rfl | rfl | rfl | rfl <;> exact this)
    (fun i hi j hj => by
      have h4 : ∀ j, j < (am_roL (i + 4)).length → (Cond.eq (.elem (.field (am_tmS i) "java/lang/String" "value" "[B") (.int (Int32.ofNat j))) (.int ((am_roL (i + 4)).getD j 0))).before #[Value.ref b] s = true := fun j hj => hf _ (am_g4 i hi j hj)
      rcases (by omega : i = 0 ∨ i = 1 ∨ i = 2 ∨ i = 3) with rfl | rfl | rfl | rfl <;> exact h4 j hj)
    (fun i j hi hj hne => by
      rcases am_g5 i hi j hj hne with h | h
      · exact Or.inl (hf _ h)
      · exact Or.inr (hf _ h)) hA
  have hCS := va_Zof (A := am_Ar s) (hts _ am_t2.2.2.2.1) (hts _ am_t2.2.1) (va_eqi (hf _ am_g6)) hA
  have hZ : ∃ r, va_Z "jdk/internal/util/Preconditions" "SIOOBE_FORMATTER" "Ljava/util/function/BiFunction;" (va_rf r) (am_Ar s) s s.heap := by
    rcases va_Zqof (A := am_Ar s) (hts _ am_t2.2.2.2.2) (hts _ am_t2.2.2.1) (hf _ am_g7) hA with h | ⟨t, h⟩
    · exact ⟨none, h⟩
    · exact ⟨some t, h⟩
  have hro : ∀ p, 4 ≤ p → p < 8 → (if p < 4 then ts p else if p < 8 then adK (p - 4) else b) = adK (p - 4) := fun p h1 h2 => by rw [if_neg (by omega), if_pos h2]
  refine ⟨D, ct, fun p => if p < 4 then ts p else if p < 8 then adK (p - 4) else b, rfl, hts, hD, hct, ?_, ?_, ?_, ?_⟩
  · rintro p (hp | rfl)
    · obtain ⟨cell, q1, q2, q3, q4, q5, q6, -⟩ := (hts4 p hp).2
      have e : (am_roS L p).2 = (am_roL p).length := by unfold am_roS; rw [if_pos hp]
      rw [e]
      refine ⟨cell, by show s.heap[if p < 4 then ts p else _]? = _; rw [if_pos hp]; exact q1, q2, q3, q4, q5, fun j hj => ?_⟩
      rw [q6 j hj]
      unfold am_roI
      rw [if_pos (by omega)]
    · obtain ⟨scr, q1, q2, q3, q4, q5⟩ := hX
      refine ⟨scr, q1, q2, q3, by rw [q4]; exact Nat.le_refl _, by rw [q4]; rfl, fun j hj => ?_⟩
      exact q5 j hj
  · intro p hp
    show va_Z "AirByYard" (am_stN p) "[I" (.ref (if p < 4 then ts p else _)) _ s s.heap
    rw [if_pos hp]
    exact va_Zref (hts _ (am_t1 p hp)) (hts _ am_t2.1) (hts4 p hp).1 hA
  · intro p h1 h2
    show vk_R RX2 (am_stx p) (am_stt p) (if p < 4 then ts p else if p < 8 then adK (p - 4) else b) s
    rw [hro p h1 h2]
    have e4 : p - 4 + 4 = p := by omega
    have a1 := hts _ (am_t3 (p - 4) (by omega))
    have a2 := hev (p - 4) (by omega)
    unfold am_tmS at a2
    rw [e4] at a1 a2
    exact vk_R.of a1 a2
  · intro l p h1 h2
    show (∃ cell : Cell, s.heap[if p < 4 then ts p else if p < 8 then adK (p - 4) else b]? = some cell ∧ _ ∧ _) ∧ Met l _ _ _ (am_PcS s [.ref (if p < 4 then ts p else if p < 8 then adK (p - 4) else b)]) _ _ _ _ ∧ ∀ k : Int32, _ → Met l _ _ _ (am_PcS s [.ref (if p < 4 then ts p else if p < 8 then adK (p - 4) else b), .int k]) _ _ _ _
    rw [hro p h1 h2]
    obtain ⟨t1, t2, t3, t4⟩ := hS.1 (p - 4) (by omega)
    have key : ∀ i, i < 4 → ([5, 6, 5, 4] : List Nat).getD i 0 = (am_roL (i + 4)).length ∧ ([am_roL 4, am_roL 5, am_roL 6, am_roL 7] : List (List Int32)).getD i [] = am_roL (i + 4) ∧ (am_roL (i + 4)).length < 2 ^ 31 := by
      intro i hi
      rcases (by omega : i = 0 ∨ i = 1 ∨ i = 2 ∨ i = 3) with rfl | rfl | rfl | rfl <;> exact ⟨rfl, rfl, by decide⟩
    obtain ⟨k1, k2, k3⟩ := key (p - 4) (by omega)
    rw [k1, k2] at t4
    have e4 : p - 4 + 4 = p := by omega
    have hc := am_chars (p - 4) (by omega)
    rw [e4] at t4 k3 hc
    have hT : am_T1 s (adK (p - 4)) (adV (p - 4)) (am_roL p).length (fun j => (am_roL p).getD j 0) := ⟨t1, t2, t3, t4, hCS⟩
    refine ⟨?_, am_c6 l hts hT, fun k hk => ?_⟩
    · obtain ⟨cell, o1, o2, o3, -⟩ := t1
      exact ⟨cell, o1, o2, o3⟩
    · have := am_c7 l hts hZ hT k3 hk
      obtain ⟨j, hj, rfl⟩ := vp_in_of hk k3
      rw [nI_clamp (by omega), hc j hj] at this
      rw [nI_clamp (by omega)]
      exact this
