theorem dJ0_length_8abf5_0 : decode cJ0_length_8abf5 0 = .ok (.aload_n 0, 1) := by decide +kernel
theorem dJ0_length_8abf5_1 : decode cJ0_length_8abf5 1 = .ok (.getfield 9, 3) := by decide +kernel
theorem dJ0_length_8abf5_4 : decode cJ0_length_8abf5 4 = .ok (.arraylength, 1) := by decide +kernel
theorem dJ0_length_8abf5_5 : decode cJ0_length_8abf5 5 = .ok (.aload_n 0, 1) := by decide +kernel
theorem dJ0_length_8abf5_6 : decode cJ0_length_8abf5 6 = .ok (.invokevirtual 335, 3) := by decide +kernel
theorem dJ0_length_8abf5_9 : decode cJ0_length_8abf5 9 = .ok (.ishr, 1) := by decide +kernel
theorem dJ0_length_8abf5_10 : decode cJ0_length_8abf5 10 = .ok (.ireturn, 1) := by decide +kernel
theorem dJ0_charAt_5068e_0 : decode cJ0_charAt_5068e 0 = .ok (.aload_n 0, 1) := by decide +kernel
theorem dJ0_charAt_5068e_1 : decode cJ0_charAt_5068e 1 = .ok (.invokevirtual 492, 3) := by decide +kernel
theorem dJ0_charAt_5068e_4 : decode cJ0_charAt_5068e 4 = .ok (.ifCond .eq 12, 3) := by decide +kernel
theorem dJ0_charAt_5068e_7 : decode cJ0_charAt_5068e 7 = .ok (.aload_n 0, 1) := by decide +kernel
theorem dJ0_charAt_5068e_8 : decode cJ0_charAt_5068e 8 = .ok (.getfield 9, 3) := by decide +kernel
theorem dJ0_charAt_5068e_11 : decode cJ0_charAt_5068e 11 = .ok (.iload_n 1, 1) := by decide +kernel
theorem dJ0_charAt_5068e_12 : decode cJ0_charAt_5068e 12 = .ok (.invokestatic 495, 3) := by decide +kernel
theorem dJ0_charAt_5068e_15 : decode cJ0_charAt_5068e 15 = .ok (.ireturn, 1) := by decide +kernel
theorem dJ0_charAt_5068e_16 : decode cJ0_charAt_5068e 16 = .ok (.aload_n 0, 1) := by decide +kernel
theorem dJ0_charAt_5068e_17 : decode cJ0_charAt_5068e 17 = .ok (.getfield 9, 3) := by decide +kernel
theorem dJ0_charAt_5068e_20 : decode cJ0_charAt_5068e 20 = .ok (.iload_n 1, 1) := by decide +kernel
theorem dJ0_charAt_5068e_21 : decode cJ0_charAt_5068e 21 = .ok (.invokestatic 498, 3) := by decide +kernel
theorem dJ0_charAt_5068e_24 : decode cJ0_charAt_5068e 24 = .ok (.ireturn, 1) := by decide +kernel
theorem dJ0_coder_7d493_0 : decode cJ0_coder_7d493 0 = .ok (.getstatic 38, 3) := by decide +kernel
theorem dJ0_coder_7d493_3 : decode cJ0_coder_7d493 3 = .ok (.ifCond .eq 10, 3) := by decide +kernel
theorem dJ0_coder_7d493_6 : decode cJ0_coder_7d493 6 = .ok (.aload_n 0, 1) := by decide +kernel
theorem dJ0_coder_7d493_7 : decode cJ0_coder_7d493 7 = .ok (.getfield 15, 3) := by decide +kernel
theorem dJ0_coder_7d493_10 : decode cJ0_coder_7d493 10 = .ok (.goto 4, 3) := by decide +kernel
theorem dJ0_coder_7d493_13 : decode cJ0_coder_7d493 13 = .ok (.iconst 1, 1) := by decide +kernel
theorem dJ0_coder_7d493_14 : decode cJ0_coder_7d493 14 = .ok (.ireturn, 1) := by decide +kernel
theorem dJ0_isLatin1_aae02_0 : decode cJ0_isLatin1_aae02 0 = .ok (.getstatic 38, 3) := by decide +kernel
theorem dJ0_isLatin1_aae02_3 : decode cJ0_isLatin1_aae02 3 = .ok (.ifCond .eq 14, 3) := by decide +kernel
theorem dJ0_isLatin1_aae02_6 : decode cJ0_isLatin1_aae02 6 = .ok (.aload_n 0, 1) := by decide +kernel
theorem dJ0_isLatin1_aae02_7 : decode cJ0_isLatin1_aae02 7 = .ok (.getfield 15, 3) := by decide +kernel
theorem dJ0_isLatin1_aae02_10 : decode cJ0_isLatin1_aae02 10 = .ok (.ifCond .ne 7, 3) := by decide +kernel
theorem dJ0_isLatin1_aae02_13 : decode cJ0_isLatin1_aae02 13 = .ok (.iconst 1, 1) := by decide +kernel
theorem dJ0_isLatin1_aae02_14 : decode cJ0_isLatin1_aae02 14 = .ok (.goto 4, 3) := by decide +kernel
theorem dJ0_isLatin1_aae02_17 : decode cJ0_isLatin1_aae02 17 = .ok (.iconst 0, 1) := by decide +kernel
theorem dJ0_isLatin1_aae02_18 : decode cJ0_isLatin1_aae02 18 = .ok (.ireturn, 1) := by decide +kernel
theorem dJ0_checkIndex_df160_0 : decode cJ0_checkIndex_df160 0 = .ok (.iload_n 0, 1) := by decide +kernel
theorem dJ0_checkIndex_df160_1 : decode cJ0_checkIndex_df160 1 = .ok (.iload_n 1, 1) := by decide +kernel
theorem dJ0_checkIndex_df160_2 : decode cJ0_checkIndex_df160 2 = .ok (.getstatic 1053, 3) := by decide +kernel
theorem dJ0_checkIndex_df160_5 : decode cJ0_checkIndex_df160 5 = .ok (.invokestatic 1059, 3) := by decide +kernel
theorem dJ0_checkIndex_df160_8 : decode cJ0_checkIndex_df160 8 = .ok (.pop, 1) := by decide +kernel
theorem dJ0_checkIndex_df160_9 : decode cJ0_checkIndex_df160 9 = .ok (.return_, 1) := by decide +kernel
theorem dJ1_charAt_3b067_0 : decode cJ1_charAt_3b067 0 = .ok (.iload_n 1, 1) := by decide +kernel
theorem dJ1_charAt_3b067_1 : decode cJ1_charAt_3b067 1 = .ok (.aload_n 0, 1) := by decide +kernel
theorem dJ1_charAt_3b067_2 : decode cJ1_charAt_3b067 2 = .ok (.arraylength, 1) := by decide +kernel
theorem dJ1_charAt_3b067_3 : decode cJ1_charAt_3b067 3 = .ok (.invokestatic 9, 3) := by decide +kernel
theorem dJ1_charAt_3b067_6 : decode cJ1_charAt_3b067 6 = .ok (.aload_n 0, 1) := by decide +kernel
theorem dJ1_charAt_3b067_7 : decode cJ1_charAt_3b067 7 = .ok (.iload_n 1, 1) := by decide +kernel
theorem dJ1_charAt_3b067_8 : decode cJ1_charAt_3b067 8 = .ok (.baload, 1) := by decide +kernel
theorem dJ1_charAt_3b067_9 : decode cJ1_charAt_3b067 9 = .ok (.sipush 255, 3) := by decide +kernel
theorem dJ1_charAt_3b067_12 : decode cJ1_charAt_3b067 12 = .ok (.iand, 1) := by decide +kernel
theorem dJ1_charAt_3b067_13 : decode cJ1_charAt_3b067 13 = .ok (.i2c, 1) := by decide +kernel
theorem dJ1_charAt_3b067_14 : decode cJ1_charAt_3b067 14 = .ok (.ireturn, 1) := by decide +kernel
theorem dJ3_checkIndex_8e157_0 : decode cJ3_checkIndex_8e157 0 = .ok (.iload_n 0, 1) := by decide +kernel
theorem dJ3_checkIndex_8e157_1 : decode cJ3_checkIndex_8e157 1 = .ok (.ifCond .lt 8, 3) := by decide +kernel
theorem dJ3_checkIndex_8e157_4 : decode cJ3_checkIndex_8e157 4 = .ok (.iload_n 0, 1) := by decide +kernel
theorem dJ3_checkIndex_8e157_5 : decode cJ3_checkIndex_8e157 5 = .ok (.iload_n 1, 1) := by decide +kernel
theorem dJ3_checkIndex_8e157_6 : decode cJ3_checkIndex_8e157 6 = .ok (.if_icmp .lt 10, 3) := by decide +kernel
theorem dJ3_checkIndex_8e157_9 : decode cJ3_checkIndex_8e157 9 = .ok (.aload_n 2, 1) := by decide +kernel
theorem dJ3_checkIndex_8e157_10 : decode cJ3_checkIndex_8e157 10 = .ok (.iload_n 0, 1) := by decide +kernel
theorem dJ3_checkIndex_8e157_11 : decode cJ3_checkIndex_8e157 11 = .ok (.iload_n 1, 1) := by decide +kernel
theorem dJ3_checkIndex_8e157_12 : decode cJ3_checkIndex_8e157 12 = .ok (.invokestatic 95, 3) := by decide +kernel
theorem dJ3_checkIndex_8e157_15 : decode cJ3_checkIndex_8e157 15 = .ok (.athrow, 1) := by decide +kernel
theorem dJ3_checkIndex_8e157_16 : decode cJ3_checkIndex_8e157 16 = .ok (.iload_n 0, 1) := by decide +kernel
theorem dJ3_checkIndex_8e157_17 : decode cJ3_checkIndex_8e157 17 = .ok (.ireturn, 1) := by decide +kernel
theorem am_wd {b : Nat} {s0 s : State} (h0 : ∀ w ∈ lw_tbl, w.before #[Value.ref b] s0 = true) (hW : s0.WarmedH s.vm) {w : Nat} {c : Cond} (h : lw_tbl[w]? = some c) (hg : goodWord c = true) (args : Array Value) : c.before args s = true :=
  word_at hW (good_of_word hg) (h0 c (List.mem_of_getElem? h))
def am_QcV : Array Value → State → Outcome → State → Prop := fun _ st o t => o = .returned none ∧ t.heap = st.heap
def am_rmk (k : Nat) : Room := { frames := k, cells := 0, slots := 0, locals := 60 * k }
abbrev am_Ar (s0 : State) : Nat → Prop := fun q => s0.heap.size ≤ q
theorem am_dm {y : MethodName} {bytes : ByteArray} {mL n d : Nat} {R : Room} {b : Nat} {s0 s : State} {args : Array Value} {rt : Option FieldType} {own : String} {x w1 w2 w5 : Nat} (h0 : ∀ w ∈ lw_tbl, w.before #[Value.ref b] s0 = true) (hW : s0.WarmedH s.vm)
    (hn : (parseMethodDescriptor y.desc).map (fun d => d.parameters.length) = some n) (hnm : y.cls ≠ "java/lang/invoke/MethodHandle" ∧ y.cls ≠ "java/lang/invoke/VarHandle") (h1 : lw_tbl[w1]? = some (.methodLink own x y)) (h2 : lw_tbl[w2]? = some (.code y bytes mL rt)) (h5 : lw_tbl[w5]? = some (.initialized y.cls)) (hm : mL ≤ 41) (hF : d + 1 ≤ R.frames) (hLc : 60 * (d + 1) ≤ R.locals) :
    CallB R s args own x y bytes mL rt [Cond.code y bytes mL rt] (am_rmk d) 0 0 n :=
  ⟨rfl, rfl, hF, by show 8 + (mL + 11) + 60 * d ≤ R.locals; omega, fun w hw a' U hU => by
    rw [List.mem_singleton] at hw
    subst hw
    exact am_wd h0 (State.WarmedH.trans hW hU) h2 rfl a', List.mem_singleton.mpr rfl, am_wd h0 hW h2 rfl args, am_wd h0 hW h5 rfl args, hnm, fun sig hs => by rw [hs] at hn; simpa using hn.symm, am_wd h0 hW h1 rfl args⟩
theorem am_WbackV {p : Program} {l : Launch} {e : Env} {R : Room} {s : State} {m : MethodId} {args : Array Value} {below : List Frame} {meth : Method} {c : Code} {H : Heap} {locs : List Loc} {cells slots : Nat} {Q : State → Prop} {pc : Nat} {arr : Array Slot} {st0 rest : List Value} {a : Array Value} (hr : va_Run p l e R s m args below meth c H locs cells slots 0 0 (F0 m pc arr st0) rest (am_QcV a) (fun _ => False))
    (kk : W p l e R s m args below meth c H locs cells slots Q (F0 m (pc + 3) arr rest)) : W p l e R s m args below meth c H locs cells slots Q (F0 m pc arr st0) := by
  intro T hT X
  obtain ⟨v, st₀, t, T', L', h0, X', hL, e1, e2, hq, go⟩ := hr T hT X
  obtain ⟨hv, hG'⟩ := hq
  cases hv
  have hL0 : L' = [] := by
    cases L' with
    | nil => rfl
    | cons z zs => exact (hL z List.mem_cons_self).elim
  subst hL0
  rw [List.append_nil] at X'
  obtain ⟨t2, a1, b1⟩ := kk T' (by rw [e1, hG', h0]) X'
  exact ⟨t2, go t2 a1, b1⟩
set_option maxHeartbeats 4000000 in
theorem am_c1 (l : Launch) (s0 : State) {i n : Int32} (r : Option Nat) (h1 : ¬ i < 0) (h2 : i < n) : Met l yJ3_checkIndex_8e157 [Cond.code yJ3_checkIndex_8e157 cJ3_checkIndex_8e157 3 (some .int)] (am_rmk 0) (am_PcS s0 [.int i, .int n, va_rf r]) (am_QcS i) 0 0 (fun _ => False) := by
  refine Met.ofW (cc := cJ3_checkIndex_8e157) (maxL := 3) (ret := some .int) (by decide) rfl ?_
  intro p e s m args below meth c s₁ B hml hv
  obtain ⟨rfl, hW, hq⟩ := hv
  have hx := B.exec
  have hb := B.bytes
  have hlocks := B.notSynchronized
  rw [lg_entry_eq]
  have hl : ∃ ls : Array Slot, ls = (lg_sl [.int i, .int n, va_rf r] ++ List.replicate (3 - (lg_sl [.int i, .int n, va_rf r]).length) Slot.unset).toArray ∧ lv_has ls 3 [(0, .int i), (1, .int n)] := by
    refine ⟨_, rfl, ?_⟩
    cases r with
    | none => exact lv_sub (lv_entry [.int i, .int n, .null] (n := 3) (Nat.le_of_ble_eq_true rfl)) [0, 1] rfl
    | some a => exact lv_sub (lv_entry [.int i, .int n, .ref a] (n := 3) (Nat.le_of_ble_eq_true rfl)) [0, 1] rfl
  obtain ⟨ls, els, hl⟩ := hl
  rw [← els]
  refine lv_iload_n hx hb dJ3_checkIndex_8e157_0 rfl (lv_at hl 0 rfl) ?_
  refine lv_if_lt (tgt := 9) hx hb dJ3_checkIndex_8e157_1 (by decide) (fun z => absurd z h1) (fun _ => ?_)
  refine lv_iload_n hx hb dJ3_checkIndex_8e157_4 rfl (lv_at hl 0 rfl) ?_
  refine lv_iload_n hx hb dJ3_checkIndex_8e157_5 rfl (lv_at hl 1 rfl) ?_
  refine lv_icmp_lt (tgt := 16) hx hb dJ3_checkIndex_8e157_6 (by decide) (fun _ => ?_) (fun z => absurd h2 z)
  refine lv_iload_n hx hb dJ3_checkIndex_8e157_16 rfl (lv_at hl 0 rfl) ?_
  exact W.iret hx hb B.returns (fun t ht _ => ⟨rfl, ht⟩) (fun q hq => absurd hq List.not_mem_nil) dJ3_checkIndex_8e157_17
set_option maxHeartbeats 4000000 in
theorem am_c2 (l : Launch) {b : Nat} {s0 : State} (h0 : ∀ w ∈ lw_tbl, w.before #[Value.ref b] s0 = true) (hZ : ∃ r, va_Z "jdk/internal/util/Preconditions" "SIOOBE_FORMATTER" "Ljava/util/function/BiFunction;" (va_rf r) (am_Ar s0) s0 s0.heap) {i n : Int32} (h1 : ¬ i < 0) (h2 : i < n) : Met l yJ0_checkIndex_df160 [Cond.code yJ0_checkIndex_df160 cJ0_checkIndex_df160 2 none] (am_rmk 1) (am_PcS s0 [.int i, .int n]) am_QcV 0 0 (fun _ => False) := by
  obtain ⟨r, hZ⟩ := hZ
  refine Met.ofW (cc := cJ0_checkIndex_df160) (maxL := 2) (ret := none) (by decide) rfl ?_
  intro p e s m args below meth c s₁ B hml hv
  obtain ⟨rfl, hW, hq⟩ := hv
  have hx := B.exec
  have hb := B.bytes
  have hlocks := B.notSynchronized
  have hown : s.vm.findClass RJ0 = some m.cls := findClass_of_methodNamed B.named
  have hS : va_S (am_Ar s0) s.heap s.heap [] := va_S.rf
  have hl := lv_entry [.int i, .int n] (n := 2) (Nat.le_of_ble_eq_true rfl)
  rw [lg_entry_eq]
  generalize (lg_sl [.int i, .int n] ++ List.replicate (2 - (lg_sl [.int i, .int n]).length) Slot.unset).toArray = ls at hl ⊢
  refine lv_iload_n hx hb dJ0_checkIndex_df160_0 rfl (lv_at hl 0 rfl) ?_
  refine lv_iload_n hx hb dJ0_checkIndex_df160_1 rfl (lv_at hl 1 rfl) ?_
  refine va_gets hx hb ((va_Z.moved hW.alike hZ).kept (fun a _ ha => hq a (Nat.not_le.mp ha))) hS hown (am_wd h0 hW (w := 502) (by decide +kernel) rfl _) (fun _ h => h) dJ0_checkIndex_df160_2 ?_
  refine am_WbackS (va_runS (own := RJ0) (As := [.int i, .int n, va_rf r]) (rest := []) (Ts := []) (n := 3) ⟨hx, hb, hml, hown, fun _ h => absurd h List.not_mem_nil⟩ (am_c1 l s0 r h1 h2) ⟨am_dm h0 hW (w1 := 504) (w2 := 506) (w5 := 109) (by decide +kernel) ⟨by decide, by decide⟩ (by decide +kernel) (by decide +kernel) (by decide +kernel) (by decide) (by decide) (by decide), am_wd h0 hW (w := 505) (by decide +kernel) rfl _⟩
    ⟨fun _ _ _ _ h => h, fun U hU hV => ⟨rfl, State.WarmedH.trans hW hV, fun z hz => by rw [hU]; exact hq z hz⟩⟩ rfl rfl hl.1 rfl (lv_room (by decide)) dJ0_checkIndex_df160_5 ⟨Nat.zero_le _, Nat.zero_le _⟩) ?_
  refine lv_pop hx hb dJ0_checkIndex_df160_8 rfl ?_
  exact W.vret hx hb B.returns (fun t ht _ => ⟨rfl, ht⟩) (fun q hq => absurd hq List.not_mem_nil) dJ0_checkIndex_df160_9
set_option maxHeartbeats 4000000 in
theorem am_c3 (l : Launch) {b : Nat} {s0 : State} (h0 : ∀ w ∈ lw_tbl, w.before #[Value.ref b] s0 = true) (hZ : ∃ r, va_Z "jdk/internal/util/Preconditions" "SIOOBE_FORMATTER" "Ljava/util/function/BiFunction;" (va_rf r) (am_Ar s0) s0 s0.heap) {t0 N : Nat} {f : Nat → Int32} (hT : va_T .byte t0 N (fun j => .int (f j)) (am_Ar s0) s0 s0.heap) (hN : N < 2 ^ 31) {k : Int32} (hk : vp_in k N) : Met l yJ1_charAt_3b067 [Cond.code yJ1_charAt_3b067 cJ1_charAt_3b067 2 (some .char)] (am_rmk 2) (am_PcS s0 [.ref t0, .int k]) (am_QcS (((f k.toNatClampNeg) &&& 255).toUInt32 % 65536).toInt32) 0 0 (fun _ => False) := by
  have h1 : ¬ k < 0 := fun z => hk (Or.inl z)
  have h2 : k < Int32.ofNat N := by
    obtain ⟨j, hj, rfl⟩ := vp_in_of hk hN
    exact nI_lt hj hN
  refine Met.ofW (cc := cJ1_charAt_3b067) (maxL := 2) (ret := some .char) (by decide) rfl ?_
  intro p e s m args below meth c s₁ B hml hv
  obtain ⟨rfl, hW, hq⟩ := hv
  have hx := B.exec
  have hb := B.bytes
  have hlocks := B.notSynchronized
  have hown : s.vm.findClass RJ1 = some m.cls := findClass_of_methodNamed B.named
  have hS : va_S (am_Ar s0) s.heap s.heap [] := va_S.rf
  have hT' := (va_T.moved hW.alike hT).kept (H1 := s.heap) (fun a _ ha => hq a (Nat.not_le.mp ha))
  have hl := lv_entry [.ref t0, .int k] (n := 2) (Nat.le_of_ble_eq_true rfl)
  rw [lg_entry_eq]
  generalize (lg_sl [.ref t0, .int k] ++ List.replicate (2 - (lg_sl [.ref t0, .int k]).length) Slot.unset).toArray = ls at hl ⊢
  refine lv_iload_n hx hb dJ1_charAt_3b067_0 rfl (lv_at hl 1 rfl) ?_
  refine lv_aload_n hx hb dJ1_charAt_3b067_1 rfl (lv_at hl 0 rfl) ?_
  refine va_tlen hx hb hT' hS rfl dJ1_charAt_3b067_2 ?_
  refine am_WbackV (va_runS (own := RJ1) (As := [.int k, .int (Int32.ofNat N)]) (rest := []) (Ts := []) (n := 2) ⟨hx, hb, hml, hown, fun _ h => absurd h List.not_mem_nil⟩ (am_c2 l h0 hZ h1 h2) ⟨am_dm h0 hW (w1 := 499) (w2 := 501) (w5 := 107) (by decide +kernel) ⟨by decide, by decide⟩ (by decide +kernel) (by decide +kernel) (by decide +kernel) (by decide) (by decide) (by decide), am_wd h0 hW (w := 500) (by decide +kernel) rfl _⟩
    ⟨fun _ _ _ _ h => h, fun U hU hV => ⟨rfl, State.WarmedH.trans hW hV, fun z hz => by rw [hU]; exact hq z hz⟩⟩ rfl rfl hl.1 rfl (lv_room (by decide)) dJ1_charAt_3b067_3 ⟨Nat.zero_le _, Nat.zero_le _⟩) ?_
  refine lv_aload_n hx hb dJ1_charAt_3b067_6 rfl (lv_at hl 0 rfl) ?_
  refine lv_iload_n hx hb dJ1_charAt_3b067_7 rfl (lv_at hl 1 rfl) ?_
  refine va_tb hx hb hT' hS hk rfl dJ1_charAt_3b067_8 ?_
  refine lv_sipush (v := 255) hx hb dJ1_charAt_3b067_9 (by decide) ?_
  refine lv_iand hx hb dJ1_charAt_3b067_12 ?_
  refine lv_i2c hx hb dJ1_charAt_3b067_13 rfl ?_
  exact W.zret hx hb B.returns (pk_nc _) (fun t ht _ => ⟨rfl, ht⟩) (fun q hq => absurd hq List.not_mem_nil) dJ1_charAt_3b067_14
/-- what is known of a text's own object -/
def am_T1 (s0 : State) (a t N : Nat) (f : Nat → Int32) : Prop := va_O "java/lang/String" a (am_Ar s0) s0 s0.heap ∧ va_OF "java/lang/String" "coder" "B" (.int 0) a (am_Ar s0) s0 s0.heap ∧ va_OF "java/lang/String" "value" "[B" (.ref t) a (am_Ar s0) s0 s0.heap ∧ va_T .byte t N (fun j => .int (f j)) (am_Ar s0) s0 s0.heap ∧ va_Z "java/lang/String" "COMPACT_STRINGS" "Z" (.int 1) (am_Ar s0) s0 s0.heap
set_option maxHeartbeats 4000000 in
theorem am_c4 (l : Launch) {b : Nat} {s0 : State} (h0 : ∀ w ∈ lw_tbl, w.before #[Value.ref b] s0 = true) {a t N : Nat} {f : Nat → Int32} (hT : am_T1 s0 a t N f) : Met l yJ0_isLatin1_aae02 [Cond.code yJ0_isLatin1_aae02 cJ0_isLatin1_aae02 1 (some .boolean)] (am_rmk 0) (am_PcS s0 [.ref a]) (am_QcS 1) 0 0 (fun _ => False) := by
  obtain ⟨t1, t2, t3, t4, t5⟩ := hT
  refine Met.ofW (cc := cJ0_isLatin1_aae02) (maxL := 1) (ret := some .boolean) (by decide) rfl ?_
  intro p e s m args below meth c s₁ B hml hv
  obtain ⟨rfl, hW, hq⟩ := hv
  have hx := B.exec
  have hb := B.bytes
  have hlocks := B.notSynchronized
  have hown : s.vm.findClass RJ0 = some m.cls := findClass_of_methodNamed B.named
  have hS : va_S (am_Ar s0) s.heap s.heap [] := va_S.rf
  have hkp : ∀ a : Nat, a < s0.heap.size → ¬ am_Ar s0 a → s.heap[a]? = s0.heap[a]? := fun a _ ha => hq a (Nat.not_le.mp ha)
  have hl := lv_entry [.ref a] (n := 1) (Nat.le_of_ble_eq_true rfl)
  rw [lg_entry_eq]
  generalize (lg_sl [.ref a] ++ List.replicate (1 - (lg_sl [.ref a]).length) Slot.unset).toArray = ls at hl ⊢
  refine va_gets hx hb ((va_Z.moved hW.alike t5).kept hkp) hS hown (am_wd h0 hW (w := 486) (by decide +kernel) rfl _) (fun _ h => h) dJ0_isLatin1_aae02_0 ?_
  refine lv_if_eq (tgt := 17) hx hb dJ0_isLatin1_aae02_3 (by decide) (fun z => absurd z (by decide)) (fun _ => ?_)
  refine lv_aload_n hx hb dJ0_isLatin1_aae02_6 rfl (lv_at hl 0 rfl) ?_
  refine vk_getf hx hb ((va_OF.moved hW.alike t2).kept hkp) hS hown (am_wd h0 hW (w := 1537) (by decide +kernel) rfl _) (fun _ h => h) dJ0_isLatin1_aae02_7 ?_
  refine lv_if_ne (tgt := 17) hx hb dJ0_isLatin1_aae02_10 (by decide) (fun z => absurd rfl z) (fun _ => ?_)
  refine lv_iconst (v := 1) hx hb dJ0_isLatin1_aae02_13 (by decide) ?_
  refine lv_goto (tgt := 18) hx hb dJ0_isLatin1_aae02_14 (by decide) ?_
  exact W.zret hx hb B.returns (by decide) (fun t ht _ => ⟨rfl, ht⟩) (fun q hq => absurd hq List.not_mem_nil) dJ0_isLatin1_aae02_18
set_option maxHeartbeats 4000000 in
theorem am_c5 (l : Launch) {b : Nat} {s0 : State} (h0 : ∀ w ∈ lw_tbl, w.before #[Value.ref b] s0 = true) {a t N : Nat} {f : Nat → Int32} (hT : am_T1 s0 a t N f) : Met l yJ0_coder_7d493 [Cond.code yJ0_coder_7d493 cJ0_coder_7d493 1 (some .byte)] (am_rmk 0) (am_PcS s0 [.ref a]) (am_QcS 0) 0 0 (fun _ => False) := by
  obtain ⟨t1, t2, t3, t4, t5⟩ := hT
  refine Met.ofW (cc := cJ0_coder_7d493) (maxL := 1) (ret := some .byte) (by decide) rfl ?_
  intro p e s m args below meth c s₁ B hml hv
  obtain ⟨rfl, hW, hq⟩ := hv
  have hx := B.exec
  have hb := B.bytes
  have hlocks := B.notSynchronized
  have hown : s.vm.findClass RJ0 = some m.cls := findClass_of_methodNamed B.named
  have hS : va_S (am_Ar s0) s.heap s.heap [] := va_S.rf
  have hkp : ∀ a : Nat, a < s0.heap.size → ¬ am_Ar s0 a → s.heap[a]? = s0.heap[a]? := fun a _ ha => hq a (Nat.not_le.mp ha)
  have hl := lv_entry [.ref a] (n := 1) (Nat.le_of_ble_eq_true rfl)
  rw [lg_entry_eq]
  generalize (lg_sl [.ref a] ++ List.replicate (1 - (lg_sl [.ref a]).length) Slot.unset).toArray = ls at hl ⊢
  refine va_gets hx hb ((va_Z.moved hW.alike t5).kept hkp) hS hown (am_wd h0 hW (w := 486) (by decide +kernel) rfl _) (fun _ h => h) dJ0_coder_7d493_0 ?_
  refine lv_if_eq (tgt := 13) hx hb dJ0_coder_7d493_3 (by decide) (fun z => absurd z (by decide)) (fun _ => ?_)
  refine lv_aload_n hx hb dJ0_coder_7d493_6 rfl (lv_at hl 0 rfl) ?_
  refine vk_getf hx hb ((va_OF.moved hW.alike t2).kept hkp) hS hown (am_wd h0 hW (w := 1537) (by decide +kernel) rfl _) (fun _ h => h) dJ0_coder_7d493_7 ?_
  refine lv_goto (tgt := 14) hx hb dJ0_coder_7d493_10 (by decide) ?_
  exact W.zret hx hb B.returns (by decide) (fun t ht _ => ⟨rfl, ht⟩) (fun q hq => absurd hq List.not_mem_nil) dJ0_coder_7d493_14
set_option maxHeartbeats 4000000 in
theorem am_c6 (l : Launch) {b : Nat} {s0 : State} (h0 : ∀ w ∈ lw_tbl, w.before #[Value.ref b] s0 = true) {a t N : Nat} {f : Nat → Int32} (hT : am_T1 s0 a t N f) : Met l yJ0_length_8abf5 [Cond.code yJ0_length_8abf5 cJ0_length_8abf5 1 (some .int)] am_rmS (am_PcS s0 [.ref a]) (am_QcS (Int32.ofNat N)) 0 0 (fun _ => False) := by
  have hT0 := hT
  obtain ⟨t1, t2, t3, t4, t5⟩ := hT
  refine Met.ofW (cc := cJ0_length_8abf5) (maxL := 1) (ret := some .int) (by decide) rfl ?_
  intro p e s m args below meth c s₁ B hml hv
  obtain ⟨rfl, hW, hq⟩ := hv
  have hx := B.exec
  have hb := B.bytes
  have hlocks := B.notSynchronized
  have hown : s.vm.findClass RJ0 = some m.cls := findClass_of_methodNamed B.named
  have hS : va_S (am_Ar s0) s.heap s.heap [] := va_S.rf
  have hkp : ∀ a : Nat, a < s0.heap.size → ¬ am_Ar s0 a → s.heap[a]? = s0.heap[a]? := fun a _ ha => hq a (Nat.not_le.mp ha)
  have hl := lv_entry [.ref a] (n := 1) (Nat.le_of_ble_eq_true rfl)
  rw [lg_entry_eq]
  generalize (lg_sl [.ref a] ++ List.replicate (1 - (lg_sl [.ref a]).length) Slot.unset).toArray = ls at hl ⊢
  refine lv_aload_n hx hb dJ0_length_8abf5_0 rfl (lv_at hl 0 rfl) ?_
  refine vk_getf hx hb ((va_OF.moved hW.alike t3).kept hkp) hS hown (am_wd h0 hW (w := 1536) (by decide +kernel) rfl _) (fun _ h => h) dJ0_length_8abf5_1 ?_
  refine va_tlen hx hb ((va_T.moved hW.alike t4).kept hkp) hS rfl dJ0_length_8abf5_4 ?_
  refine lv_aload_n hx hb dJ0_length_8abf5_5 rfl (lv_at hl 0 rfl) ?_
  obtain ⟨cell, o1, o2, o3, o4⟩ := (va_O.moved hW.alike t1).kept hkp
  refine am_WbackS (va_runV (own := RJ0) (C := RJ0) (As := []) (rest := [.int (Int32.ofNat N)]) (Ts := []) (n := 0) ⟨hx, hb, hml, hown, fun _ h => absurd h List.not_mem_nil⟩ (am_c5 l h0 hT0) ⟨am_dm h0 hW (w1 := 482) (w2 := 485) (w5 := 107) (by decide +kernel) ⟨by decide, by decide⟩ (by decide +kernel) (by decide +kernel) (by decide +kernel) (by decide) (by decide) (by decide), am_wd h0 hW (w := 483) (by decide +kernel) rfl _, am_wd h0 hW (w := 484) (by decide +kernel) rfl _⟩
    ⟨fun _ _ _ _ h => h, ⟨cell, o1, o2, o3⟩, fun U hU hV => ⟨rfl, State.WarmedH.trans hW hV, fun z hz => by rw [hU]; exact hq z hz⟩⟩ rfl rfl hl.1 rfl (lv_room (Nat.le_of_ble_eq_true rfl)) dJ0_length_8abf5_6 ⟨Nat.zero_le _, Nat.zero_le _⟩) ?_
  refine lv_ishr hx hb dJ0_length_8abf5_9 ?_
  rw [sb_shr0]
  exact W.iret hx hb B.returns (fun t ht _ => ⟨rfl, ht⟩) (fun q hq => absurd hq List.not_mem_nil) dJ0_length_8abf5_10
set_option maxHeartbeats 4000000 in
theorem am_c7 (l : Launch) {b : Nat} {s0 : State} (h0 : ∀ w ∈ lw_tbl, w.before #[Value.ref b] s0 = true) (hZ : ∃ r, va_Z "jdk/internal/util/Preconditions" "SIOOBE_FORMATTER" "Ljava/util/function/BiFunction;" (va_rf r) (am_Ar s0) s0 s0.heap) {a t N : Nat} {f : Nat → Int32} (hT : am_T1 s0 a t N f) (hN : N < 2 ^ 31) {k : Int32} (hk : vp_in k N) : Met l yJ0_charAt_5068e [Cond.code yJ0_charAt_5068e cJ0_charAt_5068e 2 (some .char)] am_rmS (am_PcS s0 [.ref a, .int k]) (am_QcS (((f k.toNatClampNeg) &&& 255).toUInt32 % 65536).toInt32) 0 0 (fun _ => False) := by
  have hT0 := hT
  obtain ⟨t1, t2, t3, t4, t5⟩ := hT
  refine Met.ofW (cc := cJ0_charAt_5068e) (maxL := 2) (ret := some .char) (by decide) rfl ?_
  intro p e s m args below meth c s₁ B hml hv
  obtain ⟨rfl, hW, hq⟩ := hv
  have hx := B.exec
  have hb := B.bytes
  have hlocks := B.notSynchronized
  have hown : s.vm.findClass RJ0 = some m.cls := findClass_of_methodNamed B.named
  have hS : va_S (am_Ar s0) s.heap s.heap [] := va_S.rf
  have hkp : ∀ a : Nat, a < s0.heap.size → ¬ am_Ar s0 a → s.heap[a]? = s0.heap[a]? := fun a _ ha => hq a (Nat.not_le.mp ha)
  have hl := lv_entry [.ref a, .int k] (n := 2) (Nat.le_of_ble_eq_true rfl)
  rw [lg_entry_eq]
  generalize (lg_sl [.ref a, .int k] ++ List.replicate (2 - (lg_sl [.ref a, .int k]).length) Slot.unset).toArray = ls at hl ⊢
  refine lv_aload_n hx hb dJ0_charAt_5068e_0 rfl (lv_at hl 0 rfl) ?_
  obtain ⟨cell, o1, o2, o3, o4⟩ := (va_O.moved hW.alike t1).kept hkp
  refine am_WbackS (va_runV (own := RJ0) (C := RJ0) (As := []) (rest := []) (Ts := []) (n := 0) ⟨hx, hb, hml, hown, fun _ h => absurd h List.not_mem_nil⟩ (am_c4 l h0 hT0) ⟨am_dm h0 hW (w1 := 492) (w2 := 495) (w5 := 107) (by decide +kernel) ⟨by decide, by decide⟩ (by decide +kernel) (by decide +kernel) (by decide +kernel) (by decide) (by decide) (by decide), am_wd h0 hW (w := 493) (by decide +kernel) rfl _, am_wd h0 hW (w := 494) (by decide +kernel) rfl _⟩
    ⟨fun _ _ _ _ h => h, ⟨cell, o1, o2, o3⟩, fun U hU hV => ⟨rfl, State.WarmedH.trans hW hV, fun z hz => by rw [hU]; exact hq z hz⟩⟩ rfl rfl hl.1 rfl (lv_room (by decide)) dJ0_charAt_5068e_1 ⟨Nat.zero_le _, Nat.zero_le _⟩) ?_
  refine lv_if_eq (tgt := 16) hx hb dJ0_charAt_5068e_4 (by decide) (fun z => absurd z (by decide)) (fun _ => ?_)
  refine lv_aload_n hx hb dJ0_charAt_5068e_7 rfl (lv_at hl 0 rfl) ?_
  refine vk_getf hx hb ((va_OF.moved hW.alike t3).kept hkp) hS hown (am_wd h0 hW (w := 1536) (by decide +kernel) rfl _) (fun _ h => h) dJ0_charAt_5068e_8 ?_
  refine lv_iload_n hx hb dJ0_charAt_5068e_11 rfl (lv_at hl 1 rfl) ?_
  refine am_WbackS (va_runS (own := RJ0) (As := [.ref t, .int k]) (rest := []) (Ts := []) (n := 2) ⟨hx, hb, hml, hown, fun _ h => absurd h List.not_mem_nil⟩ (am_c3 l h0 hZ t4 hN hk) ⟨am_dm h0 hW (w1 := 496) (w2 := 498) (w5 := 108) (by decide +kernel) ⟨by decide, by decide⟩ (by decide +kernel) (by decide +kernel) (by decide +kernel) (by decide) (by decide) (by decide), am_wd h0 hW (w := 497) (by decide +kernel) rfl _⟩
    ⟨fun _ _ _ _ h => h, fun U hU hV => ⟨rfl, State.WarmedH.trans hW hV, fun z hz => by rw [hU]; exact hq z hz⟩⟩ rfl rfl hl.1 rfl (lv_room (by decide)) dJ0_charAt_5068e_12 ⟨Nat.zero_le _, Nat.zero_le _⟩) ?_
  exact W.zret hx hb B.returns (pk_nc _) (fun t ht _ => ⟨rfl, ht⟩) (fun q hq => absurd hq List.not_mem_nil) dJ0_charAt_5068e_15
