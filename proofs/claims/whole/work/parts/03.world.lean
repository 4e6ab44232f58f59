/-! the rows and texts that stand from the start on: places 0 .. 3 the class's rows, 4 .. 7 its texts, 8 the script -/
def am_stN : Nat → String
  | 0 => "LEAST_SET" | 1 => "MOST_SET" | 2 => "BODIES" | _ => "ABOVE"
def am_stx : Nat → Nat
  | 4 => 39 | 5 => 49 | 6 => 51 | _ => 56
def am_stt : Nat → String
  | 4 => "dear " | 5 => "cheap " | 6 => "gain " | _ => "top "
def am_roL : Nat → List Int32
  | 0 => [0, 1, 0, 1, 0]
  | 1 => [9, 10, 23, 24, 9999]
  | 2 => [10, 11, 12, 10, 20, 12, 30, 11, 12, 10, 11, 40, 50, 51, 12, 30, 11, 60, 71, 70, 40]
  | 3 => [0, 0, 0, 0, 1, 2, 3]
  | 4 => [100, 101, 97, 114, 32]
  | 5 => [99, 104, 101, 97, 112, 32]
  | 6 => [103, 97, 105, 110, 32]
  | _ => [116, 111, 112, 32]
def am_roS (L : Nat) (p : Nat) : Nat × Nat := if p < 4 then (100, (am_roL p).length) else if p < 8 then (200, (am_roL p).length) else (100, L)
def am_roI (xs : Nat → Int32) (p k : Nat) : Int32 := if p < 8 then (am_roL p).getD k 0 else xs k
/-! what the tables must say of an instruction -/
def am_pc (co : List am_A) (i : Nat) : Option Nat := (co[i]?).map fun q => q.1
def am_tgt (co : List am_A) (pc : Nat) (off : Int) (t : Nat) : Bool := match co[t]? with
  | some (q, _, _) => decide ((pc : Int) + off = (q : Int))
  | none => false
def am_len (ins : Instr) (aux : List Nat) : Nat := match ins with
  | .bipush _ | .ldc _ | .iload _ | .lload _ | .aload _ | .istore _ | .lstore _ | .astore _ | .newarray _ => 2
  | .sipush _ | .ldc_w _ | .ldc2_w _ | .iinc _ _ | .goto _ | .ifCond _ _ | .if_icmp _ _ | .ifnull _ | .ifnonnull _ | .getfield _ | .putfield _ | .getstatic _ | .invokevirtual _ | .invokespecial _ | .invokestatic _ | .new _ | .anewarray _ => 3
  | .tableswitch _ _ _ _ | .lookupswitch _ _ => aux.headD 0
  | _ => 1
def am_falls : Instr → Bool
  | .goto _ | .tableswitch _ _ _ _ | .lookupswitch _ _ | .return_ | .ireturn | .lreturn | .areturn => false
  | _ => true
def am_w (w : Nat) (c : Cond) : Bool := decide (lw_tbl[w]? = some c)
def am_chkN (inf : am_I) (n : Nat) : Bool := decide ((parseMethodDescriptor inf.1.desc).map (fun d => d.parameters.length) = some n) && decide (inf.1.cls ≠ "java/lang/invoke/MethodHandle") && decide (inf.1.cls ≠ "java/lang/invoke/VarHandle") && decide (inf.2.2.1 ≤ 41)
def am_chkC (P : Nat → Option am_I) (own : String) (ins : Instr) (aux : List Nat) : Bool :=
  match ins, aux with
  | .invokevirtual x, [0, mi, n, ci, w1, w2, w3, w4, w5] => match P mi with
    | some inf => decide (ci < 8) && decide (inf.1.cls = am_cn ci) && am_w w1 (.methodLink own x inf.1) && am_w w2 (.code inf.1 inf.2.1 inf.2.2.1 inf.2.2.2.1) && am_w w3 (.instanceMethod inf.1) && am_w w4 (.selects (am_cn ci) inf.1 inf.1) && am_w w5 (.initialized inf.1.cls) && am_chkN inf n
    | none => false
  | .invokestatic x, [1, mi, n, w1, w2, w3, w4] => match P mi with
    | some inf => am_w w1 (.methodLink own x inf.1) && am_w w2 (.code inf.1 inf.2.1 inf.2.2.1 inf.2.2.2.1) && am_w w3 (.static inf.1) && am_w w4 (.initialized inf.1.cls) && am_chkN inf n
    | none => false
  | .invokespecial x, [2, mi, n, _, w1, w2, w3, w4] => match P mi with
    | some inf => decide (inf.1.name = "<init>") && decide (inf.2.2.2.1 = none) && am_w w1 (.methodLink own x inf.1) && am_w w2 (.code inf.1 inf.2.1 inf.2.2.1 none) && am_w w3 (.instanceMethod inf.1) && am_w w4 (.initialized inf.1.cls) && am_chkN inf n
    | none => false
  | .invokespecial x, [3, mi, n, _, w1, w2, w3, w4] => match P mi with
    | some inf => decide (inf.1.name = "<init>") && decide (inf.2.2.2.1 = none) && am_w w1 (.methodLinkNest own x inf.1 "AirByYard") && am_w w2 (.code inf.1 inf.2.1 inf.2.2.1 none) && am_w w3 (.instanceMethod inf.1) && am_w w4 (.initialized inf.1.cls) && am_chkN inf n
    | none => false
  | .invokespecial x, [4, w1, w2, w3] => am_w w1 (.methodLink own x objectInit) && am_w w2 (.instanceMethod objectInit) && am_w w3 (.code objectInit ⟨#[0xb1]⟩ 1 none)
  | .invokestatic x, [5, _, w1, w2, w3, w4] => am_w w1 (.methodLink own x arraycopyName) && am_w w2 (.native arraycopyName) && am_w w3 (.static arraycopyName) && am_w w4 (.initialized "java/lang/System")
  | .invokevirtual x, [6, w1, w2, w3, w4, w5] => am_w w1 (.methodLink own x yJ0_charAt_5068e) && am_w w2 (.code yJ0_charAt_5068e cJ0_charAt_5068e 2 (some .char)) && am_w w3 (.instanceMethod yJ0_charAt_5068e) && am_w w4 (.selects RJ0 yJ0_charAt_5068e yJ0_charAt_5068e) && am_w w5 (.initialized RJ0)
  | .invokevirtual x, [7, w1, w2, w3, w4, w5] => am_w w1 (.methodLink own x yJ0_length_8abf5) && am_w w2 (.code yJ0_length_8abf5 cJ0_length_8abf5 1 (some .int)) && am_w w3 (.instanceMethod yJ0_length_8abf5) && am_w w4 (.selects RJ0 yJ0_length_8abf5 yJ0_length_8abf5) && am_w w5 (.initialized RJ0)
  | _, _ => false
def am_zipT (co : List am_A) (pc : Nat) : List Int → List Nat → Bool
  | [], [] => true
  | o :: os, t :: ts => am_tgt co pc o t && am_zipT co pc os ts
  | _, _ => false
def am_chkI (own nm : String) (ret : Option FieldType) (co : List am_A) (pc : Nat) (ins : Instr) (aux : List Nat) : Bool :=
  match ins, aux with
  | .ldc x, [0, c, w] => am_w w (.constant own x (Int32.ofNat c))
  | .ldc x, [1, p] => decide (own = RX2) && decide (4 ≤ p) && decide (p < 8) && decide (x = am_stx p)
  | .ldc_w x, [c, w] => am_w w (.constant own x (Int32.ofNat c))
  | .ldc2_w x, [c, w] => am_w w (.constantLong own x (Int64.ofNat c))
  | .goto o, [t] => am_tgt co pc o t
  | .ifCond _ o, [t] => am_tgt co pc o t
  | .if_icmp _ o, [t] => am_tgt co pc o t
  | .ifnull o, [t] => am_tgt co pc o t
  | .ifnonnull o, [t] => am_tgt co pc o t
  | .tableswitch d lo hi os, _ :: t :: ts => am_tgt co pc d t && am_zipT co pc os.toList ts && decide (hi - lo + 1 = (ts.length : Int))
  | .lookupswitch d ps, _ :: t :: ts => am_tgt co pc d t && am_zipT co pc (ps.toList.map fun q => q.2) ts && (ps.toList.zip (ps.toList.drop 1)).all (fun (a, next) => a.1 < next.1)
  | .getfield x, [ci, k, w] => decide (ci < 8) && decide (k < am_fnum ci) && am_w w (.fieldLink own x (am_fT ci k).1 (am_fT ci k).2.1 (am_fT ci k).2.2.1)
  | .putfield x, [ci, k, w] => decide (ci < 8) && decide (k < am_fnum ci) && am_w w (.fieldLink own x (am_fT ci k).1 (am_fT ci k).2.1 (am_fT ci k).2.2.1) && (decide ((am_fT ci k).2.2.2 = false) || (decide ((am_fT ci k).2.2.2 = true) && decide (nm = "<init>") && decide ((am_fT ci k).1 = own)))
  | .getstatic x, [p, w] => decide (p < 4) && am_w w (.fieldLink own x "AirByYard" (am_stN p) "[I")
  | .baload, [t] => decide (t = 102 ∨ t = 103)
  | .bastore, [t] => decide (t = 102 ∨ t = 103)
  | .aaload, [t] => decide (104 ≤ t ∧ t ≤ 106)
  | .aastore, [t, ci] => decide ((t = 104 ∧ ci = 1) ∨ (t = 105 ∧ ci = 5) ∨ (t = 106 ∧ ci = 0))
  | .newarray a, [t, w] => decide (t ≤ 3) && decide (newarray.typeOf a = am_tys t) && am_w w (.arrayClass (newarray.typeOf a))
  | .anewarray x, [t, w, w2] => decide (4 ≤ t ∧ t ≤ 6) && (match am_tys t with
    | .object C => am_w w (.classLink own x C) && am_w w2 (.arrayOver (.object C))
    | _ => false)
  | .new x, [ci, w, w2, w3] => decide (ci < 8) && am_w w (.classLink own x (am_cn ci)) && am_w w2 (.instantiable (am_cn ci) (am_fnum ci)) && am_w w3 (.initialized (am_cn ci))
  | .ireturn, [0] => decide (ret = some .int)
  | .ireturn, [1] => decide (ret = some .boolean)
  | .lreturn, _ => decide (ret = some .long)
  | .areturn, _ => (match ret with
    | some (.object _) => true
    | _ => false)
  | .return_, _ => decide (ret = none)
  | .ldc _, _ | .ldc_w _, _ | .ldc2_w _, _ | .goto _, _ | .ifCond _ _, _ | .if_icmp _ _, _ | .ifnull _, _ | .ifnonnull _, _ | .tableswitch _ _ _ _, _ | .lookupswitch _ _, _ | .getfield _, _ | .putfield _, _ | .getstatic _, _ | .baload, _ | .bastore, _ | .aaload, _ | .aastore, _ | .newarray _, _ | .anewarray _, _ | .new _, _ | .ireturn, _ => false
  | _, _ => true
def am_chk (P : Nat → Option am_I) (inf : am_I) (i : Nat) : Bool :=
  match inf.2.2.2.2.2[i]? with
  | none => false
  | some (pc, ins, aux) => decide (decode inf.2.1 pc = .ok (ins, am_len ins aux)) && (!am_falls ins || decide (am_pc inf.2.2.2.2.2 (i + 1) = some (pc + am_len ins aux))) &&
    (if am_isInv ins then am_chkC P inf.2.2.2.2.1 ins aux else am_chkI inf.2.2.2.2.1 inf.1.name inf.2.2.2.1 inf.2.2.2.2.2 pc ins aux)
def am_okM (P : Nat → Option am_I) (inf : am_I) : Prop := plainName inf.1.cls = true ∧ inf.1.cls = inf.2.2.2.2.1 ∧ am_pc inf.2.2.2.2.2 0 = some 0 ∧ ∀ i, i < inf.2.2.2.2.2.length → am_chk P inf i = true
/-! the world: where a place lies in the heap, what the heap holds there -/
def am_ad (s0 : State) (ro : Nat → Nat) (p : Nat) : Nat := if p < am_R0 then ro p else s0.heap.size + (p - am_R0)
def am_cv (ad : Nat → Nat) : Value → Value
  | .ref p => .ref (ad p)
  | v => v
def am_cell (D : va_G) (ct : Nat → ClassId) (ad : Nat → Nat) (M : am_M) (p : Nat) (H : Heap) : Prop :=
  ((am_sh M p).1 < 8 ∧ t_OB (ad p) (D.1 (am_sh M p).1) (am_fnum (am_sh M p).1) (D.2 (am_sh M p).1) H (fun k => am_rd ad M p k (am_fty (am_sh M p).1 k))) ∨
  (100 ≤ (am_sh M p).1 ∧ (am_sh M p).1 ≤ 106 ∧ H[ad p]? = some (arrV (ct ((am_sh M p).1 - 100)) (am_sh M p).2 (fun j => am_rd ad M p j (am_tys ((am_sh M p).1 - 100)))))
def am_G (D : va_G) (ct : Nat → ClassId) (ro : Nat → Nat) (s0 : State) (L : Nat) (xs : Nat → Int32) (M : am_M) (H : Heap) : Prop :=
  H.size + am_R0 = s0.heap.size + am_nx M ∧ am_R0 ≤ am_nx M ∧ (∀ q : Nat, q < s0.heap.size → H[q]? = s0.heap[q]?) ∧ (∀ p, am_R0 ≤ p → p < am_nx M → am_cell D ct (am_ad s0 ro) M p H) ∧
  (∀ p, p < am_R0 → am_sh M p = am_roS L p ∧ ∀ k, M.1 p k = am_roI xs p k) ∧ ∀ p, am_nx M ≤ p → am_sh M p = (1000, 0) ∧ ∀ k, M.1 p k = 0 ∧ M.2.1 p k = 0 ∧ M.2.2.1 p k = none
def am_roA (s0 : State) (ro : Nat → Nat) (n : Nat) (f : Nat → Int32) (p : Nat) : Prop := ∃ cell : Cell, s0.heap[ro p]? = some cell ∧ s0.isArrayOf cell .int ∧ cell.vm ≠ .unknown ∧ n ≤ cell.slots.size ∧ cell.slots.size.toInt32 = Int32.ofNat n ∧ ∀ j : Nat, j < n → cell.slots[j]? = some (.int (f j))
def am_rmS : Room := { frames := 5, cells := 0, slots := 0, locals := 300 }
def am_PcS (s0 : State) (av : List Value) : Array Value → State → Prop := fun v U => v = av.toArray ∧ s0.WarmedH U.vm ∧ ∀ q : Nat, q < s0.heap.size → U.heap[q]? = s0.heap[q]?
def am_QcS (r : Int32) : Array Value → State → Outcome → State → Prop := fun _ st o t => o = .returned (some (.int r)) ∧ t.heap = st.heap
def am_Str (s0 : State) (ro : Nat → Nat) : Prop := ∀ (l : Launch) (p : Nat), 4 ≤ p → p < 8 →
  (∃ cell : Cell, s0.heap[ro p]? = some cell ∧ cell.vm.isStatics = false ∧ s0.vm.findClass RJ0 = some cell.cls) ∧
  Met l yJ0_length_8abf5 [Cond.code yJ0_length_8abf5 cJ0_length_8abf5 1 (some .int)] am_rmS (am_PcS s0 [.ref (ro p)]) (am_QcS (Int32.ofNat (am_roL p).length)) 0 0 (fun _ => False) ∧
  ∀ k : Int32, vp_in k (am_roL p).length → Met l yJ0_charAt_5068e [Cond.code yJ0_charAt_5068e cJ0_charAt_5068e 2 (some .char)] am_rmS (am_PcS s0 [.ref (ro p), .int k]) (am_QcS ((am_roL p).getD k.toNatClampNeg 0)) 0 0 (fun _ => False)
def am_C0 (D : va_G) (ct : Nat → ClassId) (ro : Nat → Nat) (b : Nat) (s0 : State) (L : Nat) (xs : Nat → Int32) : Prop :=
  (∀ w ∈ lw_tbl, w.before #[Value.ref b] s0 = true) ∧
  (∀ ci, ci < 8 → u_Kn s0 (am_cn ci) (am_fT ci) (am_fnum ci) (D.1 ci) (D.2 ci)) ∧
  (∀ t, t ≤ 6 → ArrOfT s0 (ct t) (am_tys t) ∧ va_RA s0 (ct t) (am_tys t)) ∧
  (∀ p, p < 4 ∨ p = 8 → am_roA s0 ro (am_roS L p).2 (am_roI xs p) p) ∧
  (∀ p, p < 4 → va_Z "AirByYard" (am_stN p) "[I" (.ref (ro p)) (fun q => s0.heap.size ≤ q) s0 s0.heap) ∧
  (∀ p, 4 ≤ p → p < 8 → vk_R RX2 (am_stx p) (am_stt p) (ro p) s0) ∧ am_Str s0 ro
def am_Pc (D : va_G) (ct : Nat → ClassId) (ro : Nat → Nat) (s0 : State) (L : Nat) (xs : Nat → Int32) (M : am_M) (as : List Value) : Array Value → State → Prop := fun v U => v = (as.map (am_cv (am_ad s0 ro))).toArray ∧ s0.WarmedH U.vm ∧ am_G D ct ro s0 L xs M U.heap
def am_Qc (D : va_G) (ct : Nat → ClassId) (ro : Nat → Nat) (s0 : State) (L : Nat) (xs : Nat → Int32) (M : am_M) (r : Option Value) : Array Value → State → Outcome → State → Prop := fun _ _ o t => o = .returned (r.map (am_cv (am_ad s0 ro))) ∧ am_G D ct ro s0 L xs M t.heap
def am_lr (ad : Nat → Nat) (ls : List Value) (arr : Array Slot) (nL : Nat) : Prop := arr.size = nL ∧ lv_wf arr ∧ ls.length = nL ∧ ∀ (i : Nat) (v : Value), ls[i]? = some v → am_isJ v = false → arr[i]? = some (.val (am_cv ad v))
/-! small facts -/
theorem am_wE {w : Nat} {c : Cond} (h : am_w w c = true) : lw_tbl[w]? = some c := by simpa [am_w] using h
theorem am_word {D : va_G} {ct : Nat → ClassId} {ro : Nat → Nat} {b : Nat} {s0 s : State} {L : Nat} {xs : Nat → Int32} (C : am_C0 D ct ro b s0 L xs) (hW : s0.WarmedH s.vm) {w : Nat} {c : Cond} (h : am_w w c = true) (hg : goodWord c = true) (args : Array Value) : c.before args s = true :=
  word_at hW (good_of_word hg) (C.1 c (List.mem_of_getElem? (am_wE h)))
theorem am_cat (ad : Nat → Nat) (v : Value) : (am_cv ad v).category = v.category := by cases v <;> rfl
theorem am_cats (ad : Nat → Nat) (st : List Value) : ((st.map (am_cv ad)).map fun v => v.category) = st.map fun v => v.category := by
  rw [List.map_map]
  exact List.map_congr_left fun v _ => am_cat ad v
theorem am_rd_cv (ad : Nat → Nat) (M : am_M) (p k : Nat) (ty : FieldType) : am_cv ad (am_rd (fun q => q) M p k ty) = am_rd ad M p k ty := by
  cases ty <;> simp [am_rd, am_cv] <;> cases M.2.2.1 p k <;> rfl
theorem am_rf_cv (ad : Nat → Nat) (r : Option Nat) : am_cv ad (va_rf r) = va_rf (r.map ad) := by cases r <;> rfl
theorem am_up_s {α : Type} (f : Nat → Nat → α) (p k : Nat) (x : α) : am_up f p k x p k = x := by simp [am_up]
theorem am_up_n {α : Type} (f : Nat → Nat → α) {p k q j : Nat} (x : α) (h : ¬ (q = p ∧ j = k)) : am_up f p k x q j = f q j := by simp [am_up, h]
theorem am_wr_sh (M : am_M) (p k : Nat) (v : Value) (q : Nat) : am_sh (am_wr M p k v) q = am_sh M q := by cases v <;> rfl
theorem am_wr_nx (M : am_M) (p k : Nat) (v : Value) : am_nx (am_wr M p k v) = am_nx M := by cases v <;> rfl
theorem am_wr_us (M : am_M) (p k : Nat) (v : Value) : am_us (am_wr M p k v) = am_us M := by cases v <;> rfl
theorem am_wr_1 (M : am_M) (p k : Nat) (v : Value) {q j : Nat} (h : ¬ (q = p ∧ j = k)) : (am_wr M p k v).1 q j = M.1 q j := by cases v <;> simp [am_wr, am_up, h]
theorem am_wr_2 (M : am_M) (p k : Nat) (v : Value) {q j : Nat} (h : ¬ (q = p ∧ j = k)) : (am_wr M p k v).2.1 q j = M.2.1 q j := by cases v <;> simp [am_wr, am_up, h]
theorem am_wr_3 (M : am_M) (p k : Nat) (v : Value) {q j : Nat} (h : ¬ (q = p ∧ j = k)) : (am_wr M p k v).2.2.1 q j = M.2.2.1 q j := by cases v <;> simp [am_wr, am_up, h]
theorem am_rd_wr (ad : Nat → Nat) (M : am_M) (p k : Nat) (v : Value) {q j : Nat} (h : ¬ (q = p ∧ j = k)) (ty : FieldType) : am_rd ad (am_wr M p k v) q j ty = am_rd ad M q j ty := by
  cases ty <;> simp [am_rd, am_wr_1 M p k v h, am_wr_2 M p k v h, am_wr_3 M p k v h]
theorem am_rd_self (ad : Nat → Nat) (M : am_M) (p k : Nat) {v : Value} {ty : FieldType} (h : am_okv ty v = true) : am_rd ad (am_wr M p k v) p k ty = am_cv ad v := by
  cases ty <;> cases v <;> simp_all [am_okv, am_rd, am_wr, am_up, am_cv, va_rf]
theorem am_adI {s0 : State} {ro : Nat → Nat} {p q : Nat} (hp : am_R0 ≤ p) (hq : am_R0 ≤ q) (h : am_ad s0 ro p = am_ad s0 ro q) : p = q := by
  unfold am_ad at h
  rw [if_neg (by omega), if_neg (by omega)] at h
  omega
theorem am_adW {s0 : State} {ro : Nat → Nat} {p : Nat} (hp : am_R0 ≤ p) : am_ad s0 ro p = s0.heap.size + (p - am_R0) := by
  unfold am_ad
  rw [if_neg (by omega)]
theorem am_adR {s0 : State} {ro : Nat → Nat} {p : Nat} (hp : p < am_R0) : am_ad s0 ro p = ro p := by
  unfold am_ad
  rw [if_pos hp]
