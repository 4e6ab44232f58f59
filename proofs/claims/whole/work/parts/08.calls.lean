theorem am_inside {ro : Nat → Nat} {s0 : State} {L : Nat} {xs : Nat → Int32} {D : va_G} {ct : Nat → ClassId} {M : am_M} : ∀ (a : Array Value) (U : State) (g : JFrame) (mk : MethodId) (as : List Value), am_Pc D ct ro s0 L xs M as a U → am_Pc D ct ro s0 L xs M as a (U.calling g mk a) := fun _ _ _ _ _ h => h
section AMC
variable {p : Program} {l : Launch} {e : Env} {R : Room} {s : State} {m : MethodId} {args : Array Value} {below : List Frame} {meth : Method} {c : Code} {H : Heap} {locs : List Loc} {cells slots : Nat} {Q : State → Prop}
variable {cc : ByteArray} {pc : Nat} {arr : Array Slot} {rest : List Value} {D : va_G} {ct : Nat → ClassId} {ro : Nat → Nat} {b : Nat} {s0 : State} {L : Nat} {xs : Nat → Int32} {M : am_M} {own : String}
theorem am_Wback {M1 : am_M} {r : Option Value} {mc ms : Nat} {st0 rest : List Value} {a : Array Value} (hr : va_Run p l e R s m args below meth c H locs cells slots mc ms (F0 m pc arr st0) rest (am_Qc D ct ro s0 L xs M1 r a) (fun q => s0.heap.size ≤ q)) (hlo : ∀ q ∈ locs, s0.heap.size ≤ q.base)
    (kk : ∀ (H' : Heap) (locs' : List Loc), am_G D ct ro s0 L xs M1 H' → (∀ q ∈ locs', s0.heap.size ≤ q.base) → W p l e R s m args below meth c H' locs' (cells + mc) (slots + ms) Q (F0 m (pc + 3) arr ((r.map (am_cv (am_ad s0 ro))).toList ++ rest))) : W p l e R s m args below meth c H locs cells slots Q (F0 m pc arr st0) := by
  intro T hT X
  obtain ⟨v, st₀, t, T', L', h0, X', hL, e1, e2, hq, go⟩ := hr T hT X
  obtain ⟨hv, hG'⟩ := hq
  cases hv
  obtain ⟨t2, a1, b1⟩ := kk T'.heap (locs ++ L') (by rw [e1]; exact hG') (fun q hq => by
    rcases List.mem_append.mp hq with h | h
    · exact hlo q h
    · exact hL q h) T' rfl X'
  exact ⟨t2, go t2 a1, b1⟩
theorem am_WbackS {r : Int32} {st0 rest : List Value} {a : Array Value} (hr : va_Run p l e R s m args below meth c H locs cells slots 0 0 (F0 m pc arr st0) rest (am_QcS r a) (fun _ => False))
    (kk : W p l e R s m args below meth c H locs cells slots Q (F0 m (pc + 3) arr (.int r :: rest))) : W p l e R s m args below meth c H locs cells slots Q (F0 m pc arr st0) := by
  intro T hT X
  obtain ⟨v, st₀, t, T', L', h0, X', hL, e1, e2, hq, go⟩ := hr T hT X
  obtain ⟨hv, hG'⟩ := hq
  cases hv
  have hL0 : L' = [] := by
    cases L' with
    | nil => rfl
    | cons z zs => exact (hL z List.mem_cons_self).elim
  subst hL0
  rw [List.append_nil] at X'
  obtain ⟨t2, a1, b1⟩ := kk T' (by rw [e1, hG', h0]) X'
  exact ⟨t2, go t2 a1, b1⟩
theorem am_notMH {inf : am_I} {n : Nat} (h : am_chkN inf n = true) : (parseMethodDescriptor inf.1.desc).map (fun d => d.parameters.length) = some n ∧ (inf.1.cls ≠ "java/lang/invoke/MethodHandle" ∧ inf.1.cls ≠ "java/lang/invoke/VarHandle") ∧ inf.2.2.1 ≤ 41 := by
  simp only [am_chkN, Bool.and_eq_true, decide_eq_true_eq] at h
  exact ⟨h.1.1.1, ⟨h.1.1.2, h.1.2⟩, h.2⟩
def am_con (D : va_G) (ct : Nat → ClassId) (ro : Nat → Nat) (s0 : State) (L : Nat) (xs : Nat → Int32) (l : Launch) (d : Nat) (inf : am_I) (as : List Value) (M : am_M) (r : Option Value) (M1 : am_M) : Prop :=
  Met l inf.1 [Cond.code inf.1 inf.2.1 inf.2.2.1 inf.2.2.2.1] { frames := d, cells := am_nx M1 - am_nx M, slots := am_us M1 - am_us M, locals := 60 * d } (am_Pc D ct ro s0 L xs M as) (am_Qc D ct ro s0 L xs M1 r) (am_nx M1 - am_nx M) (am_us M1 - am_us M) (fun q => s0.heap.size ≤ q)
theorem am_callB (C : am_C0 D ct ro b s0 L xs) (hW : s0.WarmedH s.vm) {d n x w1 w2 w4 mc ms : Nat} {inf : am_I} {rt : Option FieldType} (hrt : inf.2.2.2.1 = rt) (hn : am_chkN inf n = true) (h1 : am_w w1 (.methodLink own x inf.1) = true) (h2 : am_w w2 (.code inf.1 inf.2.1 inf.2.2.1 inf.2.2.2.1) = true) (h4 : am_w w4 (.initialized inf.1.cls) = true) (hF : d + 1 ≤ R.frames) (hLc : 60 * (d + 1) ≤ R.locals) :
    CallB R s args own x inf.1 inf.2.1 inf.2.2.1 rt [Cond.code inf.1 inf.2.1 inf.2.2.1 inf.2.2.2.1] { frames := d, cells := mc, slots := ms, locals := 60 * d } mc ms n := by
  obtain ⟨n1, n2, n3⟩ := am_notMH hn
  subst hrt
  refine ⟨rfl, rfl, hF, ?_, fun w hw a' U hU => ?_, List.mem_singleton.mpr rfl, am_word C hW h2 rfl args, am_word C hW h4 rfl args, n2, fun sig hs => ?_, am_word C hW h1 rfl args⟩
  · show 8 + (inf.2.2.1 + 11) + 60 * d ≤ R.locals
    omega
  · rw [List.mem_singleton] at hw
    subst hw
    exact am_word C (State.WarmedH.trans hW hU) h2 rfl a'
  · rw [hs] at n1
    simpa using n1.symm
theorem am_WcallV (hx : p.tables.exec = Jvm.exec) (hb : c.code = cc) (hml : c.maxLocals = arr.size) (C : am_C0 D ct ro b s0 L xs) (hW : s0.WarmedH s.vm) (hown : s.vm.findClass own = some m.cls) (hG : am_G D ct ro s0 L xs M H) (hlo : ∀ q ∈ locs, s0.heap.size ≤ q.base)
    {d n x ci w1 w2 w3 w4 w5 q : Nat} {inf : am_I} {as : List Value} {r : Option Value} {M1 : am_M} (hM : am_con D ct ro s0 L xs l d inf (.ref q :: as) M r M1) (hci : ci < 8) (hcls : inf.1.cls = am_cn ci) (hq : (am_sh M q).1 = ci) (hn : am_chkN inf n = true) (h1 : am_w w1 (.methodLink own x inf.1) = true) (h2 : am_w w2 (.code inf.1 inf.2.1 inf.2.2.1 inf.2.2.2.1) = true) (h3 : am_w w3 (.instanceMethod inf.1) = true) (h4 : am_w w4 (.selects (am_cn ci) inf.1 inf.1) = true) (h5 : am_w w5 (.initialized inf.1.cls) = true)
    (hF : d + 1 ≤ R.frames) (hLc : 60 * (d + 1) ≤ R.locals) (hlen : as.length = n) (hsum : (rest.map fun v => v.category).sum ≤ 8) (hc : cells + (am_nx M1 - am_nx M) ≤ R.cells) (hs : slots + (am_us M1 - am_us M) ≤ R.slots) (hdg : decode cc pc = .ok (.invokevirtual x, 3))
    (kk : ∀ (H' : Heap) (locs' : List Loc), am_G D ct ro s0 L xs M1 H' → (∀ q ∈ locs', s0.heap.size ≤ q.base) → W p l e R s m args below meth c H' locs' (cells + (am_nx M1 - am_nx M)) (slots + (am_us M1 - am_us M)) Q (F0 m (pc + 3) arr ((r.map (am_cv (am_ad s0 ro))).toList ++ rest.map (am_cv (am_ad s0 ro))))) :
    W p l e R s m args below meth c H locs cells slots Q (F0 m pc arr ((as.map (am_cv (am_ad s0 ro))).reverse ++ .ref (am_ad s0 ro q) :: rest.map (am_cv (am_ad s0 ro)))) := by
  obtain ⟨-, -, cell, g1, g2, g3, -⟩ := am_obj hG hci hq
  have hcl := (u_Kn_moved hW.alike (C.2.1 ci hci)).2
  refine am_Wback (va_runV (own := own) (C := am_cn ci) (As := as.map (am_cv (am_ad s0 ro))) (Ts := []) ⟨hx, hb, hml, hown, fun _ h => absurd h List.not_mem_nil⟩ hM ⟨am_callB C hW rfl hn h1 h2 h5 hF hLc, am_word C hW h3 rfl args, am_word C hW h4 rfl args⟩
    ⟨fun _ _ _ _ h => h, ⟨cell, g1, by rw [g3]; rfl, by rw [g2]; exact hcl.1⟩, fun U hU hV => ⟨rfl, State.WarmedH.trans hW hV, by rw [hU]; exact hG⟩⟩ rfl (by rw [List.length_map]; exact hlen) rfl rfl (lv_room (by rw [am_cats]; exact hsum)) hdg ⟨hc, hs⟩) hlo kk
theorem am_WcallS (hx : p.tables.exec = Jvm.exec) (hb : c.code = cc) (hml : c.maxLocals = arr.size) (C : am_C0 D ct ro b s0 L xs) (hW : s0.WarmedH s.vm) (hown : s.vm.findClass own = some m.cls) (hG : am_G D ct ro s0 L xs M H) (hlo : ∀ q ∈ locs, s0.heap.size ≤ q.base)
    {d n x w1 w2 w3 w4 : Nat} {inf : am_I} {as : List Value} {r : Option Value} {M1 : am_M} (hM : am_con D ct ro s0 L xs l d inf as M r M1) (hn : am_chkN inf n = true) (h1 : am_w w1 (.methodLink own x inf.1) = true) (h2 : am_w w2 (.code inf.1 inf.2.1 inf.2.2.1 inf.2.2.2.1) = true) (h3 : am_w w3 (.static inf.1) = true) (h4 : am_w w4 (.initialized inf.1.cls) = true)
    (hF : d + 1 ≤ R.frames) (hLc : 60 * (d + 1) ≤ R.locals) (hlen : as.length = n) (hsum : (rest.map fun v => v.category).sum ≤ 8) (hc : cells + (am_nx M1 - am_nx M) ≤ R.cells) (hs : slots + (am_us M1 - am_us M) ≤ R.slots) (hdg : decode cc pc = .ok (.invokestatic x, 3))
    (kk : ∀ (H' : Heap) (locs' : List Loc), am_G D ct ro s0 L xs M1 H' → (∀ q ∈ locs', s0.heap.size ≤ q.base) → W p l e R s m args below meth c H' locs' (cells + (am_nx M1 - am_nx M)) (slots + (am_us M1 - am_us M)) Q (F0 m (pc + 3) arr ((r.map (am_cv (am_ad s0 ro))).toList ++ rest.map (am_cv (am_ad s0 ro))))) :
    W p l e R s m args below meth c H locs cells slots Q (F0 m pc arr ((as.map (am_cv (am_ad s0 ro))).reverse ++ rest.map (am_cv (am_ad s0 ro)))) := by
  refine am_Wback (va_runS (own := own) (As := as.map (am_cv (am_ad s0 ro))) (Ts := []) ⟨hx, hb, hml, hown, fun _ h => absurd h List.not_mem_nil⟩ hM ⟨am_callB C hW rfl hn h1 h2 h4 hF hLc, am_word C hW h3 rfl args⟩
    ⟨fun _ _ _ _ h => h, fun U hU hV => ⟨rfl, State.WarmedH.trans hW hV, by rw [hU]; exact hG⟩⟩ rfl (by rw [List.length_map]; exact hlen) rfl rfl (lv_room (by rw [am_cats]; exact hsum)) hdg ⟨hc, hs⟩) hlo kk
theorem am_WcallI (hx : p.tables.exec = Jvm.exec) (hb : c.code = cc) (hml : c.maxLocals = arr.size) (C : am_C0 D ct ro b s0 L xs) (hW : s0.WarmedH s.vm) (hown : s.vm.findClass own = some m.cls) (hG : am_G D ct ro s0 L xs M H) (hlo : ∀ q ∈ locs, s0.heap.size ≤ q.base)
    {d n x w1 w2 w3 w4 q : Nat} {inf : am_I} {as : List Value} {r : Option Value} {M1 : am_M} (hM : am_con D ct ro s0 L xs l d inf (.ref q :: as) M r M1) (hin : inf.1.name = "<init>") (hrt : inf.2.2.2.1 = none) (hn : am_chkN inf n = true) (h1 : am_w w1 (.methodLink own x inf.1) = true) (h2 : am_w w2 (.code inf.1 inf.2.1 inf.2.2.1 inf.2.2.2.1) = true) (h3 : am_w w3 (.instanceMethod inf.1) = true) (h4 : am_w w4 (.initialized inf.1.cls) = true)
    (hF : d + 1 ≤ R.frames) (hLc : 60 * (d + 1) ≤ R.locals) (hlen : as.length = n) (hsum : (rest.map fun v => v.category).sum ≤ 8) (hc : cells + (am_nx M1 - am_nx M) ≤ R.cells) (hs : slots + (am_us M1 - am_us M) ≤ R.slots) (hdg : decode cc pc = .ok (.invokespecial x, 3))
    (kk : ∀ (H' : Heap) (locs' : List Loc), am_G D ct ro s0 L xs M1 H' → (∀ q ∈ locs', s0.heap.size ≤ q.base) → W p l e R s m args below meth c H' locs' (cells + (am_nx M1 - am_nx M)) (slots + (am_us M1 - am_us M)) Q (F0 m (pc + 3) arr ((r.map (am_cv (am_ad s0 ro))).toList ++ rest.map (am_cv (am_ad s0 ro))))) :
    W p l e R s m args below meth c H locs cells slots Q (F0 m pc arr ((as.map (am_cv (am_ad s0 ro))).reverse ++ .ref (am_ad s0 ro q) :: rest.map (am_cv (am_ad s0 ro)))) := by
  refine am_Wback (va_runI (own := own) (As := as.map (am_cv (am_ad s0 ro))) (Ts := []) ⟨hx, hb, hml, hown, fun _ h => absurd h List.not_mem_nil⟩ hM ⟨am_callB C hW hrt hn h1 h2 h4 hF hLc, hin, am_word C hW h3 rfl args⟩
    ⟨fun _ _ _ _ h => h, fun U hU hV => ⟨rfl, State.WarmedH.trans hW hV, by rw [hU]; exact hG⟩⟩ rfl (by rw [List.length_map]; exact hlen) rfl rfl (lv_room (by rw [am_cats]; exact hsum)) hdg ⟨hc, hs⟩) hlo kk
theorem am_WcallN (hx : p.tables.exec = Jvm.exec) (hb : c.code = cc) (hml : c.maxLocals = arr.size) (C : am_C0 D ct ro b s0 L xs) (hW : s0.WarmedH s.vm) (hown : s.vm.findClass own = some m.cls) (hG : am_G D ct ro s0 L xs M H) (hlo : ∀ q ∈ locs, s0.heap.size ≤ q.base)
    {d n x w1 w2 w3 w4 q : Nat} {inf : am_I} {as : List Value} {r : Option Value} {M1 : am_M} (hM : am_con D ct ro s0 L xs l d inf (.ref q :: as) M r M1) (hin : inf.1.name = "<init>") (hrt : inf.2.2.2.1 = none) (hn : am_chkN inf n = true) (h1 : am_w w1 (.methodLinkNest own x inf.1 "AirByYard") = true) (h2 : am_w w2 (.code inf.1 inf.2.1 inf.2.2.1 inf.2.2.2.1) = true) (h3 : am_w w3 (.instanceMethod inf.1) = true) (h4 : am_w w4 (.initialized inf.1.cls) = true)
    (hF : d + 1 ≤ R.frames) (hLc : 60 * (d + 1) ≤ R.locals) (hlen : as.length = n) (hsum : (rest.map fun v => v.category).sum ≤ 8) (hc : cells + (am_nx M1 - am_nx M) ≤ R.cells) (hs : slots + (am_us M1 - am_us M) ≤ R.slots) (hdg : decode cc pc = .ok (.invokespecial x, 3))
    (kk : ∀ (H' : Heap) (locs' : List Loc), am_G D ct ro s0 L xs M1 H' → (∀ q ∈ locs', s0.heap.size ≤ q.base) → W p l e R s m args below meth c H' locs' (cells + (am_nx M1 - am_nx M)) (slots + (am_us M1 - am_us M)) Q (F0 m (pc + 3) arr ((r.map (am_cv (am_ad s0 ro))).toList ++ rest.map (am_cv (am_ad s0 ro))))) :
    W p l e R s m args below meth c H locs cells slots Q (F0 m pc arr ((as.map (am_cv (am_ad s0 ro))).reverse ++ .ref (am_ad s0 ro q) :: rest.map (am_cv (am_ad s0 ro)))) := by
  obtain ⟨n1, n2, n3⟩ := am_notMH hn
  refine am_Wback (va_runIN (own := own) (host := "AirByYard") (As := as.map (am_cv (am_ad s0 ro))) (Ts := []) (maxL := inf.2.2.1) (bytes := inf.2.1) (n := n) ⟨hx, hb, hml, hown, fun _ h => absurd h List.not_mem_nil⟩ hM
    ⟨⟨⟨rfl, rfl, hF, by show 8 + (inf.2.2.1 + 11) + 60 * d ≤ R.locals; omega, fun w hw a' U hU => by
      rw [List.mem_singleton] at hw
      subst hw
      exact am_word C (State.WarmedH.trans hW hU) h2 rfl a', by rw [← hrt]; exact List.mem_singleton.mpr rfl⟩, by rw [← hrt]; exact am_word C hW h2 rfl args, am_word C hW h4 rfl args, n2, fun sig hs => by rw [hs] at n1; simpa using n1.symm, va_Nw.use rfl ((va_Nw.of rfl (C.1 _ (List.mem_of_getElem? (am_wE h1)))).warmM hW)⟩, hin, am_word C hW h3 rfl args⟩
    ⟨fun _ _ _ _ h => h, fun U hU hV => ⟨rfl, State.WarmedH.trans hW hV, by rw [hU]; exact hG⟩⟩ rfl (by rw [List.length_map]; exact hlen) rfl rfl (lv_room (by rw [am_cats]; exact hsum)) hdg ⟨hc, hs⟩) hlo kk
theorem am_Wobj (hx : p.tables.exec = Jvm.exec) (hb : c.code = cc) (hml : c.maxLocals = arr.size) (C : am_C0 D ct ro b s0 L xs) (hW : s0.WarmedH s.vm) (hown : s.vm.findClass own = some m.cls) {x w1 w2 w3 q : Nat} (h1 : am_w w1 (.methodLink own x objectInit) = true) (h2 : am_w w2 (.instanceMethod objectInit) = true) (h3 : am_w w3 (.code objectInit ⟨#[0xb1]⟩ 1 none) = true)
    (hF : 1 ≤ R.frames) (hLc : 60 ≤ R.locals) (hsum : (rest.map fun v => v.category).sum ≤ 8) (hdg : decode cc pc = .ok (.invokespecial x, 3))
    (kk : W p l e R s m args below meth c H locs cells slots Q (F0 m (pc + 3) arr rest)) : W p l e R s m args below meth c H locs cells slots Q (F0 m pc arr (.ref q :: rest)) :=
  W.objInit hx hb hown (am_word C hW h1 rfl args) (am_word C hW h2 rfl args) (am_word C hW h3 rfl args) rfl hml.symm rfl hdg hF (by show 2 * 0 + _ + 12 ≤ R.locals; omega) kk
theorem am_Wstr (hx : p.tables.exec = Jvm.exec) (hb : c.code = cc) (hml : c.maxLocals = arr.size) (C : am_C0 D ct ro b s0 L xs) (hW : s0.WarmedH s.vm) (hown : s.vm.findClass own = some m.cls) (hG : am_G D ct ro s0 L xs M H) {n x w1 w2 w3 w4 w5 q mL : Nat} {y : MethodName} {bytes : ByteArray} {rt : Option FieldType} {as : List Value} {r : Int32}
    (hM : Met l y [Cond.code y bytes mL rt] am_rmS (am_PcS s0 (.ref (ro q) :: as)) (am_QcS r) 0 0 (fun _ => False)) (hcell : ∃ cell : Cell, s0.heap[ro q]? = some cell ∧ cell.vm.isStatics = false ∧ s0.vm.findClass RJ0 = some cell.cls)
    (hn : (parseMethodDescriptor y.desc).map (fun d => d.parameters.length) = some n) (hnm : y.cls ≠ "java/lang/invoke/MethodHandle" ∧ y.cls ≠ "java/lang/invoke/VarHandle") (hm2 : mL ≤ 41) (h1 : am_w w1 (.methodLink own x y) = true) (h2 : am_w w2 (.code y bytes mL rt) = true) (h3 : am_w w3 (.instanceMethod y) = true) (h4 : am_w w4 (.selects RJ0 y y) = true) (h5 : am_w w5 (.initialized y.cls) = true)
    (hF : 7 ≤ R.frames) (hLc : 420 ≤ R.locals) (hlen : as.length = n) (hsum : (rest.map fun v => v.category).sum ≤ 8) (hc : cells ≤ R.cells) (hs : slots ≤ R.slots) (hdg : decode cc pc = .ok (.invokevirtual x, 3))
    (kk : W p l e R s m args below meth c H locs cells slots Q (F0 m (pc + 3) arr (.int r :: rest))) :
    W p l e R s m args below meth c H locs cells slots Q (F0 m pc arr (as.reverse ++ .ref (ro q) :: rest)) := by
  obtain ⟨cell, g1, g2, g3⟩ := hcell
  have hlt : ro q < s0.heap.size := (Array.getElem?_eq_some_iff.mp g1).1
  refine am_WbackS (va_runV (own := own) (C := RJ0) (As := as) (Ts := []) (n := n) (maxL := mL) (bytes := bytes) (ret := rt) ⟨hx, hb, hml, hown, fun _ h => absurd h List.not_mem_nil⟩ hM ⟨⟨rfl, rfl, by show 5 + 1 ≤ R.frames; omega, by show 8 + (mL + 11) + 300 ≤ R.locals; omega, fun w hw a' U hU => ?_, List.mem_singleton.mpr rfl, am_word C hW h2 rfl args, am_word C hW h5 rfl args, hnm, fun sig hs => by rw [hs] at hn; simpa using hn.symm, am_word C hW h1 rfl args⟩, am_word C hW h3 rfl args, am_word C hW h4 rfl args⟩
    ⟨fun _ _ _ _ h => h, ⟨cell, by rw [hG.2.2.1 _ hlt]; exact g1, g2, by rw [hW.alike.findClass]; exact g3⟩, fun U hU hV => ⟨rfl, State.WarmedH.trans hW hV, fun z hz => by rw [hU]; exact hG.2.2.1 z hz⟩⟩ rfl hlen rfl rfl (lv_room hsum) hdg ⟨by omega, by omega⟩) kk
  rw [List.mem_singleton] at hw
  subst hw
  exact am_word C (State.WarmedH.trans hW hU) h2 rfl a'
theorem am_Wcopy {α : Type} (mk : α → Value) (hx : p.tables.exec = Jvm.exec) (hb : c.code = cc) (hml : c.maxLocals = arr.size) (C : am_C0 D ct ro b s0 L xs) (hW : s0.WarmedH s.vm) (hown : s.vm.findClass own = some m.cls) {x w1 w2 w3 w4 a0 a t n0 n1 : Nat} {f g : Nat → α} (ht : t ≤ 3) (hp0 : H[a0]? = some (arrV (ct t) n0 (fun j => mk (f j)))) (hp1 : H[a]? = some (arrV (ct t) n1 (fun j => mk (g j)))) (hfit : ∀ z, fits (am_tys t) (mk z) = true) (hone : ∀ z, (mk z).category = (mk z).category)
    (k1 : am_w w1 (.methodLink own x arraycopyName) = true) (k2 : am_w w2 (.native arraycopyName) = true) (k3 : am_w w3 (.static arraycopyName) = true) (k4 : am_w w4 (.initialized "java/lang/System") = true)
    {sp dp n : Int32} (h1 : ¬ sp < 0) (h2 : ¬ dp < 0) (h3 : ¬ n < 0) (h4 : sp.toNatClampNeg + n.toNatClampNeg ≤ n0) (h5 : dp.toNatClampNeg + n.toNatClampNeg ≤ n1) (hF : 7 ≤ R.frames) (hLc : 420 ≤ R.locals) (hsum : (rest.map fun v => v.category).sum ≤ 8) (hdg : decode cc pc = .ok (.invokestatic x, 3))
    (kk : ∀ (H1 : Heap) (locs1 : List Loc), H1[a]? = some (arrV (ct t) n1 (fun j => mk (va_cpy f g sp.toNatClampNeg dp.toNatClampNeg n.toNatClampNeg j))) → H1.size = H.size → (∀ q : Nat, q ≠ a → H1[q]? = H[q]?) → (∀ q ∈ locs1, q ∈ locs ∨ q.base = a) → W p l e R s m args below meth c H1 locs1 cells slots Q (F0 m (pc + 3) arr rest)) : W p l e R s m args below meth c H locs cells slots Q (F0 m pc arr (.int n :: .int dp :: .ref a :: .int sp :: .ref a0 :: rest)) := by
  have nn : ∀ z : Int32, ¬ z < 0 → z.toInt = (z.toNatClampNeg : Int) := by
    intro z hz
    have hz0 : (0 : Int) ≤ z.toInt := by
      have := Int32.not_lt.mp hz
      simpa using Int32.le_iff_toInt_le.mp this
    show z.toInt = ((z.toInt.toNat : Nat) : Int)
    omega
  have hty : refKind (am_tys t) = false := by
    rcases (by omega : t = 0 ∨ t = 1 ∨ t = 2 ∨ t = 3) with rfl | rfl | rfl | rfl <;> rfl
  have hA := arrOfT_moved hW.alike (C.2.2.1 t (by omega)).1
  have hnw : nativeFrameWords "java/lang/System" "arraycopy" 5 + 11 ≤ 60 := by decide
  intro T hT X
  obtain ⟨-, k0', hk0, cm0, hkk0⟩ := hA n0 (fun j => mk (f j))
  obtain ⟨-, k1', hk1, cm1, hkk1⟩ := hA n1 (fun j => mk (g j))
  obtain ⟨vm', X', step⟩ := X.arraycopy hx hown (am_word C hW k1 rfl args) (am_word C hW k2 rfl args) (am_word C hW k3 rfl args) (am_word C hW k4 rfl args) (src := a0) (dst := a) (cs := arrV (ct t) n0 (fun j => mk (f j))) (cd := arrV (ct t) n1 (fun j => mk (g j))) (srcPos := sp) (destPos := dp) (n := n) (by rw [hT]; exact hp0) (by rw [hT]; exact hp1)
    (fun _ h => by cases h) (fun _ h => by cases h) (fun h => by cases h) (fun h => by cases h) hk0 hk1 hkk0 hkk1 (by simp [hty]) h1 h2 h3
    (by rw [nn sp h1, nn n h3, arrV_size]; omega)
    (by rw [nn dp h2, nn n h3, arrV_size]; omega)
    (fun vm₁ _ i hi => by
      have e : (arrV (ct t) n0 (fun j => mk (f j))).slots.getD (sp.toNatClampNeg + i) .null = mk (f (sp.toNatClampNeg + i)) := by
        rw [Array.getD_eq_getD_getElem?, arrV_read _ _ (by omega)]
        rfl
      refine ⟨?_, ?_⟩
      · rw [e]
        exact hfit _
      · rw [e]
        rcases (by omega : t = 0 ∨ t = 1 ∨ t = 2 ∨ t = 3) with rfl | rfl | rfl | rfl
        · have := hfit (f (sp.toNatClampNeg + i))
          cases hz : mk (f (sp.toNatClampNeg + i)) <;> rw [hz] at this <;> first | exact trivial | cases this
        · have := hfit (f (sp.toNatClampNeg + i))
          cases hz : mk (f (sp.toNatClampNeg + i)) <;> rw [hz] at this <;> first | exact trivial | cases this
        · have := hfit (f (sp.toNatClampNeg + i))
          cases hz : mk (f (sp.toNatClampNeg + i)) <;> rw [hz] at this <;> first | exact trivial | cases this
        · have := hfit (f (sp.toNatClampNeg + i))
          cases hz : mk (f (sp.toNatClampNeg + i)) <;> rw [hz] at this <;> first | exact trivial | cases this)
    (g := F0 m pc arr (.int n :: .int dp :: .ref a :: .int sp :: .ref a0 :: rest)) rfl (by rw [hml]) (rest := rest) rfl (by rw [hb]; exact hdg) (by omega) (by show 2 * 0 + _ + _ ≤ _; omega)
  have e1 : copied (arrV (ct t) n0 (fun j => mk (f j))) (arrV (ct t) n1 (fun j => mk (g j))) sp dp n = arrV (ct t) n1 (fun j => mk (va_cpy f g sp.toNatClampNeg dp.toNatClampNeg n.toNatClampNeg j)) := va_copied mk (ct t) (ct t) f g h4
  rw [e1] at X' step
  have hl : a < H.size := (Array.getElem?_eq_some_iff.mp hp1).1
  generalize hcell : arrV (ct t) n1 (fun j => mk (va_cpy f g sp.toNatClampNeg dp.toNatClampNeg n.toNatClampNeg j)) = cell at X' step kk
  have hheap : ((T.setVm vm').setCell a cell).heap = H.setIfInBounds a cell := by rw [← hT]; rfl
  obtain ⟨t2, a1, b1⟩ := kk (H.setIfInBounds a cell) _ (by simp [Array.getElem?_setIfInBounds, hl]) (by simp) (fun q hq => by simp [Array.getElem?_setIfInBounds, Ne.symm hq]) (fun q hq => by
      rcases List.mem_append.mp hq with h | h
      · exact Or.inl h
      · obtain ⟨z, -, hz⟩ := List.mem_map.mp h
        rw [← hz]
        exact Or.inr rfl) _ hheap X'
  exact ⟨t2, step t2 a1, b1⟩
end AMC
