section AMX
variable {p : Program} {l : Launch} {e : Env} {R : Room} {s : State} {m : MethodId} {args : Array Value} {below : List Frame} {meth : Method} {c : Code} {H : Heap} {locs : List Loc} {cells slots : Nat} {Q : State → Prop}
variable {cc : ByteArray} {pc : Nat} {arr : Array Slot} {rest : List Value} {D : va_G} {ct : Nat → ClassId} {ro : Nat → Nat} {b : Nat} {s0 : State} {L : Nat} {xs : Nat → Int32} {M : am_M} {own : String}
theorem am_badE {M : am_M} {q : Nat} {i : Int32} (h : am_bad M q i = false) : ¬ i < 0 ∧ i.toNatClampNeg < (am_sh M q).2 := by
  unfold am_bad at h
  rw [Bool.or_eq_false_iff, decide_eq_false_iff_not, decide_eq_false_iff_not] at h
  exact ⟨h.1, Nat.not_le.mp h.2⟩
theorem am_isrf (t : Nat) (h4 : 4 ≤ t) (h : t ≤ 6) : (am_tys t).isReference = true := by
  rcases (by omega : t = 4 ∨ t = 5 ∨ t = 6) with rfl | rfl | rfl <;> rfl
theorem am_Wald (hx : p.tables.exec = Jvm.exec) (hb : c.code = cc) (C : am_C0 D ct ro b s0 L xs) (hW : s0.WarmedH s.vm) (hG : am_G D ct ro s0 L xs M H) {q t : Nat} {i : Int32} {ins : Instr} (ht : t ≤ 6) (hq : (am_sh M q).1 = 100 + t) (hi : am_bad M q i = false)
    (hins : (t = 0 ∧ ins = .iaload) ∨ (t = 1 ∧ ins = .laload) ∨ ((t = 2 ∨ t = 3) ∧ ins = .baload) ∨ (4 ≤ t ∧ ins = .aaload)) (hdg : decode cc pc = .ok (ins, 1))
    (kk : W p l e R s m args below meth c H locs cells slots Q (F0 m (pc + 1) arr (am_rd (am_ad s0 ro) M q i.toNatClampNeg (am_tys t) :: rest))) : W p l e R s m args below meth c H locs cells slots Q (F0 m pc arr (.int i :: .ref (am_ad s0 ro q) :: rest)) := by
  obtain ⟨cell, c1, c2, c3, c4, c5, c6⟩ := am_row C hW hG ht hq
  obtain ⟨b1, b2⟩ := am_badE hi
  have hin : ¬ (i < 0 ∨ cell.slots.size ≤ i.toNatClampNeg) := by
    rintro (z | z)
    · exact b1 z
    · omega
  rcases hins with ⟨rfl, rfl⟩ | ⟨rfl, rfl⟩ | ⟨rfl | rfl, rfl⟩ | ⟨h4, rfl⟩
  · exact W.iald hx hb c1 c2 c3 hin (c6 _ b2) rfl rfl hdg kk
  · exact W.lald hx hb c1 c2 c3 hin (c6 _ b2) rfl rfl hdg kk
  · exact W.bald hx hb c1 c2 c3 hin (c6 _ b2) rfl rfl hdg kk
  · exact W.zald hx hb c1 c2 c3 hin (c6 _ b2) rfl rfl hdg kk
  · exact W.aald hx hb c1 c2 (am_isrf t h4 ht) c3 hin (c6 _ b2) rfl rfl hdg kk
theorem am_Wist (hx : p.tables.exec = Jvm.exec) (hb : c.code = cc) (C : am_C0 D ct ro b s0 L xs) (hW : s0.WarmedH s.vm) (hG : am_G D ct ro s0 L xs M H) {q t : Nat} {i x : Int32} {ins : Instr} (h0 : am_R0 ≤ q) (ht : t = 0 ∨ t = 2 ∨ t = 3) (hq : (am_sh M q).1 = 100 + t) (hi : am_bad M q i = false)
    (hins : (t = 0 ∧ ins = .iastore) ∨ ((t = 2 ∨ t = 3) ∧ ins = .bastore)) (hdg : decode cc pc = .ok (ins, 1))
    (kk : ∀ (H' : Heap) (j : Nat), am_G D ct ro s0 L xs (am_wr M q i.toNatClampNeg (.int (am_nar (100 + t) x))) H' → W p l e R s m args below meth c H' (locs ++ [⟨am_ad s0 ro q, j⟩]) cells slots Q (F0 m (pc + 1) arr rest)) : W p l e R s m args below meth c H locs cells slots Q (F0 m pc arr (.int x :: .int i :: .ref (am_ad s0 ro q) :: rest)) := by
  have ht6 : t ≤ 6 := by omega
  obtain ⟨-, c1⟩ := am_rowW hG h0 ht6 hq
  have c2 := arrOfT_moved hW.alike (C.2.2.1 t ht6).1 (am_sh M q).2 (fun j => am_rd (am_ad s0 ro) M q j (am_tys t))
  obtain ⟨b1, b2⟩ := am_badE hi
  have hin : ¬ (i < 0 ∨ (arrV (ct t) (am_sh M q).2 (fun j => am_rd (am_ad s0 ro) M q j (am_tys t))).slots.size ≤ i.toNatClampNeg) := by
    rw [arrV_size]
    rintro (z | z)
    · exact b1 z
    · omega
  rcases hins with ⟨rfl, rfl⟩ | ⟨rfl | rfl, rfl⟩
  · exact W.iast hx hb c1 c2 (fun z => by cases z) hin rfl rfl hdg fun H' e1 e2 e3 => kk H' _ (am_G_st hG h0 ht6 hq (by simp [am_tys, am_rd, am_wr, am_up, am_nar]) e1 e2 e3)
  · exact W.bast hx hb c1 c2 (fun z => by cases z) hin rfl rfl hdg fun H' e1 e2 e3 => kk H' _ (am_G_st hG h0 ht6 hq (by simp [am_tys, am_rd, am_wr, am_up, am_nar, vp_nar]; rfl) e1 e2 e3)
  · exact W.zast hx hb c1 c2 (fun z => by cases z) hin rfl rfl hdg fun H' e1 e2 e3 => kk H' _ (am_G_st hG h0 ht6 hq (by simp [am_tys, am_rd, am_wr, am_up, am_nar, vp_nar]; rfl) e1 e2 e3)
theorem am_Wlst (hx : p.tables.exec = Jvm.exec) (hb : c.code = cc) (C : am_C0 D ct ro b s0 L xs) (hW : s0.WarmedH s.vm) (hG : am_G D ct ro s0 L xs M H) {q : Nat} {i : Int32} {x : Int64} (h0 : am_R0 ≤ q) (hq : (am_sh M q).1 = 101) (hi : am_bad M q i = false) (hdg : decode cc pc = .ok (.lastore, 1))
    (kk : ∀ (H' : Heap) (j : Nat), am_G D ct ro s0 L xs (am_wr M q i.toNatClampNeg (.long x)) H' → W p l e R s m args below meth c H' (locs ++ [⟨am_ad s0 ro q, j⟩]) cells slots Q (F0 m (pc + 1) arr rest)) : W p l e R s m args below meth c H locs cells slots Q (F0 m pc arr (.long x :: .int i :: .ref (am_ad s0 ro q) :: rest)) := by
  obtain ⟨-, c1⟩ := am_rowW (t := 1) hG h0 (by decide) hq
  have c2 := arrOfT_moved hW.alike (C.2.2.1 1 (by decide)).1 (am_sh M q).2 (fun j => am_rd (am_ad s0 ro) M q j (am_tys 1))
  obtain ⟨b1, b2⟩ := am_badE hi
  have hin : ¬ (i < 0 ∨ (arrV (ct 1) (am_sh M q).2 (fun j => am_rd (am_ad s0 ro) M q j (am_tys 1))).slots.size ≤ i.toNatClampNeg) := by
    rw [arrV_size]
    rintro (z | z)
    · exact b1 z
    · omega
  exact W.last hx hb c1 c2 (fun z => by cases z) hin rfl rfl hdg fun H' e1 e2 e3 => kk H' _ (am_G_st (t := 1) hG h0 (by decide) hq (by simp [am_tys, am_rd, am_wr, am_up]) e1 e2 e3)
theorem am_assign {U : State} {C : String} {cC : ClassId} (h : ClassAt U C cC) : U.vm.assignable cC cC = true := by
  obtain ⟨-, k, hk, hkind⟩ := h
  simp [Vm.assignable, Vm.assignableAux, hk, hkind, Vm.isSubclass, Vm.isSubclassAux]
theorem am_Wast (hx : p.tables.exec = Jvm.exec) (hb : c.code = cc) (C : am_C0 D ct ro b s0 L xs) (hW : s0.WarmedH s.vm) (hG : am_G D ct ro s0 L xs M H) {q t ci v : Nat} {i : Int32} (h0 : am_R0 ≤ q) (htc : (t = 4 ∧ ci = 1) ∨ (t = 5 ∧ ci = 5) ∨ (t = 6 ∧ ci = 0)) (hq : (am_sh M q).1 = 100 + t) (hv : (am_sh M v).1 = ci) (hi : am_bad M q i = false) (hdg : decode cc pc = .ok (.aastore, 1))
    (kk : ∀ (H' : Heap) (j : Nat), am_G D ct ro s0 L xs (am_wr M q i.toNatClampNeg (.ref v)) H' → W p l e R s m args below meth c H' (locs ++ [⟨am_ad s0 ro q, j⟩]) cells slots Q (F0 m (pc + 1) arr rest)) : W p l e R s m args below meth c H locs cells slots Q (F0 m pc arr (.ref (am_ad s0 ro v) :: .int i :: .ref (am_ad s0 ro q) :: rest)) := by
  have ht6 : t ≤ 6 := by omega
  have hci : ci < 8 := by omega
  have hty : am_tys t = .object (am_cn ci) := by rcases htc with ⟨rfl, rfl⟩ | ⟨rfl, rfl⟩ | ⟨rfl, rfl⟩ <;> rfl
  obtain ⟨-, c1⟩ := am_rowW hG h0 ht6 hq
  obtain ⟨-, hra⟩ := C.2.2.1 t ht6
  have hra := hra.moved hW.alike
  rw [hty] at hra
  obtain ⟨kA, comp, k1, k2, k3, -⟩ := hra
  have hcls := (u_Kn_moved hW.alike (C.2.1 ci hci)).2
  have hcomp : comp = D.1 ci := Option.some.inj (k3.symm.trans hcls.1)
  subst hcomp
  obtain ⟨kC, hkC, -⟩ := hcls.2
  obtain ⟨-, -, cellV, g1, g2, g3, -⟩ := am_obj hG hci hv
  obtain ⟨b1, b2⟩ := am_badE hi
  refine W.aast hx hb c1 (fun q h => by cases h) (fun h => by cases h) k1 k2 rfl hkC ⟨b1, by rw [arrV_size]; exact b2⟩ g1 (fun q h => by rw [g3] at h; cases h) (by rw [g2]; exact hkC) (by rw [g2]; exact am_assign hcls) rfl rfl hdg fun H' e1 e2 e3 => kk H' _ (am_G_st hG h0 ht6 hq ?_ e1 e2 e3)
  rw [hty]
  simp [am_rd, am_wr, am_up, va_rf]
theorem am_Walen (hx : p.tables.exec = Jvm.exec) (hb : c.code = cc) (C : am_C0 D ct ro b s0 L xs) (hW : s0.WarmedH s.vm) (hG : am_G D ct ro s0 L xs M H) {q : Nat} (h1 : 100 ≤ (am_sh M q).1) (h2 : (am_sh M q).1 ≤ 106) (hdg : decode cc pc = .ok (.arraylength, 1))
    (kk : W p l e R s m args below meth c H locs cells slots Q (F0 m (pc + 1) arr (.int (Int32.ofNat (am_sh M q).2) :: rest))) : W p l e R s m args below meth c H locs cells slots Q (F0 m pc arr (.ref (am_ad s0 ro q) :: rest)) := by
  obtain ⟨cell, c1, c2, c3, c4, c5, c6⟩ := am_row (q := q) C hW hG (t := (am_sh M q).1 - 100) (by omega) (by omega)
  exact W.alen hx hb c1 c2 c5 rfl rfl hdg kk
def am_defOK : FieldType → Bool
  | .float | .double => false
  | _ => true
theorem am_def {ad : Nat → Nat} {M : am_M} {q k : Nat} (h : M.1 q k = 0 ∧ M.2.1 q k = 0 ∧ M.2.2.1 q k = none) {ty : FieldType} (ht : am_defOK ty = true) : defaultValue ty = am_rd ad M q k ty := by
  obtain ⟨h1, h2, h3⟩ := h
  cases ty <;> simp_all [am_defOK, am_rd, defaultValue, va_rf]
theorem am_defF (ci : Nat) (h : ci < 8) : ∀ k, k < am_fnum ci → am_defOK (am_fty ci k) = true :=
  am_8 (P := fun ci => ∀ k, k < am_fnum ci → am_defOK (am_fty ci k) = true) (by decide) (by decide) (by decide) (by decide) (by decide) (by decide) (by decide) (by decide +kernel) ci h
theorem am_Wnew (hx : p.tables.exec = Jvm.exec) (hb : c.code = cc) (C : am_C0 D ct ro b s0 L xs) (hW : s0.WarmedH s.vm) (hown : s.vm.findClass own = some m.cls) (hG : am_G D ct ro s0 L xs M H) {ci x w w2 w3 : Nat} (hci : ci < 8) (h1 : am_w w (.classLink own x (am_cn ci)) = true) (h2 : am_w w2 (.instantiable (am_cn ci) (am_fnum ci)) = true) (h3 : am_w w3 (.initialized (am_cn ci)) = true)
    (hc : cells + 1 ≤ R.cells) (hs : slots + am_fnum ci ≤ R.slots) (hdg : decode cc pc = .ok (.new x, 3))
    (kk : ∀ H' : Heap, am_G D ct ro s0 L xs (am_new M ci (am_fnum ci) (am_fnum ci)) H' → W p l e R s m args below meth c H' locs (cells + 1) (slots + am_fnum ci) Q (F0 m (pc + 3) arr (.ref (am_ad s0 ro (am_nx M)) :: rest))) : W p l e R s m args below meth c H locs cells slots Q (F0 m pc arr rest) := by
  have hKn := u_Kn_moved hW.alike (C.2.1 ci hci)
  have hsz : am_ad s0 ro (am_nx M) = H.size := by
    rw [am_adW hG.2.1]
    have := hG.1
    have := hG.2.1
    omega
  refine W.newcK hx hb hown (am_word C hW h1 rfl args) (am_word C hW h2 rfl args) (am_word C hW h3 rfl args) rfl hdg hc hs hKn.2.1 rfl fun H' kC hkC e1 z1 o1 => ?_
  have hG' : am_G D ct ro s0 L xs (am_new M ci (am_fnum ci) (am_fnum ci)) H' := by
    refine am_G_new hG _ _ _ z1 o1 (Or.inl ?_)
    have hsh : am_sh (am_new M ci (am_fnum ci) (am_fnum ci)) (am_nx M) = (ci, am_fnum ci) := by
      show (if am_nx M = M.2.2.2.2.1 then (ci, am_fnum ci) else M.2.2.2.1 (am_nx M)) = _
      exact if_pos rfl
    rw [hsh, hsz]
    refine ⟨hci, t_OB.to (u_born (ws := u_ws (am_cn ci) (am_fT ci) (am_fnum ci)) (args := args) (am_fty ci) (fun w hw => ?_) (fun _ h => h) hKn hkC e1 (am_ftyE ci hci)) (fun k hk => am_def ((hG.2.2.2.2.2 _ (Nat.le_refl _)).2 k) (am_defF ci hci k hk))⟩
    obtain ⟨k, hk, rfl⟩ := List.mem_map.mp hw
    exact am_layW C hW hci (List.mem_range.mp hk)
  have := kk H' hG'
  rw [hsz] at this
  exact this
theorem am_Wnewa (hx : p.tables.exec = Jvm.exec) (hb : c.code = cc) (C : am_C0 D ct ro b s0 L xs) (hW : s0.WarmedH s.vm) (hG : am_G D ct ro s0 L xs M H) {t w : Nat} {a : ArrayType} {n : Int32} (ht : t ≤ 3) (hty : newarray.typeOf a = am_tys t) (h1 : am_w w (.arrayClass (newarray.typeOf a)) = true) (hn : ¬ n < 0) (hn2 : ¬ 65536 < n.toNatClampNeg)
    (hc : cells + 1 ≤ R.cells) (hs : slots + n.toNatClampNeg ≤ R.slots) (hdg : decode cc pc = .ok (.newarray a, 2))
    (kk : ∀ H' : Heap, am_G D ct ro s0 L xs (am_new M (100 + t) n.toNatClampNeg n.toNatClampNeg) H' → W p l e R s m args below meth c H' locs (cells + 1) (slots + n.toNatClampNeg) Q (F0 m (pc + 2) arr (.ref (am_ad s0 ro (am_nx M)) :: rest))) : W p l e R s m args below meth c H locs cells slots Q (F0 m pc arr (.int n :: rest)) := by
  have hsz : am_ad s0 ro (am_nx M) = H.size := by
    rw [am_adW hG.2.1]
    have := hG.1
    have := hG.2.1
    omega
  have hb8 : componentBytes (newarray.typeOf a) ≤ 8 := by cases a <;> decide
  refine va_newaK hx hb (am_word C hW h1 rfl args) rfl hdg rfl hn rfl (Nat.le_trans (Nat.mul_le_mul (Nat.not_lt.mp hn2) hb8) (by decide)) hc hs rfl fun H' cA e1 z1 o1 hA hN => ?_
  have hcA : cA = ct t := by
    have hra := (C.2.2.1 t (by omega)).2.moved hW.alike
    rw [hty] at hN
    match t, ht, hra, hN with
    | 0, _, hra, hN => exact Option.some.inj (hN.symm.trans hra)
    | 1, _, hra, hN => exact Option.some.inj (hN.symm.trans hra)
    | 2, _, hra, hN => exact Option.some.inj (hN.symm.trans hra)
    | 3, _, hra, hN => exact Option.some.inj (hN.symm.trans hra)
    | k + 4, h, _, _ => omega
  subst hcA
  have hG' : am_G D ct ro s0 L xs (am_new M (100 + t) n.toNatClampNeg n.toNatClampNeg) H' := by
    refine am_G_new hG _ _ _ z1 o1 (Or.inr ?_)
    have hsh : am_sh (am_new M (100 + t) n.toNatClampNeg n.toNatClampNeg) (am_nx M) = (100 + t, n.toNatClampNeg) := by
      show (if am_nx M = M.2.2.2.2.1 then (100 + t, n.toNatClampNeg) else M.2.2.2.1 (am_nx M)) = _
      exact if_pos rfl
    rw [hsh, hsz]
    refine ⟨by show 100 ≤ 100 + t; omega, by show 100 + t ≤ 106; omega, ?_⟩
    rw [e1, hty, show (100 + t, n.toNatClampNeg).1 - 100 = t by show 100 + t - 100 = t; omega]
    congr 2
    funext j
    refine am_def ((hG.2.2.2.2.2 _ (Nat.le_refl _)).2 j) ?_
    match t, ht with
    | 0, _ => rfl
    | 1, _ => rfl
    | 2, _ => rfl
    | 3, _ => rfl
    | k + 4, h => omega
  have := kk H' hG'
  rw [hsz] at this
  exact this
theorem am_Wanew (hx : p.tables.exec = Jvm.exec) (hb : c.code = cc) (C : am_C0 D ct ro b s0 L xs) (hW : s0.WarmedH s.vm) (hown : s.vm.findClass own = some m.cls) (hG : am_G D ct ro s0 L xs M H) {t x w w2 : Nat} {Cn : String} {n : Int32} (ht : 4 ≤ t ∧ t ≤ 6) (hty : am_tys t = .object Cn) (h1 : am_w w (.classLink own x Cn) = true) (h2 : am_w w2 (.arrayOver (.object Cn)) = true) (hn : ¬ n < 0) (hn2 : ¬ 65536 < n.toNatClampNeg)
    (hc : cells + 1 ≤ R.cells) (hs : slots + n.toNatClampNeg ≤ R.slots) (hdg : decode cc pc = .ok (.anewarray x, 3))
    (kk : ∀ H' : Heap, am_G D ct ro s0 L xs (am_new M (100 + t) n.toNatClampNeg n.toNatClampNeg) H' → W p l e R s m args below meth c H' locs (cells + 1) (slots + n.toNatClampNeg) Q (F0 m (pc + 3) arr (.ref (am_ad s0 ro (am_nx M)) :: rest))) : W p l e R s m args below meth c H locs cells slots Q (F0 m pc arr (.int n :: rest)) := by
  have hsz : am_ad s0 ro (am_nx M) = H.size := by
    rw [am_adW hG.2.1]
    have := hG.1
    have := hG.2.1
    omega
  have hAO : va_AO Cn s := (va_AO.of (C.1 _ (List.mem_of_getElem? (am_wE h2)))).moved hW.alike
  refine W.anew hx hb hown (am_word C hW h1 rfl args) (va_AO.use hAO) rfl hdg rfl hn (Nat.le_trans (Nat.mul_le_mul_right 4 (Nat.not_lt.mp hn2)) (by decide)) hc hs fun cA kA comp f1 f2 f3 f4 => ?_
  generalize hH1 : H.push ({ cls := cA, slots := Array.replicate n.toNatClampNeg .null, vm := .none } : Cell) = H'
  have z1 : H'.size = H.size + 1 := by rw [← hH1, Array.size_push]
  have e1 : H'[H.size]? = some (arrV cA n.toNatClampNeg (fun _ => .null)) := by rw [← hH1, Array.getElem?_push_size, ← arrV_new]
  have o1 : ∀ q : Nat, q < H.size → H'[q]? = H[q]? := fun q hq => by rw [← hH1, Array.getElem?_push, if_neg (Nat.ne_of_lt hq)]
  have hcA : cA = ct t := by
    have hra := (C.2.2.1 t (by omega)).2.moved hW.alike
    rw [hty] at hra
    obtain ⟨_, _, -, -, -, q4⟩ := hra
    exact Option.some.inj (f1.symm.trans q4)
  subst hcA
  have hG' : am_G D ct ro s0 L xs (am_new M (100 + t) n.toNatClampNeg n.toNatClampNeg) H' := by
    refine am_G_new hG _ _ _ z1 o1 (Or.inr ?_)
    have hsh : am_sh (am_new M (100 + t) n.toNatClampNeg n.toNatClampNeg) (am_nx M) = (100 + t, n.toNatClampNeg) := by
      show (if am_nx M = M.2.2.2.2.1 then (100 + t, n.toNatClampNeg) else M.2.2.2.1 (am_nx M)) = _
      exact if_pos rfl
    rw [hsh, hsz]
    refine ⟨by show 100 ≤ 100 + t; omega, by show 100 + t ≤ 106; omega, ?_⟩
    rw [e1, show (100 + t, n.toNatClampNeg).1 - 100 = t by show 100 + t - 100 = t; omega, hty]
    congr 2
    funext j
    exact am_def (ty := .object Cn) ((hG.2.2.2.2.2 _ (Nat.le_refl _)).2 j) rfl
  have := kk H' hG'
  rw [hsz] at this
  exact this
theorem am_Wgets (hx : p.tables.exec = Jvm.exec) (hb : c.code = cc) (C : am_C0 D ct ro b s0 L xs) (hW : s0.WarmedH s.vm) (hown : s.vm.findClass own = some m.cls) (hG : am_G D ct ro s0 L xs M H) {q x w : Nat} (hq : q < 4) (h1 : am_w w (.fieldLink own x "AirByYard" (am_stN q) "[I") = true) (hdg : decode cc pc = .ok (.getstatic x, 3))
    (kk : W p l e R s m args below meth c H locs cells slots Q (F0 m (pc + 3) arr (.ref (am_ad s0 ro q) :: rest))) : W p l e R s m args below meth c H locs cells slots Q (F0 m pc arr rest) := by
  have hZ := va_Z.moved hW.alike (C.2.2.2.2.1 q hq)
  obtain ⟨cf, kf, fi, f, a, cell, z1, z2, z3, z4, z5, z6, z7, z8⟩ := hZ
  have hlt : a < s0.heap.size := (Array.getElem?_eq_some_iff.mp z5).1
  rw [am_adR (show q < am_R0 by unfold am_R0; omega)] at kk
  exact W.gets hx hb hown (am_word C hW h1 rfl args) z1 z2 z3 z4 (by rw [hG.2.2.1 a hlt]; exact z5) (fun h => by rw [h] at z6; cases z6) z7 rfl hdg kk
theorem am_Wldcs (hx : p.tables.exec = Jvm.exec) (hb : c.code = cc) (C : am_C0 D ct ro b s0 L xs) (hW : s0.WarmedH s.vm) (hown : s.vm.findClass own = some m.cls) {q x : Nat} (h1 : 4 ≤ q) (h2 : q < 8) (ho : own = RX2) (hxx : x = am_stx q) (hdg : decode cc pc = .ok (.ldc x, 2))
    (kk : W p l e R s m args below meth c H locs cells slots Q (F0 m (pc + 2) arr (.ref (am_ad s0 ro q) :: rest))) : W p l e R s m args below meth c H locs cells slots Q (F0 m pc arr rest) := by
  subst ho
  subst hxx
  rw [am_adR (show q < am_R0 by unfold am_R0; omega)] at kk
  exact va_ldcS hx hb hown ((C.2.2.2.2.2.1 q h1 h2).warm hW) hdg kk
end AMX
