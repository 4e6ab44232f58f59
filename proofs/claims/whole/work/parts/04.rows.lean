theorem am_lays0 : ∀ k, k < 10 → u_lay RX0 TX0 k ∈ lw_tbl := by decide +kernel
theorem am_lays1 : ∀ k, k < 4 → u_lay RX1 TX1 k ∈ lw_tbl := by decide +kernel
theorem am_lays2 : ∀ k, k < 3 → u_lay RX2 TX2 k ∈ lw_tbl := by decide +kernel
theorem am_lays3 : ∀ k, k < 5 → u_lay RX3 TX3 k ∈ lw_tbl := by decide +kernel
theorem am_lays4 : ∀ k, k < 7 → u_lay RX4 TX4 k ∈ lw_tbl := by decide +kernel
theorem am_lays5 : ∀ k, k < 3 → u_lay RX5 TX5 k ∈ lw_tbl := by decide +kernel
theorem am_lays6 : ∀ k, k < 17 → u_lay RX6 TX6 k ∈ lw_tbl := by decide +kernel
theorem am_lays7 : ∀ k, k < 81 → u_lay RX7 TX7 k ∈ lw_tbl := by decide +kernel
theorem am_8 {P : Nat → Prop} (h0 : P 0) (h1 : P 1) (h2 : P 2) (h3 : P 3) (h4 : P 4) (h5 : P 5) (h6 : P 6) (h7 : P 7) (ci : Nat) (h : ci < 8) : P ci := by
  match ci, h with
  | 0, _ => exact h0
  | 1, _ => exact h1
  | 2, _ => exact h2
  | 3, _ => exact h3
  | 4, _ => exact h4
  | 5, _ => exact h5
  | 6, _ => exact h6
  | 7, _ => exact h7
  | n + 8, h => omega
theorem am_lays (ci : Nat) (h : ci < 8) : ∀ k, k < am_fnum ci → u_lay (am_cn ci) (am_fT ci) k ∈ lw_tbl :=
  am_8 (P := fun ci => ∀ k, k < am_fnum ci → u_lay (am_cn ci) (am_fT ci) k ∈ lw_tbl) am_lays0 am_lays1 am_lays2 am_lays3 am_lays4 am_lays5 am_lays6 am_lays7 ci h
theorem am_ftyE (ci : Nat) (h : ci < 8) : ∀ k, k < am_fnum ci → parseFieldDescriptor (am_fT ci k).2.2.1 = some (am_fty ci k) :=
  am_8 (P := fun ci => ∀ k, k < am_fnum ci → parseFieldDescriptor (am_fT ci k).2.2.1 = some (am_fty ci k)) tyX0_ok tyX1_ok tyX2_ok tyX3_ok tyX4_ok tyX5_ok tyX6_ok tyX7_ok ci h
theorem am_nmE (ci : Nat) (h : ci < 8) : ∀ x, x < am_fnum ci → ∀ y, y < am_fnum ci → x ≠ y → (am_fT ci x).2.1 ≠ (am_fT ci y).2.1 :=
  am_8 (P := fun ci => ∀ x, x < am_fnum ci → ∀ y, y < am_fnum ci → x ≠ y → (am_fT ci x).2.1 ≠ (am_fT ci y).2.1) nmX0 nmX1 nmX2 nmX3 nmX4 nmX5 nmX6 nmX7 ci h
theorem am_goodLay (C : String) (T : u_T) (k : Nat) : goodWord (u_lay C T k) = true := by
  unfold u_lay
  split <;> rfl
/-! places -/
theorem am_inW {D : va_G} {ct : Nat → ClassId} {ro : Nat → Nat} {s0 : State} {L : Nat} {xs : Nat → Int32} {M : am_M} {H : Heap} (hG : am_G D ct ro s0 L xs M H) {q : Nat} (h : (am_sh M q).1 < 8) : am_R0 ≤ q ∧ q < am_nx M := by
  obtain ⟨-, -, -, -, h5, h6⟩ := hG
  constructor
  · rcases Nat.lt_or_ge q am_R0 with z | z
    · rw [(h5 q z).1] at h
      unfold am_roS at h
      split at h
      · exact absurd (show (100 : Nat) < 8 from h) (by decide)
      · split at h
        · exact absurd (show (200 : Nat) < 8 from h) (by decide)
        · exact absurd (show (100 : Nat) < 8 from h) (by decide)
    · exact z
  · rcases Nat.lt_or_ge q (am_nx M) with z | z
    · exact z
    · rw [(h6 q z).1] at h
      exact absurd h (by decide)
theorem am_obj {D : va_G} {ct : Nat → ClassId} {ro : Nat → Nat} {s0 : State} {L : Nat} {xs : Nat → Int32} {M : am_M} {H : Heap} (hG : am_G D ct ro s0 L xs M H) {q ci : Nat} (hci : ci < 8) (h : (am_sh M q).1 = ci) :
    am_R0 ≤ q ∧ q < am_nx M ∧ t_OB (am_ad s0 ro q) (D.1 ci) (am_fnum ci) (D.2 ci) H (fun k => am_rd (am_ad s0 ro) M q k (am_fty ci k)) := by
  subst h
  obtain ⟨h1, h2⟩ := am_inW hG hci
  refine ⟨h1, h2, ?_⟩
  rcases hG.2.2.2.1 q h1 h2 with z | z
  · exact z.2
  · exact absurd z.1 (by omega)
theorem am_cell_kept {D : va_G} {ct : Nat → ClassId} {ad : Nat → Nat} {M M' : am_M} {H H' : Heap} {q : Nat} (h : am_cell D ct ad M q H) (hs : am_sh M' q = am_sh M q) (hr : ∀ k ty, am_rd ad M' q k ty = am_rd ad M q k ty) (hq : H'[ad q]? = H[ad q]?) : am_cell D ct ad M' q H' := by
  unfold am_cell at h ⊢
  rw [hs]
  rcases h with ⟨h1, h2⟩ | ⟨h1, h2, h3⟩
  · exact Or.inl ⟨h1, (h2.kept hq).to (fun k _ => (hr k _).symm)⟩
  · refine Or.inr ⟨h1, h2, ?_⟩
    rw [hq, h3]
    congr 2
    funext j
    exact (hr j _).symm
theorem am_G_wr {D : va_G} {ct : Nat → ClassId} {ro : Nat → Nat} {s0 : State} {L : Nat} {xs : Nat → Int32} {M : am_M} {H H' : Heap} (hG : am_G D ct ro s0 L xs M H) {q k : Nat} {v : Value} (h1 : am_R0 ≤ q) (h2 : q < am_nx M) (hz : H'.size = H.size) (ho : ∀ x : Nat, x ≠ am_ad s0 ro q → H'[x]? = H[x]?)
    (hc : am_cell D ct (am_ad s0 ro) (am_wr M q k v) q H') : am_G D ct ro s0 L xs (am_wr M q k v) H' := by
  obtain ⟨g1, g2, g3, g4, g5, g6⟩ := hG
  refine ⟨by rw [hz, am_wr_nx]; exact g1, by rw [am_wr_nx]; exact g2, fun x hx => ?_, fun x x1 x2 => ?_, fun x hx => ?_, fun x hx => ?_⟩
  · rw [ho x (by rw [am_adW h1]; omega)]
    exact g3 x hx
  · rw [am_wr_nx] at x2
    by_cases e : x = q
    · subst e
      exact hc
    · refine am_cell_kept (g4 x x1 x2) (am_wr_sh ..) (fun j ty => am_rd_wr _ _ _ _ _ (fun z => e z.1) _) (ho _ fun z => e (am_adI x1 h1 z))
  · have e : x ≠ q := by omega
    rw [am_wr_sh]
    exact ⟨(g5 x hx).1, fun j => by rw [am_wr_1 _ _ _ _ (fun z => e z.1)]; exact (g5 x hx).2 j⟩
  · rw [am_wr_nx] at hx
    have e : x ≠ q := by omega
    rw [am_wr_sh]
    exact ⟨(g6 x hx).1, fun j => by rw [am_wr_1 _ _ _ _ (fun z => e z.1), am_wr_2 _ _ _ _ (fun z => e z.1), am_wr_3 _ _ _ _ (fun z => e z.1)]; exact (g6 x hx).2 j⟩
theorem am_G_new {D : va_G} {ct : Nat → ClassId} {ro : Nat → Nat} {s0 : State} {L : Nat} {xs : Nat → Int32} {M : am_M} {H H' : Heap} (hG : am_G D ct ro s0 L xs M H) (tag n cost : Nat) (hz : H'.size = H.size + 1) (ho : ∀ x : Nat, x < H.size → H'[x]? = H[x]?)
    (hc : am_cell D ct (am_ad s0 ro) (am_new M tag n cost) (am_nx M) H') : am_G D ct ro s0 L xs (am_new M tag n cost) H' := by
  obtain ⟨g1, g2, g3, g4, g5, g6⟩ := hG
  have hs : ∀ x, x ≠ am_nx M → am_sh (am_new M tag n cost) x = am_sh M x := fun x hx => by
    show (if x = M.2.2.2.2.1 then (tag, n) else M.2.2.2.1 x) = _
    rw [if_neg (show ¬ x = M.2.2.2.2.1 from hx)]
    rfl
  refine ⟨by show H'.size + am_R0 = _ + (am_nx M + 1); omega, by show am_R0 ≤ am_nx M + 1; omega, fun x hx => ?_, fun x x1 x2 => ?_, fun x hx => ?_, fun x hx => ?_⟩
  · rw [ho x (by omega)]
    exact g3 x hx
  · have x2 : x < am_nx M + 1 := x2
    by_cases e : x = am_nx M
    · subst e
      exact hc
    · refine am_cell_kept (g4 x x1 (by omega)) (hs x e) (fun j ty => by cases ty <;> rfl) (ho _ ?_)
      rw [am_adW x1]
      omega
  · rw [hs x (by omega)]
    exact g5 x hx
  · have hx : am_nx M + 1 ≤ x := hx
    rw [hs x (by omega)]
    exact g6 x (by omega)
/-- any row, of the start or made: a cell that holds it -/
theorem am_row {D : va_G} {ct : Nat → ClassId} {ro : Nat → Nat} {b : Nat} {s0 s : State} {L : Nat} {xs : Nat → Int32} {M : am_M} {H : Heap} (C : am_C0 D ct ro b s0 L xs) (hW : s0.WarmedH s.vm) (hG : am_G D ct ro s0 L xs M H) {q t : Nat} (ht : t ≤ 6) (h : (am_sh M q).1 = 100 + t) :
    ∃ cell : Cell, H[am_ad s0 ro q]? = some cell ∧ s.isArrayOf cell (am_tys t) ∧ cell.vm ≠ .unknown ∧ (am_sh M q).2 ≤ cell.slots.size ∧ cell.slots.size.toInt32 = Int32.ofNat (am_sh M q).2 ∧ ∀ j : Nat, j < (am_sh M q).2 → cell.slots[j]? = some (am_rd (am_ad s0 ro) M q j (am_tys t)) := by
  have hal := hW.alike
  rcases Nat.lt_or_ge q am_R0 with z | z
  · obtain ⟨e1, e2⟩ := hG.2.2.2.2.1 q z
    have ht0 : t = 0 := by
      rw [e1] at h
      unfold am_roS at h
      split at h
      · have : (100 : Nat) = 100 + t := h
        omega
      · split at h
        · have : (200 : Nat) = 100 + t := h
          omega
        · have : (100 : Nat) = 100 + t := h
          omega
    subst ht0
    have hp : q < 4 ∨ q = 8 := by
      rw [e1] at h
      unfold am_roS at h
      unfold am_R0 at z
      split at h
      · exact Or.inl (by assumption)
      · split at h
        · exact absurd (show (200 : Nat) = 100 + 0 from h) (by decide)
        · exact Or.inr (by omega)
    obtain ⟨cell, q1, q2, q3, q4, q5, q6⟩ := C.2.2.2.1 q hp
    have hlt : ro q < s0.heap.size := (Array.getElem?_eq_some_iff.mp q1).1
    refine ⟨cell, by rw [am_adR z, hG.2.2.1 _ hlt]; exact q1, State.isArrayOf_alike hal q2, q3, by rw [e1]; exact q4, by rw [e1]; exact q5, fun j hj => ?_⟩
    rw [e1] at hj
    rw [q6 j hj, ← e2 j]
    rfl
  · have hn : q < am_nx M := by
      rcases Nat.lt_or_ge q (am_nx M) with y | y
      · exact y
      · have := (hG.2.2.2.2.2 q y).1
        rw [this] at h
        have : (1000 : Nat) = 100 + t := h
        omega
    rcases hG.2.2.2.1 q z hn with y | ⟨y1, y2, y3⟩
    · exact absurd y.1 (by omega)
    · have e : (am_sh M q).1 - 100 = t := by omega
      rw [e] at y3
      obtain ⟨hA, -⟩ := C.2.2.1 t ht
      refine ⟨_, y3, arrOfT_moved hal hA _ _, (fun z => by cases z), by simp [arrV_size], by simp [arrV_size], fun j hj => by rw [arrV_read _ _ hj]⟩
/-- a row that was made -/
theorem am_rowW {D : va_G} {ct : Nat → ClassId} {ro : Nat → Nat} {s0 : State} {L : Nat} {xs : Nat → Int32} {M : am_M} {H : Heap} (hG : am_G D ct ro s0 L xs M H) {q t : Nat} (h0 : am_R0 ≤ q) (ht : t ≤ 6) (h : (am_sh M q).1 = 100 + t) :
    q < am_nx M ∧ H[am_ad s0 ro q]? = some (arrV (ct t) (am_sh M q).2 (fun j => am_rd (am_ad s0 ro) M q j (am_tys t))) := by
  have hn : q < am_nx M := by
    rcases Nat.lt_or_ge q (am_nx M) with y | y
    · exact y
    · have := (hG.2.2.2.2.2 q y).1
      rw [this] at h
      have : (1000 : Nat) = 100 + t := h
      omega
  refine ⟨hn, ?_⟩
  rcases hG.2.2.2.1 q h0 hn with y | ⟨y1, y2, y3⟩
  · exact absurd y.1 (by omega)
  · have e : (am_sh M q).1 - 100 = t := by omega
    rw [e] at y3
    exact y3
theorem am_updV {ad : Nat → Nat} {M : am_M} {q k : Nat} {v : Value} {w : Value} {ty : FieldType} (h : am_rd ad (am_wr M q k v) q k ty = w) : updV (fun j => am_rd ad M q j ty) k w = fun j => am_rd ad (am_wr M q k v) q j ty := by
  funext j
  by_cases e : j = k
  · subst e
    simp [updV, h]
  · simp [updV, e, am_rd_wr ad M q k v (fun z => e z.2)]
theorem am_G_st {D : va_G} {ct : Nat → ClassId} {ro : Nat → Nat} {s0 : State} {L : Nat} {xs : Nat → Int32} {M : am_M} {H H' : Heap} (hG : am_G D ct ro s0 L xs M H) {q k t : Nat} {v w : Value} (h1 : am_R0 ≤ q) (ht : t ≤ 6) (h : (am_sh M q).1 = 100 + t) (hw : am_rd (am_ad s0 ro) (am_wr M q k v) q k (am_tys t) = w)
    (he : H'[am_ad s0 ro q]? = some ((arrV (ct t) (am_sh M q).2 (fun j => am_rd (am_ad s0 ro) M q j (am_tys t))).setSlot k w)) (hz : H'.size = H.size) (ho : ∀ x : Nat, x ≠ am_ad s0 ro q → H'[x]? = H[x]?) : am_G D ct ro s0 L xs (am_wr M q k v) H' := by
  refine am_G_wr hG h1 (am_rowW hG h1 ht h).1 hz ho (Or.inr ?_)
  rw [am_wr_sh, h]
  refine ⟨by omega, by omega, ?_⟩
  rw [he, arrV_store, show 100 + t - 100 = t by omega, am_updV hw]

section AMW
variable {p : Program} {l : Launch} {e : Env} {R : Room} {s : State} {m : MethodId} {args : Array Value} {below : List Frame} {meth : Method} {c : Code} {H : Heap} {locs : List Loc} {cells slots : Nat} {Q : State → Prop}
variable {cc : ByteArray} {pc : Nat} {arr : Array Slot} {rest : List Value} {D : va_G} {ct : Nat → ClassId} {ro : Nat → Nat} {b : Nat} {s0 : State} {L : Nat} {xs : Nat → Int32} {M : am_M} {own : String}
theorem am_layW (C : am_C0 D ct ro b s0 L xs) (hW : s0.WarmedH s.vm) {ci k : Nat} (hci : ci < 8) (hk : k < am_fnum ci) : (u_lay (am_cn ci) (am_fT ci) k).before args s = true :=
  word_at hW (good_of_word (am_goodLay _ _ _)) (C.1 _ (am_lays ci hci k hk))
theorem am_layO (C : am_C0 D ct ro b s0 L xs) (hW : s0.WarmedH s.vm) {ci k : Nat} (hci : ci < 8) (hk : k < am_fnum ci) (args : Array Value) : (Cond.lays (am_cn ci) (am_fT ci k).1 (am_fT ci k).2.1 (am_fT ci k).2.2.1).before args s = true ∨ (Cond.laysFinal (am_cn ci) (am_fT ci k).1 (am_fT ci k).2.1 (am_fT ci k).2.2.1).before args s = true := by
  have h := am_layW (args := args) C hW hci hk
  unfold u_lay at h
  split at h
  · exact Or.inr h
  · exact Or.inl h
theorem am_Wget (hx : p.tables.exec = Jvm.exec) (hb : c.code = cc) (C : am_C0 D ct ro b s0 L xs) (hW : s0.WarmedH s.vm) (hown : s.vm.findClass own = some m.cls) (hG : am_G D ct ro s0 L xs M H) {ci k w q x : Nat} (hci : ci < 8) (hk : k < am_fnum ci) (hw : am_w w (.fieldLink own x (am_fT ci k).1 (am_fT ci k).2.1 (am_fT ci k).2.2.1) = true) (hq : (am_sh M q).1 = ci) (hdg : decode cc pc = .ok (.getfield x, 3))
    (kk : W p l e R s m args below meth c H locs cells slots Q (F0 m (pc + 3) arr (am_rd (am_ad s0 ro) M q k (am_fty ci k) :: rest))) : W p l e R s m args below meth c H locs cells slots Q (F0 m pc arr (.ref (am_ad s0 ro q) :: rest)) := by
  obtain ⟨-, -, cell, q1, q2, q3, q4⟩ := am_obj hG hci hq
  obtain ⟨hS, hfc, kC, hkC, hkind⟩ := u_Kn_moved hW.alike (C.2.1 ci hci)
  obtain ⟨cf, kf, fi, f, hi, hsl⟩ := hS k hk
  refine W.getf hx hb hown (am_word C hW hw rfl args) hi (u_facts hfc hkC (am_layO C hW hci hk args) hi).1 q1 (by rw [q3]; exact fun h => by cases h) (v := am_rd (am_ad s0 ro) M q k (am_fty ci k)) ?_ rfl rfl hdg kk
  rw [hsl, q4 k hk]
theorem am_okN {ty : FieldType} {v : Value} (h : am_okv ty v = true) (ad : Nat → Nat) : narrow ty (am_cv ad v) = am_cv ad v ∧ fits ty (am_cv ad v) = true := by
  cases ty <;> cases v <;> simp_all [am_okv, am_cv, fits, narrow]
  rename_i x
  rcases h with h | h <;> subst h <;> decide
theorem am_Wput (hx : p.tables.exec = Jvm.exec) (hb : c.code = cc) (C : am_C0 D ct ro b s0 L xs) (hW : s0.WarmedH s.vm) (hown : s.vm.findClass own = some m.cls) (hG : am_G D ct ro s0 L xs M H) {ci k w q x : Nat} {v : Value} (hci : ci < 8) (hk : k < am_fnum ci) (hw : am_w w (.fieldLink own x (am_fT ci k).1 (am_fT ci k).2.1 (am_fT ci k).2.2.1) = true) (hq : (am_sh M q).1 = ci) (hv : am_okv (am_fty ci k) v = true)
    (hf : (am_fT ci k).2.2.2 = false ∨ ((am_fT ci k).2.2.2 = true ∧ meth.name = "<init>" ∧ (am_fT ci k).1 = own)) (hdg : decode cc pc = .ok (.putfield x, 3))
    (kk : ∀ (H' : Heap) (i : Nat), am_G D ct ro s0 L xs (am_wr M q k v) H' → W p l e R s m args below meth c H' (locs ++ [⟨am_ad s0 ro q, i⟩]) cells slots Q (F0 m (pc + 3) arr rest)) : W p l e R s m args below meth c H locs cells slots Q (F0 m pc arr (am_cv (am_ad s0 ro) v :: .ref (am_ad s0 ro q) :: rest)) := by
  obtain ⟨p1, p2, cell, q1, q2, q3, q4⟩ := am_obj hG hci hq
  have hKn := u_Kn_moved hW.alike (C.2.1 ci hci)
  obtain ⟨hS, hfc, kC, hkC, hkind⟩ := id hKn
  obtain ⟨cf, kf, fi, f, hi, hsl⟩ := hS k hk
  obtain ⟨hn, hfit⟩ := am_okN hv (am_ad s0 ro)
  have hd := am_ftyE ci hci k hk
  have hap : ∀ a b, a < am_fnum ci → b < am_fnum ci → a ≠ b → (D.2 ci) a ≠ (D.2 ci) b := by
    intro a b ha hb2 hne
    obtain ⟨_, _, _, fa, hia, ea⟩ := hS a ha
    obtain ⟨_, _, _, fb, hib, eb⟩ := hS b hb2
    rw [← ea, ← eb]
    refine u_apart (am_layO C hW hci ha args) (am_layO C hW hci hb2 args) hia hib ?_
    rw [(State.fieldFound?_type hia (am_ftyE ci hci a ha)).1, (State.fieldFound?_type hib (am_ftyE ci hci b hb2)).1]
    exact am_nmE ci hci a ha b hb2 hne
  have hst := (u_facts hfc hkC (am_layO C hW hci hk args) hi).1
  have fin : ∀ H' : Heap, H'[am_ad s0 ro q]? = some (cell.setSlot f.slot (am_cv (am_ad s0 ro) v)) → H'.size = H.size → (∀ x : Nat, x ≠ am_ad s0 ro q → H'[x]? = H[x]?) → am_G D ct ro s0 L xs (am_wr M q k v) H' := by
    intro H' e1 e2 e3
    refine am_G_wr hG p1 p2 e2 e3 (Or.inl ?_)
    rw [am_wr_sh, hq]
    refine ⟨hci, t_OB.to (V := updV (fun j => am_rd (am_ad s0 ro) M q j (am_fty ci j)) k (am_cv (am_ad s0 ro) v)) ⟨_, e1, q2, q3, ?_⟩ (fun j hj => ?_)⟩
    · rw [hsl]
      exact t_set q4 hap hk _
    · by_cases ej : j = k
      · subst ej
        simp [updV, am_rd_self _ _ _ _ hv]
      · simp [updV, ej, am_rd_wr _ M q k v (fun z => ej z.2)]
  have hlay := am_layW (args := args) C hW hci hk
  unfold u_lay at hlay
  rcases hf with hf | ⟨hf, hin, hdecl⟩
  · rw [if_neg (by rw [hf]; decide)] at hlay
    have h6 := u_store hfc hkC hkind hlay hi hd hn hfit
    exact W.putK hx hb (f := f) ⟨hown, am_word C hW hw rfl args, ⟨_, _, _, hi⟩, hst⟩ (by rw [q2]; exact h6) q1 q3 (by rw [hsl]; exact k2_hasslot (q4 k hk)) rfl rfl hdg fun H' e1 e2 e3 => kk H' _ (fin H' e1 e2 e3)
  · rw [if_pos hf] at hlay
    have hcf : m.cls = cf := by
      obtain ⟨_, _, c', _, _, _, -, -, hf', -, -, -, hown2, -⟩ := Cond.laysFinal_spec hlay
      have e1 : c' = cf := by have := hi.symm.trans hf'; simp at this; exact this.1.symm
      rw [hdecl] at hown2
      rw [← e1]; exact Option.some.inj (hown.symm.trans hown2)
    have h6 := u_fits hfc hkC hkind (Or.inr hlay) hi hd hn hfit
    exact W.putFinK hx hb hown (am_word C hW hw rfl args) hi hst hcf hin (by rw [q2]; exact h6) q1 q3 (by rw [hsl]; exact k2_hasslot (q4 k hk)) rfl rfl hdg fun H' e1 e2 e3 => kk H' _ (fin H' e1 e2 e3)
end AMW
