/-! after a condition's first part: what both readings of the rest come to -/
def okRm (f a : Nat) (due : Bool) (r : Bool × Nat × List Nat) : Prop := a ≤ r.2.1 ∧ r.2.1 ≤ f ∧ (r.1 = true → r.2.2.length + 2 * sNt r.2.2 + a ≤ r.2.1 + due.toNat ∧ (∀ x ∈ r.2.2, sTok x) ∧ ∀ tr s v1 v2, ∃ v, sEv tr r.2.2 (if due then v2 :: v1 :: s else v1 :: s) = some (v :: s))
def okCm (L : av_W) (D : Nat) (F : Nat → Nat) (f n a : Nat) (due : Bool) (r : Bool × Nat × List Nat) : Prop := ∀ (N : av_N) (p k : Nat) (l : List Nat) (v : Value), al_ep p → qB N F f → cG N p a l → l.length + due.toNat ≤ a → k + 1 ≤ a → okv v → ∃ N', av_V (av_S0 L) (D + 1) ta_X2_either 9 [.ref 72, .ref p, .int (nI n), .int (nI 1), .int (av_b due), .int (nI k), v] [] N = some (some (.int (av_b r.1)), N') ∧ al_f2 (dP p) N N' ∧ (r.1 = true → cG N' p r.2.1 (l ++ r.2.2.map sCls)) ∧ (r.1 = false → cX N' p r.2.1)
def okMm (L : av_W) (d : Nat) (F : Nat → Nat) (f n a : Nat) (due pa : Bool) (r : Bool × Nat × List Nat) : Prop := ∀ (N : av_N) (c s w : Nat) (v : Value), qM N F f → c < 60 → okv v → mSt N a s (w + due.toNat + pa.toNat) n → w + due.toNat + pa.toNat ≤ a → s + (w + due.toNat + pa.toNat) ≤ 500 + a → (due = true → N.1 158 w = nI 124) → (pa = true → N.1 158 (w + due.toNat) = nI 38) → (w = 0 ∨ N.1 158 (w - 1) = nI 40) →
  (r.1 = false → ∃ M, eV L d c (nI 0) v N = some (some (.int (nI 0)), M) ∧ M.1 142 14 = nI r.2.1 ∧ al_f2 (dE c s w) N M) ∧
  (r.1 = true → ∃ M, (∀ q, mTail L d c (qV F f r.2.1) M = some q → eV L d c (nI 0) v N = some q) ∧ mSt M r.2.1 (s + (qE pa 1 ++ r.2.2).length) w n ∧ tk M s (qE pa 1 ++ r.2.2) ∧ al_f2 (dE c s w) N M)
theorem okv_i (x : Int32) : okv (.int x) := Or.inr ⟨x, rfl⟩
theorem nt_b (b : Bool) : b.toNat ≤ 1 := by cases b <;> decide
theorem st_base {N : av_N} {w : Nat} (h : w = 0 ∨ N.1 158 (w - 1) = nI 40) : w = 0 ∨ ∃ t, N.1 158 (w - 1) = nI t ∧ t < 128 ∧ t ≠ 38 ∧ t ≠ 124 := by
  rcases h with h | h
  · exact Or.inl h
  · exact Or.inr ⟨40, h, by decide, by decide, by decide⟩
theorem sTok_qE {b : Bool} {x y : Nat} (hx : x < 3) (h : y ∈ qE b x) : sTok y := by
  cases b
  · cases h
  · have := List.mem_singleton.mp h
    exact Or.inl (by omega)
theorem sNt_qE (b : Bool) {x : Nat} (hx : x < 3) : sNt (qE b x) = 0 := by
  cases b
  · rfl
  · show (if x < 3 then 0 else 1) + 0 = 0
    rw [if_pos hx]
theorem more_ok (L : av_W) (D d : Nat) {F : Nat → Nat} {f n : Nat} (hF : qF F f) (hn : n ≤ 4) (hFac : ∀ a, a ≤ f → ∃ r, okR f a r ∧ okC L D 28 F f n a r ∧ okFM L d F f n a r) : ∀ (m a : Nat) (due pa : Bool), a ≤ f → f - a ≤ m → ∃ r, okRm f a due r ∧ okCm L D F f n a due r ∧ okMm L d F f n a due pa r := by
  have h100 := hF.1
  intro m
  induction m with
  | zero =>
    intro a due pa ha hm
    have hg : ¬ a < f := by omega
    have h0 : qG F f a = 0 := if_neg hg
    exact ⟨(true, a, qE due 2), ⟨Nat.le_refl _, ha, fun _ => ⟨by show (qE due 2).length + 2 * sNt (qE due 2) + a ≤ a + due.toNat; rw [sNt_qE due (by decide), qE_len]; omega, fun x hx => sTok_qE (by decide) hx, fun tr s v1 v2 => by
      cases due
      · exact ⟨v1, rfl⟩
      · exact ⟨v1 || v2, rfl⟩⟩⟩, fun N p k l v he hB hG hl hk hv => by
      obtain ⟨N', c1, c2, c3⟩ := eh_stop L D (n := n) (k := k) due hF he hB hG ha hl (by omega) hv (by omega) (by omega)
      exact ⟨N', c1, c3, fun _ => c2, fun z => (by cases z)⟩, fun N c s w v hB hc hv hS hw hs hd hp hb => ⟨fun z => (by cases z), fun _ => by
      obtain ⟨t1, t2, t3, t4⟩ := hS
      obtain ⟨M, m1, m2, m3, m4, m5, m6⟩ := sp_settle124 L (d + 2) (due := due) (pa := pa) t2 t3 t4 (by omega) (by omega) hd hp (st_base hb)
      exact ⟨M, fun q hq => eV_end L d hF hc hB t1 ha hv (by omega) (by omega) m1 hq, ⟨((m6 _ _ (by unfold dW; omega)).1).trans t1, m2, m3, m4⟩, m5, al_f2_mono m6 dW_E⟩⟩⟩
  | succ m ih =>
    intro a due pa ha hm
    by_cases g38 : qG F f a = 38
    · have hlt := qG_in (F := F) (f := f) (a := a) (by omega)
      obtain ⟨r1, k1, C1, M1⟩ := hFac (a + 1) (by omega)
      obtain ⟨x1, x2, x3⟩ := k1
      cases hr1 : r1.1
      · -- the next part fails
        refine ⟨(false, r1.2.1, []), ⟨by show a ≤ r1.2.1; omega, x2, fun z => (by cases z)⟩, ?_, ?_⟩
        · intro N p k l v he hB hG hl hk hv
          have f0 : al_f2 dS N (av_w N 72 2 (nI (a + 1))) := al_f2_w N ⟨rfl, rfl⟩ _
          obtain ⟨N1, c1, c2, c3, c4⟩ := C1 (av_w N 72 2 (nI (a + 1))) p l he (qB_S hB f0) (cG_S he hG f0 (av_w_s _ _ _ _)) (by omega)
          obtain ⟨N2, e1, e2, e3⟩ := cX_put L D he (c4 hr1) (nI 1) (nI 0)
          obtain ⟨N3, e4, e5, e6⟩ := eh_fail L D (n := n) (k := k + 1) (v := .int (nI 1)) due he e2 (by omega) (okv_i _)
          rw [hr1] at c1
          exact ⟨N3, eh_and L D hF hB hG.1 ha (by omega) hv g38 (eh_44and L D false due he c1 e1 e4), al_f2_tr (al_f2_mono f0 dS_P) (al_f2_tr c2 (al_f2_tr (al_f2_mono e3 dU_P) e6)), fun z => (by cases z), fun _ => e5⟩
        · intro N c s w v hB hc hv hS hw hs hd hp hb
          obtain ⟨t1, t2, t3, t4⟩ := hS
          refine ⟨fun _ => ?_, fun z => (by cases z)⟩
          obtain ⟨M, m1, m2, m3, m4, m5, m6⟩ := sp_settle38 L (d + 2) (due := due) (pa := pa) t2 t3 t4 (by omega) (by omega) hd hp (st_base hb)
          have q14 : M.1 142 14 = nI a := ((m6 _ _ (by unfold dW; omega)).1).trans t1
          have f1 : al_f2 (dE c s w) N (av_w (av_w (av_w M 158 (w + due.toNat) (nI 38)) 142 25 (nI (w + due.toNat + 1))) 142 14 (nI (a + 1))) := al_f2_tr (al_f2_mono m6 dW_E) (al_f2_tr (al_f2_w (D := dE c s w) M (by unfold dE; omega) _) (al_f2_tr (al_f2_w (D := dE c s w) _ (by unfold dE; omega) _) (al_f2_w (D := dE c s w) _ (by unfold dE; omega) _)))
          have lp := qE_len pa 1
          have b1 := nt_b due
          have b2 := nt_b pa
          obtain ⟨A1, A2⟩ := M1 (av_w (av_w (av_w M 158 (w + due.toNat) (nI 38)) 142 25 (nI (w + due.toNat + 1))) 142 14 (nI (a + 1))) c (s + (qE pa 1).length) (w + due.toNat + 1) 0 (.int (nI 38)) (qM_E hB f1) hc (okv_i _) ⟨av_w_s _ _ _ _, by simp (disch := decide) only [av_w_k, av_w_o]; exact m2, by simp (disch := decide) only [av_w_k, av_w_s], by simp (disch := decide) only [av_w_k, av_w_o]; exact m4⟩ (Nat.zero_le _) (by omega) (by omega) (fun i hi => absurd hi (Nat.not_lt_zero _)) (Or.inr ⟨38, by simp (disch := decide) only [av_w_o]; exact av_w_s _ _ _ _, by decide, by decide⟩)
          obtain ⟨M2, z1, z2, z3⟩ := A1 hr1
          exact ⟨M2, eV_op L d hF hc hB t1 ha hv g38 (Or.inl rfl) m1 q14 m3 (by omega) z1, z2, al_f2_tr f1 (al_f2_mono z3 (dE_le (by omega) (by omega)))⟩
      · -- it is read, and more follows
        obtain ⟨y1, y2, y3, y4⟩ := x3 hr1
        obtain ⟨r2, k2, C2, M2⟩ := ih r1.2.1 due true x2 (by omega)
        obtain ⟨u1, u2, u3⟩ := k2
        refine ⟨(r2.1, r2.2.1, r1.2.2 ++ ([1] ++ r2.2.2)), ⟨by show a ≤ r2.2.1; omega, u2, fun z => ?_⟩, ?_, ?_⟩
        · obtain ⟨u4, u5, u6⟩ := u3 z
          refine ⟨?_, fun x hx => ?_, fun tr s v1 v2 => ?_⟩
          · show (r1.2.2 ++ ([1] ++ r2.2.2)).length + 2 * sNt (r1.2.2 ++ ([1] ++ r2.2.2)) + a ≤ r2.2.1 + due.toNat
            rw [sNt_app, sNt_app, List.length_append, List.length_append, show [1].length = 1 from rfl, show sNt [1] = 0 from rfl]
            omega
          · rcases List.mem_append.mp hx with hx | hx
            · exact y3 x hx
            · rcases List.mem_append.mp hx with hx | hx
              · have := List.mem_singleton.mp hx
                exact Or.inl (by omega)
              · exact u5 x hx
          · cases due
            · obtain ⟨v, hv⟩ := y4 tr (v1 :: s)
              obtain ⟨v', hv'⟩ := u6 tr s (v1 && v) v2
              refine ⟨v', ?_⟩
              show sEv tr (r1.2.2 ++ ([1] ++ r2.2.2)) (v1 :: s) = _
              rw [sEv_app _ _ _ _ hv]
              exact hv'
            · obtain ⟨v, hv⟩ := y4 tr (v2 :: v1 :: s)
              obtain ⟨v', hv'⟩ := u6 tr s v1 (v2 && v)
              refine ⟨v', ?_⟩
              show sEv tr (r1.2.2 ++ ([1] ++ r2.2.2)) (v2 :: v1 :: s) = _
              rw [sEv_app _ _ _ _ hv]
              exact hv'
        · intro N p k l v he hB hG hl hk hv
          have f0 : al_f2 dS N (av_w N 72 2 (nI (a + 1))) := al_f2_w N ⟨rfl, rfl⟩ _
          obtain ⟨N1, c1, c2, c3, c4⟩ := C1 (av_w N 72 2 (nI (a + 1))) p l he (qB_S hB f0) (cG_S he hG f0 (av_w_s _ _ _ _)) (by omega)
          have c3 := c3 hr1
          obtain ⟨N2, e1, e2, e3⟩ := cG_put L D he c3 (by rw [List.length_append, List.length_map]; omega) (x1 := nI 1) (sp_step (k := 1) (o := 0) (by decide))
          have fr := al_f2_tr (al_f2_mono f0 dS_P) (al_f2_tr c2 (al_f2_mono e3 dU_P))
          obtain ⟨N3, e4, e5, e6, e7⟩ := C2 N2 p (k + 1) _ (.int (nI 1)) he (dP_B he hB fr) e2 (by rw [List.length_append, List.length_append, List.length_map]; show l.length + r1.2.2.length + 1 + _ ≤ _; omega) (by omega) (okv_i _)
          rw [hr1] at c1
          refine ⟨N3, eh_and L D hF hB hG.1 ha (by omega) hv g38 (eh_44and L D true due he c1 e1 e4), al_f2_tr fr e5, fun z => ?_, e7⟩
          have := e6 z
          rw [show (l ++ r1.2.2.map sCls ++ [1 + 8 * 0]) ++ r2.2.2.map sCls = l ++ (r1.2.2 ++ ([1] ++ r2.2.2)).map sCls from by rw [List.map_append, List.map_append, List.append_assoc, List.append_assoc]; rfl] at this
          exact this
        · intro N c s w v hB hc hv hS hw hs hd hp hb
          obtain ⟨t1, t2, t3, t4⟩ := hS
          obtain ⟨M, m1, m2, m3, m4, m5, m6⟩ := sp_settle38 L (d + 2) (due := due) (pa := pa) t2 t3 t4 (by omega) (by omega) hd hp (st_base hb)
          have q14 : M.1 142 14 = nI a := ((m6 _ _ (by unfold dW; omega)).1).trans t1
          have f1 : al_f2 (dE c s w) N (av_w (av_w (av_w M 158 (w + due.toNat) (nI 38)) 142 25 (nI (w + due.toNat + 1))) 142 14 (nI (a + 1))) := al_f2_tr (al_f2_mono m6 dW_E) (al_f2_tr (al_f2_w (D := dE c s w) M (by unfold dE; omega) _) (al_f2_tr (al_f2_w (D := dE c s w) _ (by unfold dE; omega) _) (al_f2_w (D := dE c s w) _ (by unfold dE; omega) _)))
          have lp := qE_len pa 1
          have b1 := nt_b due
          have b2 := nt_b pa
          have f2 : al_f2 (dE c s (w + due.toNat)) N (av_w (av_w (av_w M 158 (w + due.toNat) (nI 38)) 142 25 (nI (w + due.toNat + 1))) 142 14 (nI (a + 1))) := al_f2_tr (al_f2_mono m6 dW_E) (al_f2_tr (al_f2_w (D := dE c s (w + due.toNat)) M (by unfold dE; omega) _) (al_f2_tr (al_f2_w (D := dE c s (w + due.toNat)) _ (by unfold dE; omega) _) (al_f2_w (D := dE c s (w + due.toNat)) _ (by unfold dE; omega) _)))
          obtain ⟨A1, A2⟩ := M1 (av_w (av_w (av_w M 158 (w + due.toNat) (nI 38)) 142 25 (nI (w + due.toNat + 1))) 142 14 (nI (a + 1))) c (s + (qE pa 1).length) (w + due.toNat + 1) 0 (.int (nI 38)) (qM_E hB f1) hc (okv_i _) ⟨av_w_s _ _ _ _, by simp (disch := decide) only [av_w_k, av_w_o]; exact m2, by simp (disch := decide) only [av_w_k, av_w_s], by simp (disch := decide) only [av_w_k, av_w_o]; exact m4⟩ (Nat.zero_le _) (by omega) (by omega) (fun i hi => absurd hi (Nat.not_lt_zero _)) (Or.inr ⟨38, by simp (disch := decide) only [av_w_o]; exact av_w_s _ _ _ _, by decide, by decide⟩)
          have t38 : (av_w (av_w (av_w M 158 (w + due.toNat) (nI 38)) 142 25 (nI (w + due.toNat + 1))) 142 14 (nI (a + 1))).1 158 (w + due.toNat) = nI 38 := by
            simp (disch := decide) only [av_w_o]
            exact av_w_s _ _ _ _
          have t157 : ∀ k, (av_w (av_w (av_w M 158 (w + due.toNat) (nI 38)) 142 25 (nI (w + due.toNat + 1))) 142 14 (nI (a + 1))).1 157 k = M.1 157 k := fun k => by
            simp (disch := decide) only [av_w_o]
          have pre0 : ∀ q, eV L d c (nI 1) (.int (nI 38)) (av_w (av_w (av_w M 158 (w + due.toNat) (nI 38)) 142 25 (nI (w + due.toNat + 1))) 142 14 (nI (a + 1))) = some q → eV L d c (nI 0) v N = some q := fun q hq => eV_op L d hF hc hB t1 ha hv g38 (Or.inl rfl) m1 q14 m3 (by omega) hq
          generalize av_w (av_w (av_w M 158 (w + due.toNat) (nI 38)) 142 25 (nI (w + due.toNat + 1))) 142 14 (nI (a + 1)) = Q at *
          obtain ⟨M2', z, z1, ⟨z2, z3, z4, z5⟩, z6, z7⟩ := A2 hr1
          rw [show List.replicate 0 0 = ([] : List Nat) from rfl, List.append_nil] at z3 z6
          have f3 := al_f2_tr f1 (al_f2_mono z7 (dE_le (by omega) (by omega)))
          obtain ⟨B1, B2⟩ := M2 M2' c (s + (qE pa 1).length + r1.2.2.length) w (.int z) (qM_E hB f3) hc (okv_i _) ⟨z2, z3, z4, z5⟩ (by show w + due.toNat + 1 ≤ _; omega) (by show _ + (w + due.toNat + 1) ≤ _; omega) (fun hdu => by
            rw [(z7 158 w (by have := congrArg Bool.toNat hdu; have e : true.toNat = 1 := rfl; unfold dE; omega)).1, (f2 158 w (by have := congrArg Bool.toNat hdu; have e : true.toNat = 1 := rfl; unfold dE; omega)).1]
            exact hd hdu) (fun _ => by
            rw [(z7 158 _ (by unfold dE; omega)).1]
            exact t38) (by
            rcases hb with hb | hb
            · exact Or.inl hb
            · by_cases w0 : w = 0
              · exact Or.inl w0
              · refine Or.inr ?_
                rw [(f3 158 _ (by unfold dE; omega)).1]
                exact hb)
          have pre : ∀ q, eV L d c (nI 0) (.int z) M2' = some q → eV L d c (nI 0) v N = some q := fun q hq => pre0 q (z1 q hq)
          refine ⟨fun hz => ?_, fun hz => ?_⟩
          · obtain ⟨M3, w1, w2, w3⟩ := B1 hz
            exact ⟨M3, pre _ w1, w2, al_f2_tr f3 (al_f2_mono w3 (dE_le (by omega) (by omega)))⟩
          · obtain ⟨M3, w1, ⟨w2, w3, w4, w5⟩, w6, w7⟩ := B2 hz
            refine ⟨M3, fun q hq => pre q (w1 q hq), ⟨w2, ?_, w4, w5⟩, ?_, al_f2_tr f3 (al_f2_mono w7 (dE_le (by omega) (by omega)))⟩
            · rw [w3, List.length_append, List.length_append, List.length_append, List.length_append]
              congr 1
              show s + (qE pa 1).length + r1.2.2.length + (1 + r2.2.2.length) = s + ((qE pa 1).length + (r1.2.2.length + (1 + r2.2.2.length)))
              omega
            · refine tk_app (M1 := M) m5 (tk_app (M1 := M2') z6 w6 (fun k hk => (w7 _ _ (by unfold dE; omega)).1)) (fun k hk => ?_)
              rw [(w7 _ _ (by unfold dE; omega)).1, (z7 _ _ (by unfold dE; omega)).1, t157]
    · by_cases g124 : qG F f a = 124
      · have hlt := qG_in (F := F) (f := f) (a := a) (by omega)
        obtain ⟨r1, k1, C1, M1⟩ := hFac (a + 1) (by omega)
        obtain ⟨x1, x2, x3⟩ := k1
        cases hr1 : r1.1
        · -- the next part fails
          refine ⟨(false, r1.2.1, []), ⟨by show a ≤ r1.2.1; omega, x2, fun z => (by cases z)⟩, ?_, ?_⟩
          · intro N p k l v he hB hG hl hk hv
            obtain ⟨N0, o1, o2, o3⟩ := eh_or L D (n := n) (k := k) due hF he hB hG ha hl (by omega) hv g124
            have lq := qE_len due 2
            obtain ⟨N1, c1, c2, c3, c4⟩ := C1 N0 p _ he (dP_B he hB o2) o1 (by rw [List.length_append, List.length_map]; omega)
            obtain ⟨N3, e4, e5, e6⟩ := eh_fail L D (n := n) (k := k + 1) (v := .int (nI 0)) true he (c4 hr1) (by omega) (okv_i _)
            rw [hr1] at c1
            exact ⟨N3, o3 _ (eh_44or L D false due c1 e4), al_f2_tr o2 (al_f2_tr c2 e6), fun z => (by cases z), fun _ => e5⟩
          · intro N c s w v hB hc hv hS hw hs hd hp hb
            obtain ⟨t1, t2, t3, t4⟩ := hS
            refine ⟨fun _ => ?_, fun z => (by cases z)⟩
            obtain ⟨M, m1, m2, m3, m4, m5, m6⟩ := sp_settle124 L (d + 2) (due := due) (pa := pa) t2 t3 t4 (by omega) (by omega) hd hp (st_base hb)
            have q14 : M.1 142 14 = nI a := ((m6 _ _ (by unfold dW; omega)).1).trans t1
            have f1 : al_f2 (dE c s w) N (av_w (av_w (av_w M 158 w (nI 124)) 142 25 (nI (w + 1))) 142 14 (nI (a + 1))) := al_f2_tr (al_f2_mono m6 dW_E) (al_f2_tr (al_f2_w (D := dE c s w) M (by unfold dE; omega) _) (al_f2_tr (al_f2_w (D := dE c s w) _ (by unfold dE; omega) _) (al_f2_w (D := dE c s w) _ (by unfold dE; omega) _)))
            have lp := qE_len pa 1
            have lq := qE_len due 2
            have lpq : (qE pa 1 ++ qE due 2).length = (qE pa 1).length + (qE due 2).length := List.length_append
            have b1 := nt_b due
            have b2 := nt_b pa
            obtain ⟨A1, A2⟩ := M1 (av_w (av_w (av_w M 158 w (nI 124)) 142 25 (nI (w + 1))) 142 14 (nI (a + 1))) c (s + (qE pa 1 ++ qE due 2).length) (w + 1) 0 (.int (nI 124)) (qM_E hB f1) hc (okv_i _) ⟨av_w_s _ _ _ _, by simp (disch := decide) only [av_w_k, av_w_o]; exact m2, by simp (disch := decide) only [av_w_k, av_w_s], by simp (disch := decide) only [av_w_k, av_w_o]; exact m4⟩ (Nat.zero_le _) (by omega) (by omega) (fun i hi => absurd hi (Nat.not_lt_zero _)) (Or.inr ⟨124, by simp (disch := decide) only [av_w_o]; exact av_w_s _ _ _ _, by decide, by decide⟩)
            obtain ⟨M2, z1, z2, z3⟩ := A1 hr1
            exact ⟨M2, eV_op L d hF hc hB t1 ha hv g124 (Or.inr rfl) m1 q14 m3 (by omega) z1, z2, al_f2_tr f1 (al_f2_mono z3 (dE_le (by omega) (by omega)))⟩
        · -- it is read, and more follows
          obtain ⟨y1, y2, y3, y4⟩ := x3 hr1
          obtain ⟨r2, k2, C2, M2⟩ := ih r1.2.1 true false x2 (by omega)
          obtain ⟨u1, u2, u3⟩ := k2
          refine ⟨(r2.1, r2.2.1, qE due 2 ++ (r1.2.2 ++ r2.2.2)), ⟨by show a ≤ r2.2.1; omega, u2, fun z => ?_⟩, ?_, ?_⟩
          · obtain ⟨u4, u5, u6⟩ := u3 z
            refine ⟨?_, fun x hx => ?_, fun tr s v1 v2 => ?_⟩
            · show (qE due 2 ++ (r1.2.2 ++ r2.2.2)).length + 2 * sNt (qE due 2 ++ (r1.2.2 ++ r2.2.2)) + a ≤ r2.2.1 + due.toNat
              have lq := qE_len due 2
              rw [sNt_app, sNt_app, List.length_append, List.length_append, sNt_qE due (by decide)]
              have : true.toNat = 1 := rfl
              omega
            · rcases List.mem_append.mp hx with hx | hx
              · exact sTok_qE (by decide) hx
              · rcases List.mem_append.mp hx with hx | hx
                · exact y3 x hx
                · exact u5 x hx
            · cases due
              · obtain ⟨v, hv⟩ := y4 tr (v1 :: s)
                obtain ⟨v', hv'⟩ := u6 tr s v1 v
                refine ⟨v', ?_⟩
                show sEv tr (r1.2.2 ++ r2.2.2) (v1 :: s) = _
                rw [sEv_app _ _ _ _ hv]
                exact hv'
              · obtain ⟨v, hv⟩ := y4 tr ((v1 || v2) :: s)
                obtain ⟨v', hv'⟩ := u6 tr s (v1 || v2) v
                refine ⟨v', ?_⟩
                show sEv tr (r1.2.2 ++ r2.2.2) ((v1 || v2) :: s) = _
                rw [sEv_app _ _ _ _ hv]
                exact hv'
          · intro N p k l v he hB hG hl hk hv
            obtain ⟨N0, o1, o2, o3⟩ := eh_or L D (n := n) (k := k) due hF he hB hG ha hl (by omega) hv g124
            have lq := qE_len due 2
            obtain ⟨N1, c1, c2, c3, c4⟩ := C1 N0 p _ he (dP_B he hB o2) o1 (by rw [List.length_append, List.length_map]; omega)
            have c3 := c3 hr1
            have fr := al_f2_tr o2 c2
            obtain ⟨N3, e4, e5, e6, e7⟩ := C2 N1 p (k + 1) _ (.int (nI 0)) he (dP_B he hB fr) c3 (by rw [List.length_append, List.length_append, List.length_map, List.length_map]; show _ + 1 ≤ _; omega) (by omega) (okv_i _)
            rw [hr1] at c1
            refine ⟨N3, o3 _ (eh_44or L D true due c1 e4), al_f2_tr fr e5, fun z => ?_, e7⟩
            have := e6 z
            rw [show (l ++ (qE due 2).map sCls ++ r1.2.2.map sCls) ++ r2.2.2.map sCls = l ++ (qE due 2 ++ (r1.2.2 ++ r2.2.2)).map sCls from by rw [List.map_append, List.map_append, List.append_assoc, List.append_assoc]] at this
            exact this
          · intro N c s w v hB hc hv hS hw hs hd hp hb
            obtain ⟨t1, t2, t3, t4⟩ := hS
            obtain ⟨M, m1, m2, m3, m4, m5, m6⟩ := sp_settle124 L (d + 2) (due := due) (pa := pa) t2 t3 t4 (by omega) (by omega) hd hp (st_base hb)
            have q14 : M.1 142 14 = nI a := ((m6 _ _ (by unfold dW; omega)).1).trans t1
            have f1 : al_f2 (dE c s w) N (av_w (av_w (av_w M 158 w (nI 124)) 142 25 (nI (w + 1))) 142 14 (nI (a + 1))) := al_f2_tr (al_f2_mono m6 dW_E) (al_f2_tr (al_f2_w (D := dE c s w) M (by unfold dE; omega) _) (al_f2_tr (al_f2_w (D := dE c s w) _ (by unfold dE; omega) _) (al_f2_w (D := dE c s w) _ (by unfold dE; omega) _)))
            have lp := qE_len pa 1
            have lq := qE_len due 2
            have lpq : (qE pa 1 ++ qE due 2).length = (qE pa 1).length + (qE due 2).length := List.length_append
            have b1 := nt_b due
            have b2 := nt_b pa
            obtain ⟨A1, A2⟩ := M1 (av_w (av_w (av_w M 158 w (nI 124)) 142 25 (nI (w + 1))) 142 14 (nI (a + 1))) c (s + (qE pa 1 ++ qE due 2).length) (w + 1) 0 (.int (nI 124)) (qM_E hB f1) hc (okv_i _) ⟨av_w_s _ _ _ _, by simp (disch := decide) only [av_w_k, av_w_o]; exact m2, by simp (disch := decide) only [av_w_k, av_w_s], by simp (disch := decide) only [av_w_k, av_w_o]; exact m4⟩ (Nat.zero_le _) (by omega) (by omega) (fun i hi => absurd hi (Nat.not_lt_zero _)) (Or.inr ⟨124, by simp (disch := decide) only [av_w_o]; exact av_w_s _ _ _ _, by decide, by decide⟩)
            have t38 : (av_w (av_w (av_w M 158 w (nI 124)) 142 25 (nI (w + 1))) 142 14 (nI (a + 1))).1 158 w = nI 124 := by
              simp (disch := decide) only [av_w_o]
              exact av_w_s _ _ _ _
            have t157 : ∀ k, (av_w (av_w (av_w M 158 w (nI 124)) 142 25 (nI (w + 1))) 142 14 (nI (a + 1))).1 157 k = M.1 157 k := fun k => by
              simp (disch := decide) only [av_w_o]
            have pre0 : ∀ q, eV L d c (nI 1) (.int (nI 124)) (av_w (av_w (av_w M 158 w (nI 124)) 142 25 (nI (w + 1))) 142 14 (nI (a + 1))) = some q → eV L d c (nI 0) v N = some q := fun q hq => eV_op L d hF hc hB t1 ha hv g124 (Or.inr rfl) m1 q14 m3 (by omega) hq
            generalize av_w (av_w (av_w M 158 w (nI 124)) 142 25 (nI (w + 1))) 142 14 (nI (a + 1)) = Q at *
            obtain ⟨M2', z, z1, ⟨z2, z3, z4, z5⟩, z6, z7⟩ := A2 hr1
            rw [show List.replicate 0 0 = ([] : List Nat) from rfl, List.append_nil] at z3 z6
            have f3 := al_f2_tr f1 (al_f2_mono z7 (dE_le (by omega) (by omega)))
            obtain ⟨B1, B2⟩ := M2 M2' c (s + (qE pa 1 ++ qE due 2).length + r1.2.2.length) w (.int z) (qM_E hB f3) hc (okv_i _) ⟨z2, z3, z4, z5⟩ (by show w + 1 + 0 ≤ _; omega) (by show _ + (w + 1 + 0) ≤ _; omega) (fun _ => by
              rw [(z7 158 _ (by unfold dE; omega)).1]
              exact t38) (fun z => by cases z) (by
              rcases hb with hb | hb
              · exact Or.inl hb
              · by_cases w0 : w = 0
                · exact Or.inl w0
                · refine Or.inr ?_
                  rw [(f3 158 _ (by unfold dE; omega)).1]
                  exact hb)
            have pre : ∀ q, eV L d c (nI 0) (.int z) M2' = some q → eV L d c (nI 0) v N = some q := fun q hq => pre0 q (z1 q hq)
            refine ⟨fun hz => ?_, fun hz => ?_⟩
            · obtain ⟨M3, w1, w2, w3⟩ := B1 hz
              exact ⟨M3, pre _ w1, w2, al_f2_tr f3 (al_f2_mono w3 (dE_le (by omega) (by omega)))⟩
            · obtain ⟨M3, w1, ⟨w2, w3, w4, w5⟩, w6, w7⟩ := B2 hz
              refine ⟨M3, fun q hq => pre q (w1 q hq), ⟨w2, ?_, w4, w5⟩, ?_, al_f2_tr f3 (al_f2_mono w7 (dE_le (by omega) (by omega)))⟩
              · rw [w3, List.length_append, List.length_append, List.length_append, List.length_append, List.length_append]
                congr 1
                show s + ((qE pa 1).length + (qE due 2).length) + r1.2.2.length + (0 + r2.2.2.length) = s + ((qE pa 1).length + ((qE due 2).length + (r1.2.2.length + r2.2.2.length)))
                omega
              · have tt := tk_app (M1 := M) m5 (tk_app (M1 := M2') z6 w6 (fun k hk => (w7 _ _ (by unfold dE; omega)).1)) (fun k hk => by
                  rw [(w7 _ _ (by unfold dE; omega)).1, (z7 _ _ (by unfold dE; omega)).1, t157])
                rw [List.append_assoc] at tt
                exact tt
      · exact ⟨(true, a, qE due 2), ⟨Nat.le_refl _, ha, fun _ => ⟨by show (qE due 2).length + 2 * sNt (qE due 2) + a ≤ a + due.toNat; rw [sNt_qE due (by decide), qE_len]; omega, fun x hx => sTok_qE (by decide) hx, fun tr s v1 v2 => by
        cases due
        · exact ⟨v1, rfl⟩
        · exact ⟨v1 || v2, rfl⟩⟩⟩, fun N p k l v he hB hG hl hk hv => by
        obtain ⟨N', c1, c2, c3⟩ := eh_stop L D (n := n) (k := k) due hF he hB hG ha hl (by omega) hv g38 g124
        exact ⟨N', c1, c3, fun _ => c2, fun z => (by cases z)⟩, fun N c s w v hB hc hv hS hw hs hd hp hb => ⟨fun z => (by cases z), fun _ => by
        obtain ⟨t1, t2, t3, t4⟩ := hS
        obtain ⟨M, m1, m2, m3, m4, m5, m6⟩ := sp_settle124 L (d + 2) (due := due) (pa := pa) t2 t3 t4 (by omega) (by omega) hd hp (st_base hb)
        exact ⟨M, fun q hq => eV_end L d hF hc hB t1 ha hv g38 g124 m1 hq, ⟨((m6 _ _ (by unfold dW; omega)).1).trans t1, m2, m3, m4⟩, m5, al_f2_mono m6 dW_E⟩⟩⟩
