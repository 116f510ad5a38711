/-! BEST: the reference's answer -/
theorem QR.r20 {v t : Mm} {g : Nat → Int32} (h : QR v t) : QR v (sR t 9 0 20 g) := h.tr ⟨fun r _ _ h _ => sR_off (by omega), rfl, fun _ _ _ => rfl⟩
theorem QR.r30 {v t : Mm} {g : Nat → Int32} (h : QR v t) : QR v (sR t 9 0 30 g) := h.tr ⟨fun r _ _ _ h => sR_off (by omega), rfl, fun _ _ _ => rfl⟩
theorem QR.r19 {v t : Mm} {f f2 : Nat → Int32} (h : QR v t) (h19 : v.1 9 0 0 19 = 0) : QR v (sI (sR (sI (sR t 9 0 5 f) 9 0 0 19 1) 9 0 5 f2) 9 0 0 19 0) := by
  obtain ⟨a, b, c⟩ := h
  refine ⟨fun r h0 h5 h20 h30 => ?_, b, fun j h18 h29 => ?_⟩
  · rw [sI_off (by omega), sR_off (by omega), sI_off (by omega), sR_off (by omega)]
    exact a r h0 h5 h20 h30
  · rw [sI_at]
    by_cases e : j = 19
    · rw [e, upd_at, h19]
    · rw [upd_off e, sR_off (by omega), sI_at, upd_off e, sR_off (by omega)]
      exact c j h18 h29
theorem QR.rr {v t : Mm} {s : Sx} (h : QR v t) (hR : RR (v.1 9 0 0 0) (v.1 9 0 0 1) (v.1 9 0 2) (v.1 9 0 3) (v.1 9 0 4) s) : RR (t.1 9 0 0 0) (t.1 9 0 0 1) (t.1 9 0 2) (t.1 9 0 3) (t.1 9 0 4) s := by
  obtain ⟨a, b, c⟩ := h
  rw [c 0 (by omega) (by omega), c 1 (by omega) (by omega), a 2 (by omega) (by omega) (by omega) (by omega), a 3 (by omega) (by omega) (by omega) (by omega), a 4 (by omega) (by omega) (by omega) (by omega)]
  exact hR
theorem cdN_5 {s : Sx} (hs : wfS s) : cdN s (s 0 1) ≤ 32768 := by
  have h1 := cdN_le hs.1 (s 0 1)
  have h2 : 8 ^ s 0 1 ≤ 8 ^ 5 := Nat.pow_le_pow_right (by decide) hs.2.1
  omega
def BI (v : Mm) (s : Sx) (M : Nat) (a0 : Int32) (k : Nat) (y : Int32 × Int32 × Int32 × Int32 × Int32 × Mm) : Prop := ∃ (t1 : Mm) (bst any : Int32), y = (a0, nI (cdN s (s 0 1)), bst, any, nI k, t1) ∧ QR v t1 ∧ t1.1 9 0 0 29 = nI M ∧ ((any = 0 ∧ bst = -4 ∧ ∀ j, j < k → ¬ Vt s (toldN s j)) ∨ (any = 1 ∧ ∃ j0, j0 < k ∧ Vt s (toldN s j0) ∧ bst = aI (lastV s (toldN s j0)) ∧ (∀ c, c < s 0 1 → t1.1 9 0 30 c = qI (s 0 0) (toldN s j0 c)) ∧ ∀ j, j < k → Vt s (toldN s j) → lxl (lastV s (toldN s j0), j0) (lastV s (toldN s j), j)))
theorem p_best73 {N M : Nat} {v : Mm} {s : Sx} {a0 : Int32} {r : (Nat → Nat) → Int32} (hN : 40000 ≤ N) (hs : wfS s) (hH : s 0 3 ≤ 9999) (hR : RR (v.1 9 0 0 0) (v.1 9 0 0 1) (v.1 9 0 2) (v.1 9 0 3) (v.1 9 0 4) s) (h17 : v.1 9 0 0 17 = -4) (h19 : v.1 9 0 0 19 = 0) (hM : M < 32 ∧ ∀ c, c < 5 → (M / 2 ^ c % 2 = 1 ↔ mem s c)) (hr : ∀ (t1 : Mm) (f : Nat → Nat), (∀ c, c < s 0 1 → t1.1 9 0 30 c = qI (s 0 0) (f c)) → (if 0 ≤ a0 then (if o_inb a0 5 = true then some (t1.1 9 0 30 (a0.toNatClampNeg), t1) else none) else some (aI (lastV s f), t1)) = some (r f, t1)) : ∃ (t' : Mm) (f : Nat → Nat), f_X8_best_73 N a0 (nI (cdN s (s 0 1))) (-4) 0 0 (sI v 9 0 0 29 (nI M)) = some (r f, t') ∧ QR v t' ∧ Vt s f ∧ ∀ f', Vt s f' → lxl (lastV s f, cdF s f (s 0 1)) (lastV s f', cdF s f' (s 0 1)) := by
  have h5 := hs.2.1
  have h8 := hs.1
  have hc5 := cdN_5 hs
  have q0 : QR v (sI v 9 0 0 29 (nI M)) := ⟨fun r h0 _ _ _ => sI_off (by omega), rfl, fun j _ h => by rw [sI_at, upd_off h]⟩
  refine lp_up (body := fun k x => b_X8_best_73 N k x.1 x.2.1 x.2.2.1 x.2.2.2.1 x.2.2.2.2.1 x.2.2.2.2.2) (fun o => ∃ (t' : Mm) (f : Nat → Nat), o = some (r f, t') ∧ QR v t' ∧ Vt s f ∧ ∀ f', Vt s f' → lxl (lastV s f, cdF s f (s 0 1)) (lastV s f', cdF s f' (s 0 1))) (BI v s M a0) (cdN s (s 0 1)) (fun K y hy => ?_) (fun K k y hk hy => ?_) N 0 (a0, nI (cdN s (s 0 1)), -4, 0, 0, sI v 9 0 0 29 (nI M)) (by omega) (by omega) ⟨_, -4, 0, rfl, q0, rfl, Or.inl ⟨rfl, rfl, fun j hj => absurd hj (Nat.not_lt_zero j)⟩⟩
  · obtain ⟨t1, bst, any, rfl, a1, a2, a3⟩ := hy
    rcases a3 with ⟨-, -, a3⟩ | ⟨rfl, j0, b1, b2, rfl, b4, b5⟩
    · exfalso
      obtain ⟨f0, hf0⟩ := Vt_ex (s := s) h5
      refine a3 _ (cdF_lt hf0 (s 0 1)) ?_
      rw [told_cdF hf0]
      exact hf0
    · refine ⟨t1, toldN s j0, ?_, a1, b2, fun f' hf' => ?_⟩
      · show b_X8_best_73 N K a0 (nI (cdN s (s 0 1))) (aI (lastV s (toldN s j0))) 1 (nI (cdN s (s 0 1))) t1 = _
        unfold b_X8_best_73
        rw [if_pos Int32.le_rfl]
        exact hr t1 (toldN s j0) b4
      · have e := cdF_told b1 (s 0 1) (Nat.le_refl _)
        rw [Nat.sub_self] at e
        have e : cdF s (toldN s j0) (s 0 1) = j0 := e
        have := b5 (cdF s f' (s 0 1)) (cdF_lt hf' _) (by rw [told_cdF hf']; exact hf')
        rw [told_cdF hf'] at this
        rw [e]
        exact this
  · obtain ⟨t1, bst, any, rfl, a1, a2, a3⟩ := hy
    right
    show ∃ x', _ ∧ b_X8_best_73 N K a0 (nI (cdN s (s 0 1))) bst any (nI k) t1 = _
    have hR1 := a1.rr hR
    obtain ⟨g, wl, i1, i2, i3⟩ := p_isTelling (k := k) (t := t1) (show 300 ≤ N by omega) hs hR1.1.1 hR1.1.2.1 hR1.1.2.2.1 a2 hM (by omega)
    have c1 : ¬ nI (cdN s (s 0 1)) ≤ nI k := fun z => absurd ((nIle (by omega) (by omega)).mp z) (by omega)
    unfold b_X8_best_73 f_X8_best_191 f_X8_best_122 f_X8_best_127
    rw [if_neg c1, i1, o_bd_some]
    rcases i3 with ⟨rfl, i3⟩ | ⟨rfl, i3⟩
    · simp only [if_neg one_ne]
      have a1' : QR v (sR t1 9 0 20 g) := a1.r20
      have h17' : (sR t1 9 0 20 g).1 9 0 0 17 = -4 := by
        rw [a1'.2.2 17 (by omega) (by omega)]
        exact h17
      obtain ⟨f5, q1, q2⟩ := p_asideR (v := sR t1 9 0 20 g) (show 300 ≤ N by omega) hs h17' (a1'.rr hR)
      rw [q1, o_bd_some]
      simp only [o_nm]
      have e1 : t1.1 9 0 0 1 = nI (s 0 1) := hR1.1.2.1
      obtain ⟨f6, q3⟩ := p_lastHour (t := sI (sR (sR t1 9 0 20 g) 9 0 5 f5) 9 0 0 19 1) (s := s) (fq := fun _ c => toldN s k c) (show 300 ≤ N by omega) hs (by omega) q2 (Or.inr ⟨rfl, toldN s k, rfl, fun c hc hlt => by
        have hlt : nI c < t1.1 9 0 0 1 := hlt
        rw [e1] at hlt
        exact i2 c ((nIlt (by omega) (by omega)).mp hlt)⟩)
      rw [q3, o_bd_some]
      have e1' : (sI (sR (sI (sR (sR t1 9 0 20 g) 9 0 5 f5) 9 0 0 19 1) 9 0 5 f6) 9 0 0 19 0).1 9 0 0 1 = nI (s 0 1) := e1
      have hQ : QR v (sI (sR (sI (sR (sR t1 9 0 20 g) 9 0 5 f5) 9 0 0 19 1) 9 0 5 f6) 9 0 0 19 0) := a1'.r19 h19
      have h20 : (sI (sR (sI (sR (sR t1 9 0 20 g) 9 0 5 f5) 9 0 0 19 1) 9 0 5 f6) 9 0 0 19 0).1 9 0 20 = g := by
        rw [sI_off (by omega), sR_off (by omega), sI_off (by omega), sR_off (by omega), sR_at]
      have h30 : (sI (sR (sI (sR (sR t1 9 0 20 g) 9 0 5 f5) 9 0 0 19 1) 9 0 5 f6) 9 0 0 19 0).1 9 0 30 = t1.1 9 0 30 := by
        rw [sI_off (by omega), sR_off (by omega), sI_off (by omega), sR_off (by omega), sR_off (by omega)]
      have h29 : (sI (sR (sI (sR (sR t1 9 0 20 g) 9 0 5 f5) 9 0 0 19 1) 9 0 5 f6) 9 0 0 19 0).1 9 0 0 29 = nI M := a2
      generalize sI (sR (sI (sR (sR t1 9 0 20 g) 9 0 5 f5) 9 0 0 19 1) 9 0 5 f6) 9 0 0 19 0 = t5 at e1' hQ h20 h30 h29 ⊢
      have new : (∀ j, j < k → Vt s (toldN s j) → lastV s (toldN s k) < lastV s (toldN s j)) → ∃ x', BI v s M a0 (k + 1) x' ∧ f_X8_best_132 N K a0 (nI (cdN s (s 0 1))) bst (nI k) (aI (htl (fun _ c => toldN s k c) allO s)) 1 0 t5 = K x' := by
        intro hlt
        obtain ⟨g', p1, p2⟩ := p_b132 (N := N) (t := t5) (s := s) (w := 1) (x1 := a0) (x2 := nI (cdN s (s 0 1))) (x3 := bst) (x5 := nI k) (x6 := aI (htl (fun _ c => toldN s k c) allO s)) (k73 := K) (by omega) h5 e1'
        rw [p1, if_neg one_ne, nI_1]
        refine ⟨_, ⟨_, _, _, rfl, hQ.r30, h29, Or.inr ⟨rfl, k, by omega, i3, rfl, fun c hc => ?_, fun j hj hv => ?_⟩⟩, rfl⟩
        · rw [sR_at, p2 c hc, if_neg one_ne, h20]
          exact i2 c hc
        · by_cases y : j = k
          · rw [y]
            exact lxl.rf _
          · exact Or.inl (hlt j (by omega) hv)
      rcases a3 with ⟨rfl, rfl, a3⟩ | ⟨rfl, j0, b1, b2, rfl, b4, b5⟩
      · simp only [ite_true]
        exact new (fun j hj hv => absurd hv (a3 j hj))
      · simp only [if_neg one_ne]
        rw [p_soon (a := htl (fun _ c => toldN s k c) allO s) (b := lastV s (toldN s j0)) htl_le htl_le, o_bd_some]
        by_cases z : htl (fun _ c => toldN s k c) allO s < lastV s (toldN s j0)
        · simp only [if_pos z, if_neg one_ne]
          refine new (fun j hj hv => ?_)
          have hx := b5 j hj hv
          unfold lxl at hx
          simp only [] at hx
          have z : lastV s (toldN s k) < lastV s (toldN s j0) := z
          omega
        · simp only [if_neg z, ite_true]
          obtain ⟨g', p1, p2⟩ := p_b132 (N := N) (t := t5) (s := s) (w := 0) (x1 := a0) (x2 := nI (cdN s (s 0 1))) (x3 := aI (lastV s (toldN s j0))) (x5 := nI k) (x6 := aI (htl (fun _ c => toldN s k c) allO s)) (k73 := K) (by omega) h5 e1'
          rw [p1, if_pos rfl, nI_1]
          refine ⟨_, ⟨_, _, _, rfl, hQ.r30, h29, Or.inr ⟨rfl, j0, by omega, b2, rfl, fun c hc => ?_, fun j hj hv => ?_⟩⟩, rfl⟩
          · rw [sR_at, p2 c hc, if_pos rfl, h30]
            exact b4 c hc
          · by_cases y : j = k
            · rw [y]
              have z : ¬ lastV s (toldN s k) < lastV s (toldN s j0) := z
              unfold lxl
              simp only []
              omega
            · exact b5 j (by omega) hv
    · simp only [ite_true, nI_1]
      refine ⟨_, ⟨_, bst, any, rfl, a1.r20, a2, ?_⟩, rfl⟩
      rcases a3 with ⟨w1, w2, a3⟩ | ⟨w1, j0, b1, b2, b3, b4, b5⟩
      · refine Or.inl ⟨w1, w2, fun j hj => ?_⟩
        by_cases y : j = k
        · rw [y]; exact i3
        · exact a3 j (by omega)
      · refine Or.inr ⟨w1, j0, by omega, b2, b3, b4, fun j hj hv => ?_⟩
        by_cases y : j = k
        · rw [y] at hv
          exact absurd hv i3
        · exact b5 j (by omega) hv
theorem p_best28 {N M : Nat} {t : Mm} {s : Sx} {a0 : Int32} (hN : 300 ≤ N) (hs : wfS s) (e0 : t.1 9 0 0 0 = nI (s 0 0)) (e1 : t.1 9 0 0 1 = nI (s 0 1)) (e29 : t.1 9 0 0 29 = nI M) (hM : M < 32 ∧ ∀ c, c < 5 → (M / 2 ^ c % 2 = 1 ↔ mem s c)) : f_X8_best_28 N a0 1 0 t = f_X8_best_73 N a0 (nI (cdN s (s 0 1))) (-4) 0 0 t := by
  have h5 := hs.2.1
  refine lp_up (body := fun k x => b_X8_best_28 N k x.1 x.2.1 x.2.2.1 x.2.2.2) (fun o => o = f_X8_best_73 N a0 (nI (cdN s (s 0 1))) (-4) 0 0 t) (fun k y => y = (a0, nI (cdN s k), nI k, t)) (s 0 1) (fun K y hy => ?_) (fun K k y hk hy => ?_) N 0 (a0, 1, 0, t) (by omega) (by omega) rfl
  · subst hy
    show b_X8_best_28 N K a0 (nI (cdN s (s 0 1))) (nI (s 0 1)) t = _
    unfold b_X8_best_28
    rw [e1, if_pos Int32.le_rfl]
  · subst hy
    right
    refine ⟨(a0, nI (cdN s (k + 1)), nI (k + 1), t), rfl, ?_⟩
    show b_X8_best_28 N K a0 (nI (cdN s k)) (nI k) t = _
    unfold b_X8_best_28 f_X8_best_56
    have c1 : ¬ nI (s 0 1) ≤ nI k := fun z => absurd ((nIle (by omega) (by omega)).mp z) (by omega)
    have hMk := hM.2 k (by omega)
    have em : nI (cdN s k) * 1 = nI (cdN s k * 1) := pk_mul _ 1
    rw [e1, if_neg c1, e29, p_has (by omega) (by omega), o_bd_some]
    simp only [e0, nI_1, em, pk_mul]
    rw [cdN]
    rcases bit01 (m := M) (k := k) with e | e
    · have nm : ¬ mem s k := fun z => by
        have := hMk.mpr z
        omega
      rw [e, if_neg nm]
      rfl
    · rw [e, if_pos (hMk.mp e)]
      rfl
theorem op_best (N : Nat) (hN : 40000 ≤ N) : Op_best N Rel := by
  intro u v h a0
  obtain ⟨⟨⟨s, w1, w2, w3, w4⟩, hU⟩, -, -, -, h17, h19⟩ := id h
  have h5 := w1.2.1
  have h8 := w1.1
  obtain ⟨u', a, f, c1, c2, c3, c4, c5, c6, c7⟩ := p_seek (N := N) (by omega) w1 w2 w3
  obtain ⟨M, m1, m2⟩ := p_layAsked (N := N) (by omega) w1 w4
  have main : ∀ r : (Nat → Nat) → Int32, (∀ (t1 : Mm) (f : Nat → Nat), (∀ c, c < s 0 1 → t1.1 9 0 30 c = qI (s 0 0) (f c)) → (if 0 ≤ a0 then (if o_inb a0 5 = true then some (t1.1 9 0 30 (a0.toNatClampNeg), t1) else none) else some (aI (lastV s f), t1)) = some (r f, t1)) → ∃ v', (o_bd (f_X8_layAsked N v) fun t => f_X8_best_28 N a0 1 0 t) = some (r f, v') ∧ QR v v' := by
    intro r hr
    obtain ⟨t', g, b1, b2, b3, b4⟩ := p_best73 (a0 := a0) hN w1 w2 w4 h17 h19 m2 hr
    have hfg : f = g := best_same w1 c6 b3 (c7 g b3) (b4 f c6)
    subst hfg
    rw [m1, o_bd_some, p_best28 (t := sI v 9 0 0 29 (nI M)) (by omega) w1 w4.1.1 w4.1.2.1 rfl m2]
    exact ⟨t', b1, b2⟩
  unfold f_X7_best f_X8_best f_X7_best_21
  have eq : u.1 0 0 0 1 = nI (s 0 1) := w3.1.2.1
  have eq' : v.1 9 0 0 1 = nI (s 0 1) := w4.1.2.1
  rw [eq']
  have hB := p_in (a := a0) (lo := -1) (hi := (nI (s 0 1) - 1).toInt64) (l := -1) (h := (s 0 1 : Int) - 1) v rfl (nI_m1 (by omega))
  have hA := p_hasC (t := u) (i := 9 * 0) (a := a0) eq h5
  by_cases z : a0 = -1
  · subst z
    have hin : inR (-1) (-1) ((s 0 1 : Int) - 1) := by
      refine ⟨by decide, ?_⟩
      rw [show (-1 : Int32).toInt = -1 from rfl]
      omega
    rw [if_pos rfl, hB.1 hin, o_bd_some, c1, o_bd_some]
    simp only [if_neg one_ne, ite_true]
    obtain ⟨v', d1, d2⟩ := main (fun f => aI (lastV s f)) (fun t1 f _ => by rw [if_neg (by decide)])
    rw [d1]
    have e5 : u'.1 3 5 0 5 = nI (lastV s f) := c5.1.1
    rw [e5, p_orNone (h := lastV s f) htl_le, o_bd_some]
    exact ⟨_, u', v', rfl, rfl, h.quiet c2 d2⟩
  · rw [if_neg z]
    by_cases h0 : inR a0 0 ((s 0 1 : Int) - 1)
    · have hin : inR a0 (-1) ((s 0 1 : Int) - 1) := ⟨by have := h0.1; omega, h0.2⟩
      rw [hA.1 h0, hB.1 hin, o_bd_some, o_bd_some]
      simp only [if_neg one_ne, if_neg z]
      rw [c1, o_bd_some]
      obtain ⟨c, rfl, -, hc, hc2⟩ := inR_nat h0 (by omega)
      have hc : c < s 0 1 := by omega
      have i5 : o_inb (nI c) 5 = true := inb_nI (by omega) (by omega)
      obtain ⟨v', d1, d2⟩ := main (fun f => qI (s 0 0) (f c)) (fun t1 f hf => by rw [if_pos (nI_pos' (by omega)), if_pos i5, cl_nI (by omega), hf c hc])
      rw [d1, p_told h8 (by omega) c3 c4 c5 c6, o_bd_some]
      exact ⟨_, u', v', rfl, rfl, h.quiet c2 d2⟩
    · have hin : ¬ inR a0 (-1) ((s 0 1 : Int) - 1) := fun y => by
        have y1 := y.1
        have y2 := y.2
        by_cases e : a0.toInt = -1
        · exact z (Int32.toInt_inj.mp e)
        · exact h0 ⟨by omega, y2⟩
      rw [hA.2 h0, hB.2 hin, o_bd_some, o_bd_some]
      exact ⟨-1, u, v, rfl, rfl, h⟩
