def tcF (s : Sx) (c : Nat) (o : Option (Nat × Nat)) : Nat → Option (Nat × Nat)
  | 0 => o
  | t + 1 => if s 6 c = 0 ∧ s 4 c / 2 ^ t % 2 = 0 then upO (tcF s c o t) (10 * c + t) (htl lowF allO (u2 s 4 c (s 4 c ||| 2 ^ t))) else tcF s c o t
def teF (s : Sx) : Nat → Option (Nat × Nat)
  | 0 => none
  | c + 1 => tcF s c (teF s c) 8
theorem okO_tc {s : Sx} {c : Nat} {o : Option (Nat × Nat)} (hc : c < 5) (ho : okO o) : ∀ t, t ≤ 8 → okO (tcF s c o t)
  | 0, _ => ho
  | t + 1, ht => by
    rw [tcF]
    have ih := okO_tc (s := s) hc ho t (by omega)
    split
    · exact okO_up ih (by omega) htl_le
    · exact ih
theorem okO_te {s : Sx} : ∀ c, c ≤ 5 → okO (teF s c)
  | 0, _ => fun p hp => by cases hp
  | c + 1, hc => by
    rw [teF]
    exact okO_tc (by omega) (okO_te c (by omega)) 8 (by omega)
theorem SS_34 {t t' : Mm} {o : Option (Nat × Nat)} (h : SS t o) (e : t'.1 3 4 = t.1 3 4) : SS t' o := by
  unfold SS
  rw [e]
  exact h
theorem p_teachC18 {N c : Nat} {t : Mm} {s : Sx} {o : Option (Nat × Nat)} (hN : 300 ≤ N) (hs : wfS s) (hh : s 0 3 ≤ 9999) (hc : c < s 0 1) (ho : okO o) (hF : FR (t.1 0 0) s) (hS : SS t o) (K8 : Int32 × Mm → Option Mm) : ∃ t' : Mm, f_X1_seekTeaching_18 N (9 * 0) K8 (nI c) 0 t = K8 (nI (c + 1), t') ∧ FrC t t' ∧ SS t' (tcF s c o 8) := by
  have h5 := hs.2.1
  refine lp_up (body := fun k x => b_X1_seekTeaching_18 N (9 * 0) K8 k x.1 x.2.1 x.2.2) (fun r => ∃ t' : Mm, r = K8 (nI (c + 1), t') ∧ FrC t t' ∧ SS t' (tcF s c o 8)) (fun k x => ∃ t1 : Mm, x = (nI c, nI k, t1) ∧ FrC t t1 ∧ SS t1 (tcF s c o k)) 8 (fun K x hx => ?_) (fun K k x hk hx => ?_) N 0 (nI c, 0, t) (by omega) (by omega) ⟨t, rfl, FrC.rfl' t, hS⟩
  · obtain ⟨t1, rfl, a1, a2⟩ := hx
    refine ⟨t1, ?_, a1, a2⟩
    show b_X1_seekTeaching_18 N (9 * 0) K8 K (nI c) (nI 8) t1 = _
    unfold b_X1_seekTeaching_18
    rw [if_pos (by decide), nI_1]
  · obtain ⟨t1, rfl, a1, a2⟩ := hx
    right
    have f1 := a1.ford hF
    have i1 : o_inb (nI c) 5 = true := inb_nI (by omega) (by omega)
    have c1 : ¬ (8 : Int32) ≤ nI k := fun z => absurd ((nIle (a := 8) (by omega) (by omega)).mp z) (by omega)
    obtain ⟨u3, u4, u5, u6, u7⟩ := f1.2.2 c hc
    have u4 : t1.1 0 (9 * 0) 4 c = nI (s 4 c) := u4
    have u6 : t1.1 0 (9 * 0) 6 c = nI (s 6 c) := u6
    obtain ⟨f3, f4, f5, f6, f7⟩ := hs.2.2.2.2.2 c hc
    have c6 : nI (s 6 c) = 0 ↔ s 6 c = 0 := nIeq (b := 0) (by omega) (by omega)
    show ∃ x', _ ∧ b_X1_seekTeaching_18 N (9 * 0) K8 K (nI c) (nI k) t1 = _
    unfold b_X1_seekTeaching_18 f_X1_seekTeaching_84 f_X0_everyone
    simp only [if_neg c1, if_pos i1, cl_nI (show c < 2147483648 by omega), u4, u6, c6, nI_1]
    rw [p_isIn (by omega) (by omega), o_bd_some, tcF]
    by_cases e6 : s 6 c = 0
    · rw [if_pos e6]
      rcases bit01 (m := s 4 c) (k := k) with e | e
      · rw [e, if_pos ⟨e6, rfl⟩]
        obtain ⟨t2, b1, b2, b3, b4⟩ := p_start hs f1
        have e4' : t2.1 0 18 4 c = nI (s 4 c) := (b4.2.2 c hc).2.1
        have hlt : s 4 c ||| 2 ^ k < 256 := Nat.or_lt_two_pow (n := 8) (by omega) (Nat.pow_lt_pow_right (by decide) (by omega))
        have hw : wfS (u2 s 4 c (s 4 c ||| 2 ^ k)) := wf_set hs (by omega) (by omega) (by omega) (by omega)
        have f3 : FR ((sI t2 0 18 4 c (nI (s 4 c ||| 2 ^ k))).1 0 18) (u2 s 4 c (s 4 c ||| 2 ^ k)) := by
          rw [sI_v2]
          exact FR_set b4 (by unfold okS; omega) (fun z => by omega)
        obtain ⟨t3, d1, d2, d3⟩ := p_tillAll (N := N) (n := s 0 1) hN hw (show s 0 3 ≤ 19000 by omega) f3 rfl
        have fr : FrC t1 t3 := ((FrC.of (by unfold scr; omega) b2 b3).tr (FrC.sI (by unfold scr; omega))).tr (FrC.of (by unfold scr; omega) d2 d3)
        have hS3 : SS t3 (tcF s c o k) := SS_34 a2 (by rw [d2 3 4 (by omega), sI_nums (by omega), b2 3 4 (by omega)])
        obtain ⟨t4, g1, g2, g3⟩ := p_keepC (w := 10 * c + k) (h := htl lowF allO (u2 s 4 c (s 4 c ||| 2 ^ k))) hS3 (okO_tc (by omega) ho k (by omega)) (by omega) htl_le
        have e1' : (sI t2 0 18 4 c (nI (s 4 c ||| 2 ^ k))).1 0 (9 * 0) 0 1 = nI (s 0 1) := by
          rw [sI_nums (by omega), b2 0 (9 * 0) (by omega)]
          exact f1.1.2.1
        have e10 : (10 : Int32) * nI c + nI k = nI (10 * c + k) := by rw [show (10 : Int32) = nI 10 from rfl, pk_mul, nI_add]
        refine ⟨(nI c, nI (k + 1), t4), ⟨t4, rfl, (a1.tr fr).tr g2, g3⟩, ?_⟩
        simp only [if_pos (show nI 0 = 0 from rfl), b1, o_bd_some, o_nm, e4', nI_shl1 (show k < 31 by omega), nI_or, e1', ev_all (s 0 1) (by omega), d1, e10, g1, nI_1]
      · rw [e, if_neg (fun z => absurd z.2 (by decide))]
        refine ⟨(nI c, nI (k + 1), t1), ⟨t1, rfl, a1, a2⟩, ?_⟩
        simp only [if_neg (show ¬ nI 1 = 0 by decide), nI_1]
    · rw [if_neg e6, if_neg (fun z => e6 z.1)]
      exact ⟨_, ⟨t1, rfl, a1, a2⟩, rfl⟩
theorem p_teachC {N : Nat} {t : Mm} {s : Sx} (hN : 300 ≤ N) (hs : wfS s) (hh : s 0 3 ≤ 9999) (hF : FR (t.1 0 0) s) : ∃ t' : Mm, f_X1_seekTeaching N (9 * 0) t = some t' ∧ FrC t t' ∧ SS t' (teF s (s 0 1)) := by
  have h5 := hs.2.1
  unfold f_X1_seekTeaching
  refine lp_up (body := fun k x => b_X1_seekTeaching_8 N (9 * 0) k x.1 x.2) (fun o => ∃ t' : Mm, o = some t' ∧ FrC t t' ∧ SS t' (teF s (s 0 1))) (fun k x => ∃ t1 : Mm, x = (nI k, t1) ∧ FrC t t1 ∧ SS t1 (teF s k)) (s 0 1) (fun K x hx => ?_) (fun K k x hk hx => ?_) N 0 (0, sI t 3 4 0 1 (-4)) (by omega) (by omega) ⟨_, rfl, FrC.sI (by unfold scr; omega), rfl, fun p hp => by cases hp⟩
  · obtain ⟨t1, rfl, a1, a2⟩ := hx
    have e1 : t1.1 0 (9 * 0) 0 1 = nI (s 0 1) := (a1.ford hF).1.2.1
    show ∃ t', b_X1_seekTeaching_8 N (9 * 0) K (nI (s 0 1)) t1 = some t' ∧ _
    unfold b_X1_seekTeaching_8
    rw [e1, if_pos Int32.le_rfl]
    exact ⟨t1, rfl, a1, a2⟩
  · obtain ⟨t1, rfl, a1, a2⟩ := hx
    right
    have f1 := a1.ford hF
    have e1 : t1.1 0 (9 * 0) 0 1 = nI (s 0 1) := f1.1.2.1
    have c1 : ¬ nI (s 0 1) ≤ nI k := fun z => absurd ((nIle (by omega) (by omega)).mp z) (by omega)
    obtain ⟨t2, b1, b2, b3⟩ := p_teachC18 (N := N) (c := k) hN hs hh hk (okO_te k (by omega)) f1 a2 K
    show ∃ x', _ ∧ b_X1_seekTeaching_8 N (9 * 0) K (nI k) t1 = _
    unfold b_X1_seekTeaching_8
    rw [e1, if_neg c1, b1]
    exact ⟨_, ⟨t2, rfl, a1.tr b2, b3⟩, rfl⟩
theorem p_teachR33 {N a c : Nat} {v : Mm} {s : Sx} {o : Option (Nat × Nat)} (hN : 300 ≤ N) (hs : wfS s) (hh : s 0 3 ≤ 9999) (hc : c < s 0 1) (ho : okO o) (h17 : v.1 9 0 0 17 = -4) (h19 : v.1 9 0 0 19 = 0) (hR : RR (v.1 9 0 0 0) (v.1 9 0 0 1) (v.1 9 0 2) (v.1 9 0 3) (v.1 9 0 4) s) (K8 : Int32 × Int32 × Int32 × Int32 × Mm → Option (Int32 × Mm)) (f0 : Nat → Int32) : ∃ f, f_X8_teaches_33 N K8 (nI a) (oW o) (oB o) (nI c) 0 (sR v 9 0 5 f0) = K8 (nI a, oW (tcF s c o 8), oB (tcF s c o 8), nI (c + 1), sR v 9 0 5 f) := by
  have h8 := hs.1
  have h5 := hs.2.1
  obtain ⟨i19, l19⟩ := lit19 (k := c) (by omega) 19 (by omega)
  have i19 : o_inb (19 + nI c) 31 = true := i19
  have l19 : ((19 : Int32) + nI c).toNatClampNeg = 19 + c := l19
  obtain ⟨i9, l9⟩ := lit19 (k := c) (by omega) 9 (by omega)
  have i9 : o_inb (9 + nI c) 31 = true := i9
  have l9 : ((9 : Int32) + nI c).toNatClampNeg = 9 + c := l9
  refine lp_up (body := fun k x => b_X8_teaches_33 N K8 k x.1 x.2.1 x.2.2.1 x.2.2.2.1 x.2.2.2.2.1 x.2.2.2.2.2) (fun r => ∃ f, r = K8 (nI a, oW (tcF s c o 8), oB (tcF s c o 8), nI (c + 1), sR v 9 0 5 f)) (fun k x => ∃ f, x = (nI a, oW (tcF s c o k), oB (tcF s c o k), nI c, nI k, sR v 9 0 5 f)) 8 (fun K x hx => ?_) (fun K k x hk hx => ?_) N 0 (nI a, oW o, oB o, nI c, 0, sR v 9 0 5 f0) (by omega) (by omega) ⟨f0, rfl⟩
  · obtain ⟨f, rfl⟩ := hx
    refine ⟨f, ?_⟩
    show b_X8_teaches_33 N K8 K (nI a) (oW (tcF s c o 8)) (oB (tcF s c o 8)) (nI c) (nI 8) (sR v 9 0 5 f) = _
    unfold b_X8_teaches_33
    rw [if_pos (by decide), nI_1]
  · obtain ⟨f, rfl⟩ := hx
    right
    have c1 : ¬ (8 : Int32) ≤ nI k := fun z => absurd ((nIle (a := 8) (by omega) (by omega)).mp z) (by omega)
    obtain ⟨u3, u4, u5, u6, u7⟩ := hR.2.2.1 c hc
    have u4 : (sR v 9 0 5 f).1 9 0 4 (9 + c) = nI (s 4 c) := u4
    have u6 : (sR v 9 0 5 f).1 9 0 4 (19 + c) = nI (s 6 c) := u6
    obtain ⟨f3, f4, f5, f6, f7⟩ := hs.2.2.2.2.2 c hc
    have c6 : nI (s 6 c) = 0 ↔ s 6 c = 0 := nIeq (b := 0) (by omega) (by omega)
    show ∃ x', _ ∧ b_X8_teaches_33 N K8 K (nI a) (oW (tcF s c o k)) (oB (tcF s c o k)) (nI c) (nI k) (sR v 9 0 5 f) = _
    unfold b_X8_teaches_33 f_X8_teaches_113 f_X8_teaches_118 f_X8_teaches_137 f_X8_teaches_149 f_X8_teaches_150
    simp only [if_neg c1, if_pos i19, if_pos i9, l19, l9, u4, u6, c6, nI_1]
    rw [p_has (by omega) (by omega), o_bd_some, tcF]
    by_cases e6 : s 6 c = 0
    · rw [if_pos e6]
      rcases bit01 (m := s 4 c) (k := k) with e | e
      · rw [e, if_pos ⟨e6, rfl⟩]
        have hlt : s 4 c ||| 2 ^ k < 256 := Nat.or_lt_two_pow (n := 8) (by omega) (Nat.pow_lt_pow_right (by decide) (by omega))
        have hw : wfS (u2 s 4 c (s 4 c ||| 2 ^ k)) := wf_set hs (by omega) (by omega) (by omega) (by omega)
        obtain ⟨g, b1, b2⟩ := p_asideR (N := N) (v := sR v 9 0 5 f) hN hs h17 hR
        rw [sR_sR] at b1
        have b2 : SD v g s := b2
        have eg : g (9 + c) = nI (s 4 c) := (b2.2.2.1 c hc).2.1
        have b3 : SD v (upd g (9 + c) (nI (s 4 c ||| 2 ^ k))) (u2 s 4 c (s 4 c ||| 2 ^ k)) := RR_set (r := 4) (k := c) b2 h8 h5 (by unfold okS; omega) (fun z => by omega)
        obtain ⟨j, d1⟩ := p_lastHour (N := N) (t := sR v 9 0 5 (upd g (9 + c) (nI (s 4 c ||| 2 ^ k)))) (s := u2 s 4 c (s 4 c ||| 2 ^ k)) (fq := lowF) hN hw (show s 0 3 ≤ 19000 by omega) (by rw [sR_at]; exact b3) (HT_low h19)
        rw [sR_sR] at d1
        have e10 : (10 : Int32) * nI c + nI k = nI (10 * c + k) := by rw [show (10 : Int32) = nI 10 from rfl, pk_mul, nI_add]
        simp only [if_pos (show nI 0 = 0 from rfl), b1, o_bd_some, o_nm, sR_at, eg, nI_shl1 (show k < 31 by omega), nI_or, sI_sR, d1, e10]
        have hl := htl_le (f := lowF) (p := allO) (s := u2 s 4 c (s 4 c ||| 2 ^ k))
        generalize htl lowF allO (u2 s 4 c (s 4 c ||| 2 ^ k)) = h at *
        have ho' := okO_tc (s := s) (c := c) (by omega) ho k (by omega)
        refine ⟨_, ⟨j, rfl⟩, ?_⟩
        cases hoo : tcF s c o k with
        | none => rfl
        | some p =>
          rw [hoo] at ho'
          have hp := ho' p rfl
          have n4 : ¬ oW (some p) = -4 := ne4 (show p.1 < 1000000 by omega)
          have hu : upO (some p) (10 * c + k) h = if h < p.2 then some (10 * c + k, h) else some p := rfl
          have eB : oB (some p) = aI p.2 := rfl
          rw [if_neg n4, eB, p_soon hl hp.2, o_bd_some, hu]
          by_cases z : h < p.2
          · simp only [if_pos z]
            rfl
          · simp only [if_neg z]
            rfl
      · rw [e, if_neg (fun z => absurd z.2 (by decide))]
        simp only [if_neg (show ¬ nI 1 = 0 by decide)]
        exact ⟨_, ⟨f, rfl⟩, rfl⟩
    · rw [if_neg e6, if_neg (fun z => e6 z.1)]
      exact ⟨_, ⟨f, rfl⟩, rfl⟩
theorem p_teachR {N a : Nat} {v : Mm} {s : Sx} (hN : 300 ≤ N) (ha : a < 2) (hs : wfS s) (hh : s 0 3 ≤ 9999) (h17 : v.1 9 0 0 17 = -4) (h19 : v.1 9 0 0 19 = 0) (hR : RR (v.1 9 0 0 0) (v.1 9 0 0 1) (v.1 9 0 2) (v.1 9 0 3) (v.1 9 0 4) s) : ∃ f, f_X8_teaches_21 N (nI a) (-4) (-4) 0 v = some (if a = 0 then oW (teF s (s 0 1)) else oB (teF s (s 0 1)), sR v 9 0 5 f) := by
  have h5 := hs.2.1
  refine lp_up (body := fun k x => b_X8_teaches_21 N k x.1 x.2.1 x.2.2.1 x.2.2.2.1 x.2.2.2.2) (fun o => ∃ f, o = some (if a = 0 then oW (teF s (s 0 1)) else oB (teF s (s 0 1)), sR v 9 0 5 f)) (fun k x => ∃ f, x = (nI a, oW (teF s k), oB (teF s k), nI k, sR v 9 0 5 f)) (s 0 1) (fun K x hx => ?_) (fun K k x hk hx => ?_) N 0 (nI a, -4, -4, 0, v) (by omega) (by omega) ⟨v.1 9 0 5, by rw [sR_self]; rfl⟩
  · obtain ⟨f, rfl⟩ := hx
    refine ⟨f, ?_⟩
    have e1 : (sR v 9 0 5 f).1 9 0 0 1 = nI (s 0 1) := hR.1.2.1
    show b_X8_teaches_21 N K (nI a) (oW (teF s (s 0 1))) (oB (teF s (s 0 1))) (nI (s 0 1)) (sR v 9 0 5 f) = _
    unfold b_X8_teaches_21
    rw [e1, if_pos Int32.le_rfl]
    rcases (show a = 0 ∨ a = 1 by omega) with rfl | rfl <;> rfl
  · obtain ⟨f, rfl⟩ := hx
    right
    have e1 : (sR v 9 0 5 f).1 9 0 0 1 = nI (s 0 1) := hR.1.2.1
    have c1 : ¬ nI (s 0 1) ≤ nI k := fun z => absurd ((nIle (by omega) (by omega)).mp z) (by omega)
    obtain ⟨g, b1⟩ := p_teachR33 (N := N) (a := a) (c := k) hN hs hh hk (okO_te k (by omega)) h17 h19 hR K f
    show ∃ x', _ ∧ b_X8_teaches_21 N K (nI a) (oW (teF s k)) (oB (teF s k)) (nI k) (sR v 9 0 5 f) = _
    unfold b_X8_teaches_21
    rw [e1, if_neg c1, b1]
    exact ⟨_, ⟨g, rfl⟩, rfl⟩
theorem op_teaches (N : Nat) (hN : 300 ≤ N) : Op_teaches N Rel := by
  intro u v h a0
  obtain ⟨⟨⟨s, w1, w2, w3, w4⟩, hU⟩, -, -, -, h17, h19⟩ := id h
  unfold f_X7_teaches f_X8_teaches
  have hA := p_out (a := a0) (lo := 0) (hi := 1) (l := 0) (h := 1) u rfl rfl
  have hB := p_in (a := a0) (lo := 0) (hi := 1) (l := 0) (h := 1) v rfl rfl
  by_cases h0 : inR a0 0 1
  · rw [hA.1 h0, hB.1 h0, o_bd_some, o_bd_some]
    simp only [if_neg one_ne, ite_true]
    obtain ⟨a, rfl, -, ha, ha2⟩ := inR_nat h0 (by omega)
    obtain ⟨t1, b1, b2, b3⟩ := p_teachC hN w1 w2 w3
    obtain ⟨f, d1⟩ := p_teachR (a := a) hN (by omega) w1 w2 h17 h19 w4
    rw [b1, o_bd_some, p_foundOr (by omega) b3 (okO_te _ w1.2.1), o_bd_some, d1]
    exact ⟨_, t1, _, rfl, rfl, h.quiet b2 QR.side⟩
  · rw [hA.2 h0, hB.2 h0, o_bd_some, o_bd_some]
    exact ⟨-1, u, v, rfl, rfl, h⟩
/-! before -/
def limB : Option (Nat × Nat) → Nat
  | none => 100
  | some p => p.2
def bfF (s : Sx) (c : Nat) : Nat → Option (Nat × Nat)
  | 0 => none
  | k + 1 => if htl lowF (oneO c) (u2 s 5 c (s 0 3 + k)) ≤ limB (bfF s c k) then some (s 0 3 + k, htl lowF (oneO c) (u2 s 5 c (s 0 3 + k))) else bfF s c k
def okB (o : Option (Nat × Nat)) : Prop := ∀ p, o = some p → p.1 ≤ 40 ∧ p.2 ≤ 100
theorem okB_bf {s : Sx} {c : Nat} : ∀ k, s 0 3 + k ≤ 41 → okB (bfF s c k)
  | 0, _ => fun p hp => by cases hp
  | k + 1, hk => by
    have ih := okB_bf (s := s) (c := c) k (by omega)
    rw [bfF]
    intro p hp
    by_cases e : htl lowF (oneO c) (u2 s 5 c (s 0 3 + k)) ≤ limB (bfF s c k)
    · rw [if_pos e] at hp
      cases hp
      refine ⟨by show s 0 3 + k ≤ 40; omega, ?_⟩
      show htl lowF (oneO c) (u2 s 5 c (s 0 3 + k)) ≤ 100
      cases ho : bfF s c k with
      | none =>
        rw [ho] at e
        exact e
      | some q =>
        rw [ho] at e
        have := (ih q ho).2
        exact Nat.le_trans e this
    · rw [if_neg e] at hp
      exact ih p hp
def SB (t : Mm) (o : Option (Nat × Nat)) : Prop := t.1 3 4 0 1 = oW o ∧ t.1 3 4 0 2 = nI (limB o)
theorem p_beforeC {N c : Nat} {t : Mm} {s : Sx} (hN : 300 ≤ N) (hs : wfS s) (hh : s 0 3 ≤ 9999) (hF : FR (t.1 0 0) s) (hc : c < s 0 1) : ∃ t' : Mm, f_X1_seekComing N (9 * 0) (nI c) t = some t' ∧ FrC t t' ∧ t'.1 3 4 0 1 = oW (if s 6 c = 0 then bfF s c (41 - s 0 3) else none) := by
  have h5 := hs.2.1
  have i1 : o_inb (nI c) 5 = true := inb_nI (by omega) (by omega)
  obtain ⟨f3, f4, f5, f6, f7⟩ := hs.2.2.2.2.2 c hc
  have c6 : nI (s 6 c) = 0 ↔ s 6 c = 0 := nIeq (b := 0) (by omega) (by omega)
  have hf0 : FrC t (sI (sI t 3 4 0 1 (-4)) 3 4 0 2 100) := (FrC.sI (by unfold scr; omega)).tr (FrC.sI (by unfold scr; omega))
  have u6 : (sI (sI t 3 4 0 1 (-4)) 3 4 0 2 100).1 0 (9 * 0) 6 c = nI (s 6 c) := (hF.2.2 c hc).2.2.2.1
  have u3 : (sI (sI t 3 4 0 1 (-4)) 3 4 0 2 100).1 0 (9 * 0) 0 3 = nI (s 0 3) := hF.1.2.2.2.1
  unfold f_X1_seekComing
  simp only [o_nm, if_pos i1, cl_nI (show c < 2147483648 by omega), u6, u3, c6]
  by_cases e6 : s 6 c = 0
  · simp only [if_pos e6]
    refine lp_up (body := fun k x => b_X1_seekComing_27 N (9 * 0) k x.1 x.2.1 x.2.2) (fun o => ∃ t' : Mm, o = some t' ∧ FrC t t' ∧ t'.1 3 4 0 1 = oW (bfF s c (41 - s 0 3))) (fun k x => ∃ t1 : Mm, x = (nI c, nI (s 0 3 + k), t1) ∧ FrC t t1 ∧ SB t1 (bfF s c k)) (41 - s 0 3) (fun K x hx => ?_) (fun K k x hk hx => ?_) N 0 (nI c, nI (s 0 3), sI (sI t 3 4 0 1 (-4)) 3 4 0 2 100) (by omega) (by omega) ⟨_, rfl, hf0, rfl, rfl⟩
    · obtain ⟨t1, rfl, a1, a2⟩ := hx
      refine ⟨t1, ?_, a1, a2.1⟩
      show b_X1_seekComing_27 N (9 * 0) K (nI c) (nI (s 0 3 + (41 - s 0 3))) t1 = _
      unfold b_X1_seekComing_27
      have : (40 : Int32) < nI (s 0 3 + (41 - s 0 3)) := (nIlt (a := 40) (by omega) (by omega)).mpr (by omega)
      rw [if_pos this]
    · obtain ⟨t1, rfl, a1, a2⟩ := hx
      right
      have f1 := a1.ford hF
      have c1 : ¬ (40 : Int32) < nI (s 0 3 + k) := fun z => absurd ((nIlt (a := 40) (by omega) (by omega)).mp z) (by omega)
      obtain ⟨t2, b1, b2, b3, b4⟩ := p_start hs f1
      have hw : wfS (u2 s 5 c (s 0 3 + k)) := wf_set hs (by omega) (by omega) (by omega) (by omega)
      have f3 : FR ((sI t2 0 18 5 c (nI (s 0 3 + k))).1 0 18) (u2 s 5 c (s 0 3 + k)) := by
        rw [sI_v2]
        exact FR_set b4 (by unfold okS; omega) (fun z => by omega)
      obtain ⟨t3, d1, d2, d3⟩ := p_tillOne (N := N) (c := c) hN hw (show s 0 3 ≤ 19000 by omega) f3 hc
      have fr : FrC t1 t3 := ((FrC.of (by unfold scr; omega) b2 b3).tr (FrC.sI (by unfold scr; omega))).tr (FrC.of (by unfold scr; omega) d2 d3)
      have e34 : t3.1 3 4 = t1.1 3 4 := by rw [d2 3 4 (by omega), sI_nums (by omega), b2 3 4 (by omega)]
      have hl := htl_le (f := lowF) (p := oneO c) (s := u2 s 5 c (s 0 3 + k))
      have ho := okB_bf (s := s) (c := c) k (by omega)
      show ∃ x', _ ∧ b_X1_seekComing_27 N (9 * 0) K (nI c) (nI (s 0 3 + k)) t1 = _
      unfold b_X1_seekComing_27 f_X1_seekComing_77
      simp only [if_neg c1, b1, o_bd_some, if_pos i1, cl_nI (show c < 2147483648 by omega), o_nm, nI_shl1 (show c < 31 by omega), d1, e34, nI_1]
      rw [a2.2, bfF]
      generalize htl lowF (oneO c) (u2 s 5 c (s 0 3 + k)) = h at *
      have hm : limB (bfF s c k) ≤ 100 := by
        cases hb : bfF s c k with
        | none => exact Nat.le_refl _
        | some p => exact (ho p hb).2
      have e2 := a2.2
      generalize hM : limB (bfF s c k) = M at *
      have cc : nI M < nI h ↔ M < h := nIlt (by omega) (by omega)
      simp only [cc]
      by_cases z : M < h
      · rw [if_pos z, if_neg (by omega)]
        exact ⟨_, ⟨t3, rfl, a1.tr fr, by
          unfold SB
          rw [e34]
          exact a2⟩, rfl⟩
      · rw [if_neg z, if_pos (by omega)]
        exact ⟨_, ⟨sI (sI t3 3 4 0 1 (nI (s 0 3 + k))) 3 4 0 2 (nI h), rfl, ((a1.tr fr).tr (FrC.sI (by unfold scr; omega))).tr (FrC.sI (by unfold scr; omega)), rfl, rfl⟩, rfl⟩
  · simp only [if_neg e6]
    exact ⟨_, rfl, hf0, rfl⟩
theorem p_beforeR {N c : Nat} {v : Mm} {s : Sx} (hN : 300 ≤ N) (hs : wfS s) (hh : s 0 3 ≤ 9999) (hc : c < s 0 1) (h17 : v.1 9 0 0 17 = -4) (h19 : v.1 9 0 0 19 = 0) (hR : RR (v.1 9 0 0 0) (v.1 9 0 0 1) (v.1 9 0 2) (v.1 9 0 3) (v.1 9 0 4) s) : ∃ f, f_X8_before_25 N (nI c) (-4) (-4) (nI (s 0 3)) v = some (oW (if s 6 c = 0 then bfF s c (41 - s 0 3) else none), sR v 9 0 5 f) := by
  have h8 := hs.1
  have h5 := hs.2.1
  obtain ⟨i19, l19⟩ := lit19 (k := c) (by omega) 19 (by omega)
  have i19 : o_inb (19 + nI c) 31 = true := i19
  have l19 : ((19 : Int32) + nI c).toNatClampNeg = 19 + c := l19
  obtain ⟨i14, l14⟩ := lit19 (k := c) (by omega) 14 (by omega)
  have i14 : o_inb (14 + nI c) 31 = true := i14
  have l14 : ((14 : Int32) + nI c).toNatClampNeg = 14 + c := l14
  obtain ⟨f3, f4, f5, f6, f7⟩ := hs.2.2.2.2.2 c hc
  have c6 : nI (s 6 c) = 0 ↔ s 6 c = 0 := nIeq (b := 0) (by omega) (by omega)
  refine lp_up (body := fun k x => b_X8_before_25 N k x.1 x.2.1 x.2.2.1 x.2.2.2.1 x.2.2.2.2) (fun o => ∃ f, o = some (oW (if s 6 c = 0 then bfF s c (41 - s 0 3) else none), sR v 9 0 5 f)) (fun k x => ∃ f, x = (nI c, oW (bfF s c k), oB (bfF s c k), nI (s 0 3 + k), sR v 9 0 5 f) ∧ (k = 0 ∨ s 6 c = 0)) (41 - s 0 3) (fun K x hx => ?_) (fun K k x hk hx => ?_) N 0 (nI c, -4, -4, nI (s 0 3), v) (by omega) (by omega) ⟨v.1 9 0 5, by rw [sR_self]; rfl, Or.inl rfl⟩
  · obtain ⟨f, rfl, hz⟩ := hx
    refine ⟨f, ?_⟩
    show b_X8_before_25 N K (nI c) (oW (bfF s c (41 - s 0 3))) (oB (bfF s c (41 - s 0 3))) (nI (s 0 3 + (41 - s 0 3))) (sR v 9 0 5 f) = _
    unfold b_X8_before_25
    have : (41 : Int32) ≤ nI (s 0 3 + (41 - s 0 3)) := (nIle (a := 41) (by omega) (by omega)).mpr (by omega)
    rw [if_pos this]
    rcases hz with hz | hz
    · rw [hz]
      split <;> rfl
    · rw [if_pos hz]
  · obtain ⟨f, rfl, hz⟩ := hx
    have c1 : ¬ (41 : Int32) ≤ nI (s 0 3 + k) := fun z => absurd ((nIle (a := 41) (by omega) (by omega)).mp z) (by omega)
    have u6 : (sR v 9 0 5 f).1 9 0 4 (19 + c) = nI (s 6 c) := (hR.2.2.1 c hc).2.2.2.1
    show (∃ f', b_X8_before_25 N K (nI c) (oW (bfF s c k)) (oB (bfF s c k)) (nI (s 0 3 + k)) (sR v 9 0 5 f) = _) ∨ ∃ x', _ ∧ b_X8_before_25 N K (nI c) (oW (bfF s c k)) (oB (bfF s c k)) (nI (s 0 3 + k)) (sR v 9 0 5 f) = _
    unfold b_X8_before_25 f_X8_before_86 f_X8_before_87 f_X8_before_100 f_X8_before_112
    simp only [if_neg c1, if_pos i19, if_pos i14, l19, l14, u6, c6, nI_1]
    by_cases e6 : s 6 c = 0
    · right
      rw [if_pos e6]
      have hw : wfS (u2 s 5 c (s 0 3 + k)) := wf_set hs (by omega) (by omega) (by omega) (by omega)
      obtain ⟨g, b1, b2⟩ := p_asideR (N := N) (v := sR v 9 0 5 f) hN hs h17 hR
      rw [sR_sR] at b1
      have b2 : SD v g s := b2
      have b3 : SD v (upd g (14 + c) (nI (s 0 3 + k))) (u2 s 5 c (s 0 3 + k)) := RR_set (r := 5) (k := c) b2 h8 h5 (by unfold okS; omega) (fun z => by omega)
      obtain ⟨j, d1⟩ := p_overHour (N := N) (c := c) (t := sR v 9 0 5 (upd g (14 + c) (nI (s 0 3 + k)))) (s := u2 s 5 c (s 0 3 + k)) (fq := lowF) hN hw (show s 0 3 ≤ 19000 by omega) (by rw [sR_at]; exact b3) (HT_low h19) hc
      rw [sR_sR] at d1
      simp only [b1, o_bd_some, o_nm, sI_sR, d1]
      have hl := htl_le (f := lowF) (p := oneO c) (s := u2 s 5 c (s 0 3 + k))
      have ho := okB_bf (s := s) (c := c) k (by omega)
      rw [bfF]
      generalize htl lowF (oneO c) (u2 s 5 c (s 0 3 + k)) = h at *
      refine ⟨_, ⟨j, rfl, Or.inr e6⟩, ?_⟩
      cases hb : bfF s c k with
      | none =>
        have eB : oB none = aI 101 := rfl
        simp only [eB, p_soon (Nat.le_refl 101) hl, o_bd_some, (aI_lt hl).1, if_neg (show ¬ 101 < h by omega)]
        have el : limB none = 100 := rfl
        rw [el]
        by_cases z : h = 101
        · rw [if_pos z, if_neg (show ¬ h ≤ 100 by omega)]
          rfl
        · rw [if_neg z, if_pos (show h ≤ 100 by omega)]
          rfl
      | some p =>
        have hp := ho p hb
        have eB : oB (some p) = aI p.2 := rfl
        have el : limB (some p) = p.2 := rfl
        simp only [eB, p_soon (show p.2 ≤ 101 by omega) hl, o_bd_some, (aI_lt hl).1, el]
        by_cases z : h ≤ p.2
        · rw [if_neg (show ¬ h = 101 by omega), if_pos z]
          simp only [if_neg (show ¬ p.2 < h by omega)]
          rfl
        · rw [if_neg z]
          simp only [if_pos (show p.2 < h by omega)]
          by_cases y : h = 101
          · rw [if_pos y]
            rfl
          · rw [if_neg y]
            rfl
    · left
      rw [if_neg e6]
      rcases hz with hz | hz
      · refine ⟨f, ?_⟩
        rw [hz, if_neg e6]
        rfl
      · exact absurd hz e6
theorem op_before (N : Nat) (hN : 300 ≤ N) : Op_before N Rel := by
  intro u v h a0
  obtain ⟨⟨⟨s, w1, w2, w3, w4⟩, hU⟩, -, -, -, h17, h19⟩ := id h
  have eq : u.1 0 0 0 1 = nI (s 0 1) := w3.1.2.1
  have eq' : v.1 9 0 0 1 = nI (s 0 1) := w4.1.2.1
  unfold f_X7_before f_X8_before
  have hA := p_hasC (t := u) (i := 9 * 0) (a := a0) eq w1.2.1
  have hB := p_isC (t := v) (a := a0) eq' w1.2.1
  by_cases h0 : inR a0 0 ((s 0 1 : Int) - 1)
  · rw [hA.1 h0, hB.1 h0, o_bd_some, o_bd_some]
    simp only [if_neg one_ne]
    obtain ⟨c, rfl, -, hc, hc2⟩ := inR_nat h0 (by omega)
    have hc : c < s 0 1 := by omega
    obtain ⟨t1, b1, b2, b3⟩ := p_beforeC hN w1 w2 w3 hc
    obtain ⟨f, d1⟩ := p_beforeR hN w1 w2 hc h17 h19 w4
    have e29 : v.1 9 0 4 (Int32.toNatClampNeg 29) = nI (s 0 3) := w4.1.2.2.2.1
    have i29 : o_inb 29 31 = true := by decide
    rw [b1, o_bd_some, if_pos i29, e29]
    simp only [o_nm]
    rw [d1]
    exact ⟨_, t1, _, by rw [b3], rfl, h.quiet b2 QR.side⟩
  · rw [hA.2 h0, hB.2 h0, o_bd_some, o_bd_some]
    exact ⟨-1, u, v, rfl, rfl, h⟩
