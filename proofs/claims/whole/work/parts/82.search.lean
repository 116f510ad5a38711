/-! what is sought: spare, teaches, before -/
theorem FrC.ford {t t1 : Mm} {s : Sx} (h : FrC t t1) (hF : FR (t.1 0 0) s) : FR (t1.1 0 0) s := by
  rw [h.1 0 0 (by unfold scr; omega)]
  exact hF
def oW : Option (Nat × Nat) → Int32
  | none => -4
  | some p => nI p.1
def oB : Option (Nat × Nat) → Int32
  | none => -4
  | some p => aI p.2
def okO (o : Option (Nat × Nat)) : Prop := ∀ p, o = some p → p.1 < 100 ∧ p.2 ≤ 101
def upO (o : Option (Nat × Nat)) (w h : Nat) : Option (Nat × Nat) := match o with
  | none => some (w, h)
  | some p => if h < p.2 then some (w, h) else some p
theorem okO_up {o : Option (Nat × Nat)} {w h : Nat} (ho : okO o) (hw : w < 100) (hh : h ≤ 101) : okO (upO o w h) := by
  intro p hp
  unfold upO at hp
  split at hp
  · cases hp; exact ⟨hw, hh⟩
  · rename_i q
    split at hp
    · cases hp; exact ⟨hw, hh⟩
    · cases hp; exact ho _ rfl
def SS (t : Mm) (o : Option (Nat × Nat)) : Prop := t.1 3 4 0 1 = oW o ∧ ∀ p, o = some p → t.1 3 4 0 2 = nI p.2
theorem p_keepC {t : Mm} {o : Option (Nat × Nat)} {w h : Nat} (hs : SS t o) (ho : okO o) (hw : w < 100) (hh : h ≤ 101) : ∃ t' : Mm, f_X1_keepIfSooner (nI w) (nI h) t = some t' ∧ FrC t t' ∧ SS t' (upO o w h) := by
  unfold f_X1_keepIfSooner f_X1_keepIfSooner_17
  obtain ⟨h1, h2⟩ := hs
  have hf : FrC t (sI (sI t 3 4 0 1 (nI w)) 3 4 0 2 (nI h)) := (FrC.sI (by unfold scr; omega)).tr (FrC.sI (by unfold scr; omega))
  have hS : SS (sI (sI t 3 4 0 1 (nI w)) 3 4 0 2 (nI h)) (some (w, h)) := ⟨rfl, fun p hp => by cases hp; rfl⟩
  cases o with
  | none =>
    rw [if_pos (show t.1 3 4 0 1 = -4 from h1)]
    exact ⟨_, rfl, hf, hS⟩
  | some p =>
    have hp := ho p rfl
    have e1 : t.1 3 4 0 1 = nI p.1 := h1
    have e2 : t.1 3 4 0 2 = nI p.2 := h2 p rfl
    have c : nI p.2 ≤ nI h ↔ p.2 ≤ h := nIle (by omega) (by omega)
    rw [e1, if_neg (ne4 (by omega)), e2]
    simp only [c]
    have hu : upO (some p) w h = if h < p.2 then some (w, h) else some p := rfl
    rw [hu]
    by_cases g : p.2 ≤ h
    · rw [if_pos g, if_neg (show ¬ h < p.2 by omega)]
      exact ⟨t, rfl, FrC.rfl' t, h1, h2⟩
    · rw [if_neg g, if_pos (show h < p.2 by omega)]
      exact ⟨_, rfl, hf, hS⟩
theorem aI_lt {h : Nat} (hh : h ≤ 101) : (aI h = -4 ↔ h = 101) ∧ (h < 101 → aI h = nI h) := by
  unfold aI
  by_cases e : h < 101
  · rw [if_pos e]
    exact ⟨⟨fun z => absurd z (ne4 (by omega)), fun z => by omega⟩, fun _ => rfl⟩
  · rw [if_neg e]
    exact ⟨⟨fun _ => by omega, fun _ => rfl⟩, fun z => absurd z e⟩
theorem p_soon {a b : Nat} (ha : a ≤ 101) (hb : b ≤ 101) (t : Mm) : f_X8_isSooner (aI a) (aI b) t = some (if a < b then 1 else 0, t) := by
  have h24 : f_X8_isSooner_24 (nI a) (nI b) t = some (if a < b then 1 else 0, t) := by
    unfold f_X8_isSooner_24
    have c : nI b ≤ nI a ↔ b ≤ a := nIle (by omega) (by omega)
    by_cases e : b ≤ a
    · rw [if_pos (c.mpr e), if_neg (by omega)]
    · rw [if_neg (fun z => e (c.mp z)), if_pos (by omega)]
  have h12 : f_X8_isSooner_12 (aI b) (nI a) t = some (if a < b then 1 else 0, t) := by
    unfold f_X8_isSooner_12
    by_cases e : b = 101
    · rw [if_pos ((aI_lt hb).1.mpr e)]
      subst e
      exact h24
    · rw [if_neg (fun z => e ((aI_lt hb).1.mp z)), (aI_lt hb).2 (by omega)]
      exact h24
  unfold f_X8_isSooner
  by_cases e : a = 101
  · rw [if_pos ((aI_lt ha).1.mpr e)]
    subst e
    exact h12
  · rw [if_neg (fun z => e ((aI_lt ha).1.mp z)), (aI_lt ha).2 (by omega)]
    exact h12
theorem p_foundOr {t : Mm} {o : Option (Nat × Nat)} {a : Nat} (ha : a < 2) (hs : SS t o) (ho : okO o) : f_X7_foundOr (nI a) t = some (if a = 0 then oW o else oB o, t) := by
  unfold f_X7_foundOr
  obtain ⟨h1, h2⟩ := hs
  cases o with
  | none =>
    rw [if_pos (show t.1 3 4 0 1 = -4 from h1)]
    rcases (show a = 0 ∨ a = 1 by omega) with rfl | rfl <;> rfl
  | some p =>
    have hp := ho p rfl
    have e1 : t.1 3 4 0 1 = nI p.1 := h1
    rw [e1, if_neg (ne4 (by omega)), h2 p rfl, p_orNone hp.2, o_bd_some]
    rcases (show a = 0 ∨ a = 1 by omega) with rfl | rfl <;> rfl
theorem p_isAsked {i k : Nat} {t : Mm} {s : Sx} (hs : wfS s) (hF : FR (t.1 0 i) s) (hk : k < 8) : f_X0_isAsked i (nI k) t = some (nI (s 0 2 / 2 ^ k % 2), t) := by
  have ha := asked_lt hs
  have e2 : t.1 0 i 0 2 = nI (s 0 2) := hF.1.2.2.1
  unfold f_X0_isAsked
  rw [e2, p_isIn (by omega) (by omega), o_bd_some]
  rcases bit01 (m := s 0 2) (k := k) with e | e <;> rw [e] <;> rfl
def spF (s : Sx) : Nat → Option (Nat × Nat)
  | 0 => none
  | q + 1 => if s 0 2 / 2 ^ q % 2 = 0 then upO (spF s q) q (htl lowF allO (u2 s 0 2 (s 0 2 ||| 2 ^ q))) else spF s q
theorem okO_sp {s : Sx} : ∀ q, q ≤ 8 → okO (spF s q)
  | 0, _ => fun p hp => by cases hp
  | q + 1, hq => by
    rw [spF]
    have ih := okO_sp (s := s) q (by omega)
    split
    · exact okO_up ih (by omega) htl_le
    · exact ih
theorem p_spareC {N : Nat} {t : Mm} {s : Sx} (hN : 300 ≤ N) (hs : wfS s) (hh : s 0 3 ≤ 9999) (hF : FR (t.1 0 0) s) : ∃ t' : Mm, f_X1_seekSpare N (9 * 0) t = some t' ∧ FrC t t' ∧ SS t' (spF s (s 0 0)) := by
  have h8 := hs.1
  have h5 := hs.2.1
  have ha := asked_lt hs
  unfold f_X1_seekSpare
  refine lp_up (body := fun k x => b_X1_seekSpare_8 N (9 * 0) k x.1 x.2) (fun o => ∃ t' : Mm, o = some t' ∧ FrC t t' ∧ SS t' (spF s (s 0 0))) (fun k x => ∃ t1 : Mm, x = (nI k, t1) ∧ FrC t t1 ∧ SS t1 (spF s k)) (s 0 0) (fun K x hx => ?_) (fun K k x hk hx => ?_) N 0 (0, sI t 3 4 0 1 (-4)) (by omega) (by omega) ⟨_, rfl, FrC.sI (by unfold scr; omega), rfl, fun p hp => by cases hp⟩
  · obtain ⟨t1, rfl, a1, a2⟩ := hx
    have e0 : t1.1 0 (9 * 0) 0 0 = nI (s 0 0) := (a1.ford hF).1.1
    show ∃ t', b_X1_seekSpare_8 N (9 * 0) K (nI (s 0 0)) t1 = some t' ∧ _
    unfold b_X1_seekSpare_8
    rw [e0, if_pos Int32.le_rfl]
    exact ⟨t1, rfl, a1, a2⟩
  · obtain ⟨t1, rfl, a1, a2⟩ := hx
    right
    have f1 := a1.ford hF
    have e0 : t1.1 0 (9 * 0) 0 0 = nI (s 0 0) := f1.1.1
    have e2 : t1.1 0 (9 * 0) 0 2 = nI (s 0 2) := f1.1.2.2.1
    have c1 : ¬ nI (s 0 0) ≤ nI k := fun z => absurd ((nIle (by omega) (by omega)).mp z) (by omega)
    show ∃ x', _ ∧ b_X1_seekSpare_8 N (9 * 0) K (nI k) t1 = _
    unfold b_X1_seekSpare_8 f_X1_seekSpare_57 f_X0_everyone
    rw [e0, if_neg c1, p_isAsked hs f1 (by omega), o_bd_some, spF]
    rcases bit01 (m := s 0 2) (k := k) with e | e
    · rw [e, if_pos rfl]
      obtain ⟨t2, b1, b2, b3, b4⟩ := p_start hs f1
      have e2' : t2.1 0 18 0 2 = nI (s 0 2) := b4.1.2.2.1
      have hlt : s 0 2 ||| 2 ^ k < 2 ^ s 0 0 := Nat.or_lt_two_pow hs.2.2.1 (Nat.pow_lt_pow_right (by decide) hk)
      have hw : wfS (u2 s 0 2 (s 0 2 ||| 2 ^ k)) := wf_asked hs hlt
      have f3 : FR ((sI t2 0 18 0 2 (nI (s 0 2 ||| 2 ^ k))).1 0 18) (u2 s 0 2 (s 0 2 ||| 2 ^ k)) := by
        rw [sI_v2]
        exact FR_set b4 (by unfold okS; omega) (fun z => by omega)
      obtain ⟨t3, d1, d2, d3⟩ := p_tillAll (N := N) (n := s 0 1) hN hw (show s 0 3 ≤ 19000 by omega) f3 rfl
      have fr : FrC t1 t3 := ((FrC.of (by unfold scr; omega) b2 b3).tr (FrC.sI (by unfold scr; omega))).tr (FrC.of (by unfold scr; omega) d2 d3)
      have hS : SS t3 (spF s k) := by
        have e34 : t3.1 3 4 = t1.1 3 4 := by rw [d2 3 4 (by omega), sI_nums (by omega), b2 3 4 (by omega)]
        unfold SS
        rw [e34]
        exact a2
      obtain ⟨t4, g1, g2, g3⟩ := p_keepC (w := k) (h := htl lowF allO (u2 s 0 2 (s 0 2 ||| 2 ^ k))) hS (okO_sp k (by omega)) (by omega) htl_le
      have e1' : (sI t2 0 18 0 2 (nI (s 0 2 ||| 2 ^ k))).1 0 (9 * 0) 0 1 = nI (s 0 1) := by
        rw [sI_nums (by omega), b2 0 (9 * 0) (by omega)]
        exact f1.1.2.1
      refine ⟨(nI (k + 1), t4), ⟨t4, rfl, (a1.tr fr).tr g2, g3⟩, ?_⟩
      simp only [if_pos (show nI 0 = 0 from rfl), b1, o_bd_some, o_nm, e2', nI_shl1 (show k < 31 by omega), nI_or, e1', ev_all (s 0 1) (by omega), d1, g1, nI_1]
    · rw [e, if_neg (by decide)]
      refine ⟨(nI (k + 1), t1), ⟨t1, rfl, a1, a2⟩, ?_⟩
      simp only [if_neg (show ¬ nI 1 = 0 by decide), nI_1]
theorem oW_none {o : Option (Nat × Nat)} (ho : okO o) : oW o = -4 ↔ o = none := by
  cases o with
  | none => exact ⟨fun _ => rfl, fun _ => rfl⟩
  | some p =>
    have := ho p rfl
    exact ⟨fun z => absurd (show nI p.1 = -4 from z) (ne4 (by omega)), fun z => by cases z⟩
theorem p_spareR {N a : Nat} {v : Mm} {s : Sx} (hN : 300 ≤ N) (ha : a < 2) (hs : wfS s) (hh : s 0 3 ≤ 9999) (h17 : v.1 9 0 0 17 = -4) (h19 : v.1 9 0 0 19 = 0) (hR : RR (v.1 9 0 0 0) (v.1 9 0 0 1) (v.1 9 0 2) (v.1 9 0 3) (v.1 9 0 4) s) : ∃ f, f_X8_spare_21 N (nI a) (-4) (-4) 0 v = some (if a = 0 then oW (spF s (s 0 0)) else oB (spF s (s 0 0)), sR v 9 0 5 f) := by
  have h8 := hs.1
  have h5 := hs.2.1
  have hak := asked_lt hs
  have i0 : o_inb 0 31 = true := by decide
  refine lp_up (body := fun k x => b_X8_spare_21 N k x.1 x.2.1 x.2.2.1 x.2.2.2.1 x.2.2.2.2) (fun o => ∃ f, o = some (if a = 0 then oW (spF s (s 0 0)) else oB (spF s (s 0 0)), sR v 9 0 5 f)) (fun k x => ∃ f, x = (nI a, oW (spF s k), oB (spF s k), nI k, sR v 9 0 5 f)) (s 0 0) (fun K x hx => ?_) (fun K k x hk hx => ?_) N 0 (nI a, -4, -4, 0, v) (by omega) (by omega) ⟨v.1 9 0 5, by rw [sR_self]; rfl⟩
  · obtain ⟨f, rfl⟩ := hx
    refine ⟨f, ?_⟩
    have e0 : (sR v 9 0 5 f).1 9 0 0 0 = nI (s 0 0) := hR.1.1
    show b_X8_spare_21 N K (nI a) (oW (spF s (s 0 0))) (oB (spF s (s 0 0))) (nI (s 0 0)) (sR v 9 0 5 f) = _
    unfold b_X8_spare_21
    rw [e0, if_pos Int32.le_rfl]
    rcases (show a = 0 ∨ a = 1 by omega) with rfl | rfl <;> rfl
  · obtain ⟨f, rfl⟩ := hx
    right
    have e0 : (sR v 9 0 5 f).1 9 0 0 0 = nI (s 0 0) := hR.1.1
    have e2 : (sR v 9 0 5 f).1 9 0 4 (Int32.toNatClampNeg 0) = nI (s 0 2) := hR.1.2.2.1
    have c1 : ¬ nI (s 0 0) ≤ nI k := fun z => absurd ((nIle (by omega) (by omega)).mp z) (by omega)
    show ∃ x', _ ∧ b_X8_spare_21 N K (nI a) (oW (spF s k)) (oB (spF s k)) (nI k) (sR v 9 0 5 f) = _
    unfold b_X8_spare_21 f_X8_spare_113 f_X8_spare_82 f_X8_spare_87 f_X8_spare_100 f_X8_spare_112 f_X8_spare_113
    rw [e0, if_neg c1, if_pos i0, e2, p_has (by omega) (by omega), o_bd_some, spF]
    rcases bit01 (m := s 0 2) (k := k) with e | e
    · rw [e, if_pos rfl]
      have hlt : s 0 2 ||| 2 ^ k < 2 ^ s 0 0 := Nat.or_lt_two_pow hs.2.2.1 (Nat.pow_lt_pow_right (by decide) hk)
      have hw : wfS (u2 s 0 2 (s 0 2 ||| 2 ^ k)) := wf_asked hs hlt
      obtain ⟨g, b1, b2⟩ := p_asideR (N := N) (v := sR v 9 0 5 f) hN hs h17 hR
      rw [sR_sR] at b1
      have b2 : SD v g s := b2
      have eg : g 0 = nI (s 0 2) := b2.1.2.2.1
      have b3 : SD v (upd g 0 (nI (s 0 2 ||| 2 ^ k))) (u2 s 0 2 (s 0 2 ||| 2 ^ k)) := RR_set (r := 0) (k := 2) b2 h8 h5 (by unfold okS; omega) (fun z => by omega)
      obtain ⟨j, d1⟩ := p_lastHour (N := N) (t := sR v 9 0 5 (upd g 0 (nI (s 0 2 ||| 2 ^ k)))) (s := u2 s 0 2 (s 0 2 ||| 2 ^ k)) (fq := lowF) hN hw (show s 0 3 ≤ 19000 by omega) (by rw [sR_at]; exact b3) (HT_low h19)
      rw [sR_sR] at d1
      simp only [if_pos (show nI 0 = 0 from rfl), b1, o_bd_some, o_nm, if_pos i0, show Int32.toNatClampNeg 0 = 0 from rfl, sR_at, eg, nI_shl1 (show k < 31 by omega), nI_or, sI_sR, d1, nI_1]
      have hl := htl_le (f := lowF) (p := allO) (s := u2 s 0 2 (s 0 2 ||| 2 ^ k))
      generalize htl lowF allO (u2 s 0 2 (s 0 2 ||| 2 ^ k)) = h at *
      have ho := okO_sp (s := s) k (by omega)
      refine ⟨_, ⟨j, rfl⟩, ?_⟩
      cases ho' : spF s k with
      | none => rfl
      | some p =>
        rw [ho'] at ho
        have hp := ho p rfl
        have n4 : ¬ oW (some p) = -4 := ne4 (show p.1 < 1000000 by omega)
        have hu : upO (some p) k h = if h < p.2 then some (k, h) else some p := rfl
        have eB : oB (some p) = aI p.2 := rfl
        rw [if_neg n4, eB, p_soon hl hp.2, o_bd_some, hu]
        by_cases z : h < p.2
        · simp only [if_pos z]
          rfl
        · simp only [if_neg z]
          rfl
    · rw [e, if_neg (by decide)]
      simp only [if_neg (show ¬ nI 1 = 0 by decide), nI_1]
      exact ⟨_, ⟨f, rfl⟩, rfl⟩
theorem op_spare (N : Nat) (hN : 300 ≤ N) : Op_spare N Rel := by
  intro u v h a0
  obtain ⟨⟨⟨s, w1, w2, w3, w4⟩, hU⟩, -, -, -, h17, h19⟩ := id h
  unfold f_X7_spare f_X8_spare
  have hA := p_out (a := a0) (lo := 0) (hi := 1) (l := 0) (h := 1) u rfl rfl
  have hB := p_in (a := a0) (lo := 0) (hi := 1) (l := 0) (h := 1) v rfl rfl
  by_cases h0 : inR a0 0 1
  · rw [hA.1 h0, hB.1 h0, o_bd_some, o_bd_some]
    simp only [if_neg one_ne, ite_true]
    obtain ⟨a, rfl, -, ha, ha2⟩ := inR_nat h0 (by omega)
    obtain ⟨t1, b1, b2, b3⟩ := p_spareC hN w1 w2 w3
    obtain ⟨f, d1⟩ := p_spareR (a := a) hN (by omega) w1 w2 h17 h19 w4
    rw [b1, o_bd_some, p_foundOr (by omega) b3 (okO_sp _ w1.1), o_bd_some, d1]
    exact ⟨_, t1, _, rfl, rfl, h.quiet b2 QR.side⟩
  · rw [hA.2 h0, hB.2 h0, o_bd_some, o_bd_some]
    exact ⟨-1, u, v, rfl, rfl, h⟩
