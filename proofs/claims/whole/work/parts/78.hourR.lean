/-! an hour of the reference's row -/
def kdO (v : Mm) : Nat → Int32 := fun k => if nI k = v.1 9 0 0 17 then v.1 9 0 0 18 else v.1 9 0 3 k
abbrev SD (v : Mm) (f : Nat → Int32) (s : Sx) : Prop := RR (v.1 9 0 0 0) (v.1 9 0 0 1) (v.1 9 0 2) (kdO v) f s
theorem sI_sR {t : Mm} {a b c j : Nat} {f : Nat → Int32} {x : Int32} : sI (sR t a b c f) a b c j x = sR t a b c (upd f j x) := by
  unfold sI
  rw [sR_at, sR_sR]
theorem lit19 {k : Nat} (hk : k < 5) (n : Nat) (hn : n ≤ 24) : o_inb (nI n + nI k) 31 = true ∧ (nI n + nI k).toNatClampNeg = n + k := by
  rw [nI_add]
  exact ⟨inb_nI (by omega) (by omega), cl_nI (by omega)⟩
theorem p_oth {N c : Nat} {t : Mm} {s : Sx} (hN : 300 ≤ N) (hs : wfS s) (hc : c < 5) (hR : SD t (t.1 9 0 5) s) : f_X8_othersIn N (nI c) t = some (nI (othN s c (s 0 1)), t) := by
  have h5 := hs.2.1
  have e1 : t.1 9 0 0 1 = nI (s 0 1) := hR.1.2.1
  refine lp_up (body := fun k x => b_X8_othersIn_4 N k x.1 x.2.1 x.2.2.1 x.2.2.2) (fun o => o = some (nI (othN s c (s 0 1)), t)) (fun k x => x = (nI c, nI (othN s c k), nI k, t)) (s 0 1) (fun K x hx => ?_) (fun K k x hk hx => ?_) N 0 (nI c, 0, 0, t) (by omega) (by omega) rfl
  · subst hx
    show b_X8_othersIn_4 N K (nI c) (nI (othN s c (s 0 1))) (nI (s 0 1)) t = _
    unfold b_X8_othersIn_4
    rw [e1, if_pos Int32.le_rfl]
  · subst hx
    right
    refine ⟨(nI c, nI (othN s c (k + 1)), nI (k + 1), t), rfl, ?_⟩
    show b_X8_othersIn_4 N K (nI c) (nI (othN s c k)) (nI k) t = _
    unfold b_X8_othersIn_4 f_X8_othersIn_35 f_X8_othersIn_36
    have c1 : ¬ nI (s 0 1) ≤ nI k := fun z => absurd ((nIle (by omega) (by omega)).mp z) (by omega)
    obtain ⟨i1, l1⟩ := lit19 (k := k) (by omega) 19 (by omega)
    have i1 : o_inb (19 + nI k) 31 = true := i1
    have l1 : ((19 : Int32) + nI k).toNatClampNeg = 19 + k := l1
    obtain ⟨u3, u4, u5, u6, u7⟩ := hR.2.2.1 k hk
    have f6 := (hs.2.2.2.2.2 k hk).2.2.2.1
    have c6 : nI (s 6 k) = 1 ↔ s 6 k = 1 := nIeq (b := 1) (by omega) (by omega)
    have ck : nI k = nI c ↔ k = c := nIeq (by omega) (by omega)
    simp only [e1, if_neg c1, if_pos i1, l1, u6, nI_1]
    rw [othN, at1]
    by_cases e : k = c
    · rw [if_pos (ck.mpr e), if_pos e]
      show K (nI c, nI _ + nI 0, _, t) = _
      rw [nI_add]
    · rw [if_neg (fun z => e (ck.mp z)), if_neg e]
      by_cases g : s 6 k = 1
      · rw [if_pos (c6.mpr g), if_pos g]
      · rw [if_neg (fun z => g (c6.mp z)), if_neg g]
        show K (nI c, nI _ + nI 0, _, t) = _
        rw [nI_add]
theorem p_ho141 {N x : Nat} {t : Mm} (h : x < 1000) : f_X8_hoursOf_141 N (nI x) t = some (nI (if 1 ≤ x then x else 1), t) := by
  unfold f_X8_hoursOf_141
  have c : (1 : Int32) ≤ nI x ↔ 1 ≤ x := nIle (a := 1) (by omega) (by omega)
  by_cases e : 1 ≤ x
  · rw [if_pos (c.mpr e), if_pos e]
  · rw [if_neg (fun z => e (c.mp z)), if_neg e]
    rfl
theorem p_ho121 {N x h kd : Nat} {t : Mm} (hx0 : 1 ≤ x) (hx : x < 1000) (hk : kd < 5) (hh : t.1 9 0 5 29 = nI h) (hb : h < 1000000) : f_X8_hoursOf_121 N (nI kd) (nI x) t = some (nI (if kd = 4 then (if h % 2 = 0 then (if 1 ≤ x - 1 then x - 1 else 1) else x) else x), t) := by
  unfold f_X8_hoursOf_121
  have e29 : t.1 9 0 5 (Int32.toNatClampNeg 29) = nI h := hh
  have em : nI h - nI h / 2 * 2 = nI (h % 2) := pk_rem (d := 2) (by omega) (by omega) (by omega)
  have eh : nI (h % 2) = 0 ↔ h % 2 = 0 := nIeq (b := 0) (by omega) (by omega)
  have ck : nI kd = 4 ↔ kd = 4 := nIeq (b := 4) (by omega) (by omega)
  have i29 : o_inb 29 31 = true := by decide
  simp only [e29, em, if_pos i29]
  by_cases e : kd = 4
  · rw [if_pos (ck.mpr e), if_pos e]
    by_cases g : h % 2 = 0
    · rw [if_pos (eh.mpr g), if_pos g]
      obtain ⟨y, rfl⟩ : ∃ y, x = y + 1 := ⟨x - 1, by omega⟩
      rw [pk_m1, p_ho141 (by omega), Nat.add_sub_cancel]
    · rw [if_neg (fun z => g (eh.mp z)), if_neg g, p_ho141 (by omega), if_pos hx0]
  · rw [if_neg (fun z => e (ck.mp z)), if_neg e, p_ho141 (by omega), if_pos hx0]
theorem p_ho80 {N c x kd : Nat} {t : Mm} {s : Sx} (hN : 300 ≤ N) (hs : wfS s) (hh : s 0 3 < 1000000) (hc : c < s 0 1) (hR : SD t (t.1 9 0 5) s) (hx0 : 1 ≤ x) (hx : x ≤ 18) (hk : kd < 5) : f_X8_hoursOf_80 N (nI c) (nI kd) (nI x) t = some (nI (if kd = 3 then x + othN s c (s 0 1) else if kd = 2 then (if 2 < x then 2 else x) else if kd = 4 then (if s 0 3 % 2 = 0 then 1 else (if 2 < x then 2 else x)) else x), t) := by
  have h5 := hs.2.1
  have ho := othN_le s c (s 0 1)
  have e29 : t.1 9 0 5 29 = nI (s 0 3) := hR.1.2.2.2.1
  have e107 : ∀ kd, kd = 2 ∨ kd = 4 → f_X8_hoursOf_107 N (nI kd) (nI x) t = some (nI (if kd = 4 then (if s 0 3 % 2 = 0 then 1 else (if 2 < x then 2 else x)) else (if 2 < x then 2 else x)), t) := by
    intro kd hkd
    unfold f_X8_hoursOf_107 f_X8_hoursOf_119
    have c2 : nI x ≤ 2 ↔ x ≤ 2 := nIle (b := 2) (by omega) (by omega)
    by_cases g : x ≤ 2
    · rw [if_pos (c2.mpr g), p_ho121 hx0 (by omega) (by omega) e29 (by omega), if_neg (show ¬ 2 < x by omega)]
      rcases (show x = 1 ∨ x = 2 by omega) with rfl | rfl <;> rfl
    · rw [if_neg (fun z => g (c2.mp z)), if_pos (show 2 < x by omega)]
      show f_X8_hoursOf_121 N (nI kd) (nI 2) t = _
      rw [p_ho121 (by omega) (by omega) (by omega) e29 (by omega)]
      rfl
  unfold f_X8_hoursOf_80 f_X8_hoursOf_97
  rcases (show kd = 0 ∨ kd = 1 ∨ kd = 2 ∨ kd = 3 ∨ kd = 4 by omega) with rfl | rfl | rfl | rfl | rfl
  · simp only [if_neg (show ¬ nI 0 = 3 by decide), if_neg (show ¬ nI 0 = 2 by decide), if_neg (show ¬ nI 0 = 4 by decide)]
    rw [p_ho121 hx0 (by omega) (by omega) e29 (by omega)]
    rfl
  · simp only [if_neg (show ¬ nI 1 = 3 by decide), if_neg (show ¬ nI 1 = 2 by decide), if_neg (show ¬ nI 1 = 4 by decide)]
    rw [p_ho121 hx0 (by omega) (by omega) e29 (by omega)]
    rfl
  · simp only [if_neg (show ¬ nI 2 = 3 by decide), if_pos (show nI 2 = 2 by decide)]
    rw [e107 2 (by omega)]
    rfl
  · simp only [if_pos (show nI 3 = 3 by decide), if_neg (show ¬ nI 3 = 2 by decide), if_neg (show ¬ nI 3 = 4 by decide)]
    rw [p_oth hN hs (by omega) hR, o_bd_some]
    simp only []
    rw [nI_add, p_ho121 (by omega) (by omega) (by omega) e29 (by omega)]
    rfl
  · simp only [if_neg (show ¬ nI 4 = 3 by decide), if_neg (show ¬ nI 4 = 2 by decide), if_pos (show nI 4 = 4 by decide)]
    rw [e107 4 (by omega)]
    rfl
theorem p_hoursOf {N c q : Nat} {t : Mm} {s : Sx} (hN : 300 ≤ N) (hs : wfS s) (hh : s 0 3 < 1000000) (hR : SD t (t.1 9 0 5) s) (hc : c < s 0 1) (hq : q < s 0 0) : f_X8_hoursOf N (nI c) (nI q) t = some (nI (hrs s (othN s c (s 0 1)) c q (s 0 3)), t) := by
  have h5 := hs.2.1
  have h8 := hs.1
  obtain ⟨u3, u4, u5, u6, u7⟩ := hR.2.2.1 c hc
  obtain ⟨r1, r2⟩ := hR.2.1 q hq
  obtain ⟨f3, f4, -⟩ := hs.2.2.2.2.2 c hc
  obtain ⟨g1, g2, g3⟩ := hs.2.2.2.2.1 q hq
  have i0 : o_inb (nI c) 5 = true := inb_nI (by omega) (by omega)
  have hk : f_X8_hoursOf N (nI c) (nI q) t = f_X8_hoursOf_21 N (nI c) (nI q) (nI (s 3 c)) t := by
    unfold f_X8_hoursOf
    unfold kdO at u3
    by_cases e : nI c = t.1 9 0 0 17
    · rw [if_pos e] at u3
      rw [if_pos e, u3]
    · rw [if_neg e] at u3
      rw [if_neg e, if_pos i0, cl_nI (by omega), u3]
  rw [hk]
  unfold f_X8_hoursOf_21 f_X8_hoursOf_71
  obtain ⟨i1, l1⟩ := lit19 (k := c) (by omega) 9 (by omega)
  have i1 : o_inb (9 + nI c) 31 = true := i1
  have l1 : ((9 : Int32) + nI c).toNatClampNeg = 9 + c := l1
  have i2 : o_inb (nI q) 8 = true := inb_nI (by omega) (by omega)
  have i3 : o_inb (1 + nI q) 31 = true := by rw [show (1 : Int32) = nI 1 from rfl, nI_add]; exact inb_nI (by omega) (by omega)
  have l3 : ((1 : Int32) + nI q).toNatClampNeg = 1 + q := by rw [show (1 : Int32) = nI 1 from rfl, nI_add, cl_nI (by omega)]
  simp only [if_pos i1, if_pos i2, if_pos i3, l1, l3, cl_nI (show q < 2147483648 by omega), u4, r1, r2, o_nm]
  rw [p_has (by omega) (by omega), o_bd_some]
  simp only [r2, show (2 : Int32) * nI (s 2 q) = nI (2 * s 2 q) from pk_mul 2 _]
  have e80 := fun x h1 h2 => p_ho80 (N := N) (c := c) (x := x) (kd := s 3 c) hN hs hh hc hR h1 h2 f3
  unfold hrs
  simp only []
  have c1 : nI (s 3 c) = 1 ↔ s 3 c = 1 := nIeq (b := 1) (by omega) (by omega)
  have c3 : nI (s 3 c) = 3 ↔ s 3 c = 3 := nIeq (b := 3) (by omega) (by omega)
  simp only [c1, c3]
  rcases bit01 (m := s 4 c) (k := s 1 q) with e | e
  · rw [e]
    simp only [if_pos (show nI 0 = 0 from rfl), ite_true]
    rw [e80 (2 * s 2 q) (by omega) (by omega), e80 (s 2 q) (by omega) (by omega)]
    rcases (show s 3 c = 0 ∨ s 3 c = 1 ∨ s 3 c = 2 ∨ s 3 c = 3 ∨ s 3 c = 4 by omega) with e | e | e | e | e <;> rw [e] <;> rfl
  · rw [e]
    simp only [if_neg (show ¬ nI 1 = 0 by decide), if_neg (show ¬ 1 = 0 by decide)]
    show f_X8_hoursOf_80 N (nI c) (nI (s 3 c)) (nI 1) t = _
    rw [e80 1 (by omega) (by omega)]
    rcases (show s 3 c = 0 ∨ s 3 c = 1 ∨ s 3 c = 2 ∨ s 3 c = 3 ∨ s 3 c = 4 by omega) with e | e | e | e | e <;> rw [e] <;> rfl
theorem p_lowest {N : Nat} {t : Mm} {s : Sx} (hN : 300 ≤ N) (hs : wfS s) (hR : SD t (t.1 9 0 5) s) : f_X8_lowestLeft N t = some (qI (s 0 0) (lowQ s), t) := by
  have h8 := hs.1
  have ha := asked_lt hs
  have e0 : t.1 9 0 0 0 = nI (s 0 0) := hR.1.1
  have e2 : t.1 9 0 5 0 = nI (s 0 2) := hR.1.2.2.1
  have hq0 : qI (s 0 0) (lqr (s 0 2) (s 0 0) 0) = -4 := if_neg (Nat.lt_irrefl _)
  unfold f_X8_lowestLeft
  rw [e0]
  refine lp_up (body := fun k x => b_X8_lowestLeft_10 N k x.1 x.2.1 x.2.2) (fun o => o = some (qI (s 0 0) (lowQ s), t)) (fun k x => x = (qI (s 0 0) (lqr (s 0 2) (s 0 0) k), (if k < s 0 0 then nI (s 0 0 - 1 - k) else -1), t)) (s 0 0) (fun K x hx => ?_) (fun K k x hk hx => ?_) N 0 (-4, nI (s 0 0) - 1, t) (by omega) (by omega) ?_
  · subst hx
    rw [if_neg (Nat.lt_irrefl _)]
    rfl
  · subst hx
    right
    refine ⟨_, rfl, ?_⟩
    rw [if_pos hk]
    show b_X8_lowestLeft_10 N K (qI (s 0 0) (lqr (s 0 2) (s 0 0) k)) (nI (s 0 0 - 1 - k)) t = _
    unfold b_X8_lowestLeft_10 f_X8_lowestLeft_32
    have c1 : ¬ nI (s 0 0 - 1 - k) < 0 := nI_pos (by omega)
    have e2' : t.1 9 0 5 (Int32.toNatClampNeg 0) = nI (s 0 2) := e2
    have i0 : o_inb 0 31 = true := by decide
    rw [if_neg c1, if_pos i0, e2', p_has (by omega) (by omega), o_bd_some]
    have em : nI (s 0 0 - 1 - k) + -1 = if k + 1 < s 0 0 then nI (s 0 0 - 1 - (k + 1)) else -1 := by
      by_cases g : k + 1 < s 0 0
      · rw [if_pos g, show s 0 0 - 1 - k = (s 0 0 - 1 - (k + 1)) + 1 by omega, pk_m1]
      · rw [if_neg g, show s 0 0 - 1 - k = 0 by omega]
        rfl
    rw [lqr]
    rcases bit01 (m := s 0 2) (k := s 0 0 - 1 - k) with e | e
    · rw [e, if_pos (show (0 : Nat) = 0 from rfl)]
      simp only [if_pos (show nI 0 = 0 from rfl), em]
      unfold qI
      rw [if_pos (show s 0 0 - 1 - k < s 0 0 by omega)]
    · rw [e, if_neg (show ¬ (1 : Nat) = 0 by decide)]
      simp only [if_neg (show ¬ nI 1 = 0 by decide), em]
  · rw [hq0]
    by_cases g : 0 < s 0 0
    · rw [if_pos g, show (1 : Int32) = nI 1 from rfl, pk_sub (by omega)]
      rfl
    · rw [if_neg g, show s 0 0 = 0 by omega]
      rfl
/-- whom the reference asks what: the lowest question that is left, or as it is told -/
def HT (t : Mm) (Q : Nat) (fq : Sx → Nat → Nat) : Prop := (t.1 9 0 0 19 = 0 ∧ fq = lowF) ∨ (t.1 9 0 0 19 = 1 ∧ ∃ told : Nat → Nat, fq = (fun _ c => told c) ∧ ∀ c, c < 5 → nI c < t.1 9 0 0 1 → t.1 9 0 20 c = qI Q (told c))
theorem p_goComes20 {N c q : Nat} {t : Mm} {s : Sx} (hN : 300 ≤ N) (hs : wfS s) (hh : s 0 3 ≤ 20000) (hR : SD t (t.1 9 0 5) s) (hc : c < s 0 1) : ∃ f, f_X8_goComes_20 N (nI c) (qI (s 0 0) q) t = some (sR t 9 0 5 f) ∧ SD t f (LI s c q) := by
  have h5 := hs.2.1
  have h8 := hs.1
  obtain ⟨i19, l19⟩ := lit19 (k := c) (by omega) 19 (by omega)
  have i19 : o_inb (19 + nI c) 31 = true := i19
  have l19 : ((19 : Int32) + nI c).toNatClampNeg = 19 + c := l19
  obtain ⟨i24, l24⟩ := lit19 (k := c) (by omega) 24 (by omega)
  have i24 : o_inb (24 + nI c) 31 = true := i24
  have l24 : ((24 : Int32) + nI c).toNatClampNeg = 24 + c := l24
  have i0 : o_inb 0 31 = true := by decide
  have i29 : o_inb 29 31 = true := by decide
  have e29 : t.1 9 0 5 29 = nI (s 0 3) := hR.1.2.2.2.1
  have e0 : t.1 9 0 5 0 = nI (s 0 2) := hR.1.2.2.1
  unfold f_X8_goComes_20 LI
  by_cases hq : q < s 0 0
  · have eq : qI (s 0 0) q = nI q := if_pos hq
    have ne : ¬ nI q = -4 := by
      intro z
      have : (nI q).toInt = (-4 : Int32).toInt := by rw [z]
      rw [nI_toInt (by omega), show (-4 : Int32).toInt = -4 from rfl] at this
      omega
    rw [if_pos hq]
    simp only [eq, if_neg ne, if_pos i0, if_pos i29, if_pos i19, if_pos i24, l19, l24]
    rw [p_hoursOf hN hs (by omega) hR hc hq, o_bd_some]
    simp only [o_nm, show Int32.toNatClampNeg 29 = 29 from rfl, show Int32.toNatClampNeg 0 = 0 from rfl, e29, nI_add, nI_shl1 (show q < 31 by omega)]
    generalize hx : nI (s 0 3 + hrs s (othN s c (s 0 1)) c q (s 0 3)) = X
    refine ⟨upd (upd (upd (t.1 9 0 5) (24 + c) X) 0 (nI (s 0 2 ||| 2 ^ q))) (19 + c) (nI 1), ?_, ?_⟩
    · rw [sI_at (t := t), upd_off (by omega), e0, nI_or]
      show some (sI (sI (sR t 9 0 5 _) 9 0 5 _ _) 9 0 5 _ _) = _
      rw [sI_sR, sI_sR]
      rfl
    · subst hx
      rw [u2_comm (r := 6) (by omega)]
      have a1 := RR_set (r := 7) (k := c) (x := s 0 3 + hrs s (othN s c (s 0 1)) c q (s 0 3)) hR h8 h5 (by unfold okS; omega) (fun z => by omega)
      have a2 := RR_set (r := 0) (k := 2) (x := s 0 2 ||| 2 ^ q) a1 h8 h5 (by unfold okS; omega) (fun z => by omega)
      refine RR_set (r := 6) (k := c) (x := 1) a2 h8 h5 (Or.inr (Or.inr (Or.inr (Or.inr (Or.inl ⟨rfl, hc⟩))))) (fun _ _ => ?_)
      show upd (upd (t.1 9 0 5) (24 + c) _) 0 _ (24 + c) = _
      rw [upd_off (by omega), upd_at]
      simp [u2]
  · have eq : qI (s 0 0) q = -4 := if_neg hq
    rw [if_neg hq]
    simp only [eq, if_pos i19, o_nm, l19, ite_true]
    refine ⟨upd (t.1 9 0 5) (19 + c) (nI 2), rfl, ?_⟩
    exact RR_set (r := 6) (k := c) (x := 2) hR h8 h5 (Or.inr (Or.inr (Or.inr (Or.inr (Or.inl ⟨rfl, hc⟩))))) (fun _ z => by omega)
theorem p_goComes {N c : Nat} {t : Mm} {s : Sx} {fq : Sx → Nat → Nat} (hN : 300 ≤ N) (hs : wfS s) (hh : s 0 3 ≤ 20000) (hR : SD t (t.1 9 0 5) s) (hc : c < s 0 1) (hT : HT t (s 0 0) fq) : ∃ f, f_X8_goComes N (nI c) t = some (sR t 9 0 5 f) ∧ SD t f (LI s c (fq s c)) := by
  have h5 := hs.2.1
  unfold f_X8_goComes
  rcases hT with ⟨h0, rfl⟩ | ⟨h1, told, rfl, hT⟩
  · rw [if_pos h0, p_lowest hN hs hR, o_bd_some]
    exact p_goComes20 hN hs hh hR hc
  · have i1 : o_inb (nI c) 5 = true := inb_nI (by omega) (by omega)
    rw [h1, if_neg (by decide), if_pos i1, cl_nI (by omega), hT c (by omega) (by rw [show t.1 9 0 0 1 = nI (s 0 1) from hR.1.2.1]; exact (nIlt (by omega) (by omega)).mpr hc)]
    exact p_goComes20 hN hs hh hR hc
theorem p_go65 {N : Nat} {t : Mm} {s : Sx} (hN : 300 ≤ N) (h8 : s 0 0 ≤ 8) (h5 : s 0 1 ≤ 5) (hh : s 0 3 ≤ 20001) (h7 : ∀ k, k < s 0 1 → s 6 k ≤ 2 ∧ (s 6 k = 1 → s 7 k ≤ 30000)) (hR : SD t (t.1 9 0 5) s) : ∃ f, f_X8_goHour_65 N 0 t = some (sR t 9 0 5 f) ∧ SD t f (OV s (s 0 1)) := by
  have e1 : t.1 9 0 0 1 = nI (s 0 1) := hR.1.2.1
  refine lp_up (body := fun k x => b_X8_goHour_65 N k x.1 x.2) (fun o => ∃ f, o = some (sR t 9 0 5 f) ∧ SD t f (OV s (s 0 1))) (fun k x => x.1 = nI k ∧ ∃ f, x.2 = sR t 9 0 5 f ∧ SD t f (OV s k)) (s 0 1) (fun K x hx => ?_) (fun K k x hk hx => ?_) N 0 (0, t) (by omega) (by omega) ⟨rfl, t.1 9 0 5, sR_self.symm, by rw [OV_0]; exact hR⟩
  · obtain ⟨x1, t1⟩ := x
    obtain ⟨rfl, f, hf, a3⟩ := hx
    have hf : t1 = sR t 9 0 5 f := hf
    subst hf
    refine ⟨f, ?_, a3⟩
    show b_X8_goHour_65 N K (nI (s 0 1)) (sR t 9 0 5 f) = _
    unfold b_X8_goHour_65
    have e1' : (sR t 9 0 5 f).1 9 0 0 1 = nI (s 0 1) := e1
    rw [e1', if_pos Int32.le_rfl]
  · obtain ⟨x1, t1⟩ := x
    obtain ⟨rfl, f, hf, a3⟩ := hx
    have hf : t1 = sR t 9 0 5 f := hf
    subst hf
    right
    show ∃ x', _ ∧ b_X8_goHour_65 N K (nI k) (sR t 9 0 5 f) = _
    unfold b_X8_goHour_65 f_X8_goHour_125
    have e1' : (sR t 9 0 5 f).1 9 0 0 1 = nI (s 0 1) := e1
    have e3 : f 29 = nI (s 0 3) := a3.1.2.2.2.1
    have c1 : ¬ nI (s 0 1) ≤ nI k := fun z => absurd ((nIle (by omega) (by omega)).mp z) (by omega)
    obtain ⟨i19, l19⟩ := lit19 (k := k) (by omega) 19 (by omega)
    have i19 : o_inb (19 + nI k) 31 = true := i19
    have l19 : ((19 : Int32) + nI k).toNatClampNeg = 19 + k := l19
    obtain ⟨i24, l24⟩ := lit19 (k := k) (by omega) 24 (by omega)
    have i24 : o_inb (24 + nI k) 31 = true := i24
    have l24 : ((24 : Int32) + nI k).toNatClampNeg = 24 + k := l24
    have i29 : o_inb 29 31 = true := by decide
    have o6 : OV s k 6 k = s 6 k := if_neg (by omega)
    obtain ⟨u3, u4, u5, u6, u7⟩ := a3.2.2.1 k hk
    rw [o6] at u6 u7
    have u7 : s 6 k = 1 → f (24 + k) = nI (s 7 k) := u7
    have hb := h7 k hk
    have c6 : nI (s 6 k) = 1 ↔ s 6 k = 1 := nIeq (b := 1) (by omega) (by omega)
    simp only [e1', if_neg c1, if_pos i19, if_pos i24, if_pos i29, l19, l24, show Int32.toNatClampNeg 29 = 29 from rfl, sR_at, e3, u6, o_nm, nI_1, sI_sR]
    by_cases e : s 6 k = 1
    · rw [if_pos (c6.mpr e), u7 e]
      have c7 : nI (s 0 3) < nI (s 7 k) ↔ s 0 3 < s 7 k := nIlt (by omega) (by have := hb.2 e; omega)
      by_cases g : s 0 3 < s 7 k
      · rw [if_pos (c7.mpr g)]
        exact ⟨(nI (k + 1), sR t 9 0 5 f), ⟨rfl, f, rfl, by rw [OV_n (by omega)]; exact a3⟩, rfl⟩
      · rw [if_neg (fun z => g (c7.mp z))]
        refine ⟨(nI (k + 1), _), ⟨rfl, _, rfl, ?_⟩, rfl⟩
        rw [OV_y ⟨e, by omega⟩]
        have a4 := RR_set (r := 6) (k := k) (x := 2) a3 h8 h5 (Or.inr (Or.inr (Or.inr (Or.inr (Or.inl ⟨rfl, hk⟩))))) (fun _ z => by omega)
        have a5 : RR (t.1 9 0 0 0) (t.1 9 0 0 1) (t.1 9 0 2) (kdO t) (upd f (19 + k) 2) (u2 (OV s k) 6 k 2) := a4
        obtain ⟨b1, b2, b3, b4⟩ := a5
        refine ⟨?_, fun j hj => ?_, fun j hj => ?_, fun j hj hj5 => ?_⟩
        · rw [upd_off (by omega), upd_off (show 29 ≠ 24 + k by omega), upd_off (show 30 ≠ 24 + k by omega)]
          exact b1
        · have hj8 : j < 8 := Nat.lt_of_lt_of_le hj h8
          rw [upd_off (show 1 + j ≠ 24 + k by omega)]
          exact b2 j hj
        · have hj5 : j < 5 := Nat.lt_of_lt_of_le hj h5
          rw [upd_off (show 9 + j ≠ 24 + k by omega), upd_off (show 14 + j ≠ 24 + k by omega), upd_off (show 19 + j ≠ 24 + k by omega)]
          obtain ⟨d3, d4, d5, d6, d7⟩ := b3 j hj
          refine ⟨d3, d4, d5, d6, fun z => ?_⟩
          have hjk : j ≠ k := by
            intro y
            subst y
            unfold u2 at z
            simp at z
          rw [upd_off (by omega)]
          exact d7 z
        · rw [upd_off (by omega)]
          exact b4 j hj hj5
    · rw [if_neg (fun z => e (c6.mp z))]
      exact ⟨(nI (k + 1), sR t 9 0 5 f), ⟨rfl, f, rfl, by rw [OV_n (by omega)]; exact a3⟩, rfl⟩
theorem p_goHour {N : Nat} {t : Mm} {s : Sx} {fq : Sx → Nat → Nat} (hN : 300 ≤ N) (hs : wfS s) (hh : s 0 3 ≤ 20000) (hR : SD t (t.1 9 0 5) s) (hT : HT t (s 0 0) fq) : ∃ f, f_X8_goHour N t = some (sR t 9 0 5 f) ∧ SD t f (PH fq s) := by
  have h5 := hs.2.1
  have h8 := hs.1
  have e1 : t.1 9 0 0 1 = nI (s 0 1) := hR.1.2.1
  have i29 : o_inb 29 31 = true := by decide
  refine lp_up (body := fun k x => b_X8_goHour_2 N k x.1 x.2) (fun o => ∃ f, o = some (sR t 9 0 5 f) ∧ SD t f (PH fq s)) (fun k x => x.1 = nI k ∧ ∃ f, x.2 = sR t 9 0 5 f ∧ SD t f (CM fq s k)) (s 0 1) (fun K x hx => ?_) (fun K k x hk hx => ?_) N 0 (0, t) (by omega) (by omega) ⟨rfl, t.1 9 0 5, sR_self.symm, hR⟩
  · obtain ⟨x1, t1⟩ := x
    obtain ⟨rfl, f, hf, a3⟩ := hx
    have hf : t1 = sR t 9 0 5 f := hf
    subst hf
    show ∃ g, b_X8_goHour_2 N K (nI (s 0 1)) (sR t 9 0 5 f) = some (sR t 9 0 5 g) ∧ _
    unfold b_X8_goHour_2
    have k0 := CM_keep (f := fq) (s := s) (r := 0) (k := 0) (Or.inl (by unfold fixd; omega)) (s 0 1)
    have k1 := CM_keep (f := fq) (s := s) (r := 0) (k := 1) (Or.inl (by unfold fixd; omega)) (s 0 1)
    have k3 := CM_keep (f := fq) (s := s) (r := 0) (k := 3) (Or.inr ⟨rfl, rfl⟩) (s 0 1)
    have hw := wf_CM (f := fq) hs (s 0 1) (Nat.le_refl _)
    have e1' : (sR t 9 0 5 f).1 9 0 0 1 = nI (s 0 1) := e1
    have e3 : f 29 = nI (s 0 3) := by rw [← k3]; exact a3.1.2.2.2.1
    simp only [e1', if_pos Int32.le_rfl, if_pos i29, show Int32.toNatClampNeg 29 = 29 from rfl, sR_at, e3, nI_1, o_nm, sI_sR]
    have q0 : u2 (CM fq s (s 0 1)) 0 3 (s 0 3 + 1) 0 0 = s 0 0 := k0
    have q1 : u2 (CM fq s (s 0 1)) 0 3 (s 0 3 + 1) 0 1 = s 0 1 := k1
    have q3 : u2 (CM fq s (s 0 1)) 0 3 (s 0 3 + 1) 0 3 = s 0 3 + 1 := rfl
    have a4 := RR_set (r := 0) (k := 3) (x := s 0 3 + 1) a3 (by rw [k0]; exact h8) (by rw [k1]; exact h5) (by unfold okS; omega) (fun z => by omega)
    obtain ⟨g, b1, b2⟩ := p_go65 (N := N) (t := sR t 9 0 5 (upd f 29 (nI (s 0 3 + 1)))) (s := u2 (CM fq s (s 0 1)) 0 3 (s 0 3 + 1)) hN (by rw [q0]; exact h8) (by rw [q1]; exact h5) (by rw [q3]; omega) (fun k hk => by
      rw [q1] at hk
      show CM fq s (s 0 1) 6 k ≤ 2 ∧ (CM fq s (s 0 1) 6 k = 1 → CM fq s (s 0 1) 7 k ≤ 30000)
      obtain ⟨-, -, -, g6, g7⟩ := hw.2.2.2.2.2 k (by rw [k1]; exact hk)
      rw [k3] at g7
      exact ⟨g6, fun z => by have := g7 z; omega⟩) (by rw [sR_at]; exact a4)
    rw [q1] at b2
    exact ⟨g, by rw [b1, sR_sR], b2⟩
  · obtain ⟨x1, t1⟩ := x
    obtain ⟨rfl, f, hf, a3⟩ := hx
    have hf : t1 = sR t 9 0 5 f := hf
    subst hf
    right
    show ∃ x', _ ∧ b_X8_goHour_2 N K (nI k) (sR t 9 0 5 f) = _
    unfold b_X8_goHour_2 f_X8_goHour_46
    have k0 := CM_keep (f := fq) (s := s) (r := 0) (k := 0) (Or.inl (by unfold fixd; omega)) k
    have k1 := CM_keep (f := fq) (s := s) (r := 0) (k := 1) (Or.inl (by unfold fixd; omega)) k
    have k3 := CM_keep (f := fq) (s := s) (r := 0) (k := 3) (Or.inr ⟨rfl, rfl⟩) k
    have hw := wf_CM (f := fq) hs k (by omega)
    have e1' : (sR t 9 0 5 f).1 9 0 0 1 = nI (s 0 1) := e1
    have e3 : f 29 = nI (CM fq s k 0 3) := a3.1.2.2.2.1
    have c1 : ¬ nI (s 0 1) ≤ nI k := fun z => absurd ((nIle (by omega) (by omega)).mp z) (by omega)
    obtain ⟨i19, l19⟩ := lit19 (k := k) (by omega) 19 (by omega)
    have i19 : o_inb (19 + nI k) 31 = true := i19
    have l19 : ((19 : Int32) + nI k).toNatClampNeg = 19 + k := l19
    obtain ⟨i14, l14⟩ := lit19 (k := k) (by omega) 14 (by omega)
    have i14 : o_inb (14 + nI k) 31 = true := i14
    have l14 : ((14 : Int32) + nI k).toNatClampNeg = 14 + k := l14
    obtain ⟨u3, u4, u5, u6, u7⟩ := a3.2.2.1 k (by rw [k1]; exact hk)
    obtain ⟨f3, f4, f5, f6, f7⟩ := hw.2.2.2.2.2 k (by rw [k1]; exact hk)
    have c6 : nI (CM fq s k 6 k) = 0 ↔ CM fq s k 6 k = 0 := nIeq (b := 0) (by omega) (by omega)
    have c5 : nI (CM fq s k 0 3) < nI (CM fq s k 5 k) ↔ CM fq s k 0 3 < CM fq s k 5 k := nIlt (by omega) (by omega)
    simp only [e1', if_neg c1, if_pos i19, if_pos i14, if_pos i29, l19, l14, show Int32.toNatClampNeg 29 = 29 from rfl, sR_at, e3, u5, u6, o_nm, nI_1]
    rw [CM]
    by_cases e : CM fq s k 6 k = 0
    · rw [if_pos (c6.mpr e)]
      by_cases g : CM fq s k 0 3 < CM fq s k 5 k
      · rw [if_pos (c5.mpr g), if_neg (by omega)]
        exact ⟨(nI (k + 1), sR t 9 0 5 f), ⟨rfl, f, rfl, a3⟩, rfl⟩
      · rw [if_neg (fun z => g (c5.mp z)), if_pos ⟨e, by omega⟩]
        obtain ⟨g, b1, b2⟩ := p_goComes (N := N) (c := k) (t := sR t 9 0 5 f) (s := CM fq s k) (fq := fq) hN hw (by omega) (by rw [sR_at]; exact a3) (by rw [k1]; exact hk) (by rw [k0]; exact hT)
        rw [b1, o_bd_some]
        exact ⟨(nI (k + 1), sR (sR t 9 0 5 f) 9 0 5 g), ⟨rfl, g, sR_sR, b2⟩, rfl⟩
    · rw [if_neg (fun z => e (c6.mp z)), if_neg (fun z => e z.1)]
      exact ⟨(nI (k + 1), sR t 9 0 5 f), ⟨rfl, f, rfl, a3⟩, rfl⟩
theorem p_placed {N w : Nat} {t : Mm} {s : Sx} (hN : 300 ≤ N) (hs : wfS s) (hw : w ≤ 2) (hR : SD t (t.1 9 0 5) s) : f_X8_placed N (nI w) t = some (nI (setN s w (s 0 1)), t) := by
  have h5 := hs.2.1
  have e1 : t.1 9 0 0 1 = nI (s 0 1) := hR.1.2.1
  refine lp_up (body := fun k x => b_X8_placed_4 N k x.1 x.2.1 x.2.2.1 x.2.2.2) (fun o => o = some (nI (setN s w (s 0 1)), t)) (fun k x => x = (nI w, nI (setN s w k), nI k, t)) (s 0 1) (fun K x hx => ?_) (fun K k x hk hx => ?_) N 0 (nI w, 0, 0, t) (by omega) (by omega) rfl
  · subst hx
    show b_X8_placed_4 N K (nI w) (nI (setN s w (s 0 1))) (nI (s 0 1)) t = _
    unfold b_X8_placed_4
    rw [e1, if_pos Int32.le_rfl]
  · subst hx
    right
    refine ⟨(nI w, nI (setN s w (k + 1)), nI (k + 1), t), rfl, ?_⟩
    show b_X8_placed_4 N K (nI w) (nI (setN s w k)) (nI k) t = _
    unfold b_X8_placed_4 f_X8_placed_33
    have c1 : ¬ nI (s 0 1) ≤ nI k := fun z => absurd ((nIle (by omega) (by omega)).mp z) (by omega)
    obtain ⟨i19, l19⟩ := lit19 (k := k) (by omega) 19 (by omega)
    have i19 : o_inb (19 + nI k) 31 = true := i19
    have l19 : ((19 : Int32) + nI k).toNatClampNeg = 19 + k := l19
    obtain ⟨u3, u4, u5, u6, u7⟩ := hR.2.2.1 k hk
    have f6 := (hs.2.2.2.2.2 k hk).2.2.2.1
    have c6 : nI (s 6 k) = nI w ↔ s 6 k = w := nIeq (by omega) (by omega)
    simp only [e1, if_neg c1, if_pos i19, l19, u6, nI_1, nI_shl1 (show k < 31 by omega), nI_setor]
    rw [setN, at1]
    by_cases e : s 6 k = w
    · rw [if_pos (c6.mpr e), if_pos e, Nat.mul_one]
    · rw [if_neg (fun z => e (c6.mp z)), if_neg e, Nat.mul_zero, show (0 : Int32) = nI 0 from rfl, nI_or, Nat.or_zero]
      rfl
theorem p_inMany {N : Nat} {t : Mm} {s : Sx} (hN : 300 ≤ N) (hs : wfS s) (hR : SD t (t.1 9 0 5) s) : f_X8_inMany N t = some (nI (othN s 9 (s 0 1)), t) := by
  have h5 := hs.2.1
  have e1 : t.1 9 0 0 1 = nI (s 0 1) := hR.1.2.1
  refine lp_up (body := fun k x => b_X8_inMany_4 N k x.1 x.2.1 x.2.2) (fun o => o = some (nI (othN s 9 (s 0 1)), t)) (fun k x => x = (nI (othN s 9 k), nI k, t)) (s 0 1) (fun K x hx => ?_) (fun K k x hk hx => ?_) N 0 (0, 0, t) (by omega) (by omega) rfl
  · subst hx
    show b_X8_inMany_4 N K (nI (othN s 9 (s 0 1))) (nI (s 0 1)) t = _
    unfold b_X8_inMany_4
    rw [e1, if_pos Int32.le_rfl]
  · subst hx
    right
    refine ⟨(nI (othN s 9 (k + 1)), nI (k + 1), t), rfl, ?_⟩
    show b_X8_inMany_4 N K (nI (othN s 9 k)) (nI k) t = _
    unfold b_X8_inMany_4 f_X8_inMany_31
    have c1 : ¬ nI (s 0 1) ≤ nI k := fun z => absurd ((nIle (by omega) (by omega)).mp z) (by omega)
    obtain ⟨i19, l19⟩ := lit19 (k := k) (by omega) 19 (by omega)
    have i19 : o_inb (19 + nI k) 31 = true := i19
    have l19 : ((19 : Int32) + nI k).toNatClampNeg = 19 + k := l19
    obtain ⟨u3, u4, u5, u6, u7⟩ := hR.2.2.1 k hk
    have f6 := (hs.2.2.2.2.2 k hk).2.2.2.1
    have c6 : nI (s 6 k) = 1 ↔ s 6 k = 1 := nIeq (b := 1) (by omega) (by omega)
    simp only [e1, if_neg c1, if_pos i19, l19, u6, nI_1]
    rw [othN, at1, if_neg (show ¬ k = 9 by omega)]
    by_cases e : s 6 k = 1
    · rw [if_pos (c6.mpr e), if_pos e]
    · rw [if_neg (fun z => e (c6.mp z)), if_neg e]
      show K (nI _ + nI 0, _, t) = _
      rw [nI_add]
