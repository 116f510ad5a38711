/-! BEST: the class goes through the tellings -/
def TC (s : Sx) (o : Nat → Nat) (m a : Nat) (t : Mm) : Prop := FR (t.1 0 19) s ∧ t.1 3 5 0 2 = nI m ∧ t.1 3 5 0 3 = nI a ∧ ∀ i, i < m → t.1 3 6 0 i = nI (o i)
def TL (s : Sx) (f o : Nat → Nat) (i : Nat) (t : Mm) : Prop := ∀ c, c < s 0 1 → t.1 3 7 0 c = nI (tlO s f o i c)
def BB (t : Mm) (b : Nat × Nat) : Prop := (t.1 3 5 0 5 = nI b.1 ∧ t.1 3 5 0 6 = nI b.2) ∧ b.1 ≤ 102 ∧ b.2 ≤ 32768
def lxl (a b : Nat × Nat) : Prop := a.1 < b.1 ∨ (a.1 = b.1 ∧ a.2 ≤ b.2)
theorem lxl.tr {a b c : Nat × Nat} (h : lxl a b) (h' : lxl b c) : lxl a c := by
  unfold lxl at *
  omega
theorem lxl.rf (a : Nat × Nat) : lxl a a := Or.inr ⟨rfl, Nat.le_refl _⟩
def vl (s : Sx) (f : Nat → Nat) : Nat × Nat := (lastV s f, pkF s f 5)
def TB (s : Sx) (o : Nat → Nat) (i : Nat) (f : Nat → Nat) (b b' : Nat × Nat) : Prop := lxl b' b ∧ (b' = b ∨ ∃ f', Vt s f' ∧ (∀ j, j < i → f' (o j) = f (o j)) ∧ b' = vl s f') ∧ ∀ f', Vt s f' → (∀ j, j < i → f' (o j) = f (o j)) → lxl b' (vl s f')
def TI (s : Sx) (o f : Nat → Nat) (i used tel : Nat) : Prop := (used < 256 ∧ ∀ q, q < 8 → (used / 2 ^ q % 2 = 1 ↔ s 0 2 / 2 ^ q % 2 = 1 ∨ ∃ j, j < i ∧ mem s (o j) ∧ f (o j) = q)) ∧ (∃ D : Nat → Nat, tel = pk5 D ∧ (∀ c, c < 5 → D c < 8) ∧ (∀ j, j < i → D (o j) = dgF s f (o j)) ∧ ∀ c, (∀ j, j < i → o j ≠ c) → D c = 0) ∧ (∀ c, ¬ mem s c → f c = s 0 0) ∧ (∀ j, j < i → mem s (o j) → f (o j) < s 0 0 ∧ s 0 2 / 2 ^ f (o j) % 2 = 0) ∧ ∀ j k, j < i → k < i → j ≠ k → mem s (o j) → mem s (o k) → f (o j) ≠ f (o k)
theorem p_coming {c : Nat} {t : Mm} {s : Sx} (hs : wfS s) (hH : s 0 3 ≤ 9999) (hF : FR (t.1 0 19) s) (hc : c < s 0 1) : f_X6_comingOf (nI c) t = some (nI (cmg s c), t) := by
  have h5 := hs.2.1
  have i1 : o_inb (nI c) 5 = true := inb_nI (by omega) (by omega)
  have e3 : t.1 0 19 0 3 = nI (s 0 3) := hF.1.2.2.2.1
  have e5 : t.1 0 19 5 c = nI (s 5 c) := (hF.2.2 c hc).2.2.1
  have f5 := (hs.2.2.2.2.2 c hc).2.2.1
  unfold f_X6_comingOf cmg
  have c1 : nI (s 0 3) < nI (s 5 c) ↔ s 0 3 < s 5 c := nIlt (by omega) (by omega)
  simp only [if_pos i1, cl_nI (show c < 2147483648 by omega), e3, e5, c1]
  by_cases e : s 0 3 < s 5 c
  · simp only [if_pos e]
  · simp only [if_neg e]
theorem p_inAt {N h : Nat} {t : Mm} {s : Sx} {T : Nat → Nat} (hN : 300 ≤ N) (hs : wfS s) (hF : FR (t.1 0 19) s) (hT : ∀ c, c < s 0 1 → t.1 3 7 0 c = nI (T c) ∧ T c < 1000000) (hh : h < 1000000) : f_X6_howManyAreInAt N (nI h) t = some (nI (numI T h (s 0 1)), t) := by
  have h5 := hs.2.1
  have e1 : t.1 0 19 0 1 = nI (s 0 1) := hF.1.2.1
  refine lp_up (body := fun k x => b_X6_howManyAreInAt_4 N k x.1 x.2.1 x.2.2.1 x.2.2.2) (fun o => o = some (nI (numI T h (s 0 1)), t)) (fun k x => x = (nI h, nI (numI T h k), nI k, t)) (s 0 1) (fun K x hx => ?_) (fun K k x hk hx => ?_) N 0 (nI h, 0, 0, t) (by omega) (by omega) rfl
  · subst hx
    show b_X6_howManyAreInAt_4 N K (nI h) (nI (numI T h (s 0 1))) (nI (s 0 1)) t = _
    unfold b_X6_howManyAreInAt_4
    rw [e1, if_pos Int32.le_rfl]
  · subst hx
    right
    refine ⟨(nI h, nI (numI T h (k + 1)), nI (k + 1), t), rfl, ?_⟩
    show b_X6_howManyAreInAt_4 N K (nI h) (nI (numI T h k)) (nI k) t = _
    unfold b_X6_howManyAreInAt_4 f_X6_howManyAreInAt_28
    have c1 : ¬ nI (s 0 1) ≤ nI k := fun z => absurd ((nIle (by omega) (by omega)).mp z) (by omega)
    have i1 : o_inb (nI k) 5 = true := inb_nI (by omega) (by omega)
    obtain ⟨u1, u2⟩ := hT k hk
    have c2 : nI (T k) ≤ nI h ↔ T k ≤ h := nIle (by omega) (by omega)
    simp only [e1, if_neg c1, if_pos i1, cl_nI (show k < 2147483648 by omega), u1, c2, nI_1]
    rw [numI]
    by_cases e : T k ≤ h
    · rw [if_pos e, if_neg (by omega)]
      rfl
    · rw [if_neg e, if_pos (by omega)]
theorem p_keep {x y : Nat} {t : Mm} {b : Nat × Nat} (hB : BB t b) (hx : x ≤ 102) (hy : y ≤ 32768) : ∃ t' b', f_X6_keepIfBetter (nI x) (nI y) t = some t' ∧ (∀ a c, ¬ (a = 3 ∧ c = 5) → t'.1 a c = t.1 a c) ∧ t'.2 = t.2 ∧ (∀ j, j < 5 → t'.1 3 5 0 j = t.1 3 5 0 j) ∧ BB t' b' ∧ lxl b' b ∧ lxl b' (x, y) ∧ (b' = b ∨ b' = (x, y)) := by
  obtain ⟨⟨e5, e6⟩, b1, b2⟩ := id hB
  have c1 : nI x < nI b.1 ↔ x < b.1 := nIlt (by omega) (by omega)
  have c2 : nI x = nI b.1 ↔ x = b.1 := nIeq (by omega) (by omega)
  have c3 : nI b.2 ≤ nI y ↔ b.2 ≤ y := nIle (by omega) (by omega)
  unfold f_X6_keepIfBetter f_X6_keepIfBetter_24
  simp only [e5, e6, c1, c2, c3, o_nm]
  have new : lxl (x, y) b → ∃ t' b', some (sI (sI t 3 5 0 5 (nI x)) 3 5 0 6 (nI y)) = some t' ∧ (∀ a c, ¬ (a = 3 ∧ c = 5) → t'.1 a c = t.1 a c) ∧ t'.2 = t.2 ∧ (∀ j, j < 5 → t'.1 3 5 0 j = t.1 3 5 0 j) ∧ BB t' b' ∧ lxl b' b ∧ lxl b' (x, y) ∧ (b' = b ∨ b' = (x, y)) := by
    intro h
    refine ⟨_, (x, y), rfl, fun a c hac => ?_, rfl, fun j hj => ?_, ⟨⟨rfl, rfl⟩, hx, hy⟩, h, lxl.rf _, Or.inr rfl⟩
    · rw [sI_nums hac, sI_nums hac]
    · rw [sI_at, upd_off (by omega), sI_at, upd_off (by omega)]
  by_cases z1 : x < b.1
  · rw [if_pos z1]
    exact new (Or.inl z1)
  · rw [if_neg z1]
    by_cases z2 : x = b.1
    · rw [if_pos z2]
      by_cases z3 : b.2 ≤ y
      · rw [if_pos z3]
        exact ⟨t, b, rfl, fun _ _ _ => rfl, rfl, fun _ _ => rfl, hB, lxl.rf _, Or.inr ⟨z2.symm, z3⟩, Or.inl rfl⟩
      · rw [if_neg z3]
        exact new (Or.inr ⟨z2, by show y ≤ b.2; omega⟩)
    · rw [if_neg z2]
      exact ⟨t, b, rfl, fun _ _ _ => rfl, rfl, fun _ _ => rfl, hB, lxl.rf _, Or.inl (by show b.1 < x; omega), Or.inl rfl⟩
theorem shl_all : ∀ c, c < 5 → ∀ q, q < 8 → nI q <<< ((3 * (4 - nI c)) &&& 31) = nI (q * 2 ^ (3 * (4 - c))) := by decide +kernel
def TR (s : Sx) (o : Nat → Nat) (m a i : Nat) (f : Nat → Nat) (t : Mm) (b : Nat × Nat) (r : Option Mm) : Prop := ∃ t' b', r = some t' ∧ FrC t t' ∧ TC s o m a t' ∧ TL s f o i t' ∧ BB t' b' ∧ TB s o i f b b'
theorem TI_next {s : Sx} {o f : Nat → Nat} {m i used tel q : Nat} (hs : wfS s) (hO : Ord s o m (s 0 1)) (hi : i < m) (hq : q < s 0 0) (hm : mem s (o i)) (hb : used / 2 ^ q % 2 = 0) (h : TI s o f i used tel) : TI s o (updN f (o i) q) (i + 1) (used ||| 2 ^ q) (tel ||| q * 2 ^ (3 * (4 - o i))) := by
  obtain ⟨⟨u1, u2⟩, ⟨D, d1, d2, d3, d4⟩, h3, h4, h5⟩ := h
  have h8 := hs.1
  have hC := hs.2.1
  have hne : ∀ j, j < i → o j ≠ o i := fun j hj z => by
    have := hO.inj (show j < m by omega) hi z
    omega
  have hold : ∀ j, j < i → updN f (o i) q (o j) = f (o j) := fun j hj => updN_off (hne j hj)
  have hnew : updN f (o i) q (o i) = q := updN_at
  have ub := u2 q (by omega)
  have nA : ¬ s 0 2 / 2 ^ q % 2 = 1 := fun z => by
    have := ub.mpr (Or.inl z)
    omega
  have nU : ∀ j, j < i → mem s (o j) → f (o j) ≠ q := fun j hj mj z => by
    have := ub.mpr (Or.inr ⟨j, hj, mj, z⟩)
    omega
  refine ⟨⟨?_, fun k hk => ?_⟩, ⟨updN D (o i) q, ?_, fun c hc => ?_, fun j hj => ?_, fun c hc => ?_⟩, fun c hc => ?_, fun j hj mj => ?_, fun j k hj hk hjk mj mk => ?_⟩
  · show (used ||| 2 ^ q) < 2 ^ 8
    exact Nat.or_lt_two_pow u1 (Nat.pow_lt_pow_right (by decide) (by omega))
  · rw [or_bit]
    by_cases e : k = q
    · rw [if_pos e]
      exact ⟨fun _ => Or.inr ⟨i, by omega, hm, by rw [hnew, e]⟩, fun _ => rfl⟩
    · rw [if_neg e, u2 k hk]
      constructor
      · rintro (z | ⟨j, z1, z2, z3⟩)
        · exact Or.inl z
        · exact Or.inr ⟨j, by omega, z2, by rw [hold j z1]; exact z3⟩
      · rintro (z | ⟨j, z1, z2, z3⟩)
        · exact Or.inl z
        · by_cases e2 : j = i
          · rw [e2, hnew] at z3
            exact absurd z3.symm e
          · rw [hold j (by omega)] at z3
            exact Or.inr ⟨j, by omega, z2, z3⟩
  · rw [d1]
    exact pk5_or d2 (by have := hm.1; omega) (d4 (o i) hne) (by omega)
  · by_cases e : c = o i
    · rw [e, updN_at]
      omega
    · rw [updN_off e]
      exact d2 c hc
  · by_cases e : j = i
    · rw [e, updN_at]
      unfold dgF
      rw [hnew, if_pos hq]
    · rw [updN_off (hne j (by omega)), d3 j (by omega)]
      unfold dgF
      rw [hold j (by omega)]
  · rw [updN_off (fun z => hc i (by omega) z.symm)]
    exact d4 c (fun j hj => hc j (by omega))
  · rw [updN_off (fun z => hc (by rw [z]; exact hm))]
    exact h3 c hc
  · by_cases e : j = i
    · rw [e, hnew]
      exact ⟨hq, by omega⟩
    · rw [hold j (by omega)]
      exact h4 j (by omega) mj
  · by_cases e : j = i
    · have hk' : k < i := by omega
      rw [e, hnew, hold k hk']
      exact fun z => nU k hk' mk z.symm
    · by_cases e2 : k = i
      · rw [e2, hnew, hold j (by omega)]
        exact nU j (by omega) mj
      · rw [hold j (by omega), hold k (by omega)]
        exact h5 j k (by omega) (by omega) hjk mj mk
theorem p_tell106 {N m a i used tel : Nat} {s : Sx} {o f : Nat → Nat} {t : Mm} {b : Nat × Nat} {kR : Int32 × Int32 × Int32 × Int32 × Mm → Option Mm} (hN : 300 ≤ N) (hs : wfS s) (hH : s 0 3 ≤ 9999) (hO : Ord s o m (s 0 1)) (hi : i < m) (hm : mem s (o i)) (hI : TI s o f i used tel) (hC : TC s o m a t) (hL : TL s f o i t) (hB : BB t b) (hR : ∀ q t1 b1, q < s 0 0 → used / 2 ^ q % 2 = 0 → TC s o m a t1 → TL s (updN f (o i) q) o (i + 1) t1 → BB t1 b1 → TR s o m a (i + 1) (updN f (o i) q) t1 b1 (kR (nI (i + 1), nI (used ||| 2 ^ q), nI (ltO s (updN f (o i) q) o (i + 1)), nI (tel ||| q * 2 ^ (3 * (4 - o i))), t1))) : TR s o m a i f t b (f_X6_tell_106 N kR (nI i) (nI used) (nI (ltO s f o i)) (nI tel) (nI (o i)) (nI (cmg s (o i))) (nI (numI (tlO s f o i) (cmg s (o i)) (s 0 1))) 0 t) := by
  have h8 := hs.1
  have h5 := hs.2.1
  have hoi := hO.2.1 i hi
  have hne : ∀ j, j < i → o j ≠ o i := fun j hj z => by
    have := hO.inj (show j < m by omega) hi z
    omega
  have hold : ∀ q j, j < i → updN f (o i) q (o j) = f (o j) := fun q j hj => updN_off (hne j hj)
  have hu := hI.1
  refine lp_up (body := fun k x => b_X6_tell_106 N kR k x.1 x.2.1 x.2.2.1 x.2.2.2.1 x.2.2.2.2.1 x.2.2.2.2.2.1 x.2.2.2.2.2.2.1 x.2.2.2.2.2.2.2.1 x.2.2.2.2.2.2.2.2) (TR s o m a i f t b) (fun k x => ∃ t1 b1, x = (nI i, nI used, nI (ltO s f o i), nI tel, nI (o i), nI (cmg s (o i)), nI (numI (tlO s f o i) (cmg s (o i)) (s 0 1)), nI k, t1) ∧ FrC t t1 ∧ TC s o m a t1 ∧ TL s f o i t1 ∧ BB t1 b1 ∧ lxl b1 b ∧ (b1 = b ∨ ∃ f', Vt s f' ∧ (∀ j, j < i → f' (o j) = f (o j)) ∧ b1 = vl s f') ∧ ∀ f', Vt s f' → (∀ j, j < i → f' (o j) = f (o j)) → f' (o i) < k → lxl b1 (vl s f')) (s 0 0) (fun K x hx => ?_) (fun K k x hk hx => ?_) N 0 (nI i, nI used, nI (ltO s f o i), nI tel, nI (o i), nI (cmg s (o i)), nI (numI (tlO s f o i) (cmg s (o i)) (s 0 1)), 0, t) (by omega) (by omega) ⟨t, b, rfl, FrC.rfl' t, hC, hL, hB, lxl.rf b, Or.inl rfl, fun f' _ _ h => absurd h (Nat.not_lt_zero _)⟩
  · obtain ⟨t1, b1, rfl, a1, a2, a3, a4, a5, a6, a7⟩ := hx
    refine ⟨t1, b1, ?_, a1, a2, a3, a4, a5, a6, fun f' v1 v2 => a7 f' v1 v2 (v1.1 _ hm).1⟩
    show b_X6_tell_106 N kR K _ _ _ _ _ _ _ (nI (s 0 0)) t1 = _
    unfold b_X6_tell_106
    have e0 : t1.1 0 19 0 0 = nI (s 0 0) := a2.1.1.1
    rw [e0, if_pos Int32.le_rfl]
  · obtain ⟨t1, b1, rfl, a1, a2, a3, a4, a5, a6, a7⟩ := hx
    right
    show ∃ x', _ ∧ b_X6_tell_106 N kR K (nI i) (nI used) (nI (ltO s f o i)) (nI tel) (nI (o i)) (nI (cmg s (o i))) (nI (numI (tlO s f o i) (cmg s (o i)) (s 0 1))) (nI k) t1 = _
    unfold b_X6_tell_106 f_X6_tell_195 f_X6_shiftOf
    have e0 : t1.1 0 19 0 0 = nI (s 0 0) := a2.1.1.1
    have c1 : ¬ nI (s 0 0) ≤ nI k := fun z => absurd ((nIle (by omega) (by omega)).mp z) (by omega)
    have i5 : o_inb (nI (o i)) 5 = true := inb_nI (by omega) (by omega)
    have hcb := cmg_b hs hoi.1
    rw [e0, if_neg c1, p_isIn (by omega) (by omega), o_bd_some]
    simp only []
    rcases bit01 (m := used) (k := k) with e | e
    · rw [e]
      simp only [show nI 0 = 0 from rfl, ite_true]
      rw [p_among hs a2.1 hoi.1 hk (by omega), o_bd_some]
      simp only [if_pos i5, cl_nI (show o i < 2147483648 by omega), o_nm, nI_add, o_bd_some]
      have et : cmg s (o i) + hrs s (numI (tlO s f o i) (cmg s (o i)) (s 0 1)) (o i) k (cmg s (o i)) = tlV s (tlO s f o i) (o i) k := rfl
      rw [et]
      have tb := tlV_b (T := tlO s f o i) hs hoi.1 hk
      have er : (sI t1 3 7 0 (o i) (nI (tlV s (tlO s f o i) (o i) k))).1 3 7 0 (o i) = nI (tlV s (tlO s f o i) (o i) k) := by
        rw [sI_at, upd_at]
      have hl := ltO_b (f := f) hs hO (show i ≤ m by omega)
      have cl : nI (ltO s f o i) < nI (tlV s (tlO s f o i) (o i) k) ↔ ltO s f o i < tlV s (tlO s f o i) (o i) k := nIlt (by omega) (by omega)
      have tn : tlO s (updN f (o i) k) o (i + 1) = updN (tlO s f o i) (o i) (tlV s (tlO s f o i) (o i) k) := by
        rw [tlO, updN_at, if_pos hk, tlO_cg i (hold k)]
      have ln : ltO s (updN f (o i) k) o (i + 1) = if ltO s f o i < tlV s (tlO s f o i) (o i) k then tlV s (tlO s f o i) (o i) k else ltO s f o i := by
        have el : ltE s (updN f (o i) k) o i = tlV s (tlO s f o i) (o i) k := by
          unfold ltE
          rw [updN_at, if_pos hk, tn, updN_at]
        rw [ltO, el, ltO_cg i (hold k)]
      have ei : (if nI (ltO s f o i) < nI (tlV s (tlO s f o i) (o i) k) then nI (tlV s (tlO s f o i) (o i) k) else nI (ltO s f o i)) = nI (ltO s (updN f (o i) k) o (i + 1)) := by
        rw [ln]
        by_cases z : ltO s f o i < tlV s (tlO s f o i) (o i) k
        · rw [if_pos z, if_pos (cl.mpr z)]
        · rw [if_neg z, if_neg (fun y => z (cl.mp y))]
      rw [er, ei, nI_1, nI_shl1 (by omega), nI_or, shl_all (o i) (by omega) k (by omega), nI_or]
      have hfr : FrC t1 (sI t1 3 7 0 (o i) (nI (tlV s (tlO s f o i) (o i) k))) := FrC.sI (by unfold scr; omega)
      have hTC : TC s o m a (sI t1 3 7 0 (o i) (nI (tlV s (tlO s f o i) (o i) k))) := a2
      have hTL : TL s (updN f (o i) k) o (i + 1) (sI t1 3 7 0 (o i) (nI (tlV s (tlO s f o i) (o i) k))) := by
        intro c hc
        rw [sI_at, tn]
        by_cases z : c = o i
        · rw [z, upd_at, updN_at]
        · rw [upd_off z, updN_off z]
          exact a3 c hc
      obtain ⟨t2, b2, g1, g2, g3, g4, g5, g6, g7, g8⟩ := hR k _ b1 hk e hTC hTL a4
      rw [g1, o_bd_some]
      simp only [nI_1]
      refine ⟨_, ⟨sI t2 3 7 0 (o i) 0, b2, rfl, (a1.tr hfr).tr (g2.tr (FrC.sI (by unfold scr; omega))), g3, fun c hc => ?_, g5, g6.tr a5, ?_, fun f' v1 v2 v3 => ?_⟩, rfl⟩
      · rw [sI_at]
        by_cases z : c = o i
        · rw [z, upd_at, tlO_off i hne, if_neg (by omega)]
          rfl
        · rw [upd_off z, g4 c hc, tn, updN_off z]
      · rcases g7 with g7 | ⟨f', v1, v2, v3⟩
        · rw [g7]
          exact a6
        · exact Or.inr ⟨f', v1, fun j hj => by rw [v2 j (by omega), hold k j hj], v3⟩
      · by_cases z : f' (o i) = k
        · refine g8 f' v1 (fun j hj => ?_)
          by_cases y : j = i
          · rw [y, updN_at, z]
          · rw [hold k j (by omega)]
            exact v2 j (by omega)
        · exact g6.tr (a7 f' v1 v2 (by omega))
    · rw [e]
      simp only [if_neg (show ¬ nI 1 = 0 by decide), nI_1]
      refine ⟨_, ⟨t1, b1, rfl, a1, a2, a3, a4, a5, a6, fun f' v1 v2 v3 => ?_⟩, rfl⟩
      by_cases z : f' (o i) = k
      · exfalso
        have w := (hu.2 k (by omega)).mp e
        have w1 := v1.1 _ hm
        rw [z] at w1
        rcases w with w | ⟨j, w2, w3, w4⟩
        · omega
        · exact v1.2.1 (o j) (o i) w3 hm (hne j w2) (by rw [v2 j w2, w4, z])
      · exact a7 f' v1 v2 (by omega)
