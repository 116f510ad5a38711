theorem c_addC {t : Mm} {n p K W C : Nat} {u : Mm} {s : Sx} (h : CI n u t p s) (h5 : s 0 1 < 5) (hK : K < 5) (hW : W < 256) (hC : C ≤ 40) : ∃ t', f_X2_readCrosser_65 0 (nI K) (nI W) (nI C) t = some (1, t') ∧ CI n u t' p (adC s K W C) := by
  obtain ⟨a1, a2, a3, a4, a5⟩ := h
  have e0 : t.1 0 20 0 1 = nI (s 0 1) := a4.1.2.1
  have c : nI (s 0 1) < 5 := (nIlt (b := 5) (by omega) (by omega)).mpr h5
  have i1 : o_inb (nI (s 0 1)) 5 = true := inb_nI h5 (by omega)
  unfold f_X2_readCrosser_65 f_X0_addCrosser
  simp only [if_neg (ne4 (show C < 1000000 by omega)), e0, if_pos c, if_pos i1, cl_nI (show s 0 1 < 2147483648 by omega), o_nm, o_bd_some]
  have e1 : (sI (sI (sI (sI (sI t 0 20 3 (s 0 1) (nI K)) 0 20 4 (s 0 1) (nI W)) 0 20 5 (s 0 1) (nI C)) 0 20 6 (s 0 1) 0) 0 20 7 (s 0 1) 0).1 0 20 0 1 = nI (s 0 1) := e0
  rw [e1, nI_1]
  have hsc : scr 0 20 := by unfold scr; omega
  refine ⟨_, rfl, (((((a1.tr (FrC.sI hsc)).tr (FrC.sI hsc)).tr (FrC.sI hsc)).tr (FrC.sI hsc)).tr (FrC.sI hsc)).tr (FrC.sI hsc), a2, a3, ?_, WX_C a5 h5 hK hW hC⟩
  simp only [sI_v2]
  exact FX_C a4
theorem c_rc2 {N n p K W : Nat} {ch : Nat → Nat} {u t : Mm} {s : Sx} (hN : 300 ≤ N) (hT : TP u n ch) (h : CI n u t p s) (h5 : s 0 1 < 5) (hK : K < 5) (hW : W < 256) : resC n u (f_X2_readCrosser_48 N (nI K) (nI W) t) (rc2F n ch K W p s) := by
  obtain ⟨t1, b1, b2⟩ := h.acc (x := 64) hN hT (by omega)
  have b1 : f_X2_accepts N 64 t = _ := b1
  unfold f_X2_readCrosser_48 rc2F
  rw [b1, o_bd_some]
  by_cases e : lk n ch p = 64
  · simp only [if_pos e, if_neg one_ne] at b2 ⊢
    obtain ⟨d1, d2⟩ := c_coming hN (b2.1.TP hT) b2.2.2.1 b2.2.1
    cases hc : cmF n ch (sk n ch p + 1) with
    | inl b =>
      obtain ⟨t2, g1, g2, g3, g4⟩ := d1 b hc
      rw [g1, o_bd_some]
      unfold f_X2_readCrosser_65
      simp only [ite_true]
      exact ⟨t2, rfl, (b2.mv g2 g3 g4).1, g3, g4⟩
    | inr x =>
      obtain ⟨t2, g1, g2, g3, g4, g5⟩ := d2 x hc
      rw [g1, o_bd_some]
      obtain ⟨t3, m1, m2⟩ := c_addC (b2.mv g2 g3 g4) h5 hK hW g5
      exact ⟨t3, m1, m2⟩
  · simp only [if_neg e, ite_true] at b2 ⊢
    obtain ⟨t3, m1, m2⟩ := c_addC (C := 0) b2 h5 hK hW (by omega)
    exact ⟨t3, m1, m2⟩
theorem kdL_lt {n : Nat} {ch : Nat → Nat} {q : Nat} (h : kdL (lt' n ch q) < 5) : q < n := by
  refine lt_n (ch := ch) (fun z => ?_)
  rw [z] at h
  exact absurd h (by decide)
theorem c_rc {N n p : Nat} {ch : Nat → Nat} {u t : Mm} {s : Sx} (hN : 300 ≤ N) (hT : TP u n ch) (h : CI n u t p s) (h5 : s 0 1 < 5) : resC n u (f_X2_readCrosser N t) (rcF n ch p s) := by
  obtain ⟨t1, b1, b2⟩ := h.next hN hT
  have hl := lk_le hT.1 p
  unfold f_X2_readCrosser rcF
  rw [b1, o_bd_some]
  simp only []
  rw [c_kind hN hl, o_bd_some]
  by_cases e1 : kdL (lk n ch p) < 5
  · have hlt : sk n ch p < n := kdL_lt e1
    simp only [if_pos e1, if_neg (ne4 (show kdL (lk n ch p) < 1000000 by omega)), o_nm]
    obtain ⟨t2, d1, d2⟩ := (b2.inc (ch := ch) hlt).acc (x := 58) hN hT (by omega)
    have d1 : f_X2_accepts N 58 _ = _ := d1
    rw [d1, o_bd_some]
    by_cases e2 : lk n ch (sk n ch p + 1) = 58
    · simp only [if_pos e2, if_neg one_ne] at d2 ⊢
      obtain ⟨t3, g1, g2, g3, g4, g5⟩ := c_rt hN (d2.1.TP hT) d2.2.2.1 d2.2.1
      rw [g1, o_bd_some]
      have c0 : nI (rtF n ch 8 (sk n ch (sk n ch p + 1) + 1) 0).2 = 0 ↔ (rtF n ch 8 (sk n ch (sk n ch p + 1) + 1) 0).2 = 0 := nIeq (b := 0) (by omega) (by omega)
      simp only [c0]
      by_cases e3 : (rtF n ch 8 (sk n ch (sk n ch p + 1) + 1) 0).2 = 0
      · rw [if_pos e3, if_pos e3]
        exact ⟨t3, rfl, (d2.mv g2 g3 g4).1, g3, g4⟩
      · rw [if_neg e3, if_neg e3]
        exact c_rc2 hN hT (d2.mv g2 g3 g4) h5 e1 g5
    · simp only [if_neg e2, ite_true] at d2 ⊢
      exact c_rc2 (W := 0) hN hT d2 h5 e1 (by omega)
  · simp only [if_neg e1, ite_true]
    exact ⟨t1, rfl, b2.1, b2.2.1, sk_le h.2.2.1⟩
theorem rc2F_q {n : Nat} {ch : Nat → Nat} {K W p : Nat} {s : Sx} {x : Nat × Sx} (h : rc2F n ch K W p s = .inr x) : x.2 0 1 = s 0 1 + 1 ∧ x.2 0 0 = s 0 0 := by
  unfold rc2F at h
  split at h
  · cases hc : cmF n ch (sk n ch p + 1) with
    | inl b => rw [hc] at h; cases h
    | inr y => rw [hc] at h; cases h; exact ⟨rfl, rfl⟩
  · cases h; exact ⟨rfl, rfl⟩
theorem rcF_q {n : Nat} {ch : Nat → Nat} {p : Nat} {s : Sx} {x : Nat × Sx} (h : rcF n ch p s = .inr x) : x.2 0 1 = s 0 1 + 1 ∧ x.2 0 0 = s 0 0 := by
  unfold rcF at h
  split at h
  · split at h
    · split at h
      · cases h
      · exact rc2F_q h
    · exact rc2F_q h
  · cases h
theorem c_rcs {N n p : Nat} {ch : Nat → Nat} {u t : Mm} {s : Sx} (hN : 300 ≤ N) (hT : TP u n ch) (h : CI n u t p s) (h0 : s 0 1 = 0) : resC n u (f_X2_readCrossers N t) (rcsF n ch 5 p s) := by
  obtain ⟨Z, hZ⟩ : ∃ Z, rcsF n ch 5 p s = Z := ⟨_, rfl⟩
  rw [hZ]
  refine lp_up (body := fun k x => b_X2_readCrossers_2 N k x.1 x.2) (fun o => resC n u o Z) (fun k x => ∃ t1 p1 s1, x = (nI k, t1) ∧ CI n u t1 p1 s1 ∧ s1 0 1 = k ∧ rcsF n ch (5 - k) p1 s1 = Z) 5 (fun K x hx => ?_) (fun K k x hk hx => ?_) N 0 (0, t) (by omega) (by omega) ⟨t, p, s, rfl, h, h0, hZ⟩
  · obtain ⟨t1, p1, s1, rfl, a1, a2, rfl⟩ := hx
    show resC n u (b_X2_readCrossers_2 N K (nI 5) t1) (.inr (p1, s1))
    unfold b_X2_readCrossers_2
    rw [if_pos (by decide)]
    exact ⟨t1, rfl, a1⟩
  · obtain ⟨t1, p1, s1, rfl, a1, a2, a3⟩ := hx
    have c1 : ¬ (5 : Int32) ≤ nI k := fun z => absurd ((nIle (a := 5) (by omega) (by omega)).mp z) (by omega)
    have ck : nI k ≤ 0 ↔ k ≤ 0 := nIle (b := 0) (by omega) (by omega)
    rw [show 5 - k = (5 - (k + 1)) + 1 by omega, rcsF] at a3
    have hone : ∀ t2 p2, CI n u t2 p2 s1 → (match rcF n ch p2 s1 with | .inl b => (.inl b : Rs) | .inr x => rcsF n ch (5 - (k + 1)) x.1 x.2) = Z → (resC n u (f_X2_readCrossers_22 N K (nI k) t2) Z) ∨ ∃ x', (∃ t1 p1 s1, x' = (nI (k + 1), t1) ∧ CI n u t1 p1 s1 ∧ s1 0 1 = k + 1 ∧ rcsF n ch (5 - (k + 1)) p1 s1 = Z) ∧ f_X2_readCrossers_22 N K (nI k) t2 = K x' := by
      intro t2 p2 hc hz
      have hr : resC n u (f_X2_readCrosser N t2) (rcF n ch p2 s1) := c_rc hN hT hc (by omega)
      unfold f_X2_readCrossers_22
      cases hq : rcF n ch p2 s1 with
      | inl b =>
        rw [hq] at hr hz
        obtain ⟨t3, m1, m2⟩ := hr
        left
        rw [m1, o_bd_some, ← hz]
        exact ⟨t3, rfl, m2⟩
      | inr x =>
        have hx := rcF_q hq
        rw [hq] at hr hz
        obtain ⟨t3, m1, m2⟩ := hr
        right
        rw [m1, o_bd_some]
        simp only [if_neg one_ne, nI_1]
        exact ⟨_, ⟨t3, x.1, x.2, rfl, m2, by omega, hz⟩, rfl⟩
    show (resC n u (b_X2_readCrossers_2 N K (nI k) t1) Z) ∨ ∃ x', _ ∧ b_X2_readCrossers_2 N K (nI k) t1 = _
    unfold b_X2_readCrossers_2
    rw [if_neg c1]
    simp only [ck]
    by_cases e : k ≤ 0
    · rw [if_pos e]
      rw [if_neg (show ¬ (5 - (k + 1) + 1 < 5) by omega)] at a3
      exact hone t1 p1 a1 a3
    · rw [if_neg e]
      rw [if_pos (show 5 - (k + 1) + 1 < 5 by omega)] at a3
      obtain ⟨t2, b1, b2⟩ := a1.acc (x := 44) hN hT (by omega)
      have b1 : f_X2_accepts N 44 t1 = _ := b1
      rw [b1, o_bd_some]
      by_cases e1 : lk n ch p1 = 44
      · simp only [if_pos e1, if_neg one_ne] at b2 a3 ⊢
        exact hone t2 _ b2 a3
      · simp only [if_neg e1, ite_true] at b2 a3 ⊢
        left
        rw [← a3]
        exact ⟨t2, rfl, b2⟩
theorem c_fi {N n p : Nat} {ch : Nat → Nat} {u t : Mm} {s : Sx} (hN : 300 ≤ N) (hT : TP u n ch) (h : CI n u t p s) : resC n u (f_X2_readFord_39 N t) (fiF n ch p s) := by
  obtain ⟨t1, b1, b2⟩ := h.next hN hT
  have hl := lk_le hT.1 p
  have c : nI (lk n ch p) = 0 ↔ lk n ch p = 0 := nIeq (b := 0) (by omega) (by omega)
  unfold f_X2_readFord_39 fiF
  rw [b1, o_bd_some]
  simp only [c]
  by_cases e : lk n ch p = 0
  · rw [if_pos e, if_pos e]
    exact ⟨t1, rfl, b2⟩
  · rw [if_neg e, if_neg e]
    exact ⟨t1, rfl, b2.1, b2.2.1, sk_le h.2.2.1⟩
theorem rqsF_c {n : Nat} {ch : Nat → Nat} : ∀ j p s x, rqsF n ch j p s = .inr x → x.2 0 1 = s 0 1
  | 0, p, s, x, h => by cases h; rfl
  | j + 1, p, s, x, h => by
    rw [rqsF] at h
    split at h
    · cases h; rfl
    · cases hq : rqF n ch p s with
      | inl b => rw [hq] at h; cases h
      | inr y =>
        rw [hq] at h
        have := rqsF_c j y.1 y.2 x h
        rw [this]
        exact (rqF_q hq).2
theorem c_ford {N n : Nat} {ch : Nat → Nat} {u : Mm} (hN : 300 ≤ N) (hT : TP u n ch) : resC n u (f_X2_readFord N u) (fdF n ch) := by
  unfold f_X2_readFord f_X0_makeEmpty fdF
  simp only [o_nm, o_bd_some]
  have hsc : scr 0 20 := by unfold scr; omega
  have hsc3 : scr 3 3 := by unfold scr; omega
  have h0 : CI n u (sI (sI (sI (sI (sI u 3 3 0 2 0) 0 20 0 0 0) 0 20 0 1 0) 0 20 0 2 0) 0 20 0 3 0) 0 (fun _ _ => 0) := by
    refine ⟨((((FrC.sI hsc3).tr (FrC.sI hsc)).tr (FrC.sI hsc)).tr (FrC.sI hsc)).tr (FrC.sI hsc), rfl, Nat.zero_le _, ⟨⟨rfl, rfl, rfl, rfl⟩, fun k hk => ?_, fun k hk => ?_⟩, by decide, by decide, by decide, fun k hk => ?_, fun k hk => ?_⟩
    · exact absurd hk (Nat.not_lt_zero k)
    · exact absurd hk (Nat.not_lt_zero k)
    · exact absurd hk (Nat.not_lt_zero k)
    · exact absurd hk (Nat.not_lt_zero k)
  have h1 := c_rqs hN hT h0 rfl
  cases hq : rqsF n ch 8 0 (fun _ _ => 0) with
  | inl b =>
    rw [hq] at h1
    obtain ⟨t1, m1, m2⟩ := h1
    rw [m1, o_bd_some]
    exact ⟨t1, rfl, m2⟩
  | inr x =>
    have hc := rqsF_c 8 0 _ x hq
    rw [hq] at h1
    obtain ⟨t1, m1, m2⟩ := h1
    rw [m1, o_bd_some]
    simp only [if_neg one_ne]
    obtain ⟨t2, b1, b2⟩ := m2.acc (x := 59) hN hT (by omega)
    have b1 : f_X2_accepts N 59 t1 = _ := b1
    rw [b1, o_bd_some]
    by_cases e : lk n ch x.1 = 59
    · simp only [if_pos e, if_neg one_ne] at b2 ⊢
      have h2 := c_rcs hN hT b2 hc
      cases hr : rcsF n ch 5 (sk n ch x.1 + 1) x.2 with
      | inl b =>
        rw [hr] at h2
        obtain ⟨t3, g1, g2⟩ := h2
        rw [g1, o_bd_some]
        exact ⟨t3, rfl, g2⟩
      | inr y =>
        rw [hr] at h2
        obtain ⟨t3, g1, g2⟩ := h2
        rw [g1, o_bd_some]
        simp only [if_neg one_ne]
        exact c_fi hN hT g2
    · simp only [if_neg e, ite_true] at b2 ⊢
      have := c_fi hN hT b2
      unfold fiF at this ⊢
      simp only [lk, sk_sk hT.1] at this ⊢
      exact this
