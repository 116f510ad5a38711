/-! the reference's reader: crossers, the whole ford -/
theorem r_96 {N n p K W C : Nat} {ch : Nat → Nat} {v t : Mm} {s : Sx} {tp kd w : Nat → Int32} (h : RS v t (nI (lk n ch p)) (nI (sk n ch p)) (nI (sk n ch p + 1)) (nI (s 0 0)) (nI (s 0 1)) tp kd w) (hX : RX (nI (s 0 0)) (nI (s 0 1)) tp kd w s) (hW : WX s) (h5 : s 0 1 < 5) (hp : p ≤ n) (h1 : kd (s 0 1) = nI K) (h2 : w (9 + s 0 1) = nI W) (h3 : w (14 + s 0 1) = nI C) (hK : K < 5) (hWb : W < 256) (hC : C ≤ 40) : ∃ t', f_X8_crosserOne_96 N t = some (1, t') ∧ RI n ch v t' p (adC s K W C) := by
  have e24 := h.2.1.2.2.2.2
  unfold f_X8_crosserOne_96
  simp only [e24, nI_1, o_nm]
  exact ⟨_, rfl, tp, kd, w, h.s24 _, RX_C hX h1 h2 h3, WX_C hW h5 hK hWb hC, hp⟩
theorem r_rc2 {N n p K W : Nat} {ch : Nat → Nat} {v t : Mm} {s : Sx} {tp kd w : Nat → Int32} (hN : 300 ≤ N) (hT : TQ v n ch) (hp : p ≤ n) (h : RS v t (nI (lk n ch p)) (nI (sk n ch p)) (nI (sk n ch p + 1)) (nI (s 0 0)) (nI (s 0 1)) tp kd w) (hX : RX (nI (s 0 0)) (nI (s 0 1)) tp kd w s) (hW : WX s) (h5 : s 0 1 < 5) (h1 : kd (s 0 1) = nI K) (h2 : w (9 + s 0 1) = nI W) (h3 : w (14 + s 0 1) = 0) (hK : K < 5) (hWb : W < 256) : resR n ch v (f_X8_crosserOne_78 N t) (rc2F n ch K W p s) := by
  have e28 := h.2.1.1
  have hl := lk_le hT.1 p
  have c64 : nI (lk n ch p) = 64 ↔ lk n ch p = 64 := nIeq (b := 64) (by omega) (by omega)
  unfold f_X8_crosserOne_78 rc2F
  simp only [e28, c64]
  by_cases e : lk n ch p = 64
  · have hlt : sk n ch p < n := lk_n (ch := ch) (by omega)
    obtain ⟨g1, g2⟩ := r_comes (p := sk n ch p + 1) hN hT h5 hlt h
    rw [if_pos e, if_pos e]
    cases hq : cmF n ch (sk n ch p + 1) with
    | inl b =>
      obtain ⟨t', d1, d2, d3, d4⟩ := g1 b hq
      rw [d1, o_bd_some]
      exact ⟨t', rfl, d2, d3, d4⟩
    | inr x =>
      obtain ⟨t', d1, d2, d3, d4⟩ := g2 x hq
      rw [d1, o_bd_some]
      simp only [if_neg one_ne]
      exact r_96 d2 (RX_W hX hW.1 h5 (Or.inr rfl) _) hW h5 d3 h1 (by rw [upd_off (by omega)]; exact h2) upd_at hK hWb d4
  · rw [if_neg e, if_neg e]
    obtain ⟨t', d1, d2⟩ := r_96 (N := N) (C := 0) h hX hW h5 hp h1 h2 h3 hK hWb (by omega)
    exact ⟨t', d1, d2.sk' hT.1⟩
theorem r_rc {N n p : Nat} {ch : Nat → Nat} {v t : Mm} {s : Sx} {l b : Int32} {tp kd w : Nat → Int32} (hN : 300 ≤ N) (hT : TQ v n ch) (hp : p ≤ n) (h : RS v t l b (nI p) (nI (s 0 0)) (nI (s 0 1)) tp kd w) (hX : RX (nI (s 0 0)) (nI (s 0 1)) tp kd w s) (hW : WX s) (h5 : s 0 1 < 5) : resR n ch v (f_X8_crosserOne N t) (rcF n ch p s) := by
  have hl := lk_le hT.1 p
  obtain ⟨t1, m1, m2⟩ := r_next hN hT hp h
  unfold f_X8_crosserOne
  rw [m1, o_bd_some]
  simp only []
  rw [r_kind hl, o_bd_some]
  unfold rcF
  by_cases e : kdL (lk n ch p) < 5
  · have hlt : sk n ch p < n := kdL_lt e
    have e24 := m2.2.1.2.2.2.2
    have i5 : o_inb (nI (s 0 1)) 5 = true := inb_nI h5 (by omega)
    obtain ⟨i9, l9⟩ := lit19 (k := s 0 1) h5 9 (by omega)
    have i9 : o_inb (9 + nI (s 0 1)) 31 = true := i9
    have l9 : ((9 : Int32) + nI (s 0 1)).toNatClampNeg = 9 + s 0 1 := l9
    obtain ⟨i14, l14⟩ := lit19 (k := s 0 1) h5 14 (by omega)
    have i14 : o_inb (14 + nI (s 0 1)) 31 = true := i14
    have l14 : ((14 : Int32) + nI (s 0 1)).toNatClampNeg = 14 + s 0 1 := l14
    have d1 := m2.s26 (s 0 1) (nI (kdL (lk n ch p)))
    have d2 := d1.s27 (9 + s 0 1) 0
    have d3 := d2.s27 (14 + s 0 1) 0
    have f24 := d1.2.1.2.2.2.2
    have g24 := d2.2.1.2.2.2.2
    obtain ⟨t2, m3, m4⟩ := r_nl (p := sk n ch p + 1) hN hT hlt d3
    have e28 := m4.2.1.1
    have hl2 := lk_le hT.1 (sk n ch p + 1)
    have c58 : nI (lk n ch (sk n ch p + 1)) = 58 ↔ lk n ch (sk n ch p + 1) = 58 := nIeq (b := 58) (by omega) (by omega)
    have n4 : ¬ nI (kdL (lk n ch p)) = -4 := ne4 (by omega)
    simp only [if_pos e, if_neg n4, e24, if_pos i5, cl_nI (show s 0 1 < 2147483648 by omega), o_nm, f24, if_pos i9, l9, g24, if_pos i14, l14, m3, o_bd_some, e28, c58]
    have hX1 := RX_W (RX_W (RX_K hX (nI (kdL (lk n ch p)))) hW.1 h5 (Or.inl rfl) 0) hW.1 h5 (Or.inr rfl) 0
    have k1 : upd kd (s 0 1) (nI (kdL (lk n ch p))) (s 0 1) = nI (kdL (lk n ch p)) := upd_at
    have k2 : upd (upd w (9 + s 0 1) 0) (14 + s 0 1) 0 (9 + s 0 1) = nI 0 := by
      rw [upd_off (by omega), upd_at]
      rfl
    have k3 : upd (upd w (9 + s 0 1) 0) (14 + s 0 1) 0 (14 + s 0 1) = 0 := upd_at
    by_cases e2 : lk n ch (sk n ch p + 1) = 58
    · have hlt2 : sk n ch (sk n ch p + 1) < n := lk_n (ch := ch) (by omega)
      obtain ⟨g1, g2⟩ := r_know (p := sk n ch (sk n ch p + 1) + 1) hN hT h5 hlt2 m4
      obtain ⟨b1, b2⟩ := rtF_b (n := n) (ch := ch) 8 (sk n ch (sk n ch p + 1) + 1) 0 (by omega) hlt2 (by omega)
      rw [if_pos e2, if_pos e2]
      by_cases e3 : (rtF n ch 8 (sk n ch (sk n ch p + 1) + 1) 0).2 = 0
      · obtain ⟨t', d1, d2, d3, d4⟩ := g1 e3
        rw [if_pos e3, d1, o_bd_some]
        exact ⟨t', rfl, d2, d3, d4⟩
      · obtain ⟨t', d1, d2⟩ := g2 e3
        rw [if_neg e3, d1, o_bd_some]
        simp only [if_neg one_ne]
        exact r_rc2 hN hT b1 d2 (RX_W hX1 hW.1 h5 (Or.inl rfl) _) hW h5 k1 upd_at (by rw [upd_off (by omega)]; exact k3) e b2
    · rw [if_neg e2, if_neg e2]
      have := r_rc2 hN hT hlt m4 hX1 hW h5 k1 k2 k3 e (by omega)
      unfold rc2F at this ⊢
      simp only [lk, sk_sk hT.1] at this ⊢
      exact this
  · simp only [if_neg e, ite_true]
    exact ⟨t1, rfl, m2.1, m2.2.1.2.1, sk_le hp⟩
def tlF (n : Nat) (ch : Nat → Nat) (j p : Nat) (s : Sx) : Rs := match rcF n ch p s with
  | .inl b => .inl b
  | .inr x => (match rcsF n ch j x.1 x.2 with
    | .inl b => .inl b
    | .inr y => fiF n ch y.1 y.2)
theorem r_fin {N n p : Nat} {ch : Nat → Nat} {v t : Mm} {s : Sx} {K : Int32 × Mm → Option (Int32 × Mm)} (hT : TQ v n ch) (h : RI n ch v t p s) : resR n ch v (b_X8_isFord_60 N K 0 t) (fiF n ch p s) := by
  obtain ⟨tp, kd, w, h1, h2, h3, h4⟩ := id h
  have e28 := h1.2.1.1
  have hl := lk_le hT.1 p
  have c0 : nI (lk n ch p) = 0 ↔ lk n ch p = 0 := nIeq (b := 0) (by omega) (by omega)
  unfold b_X8_isFord_60 fiF
  simp only [ite_true, e28, c0]
  by_cases e : lk n ch p = 0
  · rw [if_pos e, if_pos e]
    exact ⟨t, rfl, h.sk' hT.1⟩
  · rw [if_neg e, if_neg e]
    exact ⟨t, rfl, h1.1, h1.2.1.2.1, sk_le h4⟩
theorem fiF_sk {n : Nat} {ch : Nat → Nat} {p : Nat} {s : Sx} (hT : okT n ch) : fiF n ch (sk n ch p) s = fiF n ch p s := by
  unfold fiF
  simp only [lk, sk_sk hT]
def LQ (n : Nat) (ch : Nat → Nat) (v : Mm) (Z : Rs) (k : Nat) (x : Int32 × Mm) : Prop := (∃ (p1 : Nat) (s1 : Sx) (l b : Int32) (tp kd w : Nat → Int32), x.1 = 1 ∧ RS v x.2 l b (nI p1) (nI (s1 0 0)) (nI (s1 0 1)) tp kd w ∧ RX (nI (s1 0 0)) (nI (s1 0 1)) tp kd w s1 ∧ WX s1 ∧ p1 ≤ n ∧ s1 0 1 = k ∧ k < 5 ∧ tlF n ch (4 - k) p1 s1 = Z) ∨ ∃ (p1 : Nat) (s1 : Sx), x.1 = 0 ∧ RI n ch v x.2 p1 s1 ∧ fiF n ch p1 s1 = Z
theorem r_loop {N n : Nat} {ch : Nat → Nat} {v t : Mm} {Z : Rs} {m : Int32} (hN : 300 ≤ N) (hT : TQ v n ch) (h : LQ n ch v Z 0 (m, t)) : resR n ch v (f_X8_isFord_60 N m t) Z := by
  refine lp_up (body := fun k x => b_X8_isFord_60 N k x.1 x.2) (fun o => resR n ch v o Z) (LQ n ch v Z) 5 (fun K x hx => ?_) (fun K k x hk hx => ?_) N 0 (m, t) (by omega) (by omega) h
  · rcases hx with ⟨p1, s1, l, b, tp, kd, w, -, -, -, -, -, -, a, -⟩ | ⟨p1, s1, a1, a2, a3⟩
    · exact absurd a (by omega)
    · show resR n ch v (b_X8_isFord_60 N K x.1 x.2) Z
      rw [a1, ← a3]
      exact r_fin hT a2
  · rcases hx with ⟨p1, s1, l, b, tp, kd, w, a1, a2, a3, a4, a5, a6, a7, a8⟩ | ⟨p1, s1, a1, a2, a3⟩
    · show (resR n ch v (b_X8_isFord_60 N K x.1 x.2) Z) ∨ ∃ x', _ ∧ b_X8_isFord_60 N K x.1 x.2 = _
      rw [a1]
      unfold b_X8_isFord_60 f_X8_isFord_94 f_X8_isFord_95
      simp only [if_neg one_ne]
      have hr := r_rc hN hT a5 a2 a3 a4 (by omega)
      unfold tlF at a8
      cases hq : rcF n ch p1 s1 with
      | inl b0 =>
        rw [hq] at hr a8
        obtain ⟨t', d1, d2⟩ := hr
        left
        rw [d1, o_bd_some, ← a8]
        exact ⟨t', rfl, d2⟩
      | inr y =>
        rw [hq] at hr a8
        obtain ⟨t', d1, d2⟩ := hr
        have hy := (rcF_q hq).1
        have a8 : (match rcsF n ch (4 - k) y.1 y.2 with | .inl b => (.inl b : Rs) | .inr z => fiF n ch z.1 z.2) = Z := a8
        obtain ⟨tp', kd', w', g1, g2, g3, g4⟩ := id d2
        obtain ⟨-, ⟨e28, e22, e21, e23, e24⟩, -⟩ := id g1
        have hl := lk_le hT.1 y.1
        have c44 : nI (lk n ch y.1) = 44 ↔ lk n ch y.1 = 44 := nIeq (b := 44) (by omega) (by omega)
        have c5 : (5 : Int32) ≤ nI (y.2 0 1) ↔ 5 ≤ y.2 0 1 := nIle (a := 5) (by omega) (by omega)
        right
        rw [d1, o_bd_some]
        simp only [if_neg one_ne, e28, e24, c44, c5]
        by_cases e5 : 5 ≤ y.2 0 1
        · rw [show 4 - k = 0 by omega] at a8
          refine ⟨(0, t'), Or.inr ⟨y.1, y.2, rfl, d2, a8⟩, ?_⟩
          by_cases e : lk n ch y.1 = 44
          · rw [if_pos e, if_pos e5]
          · rw [if_neg e]
        · rw [show 4 - k = (4 - (k + 1)) + 1 by omega, rcsF, if_pos (by omega)] at a8
          by_cases e : lk n ch y.1 = 44
          · have hlt : sk n ch y.1 < n := lk_n (ch := ch) (by omega)
            rw [if_pos e] at a8
            refine ⟨(1, t'), Or.inl ⟨sk n ch y.1 + 1, y.2, _, _, tp', kd', w', rfl, g1, g2, g3, hlt, by omega, by omega, ?_⟩, ?_⟩
            · unfold tlF
              rw [← a8]
              cases rcF n ch (sk n ch y.1 + 1) y.2 <;> rfl
            · rw [if_pos e, if_neg e5]
          · rw [if_neg e] at a8
            refine ⟨(0, t'), Or.inr ⟨y.1, y.2, rfl, d2, ?_⟩, ?_⟩
            · rw [← fiF_sk hT.1]
              exact a8
            · rw [if_neg e]
    · left
      show resR n ch v (b_X8_isFord_60 N K x.1 x.2) Z
      rw [a1, ← a3]
      exact r_fin hT a2
theorem r_zero {N : Nat} {v t : Mm} {l b p : Int32} {tp kd w : Nat → Int32} {P : Option (Int32 × Mm) → Prop} (hN : 300 ≤ N) (h : RS v t l b p 0 0 tp kd w) (hP : ∀ (t1 : Mm) (w1 : Nat → Int32), RS v t1 l b p 0 0 tp kd w1 → (∀ j, j < 31 → w1 j = 0) → P (b_X8_isFord_12 N (fun _ => none) 31 t1)) : P (f_X8_isFord_12 N 0 t) := by
  refine lp_up (body := fun k x => b_X8_isFord_12 N k x.1 x.2) P (fun k x => ∃ w1, x.1 = nI k ∧ RS v x.2 l b p 0 0 tp kd w1 ∧ ∀ j, j < k → w1 j = 0) 31 (fun K x hx => ?_) (fun K k x hk hx => ?_) N 0 (0, t) (by omega) (by omega) ⟨w, rfl, h, fun j hj => absurd hj (Nat.not_lt_zero j)⟩
  · obtain ⟨w1, a1, a2, a3⟩ := hx
    have := hP x.2 w1 a2 a3
    show P (b_X8_isFord_12 N K x.1 x.2)
    rw [a1]
    unfold b_X8_isFord_12 at this ⊢
    rw [if_pos (by decide)] at this ⊢
    exact this
  · obtain ⟨w1, a1, a2, a3⟩ := hx
    right
    show ∃ x', _ ∧ b_X8_isFord_12 N K x.1 x.2 = _
    rw [a1]
    unfold b_X8_isFord_12
    have c1 : ¬ (31 : Int32) ≤ nI k := fun z => absurd ((nIle (a := 31) (by omega) (by omega)).mp z) (by omega)
    have i1 : o_inb (nI k) 31 = true := inb_nI hk (by omega)
    simp only [if_neg c1, if_pos i1, cl_nI (show k < 2147483648 by omega), o_nm, nI_1]
    refine ⟨_, ⟨upd w1 k 0, rfl, a2.s27 k 0, fun j hj => ?_⟩, rfl⟩
    by_cases e : j = k
    · rw [e, upd_at]
    · rw [upd_off e]
      exact a3 j (by omega)
theorem r_ford {N n : Nat} {ch : Nat → Nat} {v : Mm} (hN : 300 ≤ N) (hT : TQ v n ch) : resR n ch v (f_X8_isFord N v) (fdF n ch) := by
  have h0 : RS v v (v.1 9 0 0 28) (v.1 9 0 0 22) (v.1 9 0 0 21) (v.1 9 0 0 23) (v.1 9 0 0 24) (v.1 9 0 25) (v.1 9 0 26) (v.1 9 0 27) := ⟨QF.rfl' v, ⟨rfl, rfl, rfl, rfl, rfl⟩, rfl, rfl, rfl⟩
  unfold f_X8_isFord
  simp only [o_nm]
  refine r_zero (P := fun o => resR n ch v o (fdF n ch)) hN ((h0.s23 0).s24 0) (fun t1 w1 h1 h2 => ?_)
  unfold b_X8_isFord_12 f_X8_isFord_59 f_X8_questionsAll
  rw [if_pos (by decide)]
  simp only [o_nm]
  have h3 := h1.s21 (nI 0)
  have hX : RX (nI ((fun _ _ => 0 : Sx) 0 0)) (nI ((fun _ _ => 0 : Sx) 0 1)) (v.1 9 0 25) (v.1 9 0 26) w1 (fun _ _ => 0) := by
    refine ⟨⟨rfl, rfl, h2 0 (by omega), h2 29 (by omega)⟩, fun k hk => absurd hk (Nat.not_lt_zero k), fun k hk => absurd hk (Nat.not_lt_zero k), fun k hk => h2 (19 + k) (by omega)⟩
  have hW : WX (fun _ _ => 0) := ⟨by decide, by decide, by decide, fun k hk => absurd hk (Nat.not_lt_zero k), fun k hk => absurd hk (Nat.not_lt_zero k)⟩
  obtain ⟨t2, m1, m2⟩ := r_nl (p := 0) hN hT (Nat.zero_le _) h3
  have m1 : f_X8_next N (sI t1 9 0 0 21 0) = _ := m1
  rw [m1, o_bd_some]
  simp only []
  have h4 := r_qs8 (s := fun _ _ => 0) hN hT ⟨_, _, _, m2, hX, hW, Nat.zero_le _⟩ rfl
  unfold fdF
  cases hq : rqsF n ch 8 0 (fun _ _ => 0) with
  | inl b =>
    rw [hq] at h4
    obtain ⟨t', d1, d2⟩ := h4
    rw [d1, o_bd_some]
    exact ⟨t', rfl, d2⟩
  | inr x =>
    have hc := rqsF_c 8 0 _ x hq
    rw [hq] at h4
    obtain ⟨t', d1, d2⟩ := h4
    obtain ⟨tp', kd', w', g1, g2, g3, g4⟩ := id d2
    have e28 := g1.2.1.1
    have hl := lk_le hT.1 x.1
    have c59 : nI (lk n ch x.1) = 59 ↔ lk n ch x.1 = 59 := nIeq (b := 59) (by omega) (by omega)
    rw [d1, o_bd_some]
    simp only [if_neg one_ne, e28, c59]
    by_cases e : lk n ch x.1 = 59
    · have hlt : sk n ch x.1 < n := lk_n (ch := ch) (by omega)
      rw [if_pos e, if_pos e]
      refine r_loop hN hT (Or.inl ⟨sk n ch x.1 + 1, x.2, _, _, tp', kd', w', rfl, g1, g2, g3, hlt, hc, by omega, ?_⟩)
      unfold tlF
      rw [rcsF, if_neg (by omega)]
      cases rcF n ch (sk n ch x.1 + 1) x.2 <;> rfl
    · rw [if_neg e, if_neg e]
      exact r_loop hN hT (Or.inr ⟨x.1, x.2, rfl, d2, rfl⟩)
