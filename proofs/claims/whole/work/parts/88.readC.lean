abbrev lk (n : Nat) (ch : Nat → Nat) (p : Nat) : Nat := lt' n ch (sk n ch p)
theorem lk_le {n : Nat} {ch : Nat → Nat} (hT : okT n ch) (p : Nat) : lk n ch p ≤ 126 := lt_le hT _
theorem lk_n {n : Nat} {ch : Nat → Nat} {p : Nat} (h : lk n ch p ≠ 0) : sk n ch p < n := lt_n h
theorem add11 (a : Nat) : a + 1 + 1 = a + 2 := rfl
def rqF (n : Nat) (ch : Nat → Nat) (p : Nat) (s : Sx) : Rs := if 97 ≤ lk n ch p ∧ lk n ch p ≤ 104 then (if 49 ≤ lk n ch (sk n ch p + 1) ∧ lk n ch (sk n ch p + 1) ≤ 57 then (if lk n ch (sk n ch (sk n ch p + 1) + 1) = 33 then .inr (sk n ch (sk n ch (sk n ch p + 1) + 1) + 1, adQ s (lk n ch p - 97) (lk n ch (sk n ch p + 1) - 48) 1) else .inr (sk n ch (sk n ch (sk n ch p + 1) + 1), adQ s (lk n ch p - 97) (lk n ch (sk n ch p + 1) - 48) 0)) else .inl (sk n ch (sk n ch p + 1))) else .inl (sk n ch p)
def rqsF (n : Nat) (ch : Nat → Nat) : Nat → Nat → Sx → Rs
  | 0, p, s => .inr (p, s)
  | j + 1, p, s => if j + 1 < 8 ∧ ¬ (97 ≤ lk n ch p ∧ lk n ch p ≤ 104) then .inr (sk n ch p, s) else match rqF n ch p s with
    | .inl b => .inl b
    | .inr x => rqsF n ch j x.1 x.2
def rtF (n : Nat) (ch : Nat → Nat) : Nat → Nat → Nat → Nat × Nat
  | 0, p, set => (p, set)
  | j + 1, p, set => if lk n ch p = 97 + (8 - (j + 1)) then rtF n ch j (sk n ch p + 1) (set ||| 2 ^ (8 - (j + 1))) else rtF n ch j (sk n ch p) set
def cmF (n : Nat) (ch : Nat → Nat) (p : Nat) : Nat ⊕ (Nat × Nat) := if 48 ≤ lk n ch p ∧ lk n ch p ≤ 57 then (if 48 ≤ lt' n ch (sk n ch p + 1) ∧ lt' n ch (sk n ch p + 1) ≤ 57 then (if 10 * (lk n ch p - 48) + (lt' n ch (sk n ch p + 1) - 48) ≤ 40 then .inr (sk n ch p + 2, 10 * (lk n ch p - 48) + (lt' n ch (sk n ch p + 1) - 48)) else .inl (sk n ch p)) else .inr (sk n ch p + 1, lk n ch p - 48)) else .inl (sk n ch p)
def rc2F (n : Nat) (ch : Nat → Nat) (K W p : Nat) (s : Sx) : Rs := if lk n ch p = 64 then (match cmF n ch (sk n ch p + 1) with
    | .inl b => .inl b
    | .inr x => .inr (x.1, adC s K W x.2)) else .inr (sk n ch p, adC s K W 0)
def rcF (n : Nat) (ch : Nat → Nat) (p : Nat) (s : Sx) : Rs := if kdL (lk n ch p) < 5 then (if lk n ch (sk n ch p + 1) = 58 then (if (rtF n ch 8 (sk n ch (sk n ch p + 1) + 1) 0).2 = 0 then .inl (rtF n ch 8 (sk n ch (sk n ch p + 1) + 1) 0).1 else rc2F n ch (kdL (lk n ch p)) (rtF n ch 8 (sk n ch (sk n ch p + 1) + 1) 0).2 (rtF n ch 8 (sk n ch (sk n ch p + 1) + 1) 0).1 s) else rc2F n ch (kdL (lk n ch p)) 0 (sk n ch (sk n ch p + 1)) s) else .inl (sk n ch p)
def rcsF (n : Nat) (ch : Nat → Nat) : Nat → Nat → Sx → Rs
  | 0, p, s => .inr (p, s)
  | j + 1, p, s => if j + 1 < 5 then (if lk n ch p = 44 then (match rcF n ch (sk n ch p + 1) s with
      | .inl b => .inl b
      | .inr x => rcsF n ch j x.1 x.2) else .inr (sk n ch p, s)) else match rcF n ch p s with
      | .inl b => .inl b
      | .inr x => rcsF n ch j x.1 x.2
def fiF (n : Nat) (ch : Nat → Nat) (p : Nat) (s : Sx) : Rs := if lk n ch p = 0 then .inr (sk n ch p, s) else .inl (sk n ch p)
def fdF (n : Nat) (ch : Nat → Nat) : Rs := match rqsF n ch 8 0 (fun _ _ => 0) with
  | .inl b => .inl b
  | .inr x => if lk n ch x.1 = 59 then (match rcsF n ch 5 (sk n ch x.1 + 1) x.2 with
    | .inl b => .inl b
    | .inr y => fiF n ch y.1 y.2) else fiF n ch x.1 x.2
def CI (n : Nat) (u t : Mm) (p : Nat) (s : Sx) : Prop := FrC u t ∧ t.1 3 3 0 2 = nI p ∧ p ≤ n ∧ FX (t.1 0 20) s ∧ WX s
def resC (n : Nat) (u : Mm) (o : Option (Int32 × Mm)) : Rs → Prop
  | .inl b => ∃ t' : Mm, o = some (0, t') ∧ FrC u t' ∧ t'.1 3 3 0 2 = nI b ∧ b ≤ n
  | .inr x => ∃ t' : Mm, o = some (1, t') ∧ CI n u t' x.1 x.2
theorem FrC.TP {u t : Mm} {n : Nat} {ch : Nat → Nat} (h : FrC u t) (hT : TP u n ch) : TP t n ch := hT.mv (h.1 3 1 (by unfold scr; omega)) (h.1 3 2 (by unfold scr; omega))
theorem f33.Fr {t t' : Mm} (h : f33 t t') : FrC t t' := FrC.of (by unfold scr; omega) h.1 h.2
theorem CI.mv {n : Nat} {u t t' : Mm} {p q : Nat} {s : Sx} (h : CI n u t p s) (h1 : f33 t t') (h2 : t'.1 3 3 0 2 = nI q) (hq : q ≤ n) : CI n u t' q s := by
  obtain ⟨a1, a2, a3, a4, a5⟩ := h
  exact ⟨a1.tr h1.Fr, h2, hq, by rw [h1.1 0 20 (by omega)]; exact a4, a5⟩
theorem CI.next {N n : Nat} {ch : Nat → Nat} {u t : Mm} {p : Nat} {s : Sx} (hN : 300 ≤ N) (hT : TP u n ch) (h : CI n u t p s) : ∃ t', f_X2_nextLetter N t = some (nI (lk n ch p), t') ∧ CI n u t' (sk n ch p) s := by
  obtain ⟨t1, b1, b2, b3⟩ := c_next hN (h.1.TP hT) h.2.2.1 h.2.1
  exact ⟨t1, b1, h.mv b2 b3 (sk_le h.2.2.1)⟩
theorem CI.inc {n : Nat} {ch : Nat → Nat} {u t : Mm} {p : Nat} {s : Sx} (h : CI n u t p s) (hp : p < n) : CI n u (sI t 3 3 0 2 (t.1 3 3 0 2 + 1)) (p + 1) s := by
  refine h.mv (f33.sI _ _ _) ?_ hp
  show t.1 3 3 0 2 + 1 = _
  rw [h.2.1, nI_1]
theorem CI.acc {N n x : Nat} {ch : Nat → Nat} {u t : Mm} {p : Nat} {s : Sx} (hN : 300 ≤ N) (hT : TP u n ch) (hx : 0 < x ∧ x ≤ 126) (h : CI n u t p s) : ∃ t', f_X2_accepts N (nI x) t = some (if lk n ch p = x then 1 else 0, t') ∧ CI n u t' (if lk n ch p = x then sk n ch p + 1 else sk n ch p) s := by
  obtain ⟨t1, b1, b2, b3⟩ := c_acc hN hx (h.1.TP hT) h.2.2.1 h.2.1
  refine ⟨t1, b1, h.mv b2 b3 ?_⟩
  have hl := sk_le (ch := ch) h.2.2.1
  split
  · rename_i e
    exact lk_n (ch := ch) (by rw [e]; omega)
  · exact hl
theorem FX_Q {v : Nat → Nat → Int32} {s : Sx} {T H : Nat} (h : FX v s) : FX (v2 (v2 (v2 v 1 (s 0 0) (nI T)) 2 (s 0 0) (nI H)) 0 0 (nI (s 0 0 + 1))) (adQ s T H 0) := by
  obtain ⟨⟨a1, a2, a3, a4⟩, f, g⟩ := h
  refine ⟨⟨rfl, a2, a3, a4⟩, fun k hk => ?_, fun k hk => ?_⟩
  · have hk : k < s 0 0 + 1 := hk
    rw [adQ_1, adQ_2]
    by_cases e : k = s 0 0
    · subst e
      simp [v2]
    · have := f k (by omega)
      simp [v2, e]
      exact this
  · exact g k hk
theorem FX_A {v : Nat → Nat → Int32} {s : Sx} {T H : Nat} (h : FX v (adQ s T H 0)) : FX (v2 v 0 2 (nI (s 0 2 ||| 2 ^ s 0 0))) (adQ s T H 1) := by
  obtain ⟨⟨a1, a2, a3, a4⟩, f, g⟩ := h
  exact ⟨⟨a1, a2, rfl, a4⟩, f, g⟩
theorem FX_C {v : Nat → Nat → Int32} {s : Sx} {K W C : Nat} (h : FX v s) : FX (v2 (v2 (v2 (v2 (v2 (v2 v 3 (s 0 1) (nI K)) 4 (s 0 1) (nI W)) 5 (s 0 1) (nI C)) 6 (s 0 1) 0) 7 (s 0 1) 0) 0 1 (nI (s 0 1 + 1))) (adC s K W C) := by
  obtain ⟨⟨a1, a2, a3, a4⟩, f, g⟩ := h
  refine ⟨⟨a1, rfl, a3, a4⟩, fun k hk => ?_, fun k hk => ?_⟩
  · exact f k hk
  · have hk : k < s 0 1 + 1 := hk
    rw [adC_3, adC_4, adC_5]
    by_cases e : k = s 0 1
    · subst e
      simp [v2]
    · have := g k (by omega)
      simp [v2, e]
      exact this
theorem c_addQ {t : Mm} {n p T H : Nat} {u : Mm} {s : Sx} (h : CI n u t p s) (h8 : s 0 0 < 8) (hT : T < 8) (hH : 1 ≤ H ∧ H ≤ 9) : ∃ t', f_X0_addQuestion 20 (nI T) (nI H) t = some (nI (s 0 0), t') ∧ CI n u t' p (adQ s T H 0) := by
  obtain ⟨a1, a2, a3, a4, a5⟩ := h
  have e0 : t.1 0 20 0 0 = nI (s 0 0) := a4.1.1
  have c : nI (s 0 0) < 8 := (nIlt (b := 8) (by omega) (by omega)).mpr h8
  have i1 : o_inb (nI (s 0 0)) 8 = true := inb_nI h8 (by omega)
  unfold f_X0_addQuestion
  simp only [e0, if_pos c, if_pos i1, cl_nI (show s 0 0 < 2147483648 by omega), o_nm]
  have e1 : (sI (sI t 0 20 1 (s 0 0) (nI T)) 0 20 2 (s 0 0) (nI H)).1 0 20 0 0 = nI (s 0 0) := e0
  rw [e1, nI_1]
  refine ⟨_, rfl, ((a1.tr (FrC.sI (by unfold scr; omega))).tr (FrC.sI (by unfold scr; omega))).tr (FrC.sI (by unfold scr; omega)), a2, a3, ?_, WX_Q a5 h8 hT hH⟩
  simp only [sI_v2]
  exact FX_Q a4
theorem c_rq {N n p : Nat} {ch : Nat → Nat} {u t : Mm} {s : Sx} (hN : 300 ≤ N) (hT : TP u n ch) (h : CI n u t p s) (h8 : s 0 0 < 8) : resC n u (f_X2_readQuestion N t) (rqF n ch p s) := by
  obtain ⟨t1, b1, b2⟩ := h.next hN hT
  have hl := lk_le hT.1 p
  unfold f_X2_readQuestion rqF
  rw [b1, o_bd_some]
  simp only []
  rw [c_topic hl, o_bd_some]
  by_cases e1 : 97 ≤ lk n ch p ∧ lk n ch p ≤ 104
  · simp only [if_pos e1, if_neg (ne4 (show lk n ch p - 97 < 1000000 by omega)), o_nm]
    have hlt : sk n ch p < n := lk_n (ch := ch) (by omega)
    obtain ⟨t2, d1, d2⟩ := (b2.inc (ch := ch) hlt).next hN hT
    have hl2 := lk_le hT.1 (sk n ch p + 1)
    rw [d1, o_bd_some]
    have c1 : nI (lk n ch (sk n ch p + 1)) < 49 ↔ lk n ch (sk n ch p + 1) < 49 := nIlt (b := 49) (by omega) (by omega)
    have c2 : nI (lk n ch (sk n ch p + 1)) ≤ 57 ↔ lk n ch (sk n ch p + 1) ≤ 57 := nIle (b := 57) (by omega) (by omega)
    simp only [c1, c2]
    by_cases e2 : 49 ≤ lk n ch (sk n ch p + 1) ∧ lk n ch (sk n ch p + 1) ≤ 57
    · rw [if_neg (show ¬ lk n ch (sk n ch p + 1) < 49 by omega), if_pos e2.2, if_pos e2]
      have hlt2 : sk n ch (sk n ch p + 1) < n := lk_n (ch := ch) (by omega)
      rw [show nI (lk n ch (sk n ch p + 1)) - 48 = nI (lk n ch (sk n ch p + 1) - 48) from pk_sub (b := 48) (by omega)]
      obtain ⟨t3, g1, g2⟩ := c_addQ (T := lk n ch p - 97) (H := lk n ch (sk n ch p + 1) - 48) (d2.inc (ch := ch) hlt2) h8 (by omega) (by omega)
      rw [g1, o_bd_some]
      obtain ⟨t4, m1, m2⟩ := g2.acc (x := 33) hN hT (by omega)
      have m1 : f_X2_accepts N 33 t3 = _ := m1
      simp only []
      rw [m1, o_bd_some]
      by_cases e3 : lk n ch (sk n ch (sk n ch p + 1) + 1) = 33
      · simp only [if_pos e3, if_neg one_ne] at m2 ⊢
        obtain ⟨k1, k2, k3, k4, k5⟩ := m2
        have e02 : t4.1 0 20 0 2 = nI (s 0 2) := k4.1.2.2.1
        rw [e02, nI_shl1 (by omega), nI_or]
        refine ⟨_, rfl, k1.tr (FrC.sI (by unfold scr; omega)), k2, k3, ?_, WX_Q h.2.2.2.2 h8 (by omega) (by omega)⟩
        show FX ((sI t4 0 20 0 2 (nI (s 0 2 ||| 2 ^ s 0 0))).1 0 20) _
        rw [sI_v2]
        exact FX_A k4
      · simp only [if_neg e3, ite_true] at m2 ⊢
        exact ⟨t4, rfl, m2⟩
    · rw [if_neg e2]
      have hle := sk_le (ch := ch) (show sk n ch p + 1 ≤ n by omega)
      by_cases e3 : lk n ch (sk n ch p + 1) < 49
      · rw [if_pos e3]
        exact ⟨t2, rfl, d2.1, d2.2.1, hle⟩
      · rw [if_neg e3, if_neg (show ¬ lk n ch (sk n ch p + 1) ≤ 57 by omega)]
        exact ⟨t2, rfl, d2.1, d2.2.1, hle⟩
  · simp only [if_neg e1, ite_true]
    exact ⟨t1, rfl, b2.1, b2.2.1, sk_le h.2.2.1⟩
theorem rqF_q {n : Nat} {ch : Nat → Nat} {p : Nat} {s : Sx} {x : Nat × Sx} (h : rqF n ch p s = .inr x) : x.2 0 0 = s 0 0 + 1 ∧ x.2 0 1 = s 0 1 := by
  unfold rqF at h
  split at h
  · split at h
    · split at h
      · cases h; exact ⟨rfl, rfl⟩
      · cases h; exact ⟨rfl, rfl⟩
    · cases h
  · cases h
theorem c_rqs {N n p : Nat} {ch : Nat → Nat} {u t : Mm} {s : Sx} (hN : 300 ≤ N) (hT : TP u n ch) (h : CI n u t p s) (h0 : s 0 0 = 0) : resC n u (f_X2_readQuestions N t) (rqsF n ch 8 p s) := by
  obtain ⟨Z, hZ⟩ : ∃ Z, rqsF n ch 8 p s = Z := ⟨_, rfl⟩
  rw [hZ]
  refine lp_up (body := fun k x => b_X2_readQuestions_2 N k x.1 x.2) (fun o => resC n u o Z) (fun k x => ∃ t1 p1 s1, x = (nI k, t1) ∧ CI n u t1 p1 s1 ∧ s1 0 0 = k ∧ rqsF n ch (8 - k) p1 s1 = Z) 8 (fun K x hx => ?_) (fun K k x hk hx => ?_) N 0 (0, t) (by omega) (by omega) ⟨t, p, s, rfl, h, h0, hZ⟩
  · obtain ⟨t1, p1, s1, rfl, a1, a2, rfl⟩ := hx
    show resC n u (b_X2_readQuestions_2 N K (nI 8) t1) (.inr (p1, s1))
    unfold b_X2_readQuestions_2
    rw [if_pos (by decide)]
    exact ⟨t1, rfl, a1⟩
  · obtain ⟨t1, p1, s1, rfl, a1, a2, a3⟩ := hx
    have c1 : ¬ (8 : Int32) ≤ nI k := fun z => absurd ((nIle (a := 8) (by omega) (by omega)).mp z) (by omega)
    have ck : nI k ≤ 0 ↔ k ≤ 0 := nIle (b := 0) (by omega) (by omega)
    rw [show 8 - k = (8 - (k + 1)) + 1 by omega, rqsF] at a3
    -- reading one
    have hone : ∀ t2, CI n u t2 (sk n ch p1) s1 ∨ CI n u t2 p1 s1 → (match rqF n ch p1 s1 with | .inl b => (.inl b : Rs) | .inr x => rqsF n ch (8 - (k + 1)) x.1 x.2) = Z → (resC n u (f_X2_readQuestions_26 N K (nI k) t2) Z) ∨ ∃ x', (∃ t1 p1 s1, x' = (nI (k + 1), t1) ∧ CI n u t1 p1 s1 ∧ s1 0 0 = k + 1 ∧ rqsF n ch (8 - (k + 1)) p1 s1 = Z) ∧ f_X2_readQuestions_26 N K (nI k) t2 = K x' := by
      intro t2 hc hz
      have hr : resC n u (f_X2_readQuestion N t2) (rqF n ch p1 s1) := by
        rcases hc with hc | hc
        · have := c_rq hN hT hc (by omega)
          unfold rqF at this ⊢
          simp only [lk, sk_sk hT.1] at this ⊢
          exact this
        · exact c_rq hN hT hc (by omega)
      unfold f_X2_readQuestions_26
      cases hq : rqF n ch p1 s1 with
      | inl b =>
        rw [hq] at hr hz
        obtain ⟨t3, m1, m2⟩ := hr
        left
        rw [m1, o_bd_some, ← hz]
        exact ⟨t3, rfl, m2⟩
      | inr x =>
        have hx := rqF_q hq
        rw [hq] at hr hz
        obtain ⟨t3, m1, m2⟩ := hr
        right
        rw [m1, o_bd_some]
        simp only [if_neg one_ne, nI_1]
        exact ⟨_, ⟨t3, x.1, x.2, rfl, m2, by omega, hz⟩, rfl⟩
    show (resC n u (b_X2_readQuestions_2 N K (nI k) t1) Z) ∨ ∃ x', _ ∧ b_X2_readQuestions_2 N K (nI k) t1 = _
    unfold b_X2_readQuestions_2
    rw [if_neg c1]
    simp only [ck]
    by_cases e : k ≤ 0
    · rw [if_pos e]
      rw [if_neg (show ¬ (8 - (k + 1) + 1 < 8 ∧ ¬ (97 ≤ lk n ch p1 ∧ lk n ch p1 ≤ 104)) by omega)] at a3
      exact hone t1 (Or.inr a1) a3
    · rw [if_neg e]
      obtain ⟨t2, b1, b2⟩ := a1.next hN hT
      have hl := lk_le hT.1 p1
      rw [b1, o_bd_some]
      simp only []
      rw [c_topic hl, o_bd_some]
      by_cases e1 : 97 ≤ lk n ch p1 ∧ lk n ch p1 ≤ 104
      · rw [if_neg (fun z => z.2 e1)] at a3
        simp only [if_pos e1, if_neg (ne4 (show lk n ch p1 - 97 < 1000000 by omega))]
        exact hone t2 (Or.inl b2) a3
      · rw [if_pos ⟨by omega, e1⟩] at a3
        simp only [if_neg e1, ite_true]
        left
        rw [← a3]
        exact ⟨t2, rfl, b2⟩
theorem c_rt {N n p : Nat} {ch : Nat → Nat} {t : Mm} (hN : 300 ≤ N) (hT : TP t n ch) (hp : p ≤ n) (h : t.1 3 3 0 2 = nI p) : ∃ t', f_X2_readTopics N t = some (nI (rtF n ch 8 p 0).2, t') ∧ f33 t t' ∧ t'.1 3 3 0 2 = nI (rtF n ch 8 p 0).1 ∧ (rtF n ch 8 p 0).1 ≤ n ∧ (rtF n ch 8 p 0).2 < 256 := by
  obtain ⟨Z, hZ⟩ : ∃ Z, rtF n ch 8 p 0 = Z := ⟨_, rfl⟩
  rw [hZ]
  refine lp_up (body := fun k x => b_X2_readTopics_4 N k x.1 x.2.1 x.2.2) (fun o => ∃ t', o = some (nI Z.2, t') ∧ f33 t t' ∧ t'.1 3 3 0 2 = nI Z.1 ∧ Z.1 ≤ n ∧ Z.2 < 256) (fun k x => ∃ t1 p1 set, x = (nI set, nI k, t1) ∧ f33 t t1 ∧ t1.1 3 3 0 2 = nI p1 ∧ p1 ≤ n ∧ set < 2 ^ k ∧ rtF n ch (8 - k) p1 set = Z) 8 (fun K x hx => ?_) (fun K k x hk hx => ?_) N 0 (0, 0, t) (by omega) (by omega) ⟨t, p, 0, rfl, f33.rfl' t, h, hp, by decide, hZ⟩
  · obtain ⟨t1, p1, set, rfl, a1, a2, a3, a4, rfl⟩ := hx
    exact ⟨t1, rfl, a1, a2, a3, a4⟩
  · obtain ⟨t1, p1, set, rfl, a1, a2, a3, a4, a5⟩ := hx
    right
    have c1 : ¬ (8 : Int32) ≤ nI k := fun z => absurd ((nIle (a := 8) (by omega) (by omega)).mp z) (by omega)
    obtain ⟨t2, b1, b2, b3⟩ := c_next hN (a1.TP hT) a3 a2
    have hl := lk_le hT.1 p1
    rw [show 8 - k = (8 - (k + 1)) + 1 by omega, rtF, show 8 - (8 - (k + 1) + 1) = k by omega] at a5
    show ∃ x', _ ∧ b_X2_readTopics_4 N K (nI set) (nI k) t1 = _
    unfold b_X2_readTopics_4 f_X2_readTopics_37
    rw [if_neg c1, b1, o_bd_some]
    simp only []
    rw [c_topic hl, o_bd_some]
    have hp2 : 2 ^ k < 2 ^ (k + 1) := Nat.pow_lt_pow_right (by decide) (by omega)
    by_cases e1 : 97 ≤ lk n ch p1 ∧ lk n ch p1 ≤ 104
    · have c2 : nI (lk n ch p1 - 97) = nI k ↔ lk n ch p1 = 97 + k := by
        rw [nIeq (by omega) (by omega)]
        omega
      simp only [if_pos e1, c2, b3, nI_1, o_nm, nI_shl1 (show k < 31 by omega), nI_or]
      by_cases e2 : lk n ch p1 = 97 + k
      · rw [if_pos e2] at a5
        rw [if_pos e2]
        have hlt : sk n ch p1 < n := lk_n (ch := ch) (by omega)
        exact ⟨_, ⟨sI t2 3 3 0 2 (nI (sk n ch p1 + 1)), sk n ch p1 + 1, set ||| 2 ^ k, rfl, (a1.tr b2).tr (f33.sI _ _ _), rfl, hlt, Nat.or_lt_two_pow (by omega) hp2, a5⟩, rfl⟩
      · rw [if_neg e2] at a5
        rw [if_neg e2]
        exact ⟨_, ⟨t2, sk n ch p1, set, rfl, a1.tr b2, b3, sk_le a3, by omega, a5⟩, rfl⟩
    · have e2 : ¬ lk n ch p1 = 97 + k := by omega
      rw [if_neg e2] at a5
      have n4 : ¬ (-4 : Int32) = nI k := fun z => ne4 (show k < 1000000 by omega) z.symm
      simp only [if_neg e1, if_neg n4, nI_1]
      exact ⟨_, ⟨t2, sk n ch p1, set, rfl, a1.tr b2, b3, sk_le a3, by omega, a5⟩, rfl⟩
