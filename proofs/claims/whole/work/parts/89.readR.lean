/-! the reference's reader -/
def QF (v v' : Mm) : Prop := (∀ r, r ≠ 0 → r ≠ 25 → r ≠ 26 → r ≠ 27 → v'.1 9 0 r = v.1 9 0 r) ∧ v'.2 = v.2 ∧ ∀ j, j ≠ 21 → j ≠ 22 → j ≠ 23 → j ≠ 24 → j ≠ 28 → v'.1 9 0 0 j = v.1 9 0 0 j
theorem QF.rfl' (v : Mm) : QF v v := ⟨fun _ _ _ _ _ => rfl, rfl, fun _ _ _ _ _ _ => rfl⟩
theorem QF.s0 {v t : Mm} {j : Nat} {x : Int32} (h : QF v t) (hj : j = 21 ∨ j = 22 ∨ j = 23 ∨ j = 24 ∨ j = 28) : QF v (sI t 9 0 0 j x) := by
  obtain ⟨a, b, c⟩ := h
  refine ⟨fun r h0 h1 h2 h3 => ?_, b, fun i h1 h2 h3 h4 h5 => ?_⟩
  · rw [sI_off (by omega)]
    exact a r h0 h1 h2 h3
  · rw [sI_at, upd_off (by omega)]
    exact c i h1 h2 h3 h4 h5
theorem QF.sr {v t : Mm} {r j : Nat} {x : Int32} (h : QF v t) (hj : r = 25 ∨ r = 26 ∨ r = 27) : QF v (sI t 9 0 r j x) := by
  obtain ⟨a, b, c⟩ := h
  refine ⟨fun r h0 h1 h2 h3 => ?_, b, fun i h1 h2 h3 h4 h5 => ?_⟩
  · rw [sI_off (by omega)]
    exact a r h0 h1 h2 h3
  · rw [sI_off (by omega)]
    exact c i h1 h2 h3 h4 h5
def TQ (v : Mm) (n : Nat) (ch : Nat → Nat) : Prop := okT n ch ∧ v.1 9 0 0 15 = nI n ∧ ∀ k, k < n → v.1 9 0 16 k = nI (ch k)
theorem QF.tq {v t : Mm} {n : Nat} {ch : Nat → Nat} (h : QF v t) (hT : TQ v n ch) : TQ t n ch := by
  unfold TQ
  rw [h.2.2 15 (by omega) (by omega) (by omega) (by omega) (by omega), h.1 16 (by omega) (by omega) (by omega) (by omega)]
  exact hT
def RS (v t : Mm) (l b p q c : Int32) (tp kd w : Nat → Int32) : Prop := QF v t ∧ (t.1 9 0 0 28 = l ∧ t.1 9 0 0 22 = b ∧ t.1 9 0 0 21 = p ∧ t.1 9 0 0 23 = q ∧ t.1 9 0 0 24 = c) ∧ t.1 9 0 25 = tp ∧ t.1 9 0 26 = kd ∧ t.1 9 0 27 = w
theorem RS.s28 {v t : Mm} {l b p q c : Int32} {tp kd w : Nat → Int32} (h : RS v t l b p q c tp kd w) (x : Int32) : RS v (sI t 9 0 0 28 x) x b p q c tp kd w := by
  obtain ⟨a, ⟨h1, h2, h3, h4, h5⟩, h6, h7, h8⟩ := h
  exact ⟨a.s0 (by omega), ⟨rfl, h2, h3, h4, h5⟩, h6, h7, h8⟩
theorem RS.s22 {v t : Mm} {l b p q c : Int32} {tp kd w : Nat → Int32} (h : RS v t l b p q c tp kd w) (x : Int32) : RS v (sI t 9 0 0 22 x) l x p q c tp kd w := by
  obtain ⟨a, ⟨h1, h2, h3, h4, h5⟩, h6, h7, h8⟩ := h
  exact ⟨a.s0 (by omega), ⟨h1, rfl, h3, h4, h5⟩, h6, h7, h8⟩
theorem RS.s21 {v t : Mm} {l b p q c : Int32} {tp kd w : Nat → Int32} (h : RS v t l b p q c tp kd w) (x : Int32) : RS v (sI t 9 0 0 21 x) l b x q c tp kd w := by
  obtain ⟨a, ⟨h1, h2, h3, h4, h5⟩, h6, h7, h8⟩ := h
  exact ⟨a.s0 (by omega), ⟨h1, h2, rfl, h4, h5⟩, h6, h7, h8⟩
theorem RS.s23 {v t : Mm} {l b p q c : Int32} {tp kd w : Nat → Int32} (h : RS v t l b p q c tp kd w) (x : Int32) : RS v (sI t 9 0 0 23 x) l b p x c tp kd w := by
  obtain ⟨a, ⟨h1, h2, h3, h4, h5⟩, h6, h7, h8⟩ := h
  exact ⟨a.s0 (by omega), ⟨h1, h2, h3, rfl, h5⟩, h6, h7, h8⟩
theorem RS.s24 {v t : Mm} {l b p q c : Int32} {tp kd w : Nat → Int32} (h : RS v t l b p q c tp kd w) (x : Int32) : RS v (sI t 9 0 0 24 x) l b p q x tp kd w := by
  obtain ⟨a, ⟨h1, h2, h3, h4, h5⟩, h6, h7, h8⟩ := h
  exact ⟨a.s0 (by omega), ⟨h1, h2, h3, h4, rfl⟩, h6, h7, h8⟩
theorem RS.s25 {v t : Mm} {l b p q c : Int32} {tp kd w : Nat → Int32} (h : RS v t l b p q c tp kd w) (k : Nat) (x : Int32) : RS v (sI t 9 0 25 k x) l b p q c (upd tp k x) kd w := by
  obtain ⟨a, ⟨h1, h2, h3, h4, h5⟩, h6, h7, h8⟩ := h
  subst h6
  exact ⟨a.sr (by omega), ⟨h1, h2, h3, h4, h5⟩, rfl, h7, h8⟩
theorem RS.s26 {v t : Mm} {l b p q c : Int32} {tp kd w : Nat → Int32} (h : RS v t l b p q c tp kd w) (k : Nat) (x : Int32) : RS v (sI t 9 0 26 k x) l b p q c tp (upd kd k x) w := by
  obtain ⟨a, ⟨h1, h2, h3, h4, h5⟩, h6, h7, h8⟩ := h
  subst h7
  exact ⟨a.sr (by omega), ⟨h1, h2, h3, h4, h5⟩, h6, rfl, h8⟩
theorem RS.s27 {v t : Mm} {l b p q c : Int32} {tp kd w : Nat → Int32} (h : RS v t l b p q c tp kd w) (k : Nat) (x : Int32) : RS v (sI t 9 0 27 k x) l b p q c tp kd (upd w k x) := by
  obtain ⟨a, ⟨h1, h2, h3, h4, h5⟩, h6, h7, h8⟩ := h
  subst h8
  exact ⟨a.sr (by omega), ⟨h1, h2, h3, h4, h5⟩, h6, h7, rfl⟩
theorem r_n38 {N n p : Nat} {ch : Nat → Nat} {v t : Mm} {l b q c : Int32} {tp kd w : Nat → Int32} (hT : TQ v n ch) (hp : p ≤ 90) (h : RS v t l b (nI p) q c tp kd w) : ∃ t', f_X8_next_38 N t = some (nI (lt' n ch p), t') ∧ RS v t' l (nI p) (nI (p + 1)) q c tp kd w := by
  have e21 : t.1 9 0 0 21 = nI p := h.2.1.2.2.1
  have h1 := h.s22 (nI p)
  have h2 := h1.s21 (nI (p + 1))
  have e21' : (sI t 9 0 0 22 (nI p)).1 9 0 0 21 = nI p := e21
  obtain ⟨⟨h90, hc⟩, q1, q2⟩ := h2.1.tq hT
  have e22 := h2.2.1.2.1
  unfold f_X8_next_38
  simp only [o_nm, e21, e21', nI_1, q1, e22]
  have cc : nI n ≤ nI p ↔ n ≤ p := nIle (by omega) (by omega)
  unfold lt'
  by_cases e : n ≤ p
  · rw [if_pos (cc.mpr e), if_neg (by omega)]
    exact ⟨_, rfl, h2⟩
  · have i1 : o_inb (nI p) 90 = true := inb_nI (by omega) (by omega)
    rw [if_neg (fun z => e (cc.mp z)), if_pos i1, cl_nI (by omega), q2 p (by omega), if_pos (by omega)]
    exact ⟨_, rfl, h2⟩
theorem r_next {N n p : Nat} {ch : Nat → Nat} {v t : Mm} {l b q c : Int32} {tp kd w : Nat → Int32} (hN : 300 ≤ N) (hT : TQ v n ch) (hp : p ≤ n) (h : RS v t l b (nI p) q c tp kd w) : ∃ t', f_X8_next N t = some (nI (lk n ch p), t') ∧ RS v t' l (nI (sk n ch p)) (nI (sk n ch p + 1)) q c tp kd w := by
  have h90 := hT.1.1
  refine lp_up (body := fun k x => b_X8_next_0 N k x) (fun o => ∃ t', o = some (nI (lk n ch p), t') ∧ RS v t' l (nI (sk n ch p)) (nI (sk n ch p + 1)) q c tp kd w) (fun k x => RS v x l b (nI (p + k)) q c tp kd w ∧ p + k ≤ n ∧ sk n ch p = skf n ch (91 - k) (p + k)) 90 (fun K x hx => ?_) (fun K k x hk hx => ?_) N 0 t (by omega) (by omega) ⟨h, hp, rfl⟩
  · obtain ⟨a1, a3, a4⟩ := hx
    have e : lt' n ch (p + 90) ≠ 32 := by
      unfold lt'
      rw [if_neg (by omega)]
      decide
    have a5 : sk n ch p = p + 90 := by
      rw [a4]
      exact if_neg e
    have q1 := (a1.1.tq hT).2.1
    have e21 := a1.2.1.2.2.1
    have cc : nI n ≤ nI (p + 90) := (nIle (by omega) (by omega)).mpr (by omega)
    show ∃ t', b_X8_next_0 N K x = _ ∧ _
    unfold b_X8_next_0 lk
    rw [q1, e21, if_pos cc, a5]
    exact r_n38 hT (by omega) a1
  · obtain ⟨a1, a3, a4⟩ := hx
    have q1 := (a1.1.tq hT).2.1
    have q2 := (a1.1.tq hT).2.2
    have e21 := a1.2.1.2.2.1
    have cc : nI n ≤ nI (p + k) ↔ n ≤ p + k := nIle (by omega) (by omega)
    rw [show 91 - k = (91 - (k + 1)) + 1 by omega, skf] at a4
    show (∃ t', b_X8_next_0 N K x = _ ∧ _) ∨ ∃ x', _ ∧ b_X8_next_0 N K x = _
    unfold b_X8_next_0 lk
    simp only [q1, e21, cc]
    by_cases e : n ≤ p + k
    · left
      have e32 : lt' n ch (p + k) ≠ 32 := by
        unfold lt'
        rw [if_neg (by omega)]
        decide
      rw [if_neg e32] at a4
      rw [if_pos e, a4]
      exact r_n38 hT (by omega) a1
    · have i1 : o_inb (nI (p + k)) 90 = true := inb_nI (by omega) (by omega)
      have hlt : lt' n ch (p + k) = ch (p + k) := if_pos (by omega)
      have hc := hT.1.2 (p + k) (by omega)
      have c32 : nI (ch (p + k)) = 32 ↔ ch (p + k) = 32 := nIeq (b := 32) (by omega) (by omega)
      simp only [if_neg e, if_pos i1, cl_nI (show p + k < 2147483648 by omega), q2 (p + k) (by omega), c32, nI_1, o_nm]
      rw [hlt] at a4
      by_cases e2 : ch (p + k) = 32
      · right
        rw [if_pos e2] at a4
        rw [if_pos e2]
        exact ⟨_, ⟨a1.s21 (nI (p + (k + 1))), by omega, a4⟩, rfl⟩
      · left
        rw [if_neg e2] at a4
        rw [if_neg e2, a4]
        exact r_n38 hT (by omega) a1
/-- the next letter, kept -/
theorem r_nl {N n p : Nat} {ch : Nat → Nat} {v t : Mm} {l b q c : Int32} {tp kd w : Nat → Int32} (hN : 300 ≤ N) (hT : TQ v n ch) (hp : p ≤ n) (h : RS v t l b (nI p) q c tp kd w) : ∃ t', f_X8_next N t = some (nI (lk n ch p), t') ∧ RS v (sI t' 9 0 0 28 (nI (lk n ch p))) (nI (lk n ch p)) (nI (sk n ch p)) (nI (sk n ch p + 1)) q c tp kd w := by
  obtain ⟨t', e, h'⟩ := r_next hN hT hp h
  exact ⟨t', e, h'.s28 _⟩
theorem r_in {L a b : Nat} {lo hi : Int64} (hL : L < 2147483648) (h1 : lo.toInt = (a : Int)) (h2 : hi.toInt = (b : Int)) (t : Mm) : f_X8_in (nI L).toInt64 lo hi t = some (if a ≤ L ∧ L ≤ b then 1 else 0, t) := by
  have h := p_in (a := nI L) t h1 h2
  have hi := nI_inR hL (l := (a : Int)) (h := (b : Int))
  by_cases e : a ≤ L ∧ L ≤ b
  · rw [if_pos e]
    exact h.1 (hi.mpr (by omega))
  · rw [if_neg e]
    exact h.2 (fun z => e (by have := hi.mp z; omega))
theorem r_topic {L : Nat} (hL : L ≤ 126) (t : Mm) : f_X8_isTopic (nI L) t = some (if 97 ≤ L ∧ L ≤ 104 then 1 else 0, t) := by
  unfold f_X8_isTopic
  rw [r_in (a := 97) (b := 104) (by omega) rfl rfl, o_bd_some]
  by_cases e : 97 ≤ L ∧ L ≤ 104
  · simp only [if_pos e]
    rfl
  · simp only [if_neg e]
    rfl
theorem r_digit {L : Nat} (hL : L ≤ 126) (t : Mm) : f_X8_isDigit (nI L) t = some (if 48 ≤ L ∧ L ≤ 57 then 1 else 0, t) := by
  unfold f_X8_isDigit
  rw [r_in (a := 48) (b := 57) (by omega) rfl rfl, o_bd_some]
  by_cases e : 48 ≤ L ∧ L ≤ 57
  · simp only [if_pos e]
    rfl
  · simp only [if_neg e]
    rfl
theorem r_kb : ∀ L, L < 127 → (if nI L = 112 then (0 : Int32) else (if nI L = 115 then 1 else (if nI L = 114 then 2 else (if nI L = 100 then 3 else (if nI L = 103 then 4 else -4))))) = (if kdL L < 5 then nI (kdL L) else -4) := by decide +kernel
theorem r_kind {L : Nat} (hL : L ≤ 126) (t : Mm) : f_X8_kindBy (nI L) t = some (if kdL L < 5 then nI (kdL L) else -4, t) := by
  rw [← r_kb L (by omega)]
  unfold f_X8_kindBy
  repeat' split
  all_goals rfl
theorem RX_Q {c : Int32} {tp kd w : Nat → Int32} {s : Sx} {T H : Nat} (h : RX (nI (s 0 0)) c tp kd w s) (h8 : s 0 0 < 8) : RX (nI (s 0 0 + 1)) c (upd tp (s 0 0) (nI T)) kd (upd w (1 + s 0 0) (nI H)) (adQ s T H 0) := by
  obtain ⟨⟨a1, a2, a3, a4⟩, f, g, z⟩ := h
  refine ⟨⟨rfl, a2, by rw [upd_off (by omega)]; exact a3, by rw [upd_off (by omega)]; exact a4⟩, fun k hk => ?_, fun k hk => ?_, fun k hk => ?_⟩
  · have hk : k < s 0 0 + 1 := hk
    rw [adQ_1, adQ_2]
    by_cases e : k = s 0 0
    · subst e
      simp only [ite_true, upd_at, and_self]
    · have := f k (by omega)
      rw [if_neg e, if_neg e, upd_off e, upd_off (by omega)]
      exact this
  · rw [upd_off (by omega), upd_off (by omega)]
    exact g k hk
  · rw [upd_off (by omega)]
    exact z k hk
theorem RX_A {q c : Int32} {tp kd w : Nat → Int32} {s : Sx} {T H : Nat} (h : RX q c tp kd w (adQ s T H 0)) : RX q c tp kd (upd w 0 (nI (s 0 2 ||| 2 ^ s 0 0))) (adQ s T H 1) := by
  obtain ⟨⟨a1, a2, a3, a4⟩, f, g, z⟩ := h
  refine ⟨⟨a1, a2, rfl, a4⟩, fun k hk => ?_, fun k hk => ?_, fun k hk => ?_⟩
  · rw [upd_off (by omega)]
    exact f k hk
  · rw [upd_off (by omega), upd_off (by omega)]
    exact g k hk
  · rw [upd_off (by omega)]
    exact z k hk
theorem RX_K {q c : Int32} {tp kd w : Nat → Int32} {s : Sx} (h : RX q c tp kd w s) (x : Int32) : RX q c tp (upd kd (s 0 1) x) w s := by
  obtain ⟨⟨a1, a2, a3, a4⟩, f, g, z⟩ := h
  refine ⟨⟨a1, a2, a3, a4⟩, f, fun k hk => ?_, z⟩
  rw [upd_off (by omega)]
  exact g k hk
theorem RX_W {q c : Int32} {tp kd w : Nat → Int32} {s : Sx} {a : Nat} (h : RX q c tp kd w s) (h8 : s 0 0 ≤ 8) (h5 : s 0 1 < 5) (ha : a = 9 + s 0 1 ∨ a = 14 + s 0 1) (x : Int32) : RX q c tp kd (upd w a x) s := by
  obtain ⟨⟨a1, a2, a3, a4⟩, f, g, z⟩ := h
  refine ⟨⟨a1, a2, by rw [upd_off (by omega)]; exact a3, by rw [upd_off (by omega)]; exact a4⟩, fun k hk => ?_, fun k hk => ?_, fun k hk => ?_⟩
  · rw [upd_off (by omega)]
    exact f k hk
  · rw [upd_off (by omega), upd_off (by omega)]
    exact g k hk
  · rw [upd_off (by omega)]
    exact z k hk
theorem RX_C {q : Int32} {tp kd w : Nat → Int32} {s : Sx} {K W C : Nat} (h : RX q (nI (s 0 1)) tp kd w s) (h1 : kd (s 0 1) = nI K) (h2 : w (9 + s 0 1) = nI W) (h3 : w (14 + s 0 1) = nI C) : RX q (nI (s 0 1 + 1)) tp kd w (adC s K W C) := by
  obtain ⟨⟨a1, a2, a3, a4⟩, f, g, z⟩ := h
  refine ⟨⟨a1, rfl, a3, a4⟩, fun k hk => f k hk, fun k hk => ?_, z⟩
  have hk : k < s 0 1 + 1 := hk
  rw [adC_3, adC_4, adC_5]
  by_cases e : k = s 0 1
  · subst e
    simp only [ite_true]
    exact ⟨h1, h2, h3⟩
  · rw [if_neg e, if_neg e, if_neg e]
    exact g k (by omega)
def RI (n : Nat) (ch : Nat → Nat) (v t : Mm) (p : Nat) (s : Sx) : Prop := ∃ tp kd w, RS v t (nI (lk n ch p)) (nI (sk n ch p)) (nI (sk n ch p + 1)) (nI (s 0 0)) (nI (s 0 1)) tp kd w ∧ RX (nI (s 0 0)) (nI (s 0 1)) tp kd w s ∧ WX s ∧ p ≤ n
theorem RI.sk' {n : Nat} {ch : Nat → Nat} {v t : Mm} {p : Nat} {s : Sx} (hT : okT n ch) (h : RI n ch v t p s) : RI n ch v t (sk n ch p) s := by
  obtain ⟨tp, kd, w, h1, h2, h3, h4⟩ := h
  refine ⟨tp, kd, w, ?_, h2, h3, sk_le h4⟩
  unfold lk
  rw [sk_sk hT]
  exact h1
def resR (n : Nat) (ch : Nat → Nat) (v : Mm) (o : Option (Int32 × Mm)) : Rs → Prop
  | .inl b => ∃ t' : Mm, o = some (0, t') ∧ QF v t' ∧ t'.1 9 0 0 22 = nI b ∧ b ≤ n
  | .inr x => ∃ t' : Mm, o = some (1, t') ∧ RI n ch v t' x.1 x.2
theorem rqF_sk {n : Nat} {ch : Nat → Nat} {p : Nat} {s : Sx} (hT : okT n ch) : rqF n ch (sk n ch p) s = rqF n ch p s := by
  unfold rqF
  simp only [lk, sk_sk hT]
theorem r_qs8 {N n p : Nat} {ch : Nat → Nat} {v t : Mm} {s : Sx} (hN : 300 ≤ N) (hT : TQ v n ch) (h : RI n ch v t p s) (h0 : s 0 0 = 0) : resR n ch v (f_X8_questionsAll_8 N t) (rqsF n ch 8 p s) := by
  obtain ⟨Z, hZ⟩ : ∃ Z, rqsF n ch 8 p s = Z := ⟨_, rfl⟩
  rw [hZ]
  refine lp_up (body := fun k x => b_X8_questionsAll_8 N k x) (fun o => resR n ch v o Z) (fun k x => ∃ p1 s1, RI n ch v x p1 s1 ∧ s1 0 0 = k ∧ rqsF n ch (8 - k) p1 s1 = Z) 8 (fun K x hx => ?_) (fun K k x hk hx => ?_) N 0 t (by omega) (by omega) ⟨p, s, h, h0, hZ⟩
  · obtain ⟨p1, s1, a1, a2, rfl⟩ := hx
    obtain ⟨tp, kd, w, b1, b2, b3, b4⟩ := id a1
    obtain ⟨-, ⟨e28, e22, e21, e23, e24⟩, -⟩ := id b1
    rw [a2] at e23
    have hl := lk_le hT.1 p1
    show resR n ch v (b_X8_questionsAll_8 N K x) (.inr (p1, s1))
    unfold b_X8_questionsAll_8 f_X8_questionsAll_141
    rw [e28, r_topic hl, o_bd_some]
    simp only [e23, if_neg (show ¬ nI 8 ≤ 0 by decide), if_pos (show (8 : Int32) ≤ nI 8 by decide)]
    refine ⟨x, ?_, a1⟩
    split <;> rfl
  · obtain ⟨p1, s1, a1, a2, a3⟩ := hx
    obtain ⟨tp, kd, w, b1, b2, b3, b4⟩ := id a1
    obtain ⟨-, ⟨e28, e22, e21, e23, e24⟩, -⟩ := id b1
    have hl := lk_le hT.1 p1
    have hle := sk_le (ch := ch) b4
    have c8 : ¬ (8 : Int32) ≤ nI (s1 0 0) := fun z => absurd ((nIle (a := 8) (by omega) (by omega)).mp z) (by omega)
    have i8 : o_inb (nI (s1 0 0)) 8 = true := inb_nI (by omega) (by omega)
    rw [show 8 - k = (8 - (k + 1)) + 1 by omega, rqsF] at a3
    show (resR n ch v (b_X8_questionsAll_8 N K x) Z) ∨ ∃ x', _ ∧ b_X8_questionsAll_8 N K x = _
    unfold b_X8_questionsAll_8 f_X8_questionsAll_141
    rw [e28, r_topic hl, o_bd_some]
    by_cases e1 : 97 ≤ lk n ch p1 ∧ lk n ch p1 ≤ 104
    · rw [if_neg (fun z => z.2 e1)] at a3
      have hlt : sk n ch p1 < n := lk_n (ch := ch) (by omega)
      have em : nI (lk n ch p1) - 97 = nI (lk n ch p1 - 97) := pk_sub (b := 97) (by omega)
      simp only [if_pos e1, if_neg one_ne, e23, if_neg c8, if_pos i8, e28, em, cl_nI (show s1 0 0 < 2147483648 by omega), o_nm]
      have d1 := b1.s25 (s1 0 0) (nI (lk n ch p1 - 97))
      obtain ⟨t2, m1, m2⟩ := r_nl (p := sk n ch p1 + 1) hN hT hlt d1
      obtain ⟨-, ⟨g28, g22, g21, g23, g24⟩, -⟩ := id m2
      have hl2 := lk_le hT.1 (sk n ch p1 + 1)
      rw [m1, o_bd_some]
      simp only []
      rw [g28, r_in (a := 49) (b := 57) (by omega) rfl rfl, o_bd_some]
      unfold rqF at a3
      rw [if_pos e1] at a3
      by_cases e2 : 49 ≤ lk n ch (sk n ch p1 + 1) ∧ lk n ch (sk n ch p1 + 1) ≤ 57
      · rw [if_pos e2] at a3
        have hlt2 : sk n ch (sk n ch p1 + 1) < n := lk_n (ch := ch) (by omega)
        have em2 : nI (lk n ch (sk n ch p1 + 1)) - 48 = nI (lk n ch (sk n ch p1 + 1) - 48) := pk_sub (b := 48) (by omega)
        have ea : (1 : Int32) + nI (s1 0 0) = nI (1 + s1 0 0) := nI_add 1 _
        have i31 : o_inb (nI (1 + s1 0 0)) 31 = true := inb_nI (by omega) (by omega)
        have i0 : o_inb 0 31 = true := by decide
        simp only [if_pos e2, if_neg one_ne, g23, ea, if_pos i31, g28, em2, cl_nI (show 1 + s1 0 0 < 2147483648 by omega), o_nm]
        have d2 := m2.s27 (1 + s1 0 0) (nI (lk n ch (sk n ch p1 + 1) - 48))
        obtain ⟨t3, m3, m4⟩ := r_nl (p := sk n ch (sk n ch p1 + 1) + 1) hN hT hlt2 d2
        obtain ⟨-, ⟨k28, k22, k21, k23, k24⟩, k25, k26, k27⟩ := id m4
        have hl3 := lk_le hT.1 (sk n ch (sk n ch p1 + 1) + 1)
        rw [m3, o_bd_some]
        simp only []
        have hX := RX_Q (T := lk n ch p1 - 97) (H := lk n ch (sk n ch p1 + 1) - 48) b2 (by omega)
        have c33 : nI (lk n ch (sk n ch (sk n ch p1 + 1) + 1)) = 33 ↔ lk n ch (sk n ch (sk n ch p1 + 1) + 1) = 33 := nIeq (b := 33) (by omega) (by omega)
        simp only [k28, c33, if_pos i0]
        unfold f_X8_questionsAll_128
        by_cases e3 : lk n ch (sk n ch (sk n ch p1 + 1) + 1) = 33
        · rw [if_pos e3] at a3
          have hlt3 : sk n ch (sk n ch (sk n ch p1 + 1) + 1) < n := lk_n (ch := ch) (by omega)
          have kw : (sI t3 9 0 0 28 (nI (lk n ch (sk n ch (sk n ch p1 + 1) + 1)))).1 9 0 27 (Int32.toNatClampNeg 0) = nI (s1 0 2) := by
            rw [k27]
            exact hX.1.2.2.1
          simp only [if_pos e3, o_nm, kw, k23, nI_shl1 (show s1 0 0 < 31 by omega), nI_or]
          have d3 := m4.s27 0 (nI (s1 0 2 ||| 2 ^ s1 0 0))
          obtain ⟨t4, m5, m6⟩ := r_nl (p := sk n ch (sk n ch (sk n ch p1 + 1) + 1) + 1) hN hT hlt3 d3
          have m5 : f_X8_next N (sI (sI t3 9 0 0 28 (nI (lk n ch (sk n ch (sk n ch p1 + 1) + 1)))) 9 0 27 (Int32.toNatClampNeg 0) (nI (s1 0 2 ||| 2 ^ s1 0 0))) = _ := m5
          rw [m5, o_bd_some]
          simp only [m6.2.1.2.2.2.1, nI_1]
          right
          refine ⟨_, ⟨_, _, ⟨_, _, _, m6.s23 (nI (s1 0 0 + 1)), RX_A hX, WX_Q b3 (by omega) (by omega) (by omega), hlt3⟩, ?_, a3⟩, rfl⟩
          show s1 0 0 + 1 = k + 1
          omega
        · rw [if_neg e3] at a3
          simp only [if_neg e3, o_nm, k23, nI_1]
          right
          have h5 := m4.s23 (nI (s1 0 0 + 1))
          have h6 : RI n ch v (sI (sI t3 9 0 0 28 (nI (lk n ch (sk n ch (sk n ch p1 + 1) + 1)))) 9 0 0 23 (nI (s1 0 0 + 1))) (sk n ch (sk n ch p1 + 1) + 1) (adQ s1 (lk n ch p1 - 97) (lk n ch (sk n ch p1 + 1) - 48) 0) := ⟨_, _, _, h5, hX, WX_Q b3 (by omega) (by omega) (by omega), hlt2⟩
          refine ⟨_, ⟨_, _, h6.sk' hT.1, ?_, a3⟩, rfl⟩
          show s1 0 0 + 1 = k + 1
          omega
      · rw [if_neg e2] at a3
        simp only [if_neg e2, ite_true]
        left
        rw [← a3]
        exact ⟨_, rfl, m2.1, g22, sk_le (by omega)⟩
    · left
      simp only [if_neg e1, ite_true, e23]
      by_cases e0 : k = 0
      · subst e0
        rw [if_neg (show ¬ (8 - (0 + 1) + 1 < 8 ∧ ¬ (97 ≤ lk n ch p1 ∧ lk n ch p1 ≤ 104)) by omega)] at a3
        unfold rqF at a3
        rw [if_neg e1] at a3
        rw [a2, if_pos (show nI 0 ≤ 0 by decide), ← a3]
        exact ⟨x, rfl, b1.1, e22, hle⟩
      · rw [if_pos ⟨by omega, e1⟩] at a3
        have c0 : ¬ nI (s1 0 0) ≤ 0 := fun z => absurd ((nIle (b := 0) (by omega) (by omega)).mp z) (by omega)
        rw [if_neg c0, ← a3]
        exact ⟨x, rfl, a1.sk' hT.1⟩
