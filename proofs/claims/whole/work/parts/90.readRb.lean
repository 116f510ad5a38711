/-! the reference's reader: what a crosser knows, when he comes -/
theorem rtF_b {n : Nat} {ch : Nat → Nat} : ∀ j p set, j ≤ 8 → p ≤ n → set < 256 → (rtF n ch j p set).1 ≤ n ∧ (rtF n ch j p set).2 < 256
  | 0, p, set, _, hp, hs => ⟨hp, hs⟩
  | j + 1, p, set, hj, hp, hs => by
    rw [rtF]
    split
    · rename_i e
      have hlt : sk n ch p < n := lk_n (ch := ch) (by omega)
      refine rtF_b j _ _ (by omega) hlt ?_
      show (set ||| 2 ^ (8 - (j + 1))) < 2 ^ 8
      exact Nat.or_lt_two_pow hs (Nat.pow_lt_pow_right (by decide) (by omega))
    · exact rtF_b j _ _ (by omega) (sk_le hp) hs
theorem rtF_ne {n : Nat} {ch : Nat → Nat} : ∀ j p set, set ≠ 0 → (rtF n ch j p set).2 ≠ 0
  | 0, p, set, h => h
  | j + 1, p, set, h => by
    rw [rtF]
    split
    · refine rtF_ne j _ _ ?_
      have := Nat.left_le_or (n := set) (m := 2 ^ (8 - (j + 1)))
      omega
    · exact rtF_ne j _ _ h
theorem rt_stop {n : Nat} {ch : Nat → Nat} (hT : okT n ch) : ∀ j p set, j ≤ 8 → (∀ m, 8 - j ≤ m → m < 8 → lk n ch p ≠ 97 + m) → (rtF n ch j p set).2 = set ∧ sk n ch (rtF n ch j p set).1 = sk n ch p ∧ (0 < j → (rtF n ch j p set).1 = sk n ch p)
  | 0, p, set, _, _ => ⟨rfl, rfl, fun h => absurd h (by omega)⟩
  | j + 1, p, set, hj, h => by
    rw [rtF, if_neg (h (8 - (j + 1)) (by omega) (by omega))]
    have ih := rt_stop hT j (sk n ch p) set (by omega) (fun m h1 h2 => by
      show lt' n ch (sk n ch (sk n ch p)) ≠ _
      rw [sk_sk hT]
      exact h m (by omega) h2)
    rw [sk_sk hT] at ih
    refine ⟨ih.1, ih.2.1, fun _ => ?_⟩
    rcases Nat.eq_zero_or_pos j with e | e
    · rw [e]; rfl
    · exact ih.2.2 e
theorem rt_skip {n : Nat} {ch : Nat → Nat} (hT : okT n ch) {m : Nat} (hm : m < 8) : ∀ j p set, j ≤ 8 → 8 - j ≤ m → lk n ch p = 97 + m → rtF n ch j p set = rtF n ch (8 - (m + 1)) (sk n ch p + 1) (set ||| 2 ^ m)
  | 0, p, set, _, h, _ => absurd h (by omega)
  | j + 1, p, set, hj, h, e => by
    rw [rtF]
    by_cases g : m = 8 - (j + 1)
    · rw [if_pos (by omega), show 8 - (m + 1) = j by omega, ← g]
    · rw [if_neg (by omega)]
      have e' : lk n ch (sk n ch p) = 97 + m := by
        show lt' n ch (sk n ch (sk n ch p)) = _
        rw [sk_sk hT]
        exact e
      rw [rt_skip hT hm j (sk n ch p) set (by omega) (by omega) e', sk_sk hT]
theorem r_kn70 {N c set : Nat} {v t : Mm} {l b p q : Int32} {tp kd w : Nat → Int32} (hc : c < 5) (h : RS v t l b p q (nI c) tp kd w) : ∃ t', f_X8_knowsAll_70 N (nI set) t = some (1, t') ∧ RS v t' l b p q (nI c) tp kd (upd w (9 + c) (nI set)) := by
  have e24 := h.2.1.2.2.2.2
  obtain ⟨i9, l9⟩ := lit19 (k := c) hc 9 (by omega)
  have i9 : o_inb (9 + nI c) 31 = true := i9
  have l9 : ((9 : Int32) + nI c).toNatClampNeg = 9 + c := l9
  unfold f_X8_knowsAll_70
  simp only [e24, if_pos i9, l9, o_nm]
  exact ⟨_, rfl, h.s27 _ _⟩
theorem r_kn24 {N n c p : Nat} {ch : Nat → Nat} {v t : Mm} {q : Int32} {tp kd w : Nat → Int32} (hN : 300 ≤ N) (hT : TQ v n ch) (hc : c < 5) (hp : p ≤ n) (h : RS v t (nI (lk n ch p)) (nI (sk n ch p)) (nI (sk n ch p + 1)) q (nI c) tp kd w) : ∃ t', f_X8_knowsAll_24 N 0 0 t = some (1, t') ∧ RS v t' (nI (lk n ch (rtF n ch 8 p 0).1)) (nI (sk n ch (rtF n ch 8 p 0).1)) (nI (sk n ch (rtF n ch 8 p 0).1 + 1)) q (nI c) tp kd (upd w (9 + c) (nI (rtF n ch 8 p 0).2)) := by
  obtain ⟨Z, hZ⟩ : ∃ Z, rtF n ch 8 p 0 = Z := ⟨_, rfl⟩
  rw [hZ]
  have stop : ∀ (p1 T set : Nat) (t1 : Mm), RS v t1 (nI (lk n ch p1)) (nI (sk n ch p1)) (nI (sk n ch p1 + 1)) q (nI c) tp kd w → T ≤ 8 → (∀ m, T ≤ m → m < 8 → lk n ch p1 ≠ 97 + m) → rtF n ch (8 - T) p1 set = Z → ∃ t', f_X8_knowsAll_70 N (nI set) t1 = some (1, t') ∧ RS v t' (nI (lk n ch Z.1)) (nI (sk n ch Z.1)) (nI (sk n ch Z.1 + 1)) q (nI c) tp kd (upd w (9 + c) (nI Z.2)) := by
    intro p1 T set t1 a1 a2 a3 a4
    obtain ⟨z1, z2, -⟩ := rt_stop hT.1 (8 - T) p1 set (by omega) (fun m h1 h2 => a3 m (by omega) h2)
    rw [a4] at z1 z2
    obtain ⟨t', m1, m2⟩ := r_kn70 (N := N) (set := set) hc a1
    refine ⟨t', m1, ?_⟩
    unfold lk
    rw [z1, z2]
    exact m2
  refine lp_up (body := fun k x => b_X8_knowsAll_24 N k x.1 x.2.1 x.2.2) (fun o => ∃ t', o = some (1, t') ∧ RS v t' (nI (lk n ch Z.1)) (nI (sk n ch Z.1)) (nI (sk n ch Z.1 + 1)) q (nI c) tp kd (upd w (9 + c) (nI Z.2))) (fun k x => ∃ (p1 T set la : Nat) (t1 : Mm), x = (nI la, nI set, t1) ∧ RS v t1 (nI (lk n ch p1)) (nI (sk n ch p1)) (nI (sk n ch p1 + 1)) q (nI c) tp kd w ∧ p1 ≤ n ∧ k ≤ T ∧ T ≤ 8 ∧ la < 97 + T ∧ (0 < T → la = 96 + T) ∧ rtF n ch (8 - T) p1 set = Z) 8 (fun K x hx => ?_) (fun K k x hk hx => ?_) N 0 (0, 0, t) (by omega) (by omega) ⟨p, 0, 0, 0, t, rfl, h, hp, Nat.le_refl _, by omega, by omega, fun z => absurd z (by omega), hZ⟩
  · obtain ⟨p1, T, set, la, t1, rfl, a1, a2, a3, a4, a5, a6, a7⟩ := hx
    have e28 := a1.2.1.1
    have hl := lk_le hT.1 p1
    have h6 := a6 (by omega)
    show ∃ t', b_X8_knowsAll_24 N K (nI la) (nI set) t1 = some (1, t') ∧ _
    unfold b_X8_knowsAll_24
    rw [e28, r_topic hl, o_bd_some]
    have cL : nI (lk n ch p1) ≤ nI la ↔ lk n ch p1 ≤ la := nIle (by omega) (by omega)
    simp only [e28, cL]
    by_cases e1 : 97 ≤ lk n ch p1 ∧ lk n ch p1 ≤ 104
    · simp only [if_pos e1, if_neg one_ne, if_pos (show lk n ch p1 ≤ la by omega)]
      exact stop p1 T set t1 a1 a4 (fun m _ _ => by omega) a7
    · simp only [if_neg e1, ite_true]
      exact stop p1 T set t1 a1 a4 (fun m _ _ => by omega) a7
  · obtain ⟨p1, T, set, la, t1, rfl, a1, a2, a3, a4, a5, a6, a7⟩ := hx
    have e28 := a1.2.1.1
    have hl := lk_le hT.1 p1
    show (∃ t', b_X8_knowsAll_24 N K (nI la) (nI set) t1 = some (1, t') ∧ _) ∨ ∃ x', _ ∧ b_X8_knowsAll_24 N K (nI la) (nI set) t1 = _
    unfold b_X8_knowsAll_24
    rw [e28, r_topic hl, o_bd_some]
    have cL : nI (lk n ch p1) ≤ nI la ↔ lk n ch p1 ≤ la := nIle (by omega) (by omega)
    simp only [e28, cL]
    by_cases e1 : 97 ≤ lk n ch p1 ∧ lk n ch p1 ≤ 104
    · by_cases e2 : lk n ch p1 ≤ la
      · left
        simp only [if_pos e1, if_neg one_ne, if_pos e2]
        exact stop p1 T set t1 a1 a4 (fun m _ _ => by omega) a7
      · right
        obtain ⟨m, em⟩ : ∃ m, lk n ch p1 = 97 + m := ⟨lk n ch p1 - 97, by omega⟩
        have hT2 : T ≤ m := by
          rcases Nat.eq_zero_or_pos T with z | z
          · omega
          · have := a6 z
            omega
        have hlt : sk n ch p1 < n := lk_n (ch := ch) (by omega)
        have es : nI (lk n ch p1) - 97 = nI m := by
          rw [em]
          exact (pk_sub (b := 97) (by omega)).trans (by rw [Nat.add_sub_cancel_left])
        obtain ⟨t2, m1, m2⟩ := r_nl (p := sk n ch p1 + 1) hN hT hlt a1
        rw [rt_skip hT.1 (show m < 8 by omega) (8 - T) p1 set (by omega) (by omega) em] at a7
        simp only [if_pos e1, if_neg one_ne, if_neg e2, es, nI_shl1 (show m < 31 by omega), nI_or, o_nm, m1, o_bd_some]
        exact ⟨_, ⟨sk n ch p1 + 1, m + 1, set ||| 2 ^ m, lk n ch p1, _, rfl, m2, hlt, by omega, by omega, by omega, fun _ => by omega, a7⟩, rfl⟩
    · left
      simp only [if_neg e1, ite_true]
      exact stop p1 T set t1 a1 a4 (fun m _ _ => by omega) a7
theorem r_know {N n c p : Nat} {ch : Nat → Nat} {v t : Mm} {l b q : Int32} {tp kd w : Nat → Int32} (hN : 300 ≤ N) (hT : TQ v n ch) (hc : c < 5) (hp : p ≤ n) (h : RS v t l b (nI p) q (nI c) tp kd w) : ((rtF n ch 8 p 0).2 = 0 → ∃ t', f_X8_knowsAll N t = some (0, t') ∧ QF v t' ∧ t'.1 9 0 0 22 = nI (rtF n ch 8 p 0).1 ∧ (rtF n ch 8 p 0).1 ≤ n) ∧ ((rtF n ch 8 p 0).2 ≠ 0 → ∃ t', f_X8_knowsAll N t = some (1, t') ∧ RS v t' (nI (lk n ch (rtF n ch 8 p 0).1)) (nI (sk n ch (rtF n ch 8 p 0).1)) (nI (sk n ch (rtF n ch 8 p 0).1 + 1)) q (nI c) tp kd (upd w (9 + c) (nI (rtF n ch 8 p 0).2))) := by
  obtain ⟨t1, m1, m2⟩ := r_nl hN hT hp h
  have e28 := m2.2.1.1
  have hl := lk_le hT.1 p
  unfold f_X8_knowsAll
  rw [m1, o_bd_some]
  simp only [o_nm]
  rw [e28, r_topic hl, o_bd_some]
  by_cases e1 : 97 ≤ lk n ch p ∧ lk n ch p ≤ 104
  · have ne : (rtF n ch 8 p 0).2 ≠ 0 := by
      rw [rt_skip hT.1 (m := lk n ch p - 97) (by omega) 8 p 0 (by omega) (by omega) (by omega)]
      refine rtF_ne _ _ _ ?_
      have h1 := Nat.right_le_or (n := 0) (m := 2 ^ (lk n ch p - 97))
      have h2 := Nat.two_pow_pos (lk n ch p - 97)
      omega
    refine ⟨fun z => absurd z ne, fun _ => ?_⟩
    simp only [if_pos e1, if_neg one_ne]
    exact r_kn24 hN hT hc hp m2
  · obtain ⟨z1, -, z3⟩ := rt_stop hT.1 8 p 0 (by omega) (fun m _ _ => by omega)
    refine ⟨fun _ => ?_, fun z => absurd z1 z⟩
    simp only [if_neg e1, ite_true]
    rw [z3 (by omega)]
    exact ⟨_, rfl, m2.1, m2.2.1.2.1, sk_le hp⟩
theorem r_cm82 {N n c p V : Nat} {ch : Nat → Nat} {v t : Mm} {l b q : Int32} {tp kd w : Nat → Int32} (hN : 300 ≤ N) (hT : TQ v n ch) (hc : c < 5) (hp : p ≤ n) (hV : V < 1000) (h : RS v t l b (nI p) q (nI c) tp kd w) : (V ≤ 40 → ∃ t', f_X8_comesAt_82 N (nI V) t = some (1, t') ∧ RS v t' (nI (lk n ch p)) (nI (sk n ch p)) (nI (sk n ch p + 1)) q (nI c) tp kd (upd w (14 + c) (nI V))) ∧ (40 < V → ∃ t', f_X8_comesAt_82 N (nI V) t = some (0, t') ∧ RS v t' l b (nI p) q (nI c) tp kd (upd w (14 + c) (nI V))) := by
  have e24 := h.2.1.2.2.2.2
  obtain ⟨i9, l9⟩ := lit19 (k := c) hc 14 (by omega)
  have i9 : o_inb (14 + nI c) 31 = true := i9
  have l9 : ((14 : Int32) + nI c).toNatClampNeg = 14 + c := l9
  have h1 := h.s27 (14 + c) (nI V)
  have cV : nI V ≤ 40 ↔ V ≤ 40 := nIle (b := 40) (by omega) (by omega)
  unfold f_X8_comesAt_82
  simp only [e24, if_pos i9, l9, o_nm, cV]
  constructor
  · intro e
    obtain ⟨t2, m1, m2⟩ := r_nl hN hT hp h1
    simp only [if_pos e, m1, o_bd_some]
    exact ⟨_, rfl, m2⟩
  · intro e
    simp only [if_neg (show ¬ V ≤ 40 by omega)]
    exact ⟨_, rfl, h1⟩
theorem r_comes {N n c p : Nat} {ch : Nat → Nat} {v t : Mm} {l b q : Int32} {tp kd w : Nat → Int32} (hN : 300 ≤ N) (hT : TQ v n ch) (hc : c < 5) (hp : p ≤ n) (h : RS v t l b (nI p) q (nI c) tp kd w) : (∀ b', cmF n ch p = .inl b' → ∃ t', f_X8_comesAt N t = some (0, t') ∧ QF v t' ∧ t'.1 9 0 0 22 = nI b' ∧ b' ≤ n) ∧ ∀ x, cmF n ch p = .inr x → ∃ t', f_X8_comesAt N t = some (1, t') ∧ RS v t' (nI (lk n ch x.1)) (nI (sk n ch x.1)) (nI (sk n ch x.1 + 1)) q (nI c) tp kd (upd w (14 + c) (nI x.2)) ∧ x.1 ≤ n ∧ x.2 ≤ 40 := by
  obtain ⟨t1, m1, m2⟩ := r_nl hN hT hp h
  obtain ⟨-, ⟨e28, e22, e21, e23, e24⟩, -⟩ := id m2
  have hl := lk_le hT.1 p
  have hle := sk_le (ch := ch) hp
  obtain ⟨⟨h90, hch⟩, q15, q16⟩ := m2.1.tq hT
  unfold f_X8_comesAt
  rw [m1, o_bd_some]
  simp only [o_nm]
  rw [e28, r_digit hl, o_bd_some]
  unfold cmF
  by_cases e1 : 48 ≤ lk n ch p ∧ lk n ch p ≤ 57
  · have hlt : sk n ch p < n := lk_n (ch := ch) (by omega)
    have es : nI (lk n ch p) - 48 = nI (lk n ch p - 48) := pk_sub (b := 48) (by omega)
    have cc : nI n ≤ nI (sk n ch p + 1) ↔ n ≤ sk n ch p + 1 := nIle (by omega) (by omega)
    have hh := (r_cm82 (N := N) (V := lk n ch p - 48) hN hT hc (show sk n ch p + 1 ≤ n by omega) (by omega) m2).1 (by omega)
    simp only [if_pos e1, if_neg one_ne, e28, es, q15, e21, cc]
    by_cases e2 : n ≤ sk n ch p + 1
    · have z : lt' n ch (sk n ch p + 1) = 0 := if_neg (by omega)
      simp only [if_pos e2, z, if_neg (show ¬ (48 ≤ 0 ∧ 0 ≤ 57) by omega)]
      refine ⟨fun b' hb => (by cases hb), fun x hx => ?_⟩
      cases hx
      obtain ⟨t', g1, g2⟩ := hh
      exact ⟨t', g1, g2, hlt, by show lk n ch p - 48 ≤ 40; omega⟩
    · have i1 : o_inb (nI (sk n ch p + 1)) 90 = true := inb_nI (by omega) (by omega)
      have z : lt' n ch (sk n ch p + 1) = ch (sk n ch p + 1) := if_pos (by omega)
      have hc2 := hch (sk n ch p + 1) (by omega)
      simp only [if_neg e2, if_pos i1, cl_nI (show sk n ch p + 1 < 2147483648 by omega), q16 (sk n ch p + 1) (by omega), z]
      rw [r_digit hc2.2, o_bd_some]
      by_cases e3 : 48 ≤ ch (sk n ch p + 1) ∧ ch (sk n ch p + 1) ≤ 57
      · have ev : (10 : Int32) * nI (lk n ch p - 48) + nI (ch (sk n ch p + 1)) - 48 = nI (10 * (lk n ch p - 48) + (ch (sk n ch p + 1) - 48)) := by
          rw [two_dig, show (48 : Int32) = nI 48 from rfl, pk_sub (by omega)]
          congr 1
          omega
        have m3 := m2.s21 (nI (sk n ch p + 1 + 1))
        have hh2 := r_cm82 (N := N) (V := 10 * (lk n ch p - 48) + (ch (sk n ch p + 1) - 48)) hN hT hc (show sk n ch p + 1 + 1 ≤ n by omega) (by omega) m3
        simp only [if_pos e3, if_neg one_ne, e21, if_pos i1, cl_nI (show sk n ch p + 1 < 2147483648 by omega), q16 (sk n ch p + 1) (by omega), ev, nI_1]
        by_cases e4 : 10 * (lk n ch p - 48) + (ch (sk n ch p + 1) - 48) ≤ 40
        · simp only [if_pos e4]
          refine ⟨fun b' hb => (by cases hb), fun x hx => ?_⟩
          cases hx
          obtain ⟨t', g1, g2⟩ := hh2.1 e4
          exact ⟨t', g1, g2, by show sk n ch p + 2 ≤ n; omega, e4⟩
        · simp only [if_neg e4]
          refine ⟨fun b' hb => ?_, fun x hx => (by cases hx)⟩
          cases hb
          obtain ⟨t', g1, g2⟩ := hh2.2 (by omega)
          exact ⟨t', g1, g2.1, g2.2.1.2.1, hle⟩
      · simp only [if_neg e3, ite_true]
        refine ⟨fun b' hb => (by cases hb), fun x hx => ?_⟩
        cases hx
        obtain ⟨t', g1, g2⟩ := hh
        exact ⟨t', g1, g2, hlt, by show lk n ch p - 48 ≤ 40; omega⟩
  · simp only [if_neg e1, ite_true]
    refine ⟨fun b' hb => ?_, fun x hx => (by cases hx)⟩
    cases hb
    exact ⟨_, rfl, m2.1, e22, hle⟩
