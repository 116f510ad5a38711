/-! BEST: what the class lays ahead of its tellings -/
theorem p_aheadOf {N c : Nat} {t : Mm} {s : Sx} (hN : 300 ≤ N) (hs : wfS s) (hF : FR (t.1 0 19) s) (hc : c < s 0 1) : f_X6_howManyComeAheadOf N (nI c) t = some (nI (rank s c), t) := by
  have h5 := hs.2.1
  have e1 : t.1 0 19 0 1 = nI (s 0 1) := hF.1.2.1
  refine lp_up (body := fun k x => b_X6_howManyComeAheadOf_4 N k x.1 x.2.1 x.2.2.1 x.2.2.2) (fun o => o = some (nI (rank s c), t)) (fun k x => x = (nI c, nI (rkN s c k), nI k, t)) (s 0 1) (fun K x hx => ?_) (fun K k x hk hx => ?_) N 0 (nI c, 0, 0, t) (by omega) (by omega) rfl
  · subst hx
    show b_X6_howManyComeAheadOf_4 N K (nI c) (nI (rkN s c (s 0 1))) (nI (s 0 1)) t = _
    unfold b_X6_howManyComeAheadOf_4
    rw [e1, if_pos Int32.le_rfl]
    rfl
  · subst hx
    right
    refine ⟨(nI c, nI (rkN s c (k + 1)), nI (k + 1), t), rfl, ?_⟩
    show b_X6_howManyComeAheadOf_4 N K (nI c) (nI (rkN s c k)) (nI k) t = _
    unfold b_X6_howManyComeAheadOf_4 f_X6_howManyComeAheadOf_62 f_X6_howManyComeAheadOf_66 f_X6_howManyComeAheadOf_67 f_X6_howManyComeAheadOf_89
    have c1 : ¬ nI (s 0 1) ≤ nI k := fun z => absurd ((nIle (by omega) (by omega)).mp z) (by omega)
    have i1 : o_inb (nI k) 5 = true := inb_nI (by omega) (by omega)
    have i2 : o_inb (nI c) 5 = true := inb_nI (by omega) (by omega)
    obtain ⟨-, -, u5, u6, -⟩ := hF.2.2 k hk
    obtain ⟨-, -, w5, -, -⟩ := hF.2.2 c hc
    have f5 := (hs.2.2.2.2.2 k hk).2.2
    have g5 := (hs.2.2.2.2.2 c hc).2.2.1
    have c2 : nI (s 5 k) < nI (s 5 c) ↔ s 5 k < s 5 c := nIlt (by omega) (by omega)
    have c3 : nI (s 5 k) = nI (s 5 c) ↔ s 5 k = s 5 c := nIeq (by omega) (by omega)
    have c4 : nI c ≤ nI k ↔ c ≤ k := nIle (by omega) (by omega)
    have c6 : nI (s 6 k) = 0 ↔ s 6 k = 0 := nIeq (b := 0) (by omega) (by omega)
    simp only [e1, if_neg c1, if_pos i1, if_pos i2, cl_nI (show k < 2147483648 by omega), cl_nI (show c < 2147483648 by omega), u5, u6, w5, c2, c3, c4, c6, nI_1, if_neg one_ne, ite_true]
    rw [rkN]
    unfold kyD
    by_cases z6 : s 6 k = 0
    · simp only [if_pos z6]
      by_cases z1 : s 5 k < s 5 c
      · rw [if_pos z1, if_pos ⟨z6, by omega⟩]
      · rw [if_neg z1]
        by_cases z2 : s 5 k = s 5 c
        · rw [if_pos z2]
          by_cases z3 : c ≤ k
          · rw [if_pos z3, if_neg (by omega)]
            rfl
          · rw [if_neg z3, if_pos ⟨z6, by omega⟩]
        · rw [if_neg z2, if_neg (by omega)]
          rfl
    · simp only [if_neg z6]
      rw [if_neg (show ¬ (s 6 k = 0 ∧ 8 * s 5 k + k < 8 * s 5 c + c) from fun z => z6 z.1)]
      repeat' split
      all_goals rfl
theorem bitc_all8 : ∀ m, m < 256 → (let x_1 := ((nI m) - ((((nI m).toUInt32 >>> ((1 : Int32).toUInt32 &&& Int32.toUInt32 31)).toInt32) &&& 1431655765)); let x_3 := ((x_1 &&& 858993459) + (((x_1.toUInt32 >>> ((2 : Int32).toUInt32 &&& Int32.toUInt32 31)).toInt32) &&& 858993459)); let x_5 := ((x_3 + ((x_3.toUInt32 >>> ((4 : Int32).toUInt32 &&& Int32.toUInt32 31)).toInt32)) &&& 252645135); let x_7 := (x_5 + ((x_5.toUInt32 >>> ((8 : Int32).toUInt32 &&& Int32.toUInt32 31)).toInt32)); let x_9 := (x_7 + ((x_7.toUInt32 >>> ((16 : Int32).toUInt32 &&& Int32.toUInt32 31)).toInt32)); x_9 &&& 63) = nI (8 - frN m 8) := by decide +kernel
theorem p_bitc8 {m : Nat} (hm : m < 256) (t : Mm) : f_J6_bitCount_0f7a4 (nI m) t = some (nI (8 - frN m 8), t) := by
  have h := bitc_all8 m hm
  unfold f_J6_bitCount_0f7a4
  simp only [o_nm]
  simp only [] at h
  rw [h]
theorem frN_up {A Q : Nat} (h : A < 2 ^ Q) : ∀ d, frN A (Q + d) = frN A Q + d
  | 0 => rfl
  | d + 1 => by
    have hp : 2 ^ Q ≤ 2 ^ (Q + d) := Nat.pow_le_pow_right (by decide) (by omega)
    rw [← Nat.add_assoc, frN, frN_up h d, Nat.div_eq_of_lt (by omega), if_pos rfl]
    omega
theorem left_eq {s : Sx} (hs : wfS s) : nI (s 0 0) - nI (8 - frN (s 0 2) 8) = nI (left s) := by
  have h8 := hs.1
  have h := frN_up hs.2.2.1 (8 - s 0 0)
  rw [show s 0 0 + (8 - s 0 0) = 8 by omega] at h
  have hl := frN_le (s 0 2) (s 0 0)
  rw [pk_sub (by omega)]
  unfold left
  congr 1
  omega
theorem p_choose {N : Nat} {t : Mm} {s : Sx} (hN : 300 ≤ N) (hs : wfS s) (hF : FR (t.1 0 19) s) : ∃ (t' : Mm) (a : Nat), f_X6_chooseWhoIsAsked N t = some t' ∧ (∀ x y, ¬ (x = 3 ∧ y = 5) → t'.1 x y = t.1 x y) ∧ t'.2 = t.2 ∧ t'.1 3 5 0 3 = nI a ∧ a < 32 ∧ ∀ c, c < 5 → (a / 2 ^ c % 2 = 1 ↔ mem s c) := by
  have h5 := hs.2.1
  have h8 := hs.1
  have e0 : t.1 0 19 0 0 = nI (s 0 0) := hF.1.1
  have e2 : t.1 0 19 0 2 = nI (s 0 2) := hF.1.2.2.1
  unfold f_X6_chooseWhoIsAsked
  rw [e2, p_bitc8 (asked_lt hs), o_bd_some]
  simp only [o_nm]
  rw [e0, left_eq hs]
  have hlf : left s ≤ 8 := by
    have := frN_le (s 0 2) (s 0 0)
    unfold left
    omega
  refine lp_up (body := fun k x => b_X6_chooseWhoIsAsked_26 N k x.1 x.2.1 x.2.2) (fun r => ∃ (t' : Mm) (a : Nat), r = some t' ∧ (∀ x y, ¬ (x = 3 ∧ y = 5) → t'.1 x y = t.1 x y) ∧ t'.2 = t.2 ∧ t'.1 3 5 0 3 = nI a ∧ a < 32 ∧ ∀ c, c < 5 → (a / 2 ^ c % 2 = 1 ↔ mem s c)) (fun k x => ∃ (t1 : Mm) (a : Nat), x = (nI (left s), nI k, t1) ∧ (∀ x y, ¬ (x = 3 ∧ y = 5) → t1.1 x y = t.1 x y) ∧ t1.2 = t.2 ∧ t1.1 3 5 0 3 = nI a ∧ a < 32 ∧ ∀ c, c < 5 → (a / 2 ^ c % 2 = 1 ↔ c < k ∧ mem s c)) (s 0 1) (fun K x hx => ?_) (fun K k x hk hx => ?_) N 0 (nI (left s), 0, sI t 3 5 0 3 0) (by omega) (by omega) ⟨_, 0, rfl, fun x y h => sI_nums h, rfl, rfl, by omega, fun c _ => ⟨fun z => absurd z (by rw [Nat.zero_div]; decide), fun z => absurd z.1 (Nat.not_lt_zero c)⟩⟩
  · obtain ⟨t1, a, rfl, a1, a2, a3, a4, a5⟩ := hx
    refine ⟨t1, a, ?_, a1, a2, a3, a4, fun c hc => (a5 c hc).trans ⟨fun z => z.2, fun z => ⟨z.1, z⟩⟩⟩
    have e1 : t1.1 0 19 0 1 = nI (s 0 1) := by rw [a1 0 19 (by omega)]; exact hF.1.2.1
    show b_X6_chooseWhoIsAsked_26 N K (nI (left s)) (nI (s 0 1)) t1 = _
    unfold b_X6_chooseWhoIsAsked_26
    rw [e1, if_pos Int32.le_rfl]
  · obtain ⟨t1, a, rfl, a1, a2, a3, a4, a5⟩ := hx
    have hF1 : FR (t1.1 0 19) s := by rw [a1 0 19 (by omega)]; exact hF
    have e1 : t1.1 0 19 0 1 = nI (s 0 1) := hF1.1.2.1
    have e6 : t1.1 0 19 6 k = nI (s 6 k) := (hF1.2.2 k hk).2.2.2.1
    have f6 := (hs.2.2.2.2.2 k hk).2.2.2.1
    have c1 : ¬ nI (s 0 1) ≤ nI k := fun z => absurd ((nIle (by omega) (by omega)).mp z) (by omega)
    have i1 : o_inb (nI k) 5 = true := inb_nI (by omega) (by omega)
    have c6 : nI (s 6 k) = 0 ↔ s 6 k = 0 := nIeq (b := 0) (by omega) (by omega)
    have hr := rkN_le s k (s 0 1)
    have hr : rank s k ≤ s 0 1 := hr
    have cl : nI (left s) ≤ nI (rank s k) ↔ left s ≤ rank s k := nIle (by omega) (by omega)
    right
    show ∃ x', _ ∧ b_X6_chooseWhoIsAsked_26 N K (nI (left s)) (nI k) t1 = _
    unfold b_X6_chooseWhoIsAsked_26 f_X6_chooseWhoIsAsked_70
    simp only [e1, if_neg c1, if_pos i1, cl_nI (show k < 2147483648 by omega), e6, c6]
    have same : ¬ mem s k → ∀ c, c < 5 → (a / 2 ^ c % 2 = 1 ↔ c < k + 1 ∧ mem s c) := fun nm c hc => (a5 c hc).trans ⟨fun z => ⟨by omega, z.2⟩, fun z => ⟨by
      by_cases y : c = k
      · rw [y] at z
        exact absurd z.2 nm
      · omega, z.2⟩⟩
    by_cases z6 : s 6 k = 0
    · rw [if_pos z6, p_aheadOf hN hs hF1 hk, o_bd_some]
      simp only [cl]
      by_cases z : left s ≤ rank s k
      · rw [if_pos z, nI_1]
        exact ⟨_, ⟨t1, a, rfl, a1, a2, a3, a4, same (fun y => by have := y.2.2; omega)⟩, rfl⟩
      · rw [if_neg z, a3, nI_shl1 (by omega), nI_or, nI_1]
        simp only [o_nm]
        refine ⟨_, ⟨sI t1 3 5 0 3 (nI (a ||| 2 ^ k)), a ||| 2 ^ k, rfl, fun x y h => by rw [sI_nums h]; exact a1 x y h, a2, rfl, ?_, fun c hc => ?_⟩, rfl⟩
        · show (a ||| 2 ^ k) < 2 ^ 5
          exact Nat.or_lt_two_pow a4 (Nat.pow_lt_pow_right (by decide) (by omega))
        · rw [or_bit]
          by_cases y : c = k
          · rw [if_pos y, y]
            exact ⟨fun _ => ⟨by omega, hk, z6, by omega⟩, fun _ => rfl⟩
          · rw [if_neg y, a5 c hc]
            exact ⟨fun w => ⟨by omega, w.2⟩, fun w => ⟨by omega, w.2⟩⟩
    · rw [if_neg z6, nI_1]
      exact ⟨_, ⟨t1, a, rfl, a1, a2, a3, a4, same (fun y => z6 y.2.1)⟩, rfl⟩
def insO (o : Nat → Nat) (j c : Nat) : Nat → Nat := fun i => if i < j then o i else if i = j then c else o (i - 1)
theorem Ord_ins {s : Sx} {o : Nat → Nat} {m c j : Nat} (hO : Ord s o m c) (hc5 : c < 5) (h6 : s 6 c = 0) (hj : j ≤ m) (h1 : ∀ i, j ≤ i → i < m → cmg s c < cmg s (o i)) (h2 : ∀ i, i + 1 = j → cmg s (o i) ≤ cmg s c) : Ord s (insO o j c) (m + 1) (c + 1) := by
  obtain ⟨a1, a2, a3, a4⟩ := hO
  have g0 : ∀ i, i < j → insO o j c i = o i := fun i h => if_pos h
  have g1 : insO o j c j = c := by
    unfold insO
    rw [if_neg (by omega), if_pos rfl]
  have g2 : ∀ i, j < i → insO o j c i = o (i - 1) := fun i h => by
    unfold insO
    rw [if_neg (by omega), if_neg (by omega)]
  refine ⟨by omega, fun i hi => ?_, fun i i' hii hi' => ?_, fun d hd h0 => ?_⟩
  · rcases Nat.lt_trichotomy i j with z | z | z
    · rw [g0 i z]
      have := a2 i (by omega)
      exact ⟨by omega, this.2⟩
    · rw [z, g1]
      exact ⟨by omega, h6⟩
    · rw [g2 i z]
      have := a2 (i - 1) (by omega)
      exact ⟨by omega, this.2⟩
  · rcases Nat.lt_trichotomy i j with z | z | z
    · rw [g0 i z]
      rcases Nat.lt_trichotomy i' j with y | y | y
      · rw [g0 i' y]
        exact a3 i i' hii (by omega)
      · rw [y, g1]
        have w1 := h2 (j - 1) (by omega)
        have w2 := a2 i (by omega)
        have w3 := a2 (j - 1) (by omega)
        have w4 : ky2 s (o i) ≤ ky2 s (o (j - 1)) := by
          by_cases e : i = j - 1
          · rw [e]; exact Nat.le_refl _
          · exact Nat.le_of_lt (a3 i (j - 1) (by omega) (by omega))
        unfold ky2 at w4 ⊢
        omega
      · rw [g2 i' y]
        exact a3 i (i' - 1) (by omega) (by omega)
    · rw [z, g1, g2 i' (by omega)]
      have w1 := h1 (i' - 1) (by omega) (by omega)
      unfold ky2
      omega
    · rw [g2 i z, g2 i' (by omega)]
      exact a3 (i - 1) (i' - 1) (by omega) (by omega)
  · by_cases e : d = c
    · exact ⟨j, by omega, by rw [g1, e]⟩
    · obtain ⟨i, hi, w⟩ := a4 d (by omega) h0
      by_cases z : i < j
      · exact ⟨i, by omega, by rw [g0 i z]; exact w⟩
      · exact ⟨i + 1, by omega, by rw [g2 (i + 1) (by omega), Nat.add_sub_cancel]; exact w⟩
theorem p_insert {N m c : Nat} {t : Mm} {s : Sx} {o : Nat → Nat} (hN : 300 ≤ N) (hs : wfS s) (hH : s 0 3 ≤ 9999) (hF : FR (t.1 0 19) s) (hc : c < s 0 1) (h6 : s 6 c = 0) (hO : Ord s o m c) (hm : t.1 3 5 0 2 = nI m) (ho : ∀ i, i < m → t.1 3 6 0 i = nI (o i)) : ∃ (t' : Mm) (o' : Nat → Nat), f_X6_insertComer N (nI c) t = some t' ∧ (∀ x y, ¬ (x = 3 ∧ y = 5) → ¬ (x = 3 ∧ y = 6) → t'.1 x y = t.1 x y) ∧ t'.2 = t.2 ∧ t'.1 3 5 0 3 = t.1 3 5 0 3 ∧ t'.1 3 5 0 2 = nI (m + 1) ∧ (∀ i, i < m + 1 → t'.1 3 6 0 i = nI (o' i)) ∧ Ord s o' (m + 1) (c + 1) := by
  have h5 := hs.2.1
  have hmc := hO.1
  unfold f_X6_insertComer
  rw [hm]
  have stop : ∀ (j : Nat) (t1 : Mm), j ≤ m → (∀ x y, ¬ (x = 3 ∧ y = 6) → t1.1 x y = t.1 x y) → t1.2 = t.2 → (∀ i, i < j → t1.1 3 6 0 i = nI (o i)) → (∀ i, j ≤ i → i < m → t1.1 3 6 0 (i + 1) = nI (o i) ∧ cmg s c < cmg s (o i)) → (∀ i, i + 1 = j → cmg s (o i) ≤ cmg s c) → ∃ (t' : Mm) (o' : Nat → Nat), f_X6_insertComer_54 N (nI c) (nI j) t1 = some t' ∧ (∀ x y, ¬ (x = 3 ∧ y = 5) → ¬ (x = 3 ∧ y = 6) → t'.1 x y = t.1 x y) ∧ t'.2 = t.2 ∧ t'.1 3 5 0 3 = t.1 3 5 0 3 ∧ t'.1 3 5 0 2 = nI (m + 1) ∧ (∀ i, i < m + 1 → t'.1 3 6 0 i = nI (o' i)) ∧ Ord s o' (m + 1) (c + 1) := by
    intro j t1 hj b1 b2 b3 b4 b5
    have c1 : ¬ (5 : Int32) ≤ nI j := fun z => absurd ((nIle (a := 5) (by omega) (by omega)).mp z) (by omega)
    have i1 : o_inb (nI j) 5 = true := inb_nI (by omega) (by omega)
    have e2 : (sI t1 3 6 0 j (nI c)).1 3 5 0 2 = nI m := by
      rw [sI_nums (by omega), b1 3 5 (by omega)]
      exact hm
    unfold f_X6_insertComer_54
    rw [if_neg c1, if_pos i1, cl_nI (by omega)]
    simp only [o_nm, e2, nI_1]
    refine ⟨_, insO o j c, rfl, fun x y h1 h2 => ?_, b2, ?_, rfl, fun i hi => ?_, Ord_ins hO (by omega) h6 hj (fun i q1 q2 => (b4 i q1 q2).2) b5⟩
    · rw [sI_nums h1, sI_nums h2]
      exact b1 x y h2
    · show (sI t1 3 6 0 j (nI c)).1 3 5 0 3 = _
      rw [sI_nums (by omega), b1 3 5 (by omega)]
    · rw [sI_nums (by omega), sI_at]
      unfold insO
      rcases Nat.lt_trichotomy i j with z | z | z
      · rw [if_pos z, upd_off (by omega)]
        exact b3 i z
      · rw [if_neg (by omega), if_pos z, z, upd_at]
      · rw [if_neg (by omega), if_neg (by omega), upd_off (by omega)]
        have := (b4 (i - 1) (by omega) (by omega)).1
        rw [show i - 1 + 1 = i by omega] at this
        exact this
  refine lp_up (body := fun k x => b_X6_insertComer_5 N k x.1 x.2.1 x.2.2) (fun r => ∃ (t' : Mm) (o' : Nat → Nat), r = some t' ∧ (∀ x y, ¬ (x = 3 ∧ y = 5) → ¬ (x = 3 ∧ y = 6) → t'.1 x y = t.1 x y) ∧ t'.2 = t.2 ∧ t'.1 3 5 0 3 = t.1 3 5 0 3 ∧ t'.1 3 5 0 2 = nI (m + 1) ∧ (∀ i, i < m + 1 → t'.1 3 6 0 i = nI (o' i)) ∧ Ord s o' (m + 1) (c + 1)) (fun k x => ∃ (j : Nat) (t1 : Mm), x = (nI c, nI j, t1) ∧ j + k = m ∧ (∀ x y, ¬ (x = 3 ∧ y = 6) → t1.1 x y = t.1 x y) ∧ t1.2 = t.2 ∧ (∀ i, i < j → t1.1 3 6 0 i = nI (o i)) ∧ ∀ i, j ≤ i → i < m → t1.1 3 6 0 (i + 1) = nI (o i) ∧ cmg s c < cmg s (o i)) m (fun K x hx => ?_) (fun K k x hk hx => ?_) N 0 (nI c, nI m, t) (by omega) (by omega) ⟨m, t, rfl, by omega, fun _ _ _ => rfl, rfl, ho, fun i h1 h2 => absurd h1 (by omega)⟩
  · obtain ⟨j, t1, rfl, a0, a1, a2, a3, a4⟩ := hx
    have hj : j = 0 := by omega
    subst hj
    show ∃ t' o', b_X6_insertComer_5 N K (nI c) (nI 0) t1 = some t' ∧ _
    unfold b_X6_insertComer_5
    rw [if_pos (by decide)]
    exact stop 0 t1 (by omega) a1 a2 a3 a4 (fun i h => absurd h (by omega))
  · obtain ⟨j, t1, rfl, a0, a1, a2, a3, a4⟩ := hx
    obtain ⟨j', rfl⟩ : ∃ j', j = j' + 1 := ⟨j - 1, by omega⟩
    have hF1 : FR (t1.1 0 19) s := by rw [a1 0 19 (by omega)]; exact hF
    have c0 : ¬ nI (j' + 1) ≤ 0 := fun z => absurd ((nIle (b := 0) (by omega) (by omega)).mp z) (by omega)
    have c5 : ¬ (5 : Int32) ≤ nI (j' + 1) := fun z => absurd ((nIle (a := 5) (by omega) (by omega)).mp z) (by omega)
    have ep : nI (j' + 1) - 1 = nI j' := nI_pred j'
    have em : nI (j' + 1) + -1 = nI j' := pk_m1 j'
    have i0 : o_inb (nI j') 5 = true := inb_nI (by omega) (by omega)
    have i1 : o_inb (nI (j' + 1)) 5 = true := inb_nI (by omega) (by omega)
    have e6 := a3 j' (by omega)
    have hoj := hO.2.1 j' (by omega)
    have b1 := cmg_b hs (show o j' < s 0 1 by omega)
    have b2 := cmg_b hs hc
    have cc : nI (cmg s (o j')) ≤ nI (cmg s c) ↔ cmg s (o j') ≤ cmg s c := nIle (by omega) (by omega)
    show (∃ t' o', b_X6_insertComer_5 N K (nI c) (nI (j' + 1)) t1 = some t' ∧ _) ∨ ∃ x', _ ∧ b_X6_insertComer_5 N K (nI c) (nI (j' + 1)) t1 = _
    unfold b_X6_insertComer_5
    simp only [if_neg c0, if_neg c5, ep, em, if_pos i0, if_pos i1, cl_nI (show j' < 2147483648 by omega), cl_nI (show j' + 1 < 2147483648 by omega), e6]
    rw [p_coming hs hH hF1 (by omega), o_bd_some]
    simp only []
    rw [p_coming hs hH hF1 hc, o_bd_some]
    simp only [cc]
    by_cases z : cmg s (o j') ≤ cmg s c
    · left
      rw [if_pos z]
      exact stop (j' + 1) t1 (by omega) a1 a2 a3 a4 (fun i h => by rw [show i = j' by omega]; exact z)
    · right
      rw [if_neg z, e6]
      simp only [o_nm]
      refine ⟨_, ⟨j', sI t1 3 6 0 (j' + 1) (nI (o j')), rfl, by omega, fun x y h => by rw [sI_nums h]; exact a1 x y h, a2, fun i hi => ?_, fun i h1 h2 => ?_⟩, rfl⟩
      · rw [sI_at, upd_off (by omega)]
        exact a3 i (by omega)
      · rw [sI_at]
        by_cases y : i = j'
        · rw [y, upd_at]
          exact ⟨rfl, by omega⟩
        · rw [upd_off (by omega)]
          exact a4 i (by omega) h2
theorem p_order {N a : Nat} {t : Mm} {s : Sx} (hN : 300 ≤ N) (hs : wfS s) (hH : s 0 3 ≤ 9999) (hF : FR (t.1 0 19) s) (ha : t.1 3 5 0 3 = nI a) : ∃ (t' : Mm) (o : Nat → Nat) (m : Nat), f_X6_orderComers N t = some t' ∧ (∀ x y, ¬ (x = 3 ∧ y = 5) → ¬ (x = 3 ∧ y = 6) → t'.1 x y = t.1 x y) ∧ t'.2 = t.2 ∧ TC s o m a t' ∧ Ord s o m (s 0 1) := by
  have h5 := hs.2.1
  unfold f_X6_orderComers
  simp only [o_nm]
  refine lp_up (body := fun k x => b_X6_orderComers_7 N k x.1 x.2) (fun r => ∃ (t' : Mm) (o : Nat → Nat) (m : Nat), r = some t' ∧ (∀ x y, ¬ (x = 3 ∧ y = 5) → ¬ (x = 3 ∧ y = 6) → t'.1 x y = t.1 x y) ∧ t'.2 = t.2 ∧ TC s o m a t' ∧ Ord s o m (s 0 1)) (fun k x => ∃ (t1 : Mm) (o : Nat → Nat) (m : Nat), x = (nI k, t1) ∧ (∀ x y, ¬ (x = 3 ∧ y = 5) → ¬ (x = 3 ∧ y = 6) → t1.1 x y = t.1 x y) ∧ t1.2 = t.2 ∧ TC s o m a t1 ∧ Ord s o m k) (s 0 1) (fun K x hx => ?_) (fun K k x hk hx => ?_) N 0 (0, sI t 3 5 0 2 0) (by omega) (by omega) ⟨_, fun _ => 0, 0, rfl, fun x y h _ => sI_nums h, rfl, ⟨hF, rfl, ha, fun i hi => absurd hi (Nat.not_lt_zero i)⟩, Nat.le_refl _, fun i hi => absurd hi (Nat.not_lt_zero i), fun i j _ hj => absurd hj (Nat.not_lt_zero j), fun d hd => absurd hd (Nat.not_lt_zero d)⟩
  · obtain ⟨t1, o, m, rfl, a1, a2, a3, a4⟩ := hx
    refine ⟨t1, o, m, ?_, a1, a2, a3, a4⟩
    have e1 : t1.1 0 19 0 1 = nI (s 0 1) := a3.1.1.2.1
    show b_X6_orderComers_7 N K (nI (s 0 1)) t1 = _
    unfold b_X6_orderComers_7
    rw [e1, if_pos Int32.le_rfl]
  · obtain ⟨t1, o, m, rfl, a1, a2, a3, a4⟩ := hx
    have hF1 := a3.1
    have e1 : t1.1 0 19 0 1 = nI (s 0 1) := hF1.1.2.1
    have e6 : t1.1 0 19 6 k = nI (s 6 k) := (hF1.2.2 k hk).2.2.2.1
    have f6 := (hs.2.2.2.2.2 k hk).2.2.2.1
    have c1 : ¬ nI (s 0 1) ≤ nI k := fun z => absurd ((nIle (by omega) (by omega)).mp z) (by omega)
    have i1 : o_inb (nI k) 5 = true := inb_nI (by omega) (by omega)
    have c6 : nI (s 6 k) = 0 ↔ s 6 k = 0 := nIeq (b := 0) (by omega) (by omega)
    right
    show ∃ x', _ ∧ b_X6_orderComers_7 N K (nI k) t1 = _
    unfold b_X6_orderComers_7 f_X6_orderComers_35
    simp only [e1, if_neg c1, if_pos i1, cl_nI (show k < 2147483648 by omega), e6, c6, nI_1]
    by_cases z6 : s 6 k = 0
    · obtain ⟨t2, o', g1, g2, g3, g4, g5, g6, g7⟩ := p_insert hN hs hH hF1 hk z6 a4 a3.2.1 a3.2.2.2
      rw [if_pos z6, g1, o_bd_some]
      exact ⟨_, ⟨t2, o', m + 1, rfl, fun x y h1 h2 => (g2 x y h1 h2).trans (a1 x y h1 h2), g3.trans a2, ⟨by rw [g2 0 19 (by omega) (by omega)]; exact hF1, g5, g4.trans a3.2.2.1, g6⟩, g7⟩, rfl⟩
    · rw [if_neg z6]
      refine ⟨_, ⟨t1, o, m, rfl, a1, a2, a3, ?_⟩, rfl⟩
      obtain ⟨b1, b2, b3, b4⟩ := a4
      refine ⟨by omega, fun i hi => ⟨by have := (b2 i hi).1; omega, (b2 i hi).2⟩, b3, fun d hd h0 => ?_⟩
      by_cases y : d = k
      · rw [y] at h0
        exact absurd h0 z6
      · exact b4 d (by omega) h0
