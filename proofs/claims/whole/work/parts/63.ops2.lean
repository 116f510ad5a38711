/-! bits: (m >> k) & 1 -/
theorem sl32 : ∀ n, n < 32 → ((nI n &&& 31).toBitVec.smod 32).toNat = n := by decide +kernel
theorem nI_bit {m k : Nat} (hm : m < 2147483648) (hk : k < 31) : (nI m >>> (nI k &&& 31)) &&& 1 = nI (m / 2 ^ k % 2) := by
  rw [pk_shrN (by omega) _ k (sl32 k (by omega)), show (1 : Int32) = nI 1 from rfl, pk_andN (by
    have : m / 2 ^ k ≤ m := Nat.div_le_self _ _
    omega) 1 (by decide)]
theorem op_of (N : Nat) : Op_of N Rel := by
  intro u v h a0 a1
  obtain ⟨⟨⟨s, w1, w2, w3, w4⟩, hU⟩, -⟩ := id h
  have eq : u.1 0 0 0 0 = nI (s 0 0) := w3.1.1
  have eq' : v.1 9 0 0 0 = nI (s 0 0) := w4.1.1
  unfold f_X7_of f_X8_of
  have hA := p_hasQ (t := u) (i := 9 * 0) (a := a0) eq w1.1
  have hB := p_isQ (t := v) (a := a0) eq' w1.1
  by_cases h0 : inR a0 0 ((s 0 0 : Int) - 1)
  · rw [hA.1 h0, hB.1 h0, o_bd_some, o_bd_some]
    simp only [if_neg (show ¬ (1 : Int32) = 0 by decide)]
    obtain ⟨k, rfl, -, hk, hk2⟩ := inR_nat h0 (by omega)
    have hk : k < s 0 0 := by omega
    have h8 := w1.1
    have hi : o_inb (nI k) 8 = true := inb_nI (by omega) (by omega)
    have hC := p_in (a := a1) (lo := 0) (hi := 2) (l := 0) (h := 2) v rfl rfl
    by_cases h1 : inR a1 0 2
    · rw [hC.1 h1, o_bd_some]
      simp only [if_neg (show ¬ (1 : Int32) = 0 by decide), if_pos hi, cl_nI hk2]
      have e1 : (nI 1 + nI k).toNatClampNeg = 1 + k := by rw [nI_add, cl_nI (by omega)]
      have e2 : o_inb (nI 1 + nI k) 31 = true := by rw [nI_add]; exact inb_nI (by omega) (by omega)
      obtain ⟨z, rfl, -, hz, hz2⟩ := inR_nat h1 (by omega)
      rcases (show z = 0 ∨ z = 1 ∨ z = 2 by omega) with rfl | rfl | rfl
      · refine ⟨nI (s 1 k), u, v, ?_, ?_, h⟩
        · simp only [if_pos (show nI 0 = 0 from rfl)]
          rw [show u.1 0 (9 * 0) 1 k = nI (s 1 k) from (w3.2.1 k hk).1]
        · simp only [if_pos (show nI 0 = 0 from rfl)]
          rw [show v.1 9 0 2 k = nI (s 1 k) from (w4.2.1 k hk).1]
      · refine ⟨nI (s 2 k), u, v, ?_, ?_, h⟩
        · simp only [if_neg (show ¬ nI 1 = 0 by decide), if_pos (show nI 1 = 1 from rfl)]
          rw [show u.1 0 (9 * 0) 2 k = nI (s 2 k) from (w3.2.1 k hk).2]
        · simp only [if_neg (show ¬ nI 1 = 0 by decide), if_pos (show nI 1 = 1 from rfl)]
          show (if o_inb (nI 1 + nI k) 31 = true then some (v.1 9 0 4 (nI 1 + nI k).toNatClampNeg, v) else none) = _
          rw [if_pos e2, e1, show v.1 9 0 4 (1 + k) = nI (s 2 k) from (w4.2.1 k hk).2]
      · have ea : u.1 0 0 0 2 = nI (s 0 2) := w3.1.2.2.1
        have eb : v.1 9 0 4 0 = nI (s 0 2) := w4.1.2.2.1
        have hlt : s 0 2 < 2147483648 := by
          have h1 := w1.2.2.1
          have h2 : 2 ^ s 0 0 ≤ 2 ^ 8 := Nat.pow_le_pow_right (by decide) w1.1
          omega
        have hb := nI_bit hlt (k := k) (by omega)
        refine ⟨nI (s 0 2 / 2 ^ k % 2), u, v, ?_, ?_, h⟩
        · simp only [if_neg (show ¬ nI 2 = 0 by decide), if_neg (show ¬ nI 2 = 1 by decide), if_pos (show nI 2 = 2 from rfl)]
          unfold f_X0_isAsked f_X7_isIn
          rw [show u.1 0 (9 * 0) 0 2 = nI (s 0 2) from ea]
          simp only [hb]
          rcases (show s 0 2 / 2 ^ k % 2 = 0 ∨ s 0 2 / 2 ^ k % 2 = 1 by omega) with e | e <;> rw [e] <;> rfl
        · simp only [if_neg (show ¬ nI 2 = 0 by decide), if_neg (show ¬ nI 2 = 1 by decide)]
          rw [if_pos (by decide)]
          show some ((v.1 9 0 4 0 >>> (nI k &&& 31)) &&& 1, v) = _
          rw [eb, hb]
    · rw [hC.2 h1, o_bd_some]
      have n0 : ¬ a1 = 0 := fun e => h1 (by rw [e]; exact ⟨by decide, by decide⟩)
      have n1 : ¬ a1 = 1 := fun e => h1 (by rw [e]; exact ⟨by decide, by decide⟩)
      have n2 : ¬ a1 = 2 := fun e => h1 (by rw [e]; exact ⟨by decide, by decide⟩)
      simp only [if_neg n0, if_neg n1, if_neg n2]
      exact ⟨-1, u, v, rfl, rfl, h⟩
  · rw [hA.2 h0, hB.2 h0, o_bd_some, o_bd_some]
    exact ⟨-1, u, v, rfl, rfl, h⟩
theorem op_at (N : Nat) : Op_at N Rel := by
  intro u v h a0 a1
  obtain ⟨⟨⟨s, w1, w2, w3, w4⟩, hU⟩, -⟩ := id h
  have eq : u.1 0 0 0 1 = nI (s 0 1) := w3.1.2.1
  have eq' : v.1 9 0 0 1 = nI (s 0 1) := w4.1.2.1
  unfold f_X7_at f_X8_at
  have hA := p_hasC (t := u) (i := 9 * 0) (a := a0) eq w1.2.1
  have hB := p_isC (t := v) (a := a0) eq' w1.2.1
  by_cases h0 : inR a0 0 ((s 0 1 : Int) - 1)
  · rw [hA.1 h0, hB.1 h0, o_bd_some, o_bd_some]
    simp only [if_neg (show ¬ (1 : Int32) = 0 by decide)]
    obtain ⟨k, rfl, -, hk, hk2⟩ := inR_nat h0 (by omega)
    have hk : k < s 0 1 := by omega
    have h5 := w1.2.1
    have hi : o_inb (nI k) 5 = true := inb_nI (by omega) (by omega)
    obtain ⟨u3, u4, u5, u6, u7⟩ := w3.2.2 k hk
    obtain ⟨r3, r4, r5, r6, r7⟩ := w4.2.2.1 k hk
    have cl : ∀ n, n ≤ 24 → (nI n + nI k).toNatClampNeg = n + k := fun n hn => by rw [nI_add, cl_nI (by omega)]
    have ib : ∀ n, n ≤ 24 → o_inb (nI n + nI k) 31 = true := fun n hn => by rw [nI_add]; exact inb_nI (by omega) (by omega)
    have hC := p_in (a := a1) (lo := 0) (hi := 4) (l := 0) (h := 4) v rfl rfl
    by_cases h1 : inR a1 0 4
    · rw [hC.1 h1, o_bd_some]
      simp only [if_neg (show ¬ (1 : Int32) = 0 by decide), if_pos hi, cl_nI hk2]
      simp only [show (9 : Int32) = nI 9 from rfl, show (14 : Int32) = nI 14 from rfl, show (19 : Int32) = nI 19 from rfl, show (24 : Int32) = nI 24 from rfl, if_pos (ib 9 (by omega)), if_pos (ib 14 (by omega)), if_pos (ib 19 (by omega)), if_pos (ib 24 (by omega)), cl 9 (by omega), cl 14 (by omega), cl 19 (by omega), cl 24 (by omega)]
      have t3 : u.1 0 (9 * 0) 3 k = nI (s 3 k) := u3
      have t4 : u.1 0 (9 * 0) 4 k = nI (s 4 k) := u4
      have t5 : u.1 0 (9 * 0) 5 k = nI (s 5 k) := u5
      have t6 : u.1 0 (9 * 0) 6 k = nI (s 6 k) := u6
      rw [t3, t4, t5, t6, r3, r4, r5, r6]
      obtain ⟨z, rfl, -, hz, hz2⟩ := inR_nat h1 (by omega)
      rcases (show z = 0 ∨ z = 1 ∨ z = 2 ∨ z = 3 ∨ z = 4 by omega) with rfl | rfl | rfl | rfl | rfl
      · exact ⟨nI (s 3 k), u, v, rfl, rfl, h⟩
      · exact ⟨nI (s 4 k), u, v, rfl, rfl, h⟩
      · exact ⟨nI (s 5 k), u, v, rfl, rfl, h⟩
      · exact ⟨nI (s 6 k), u, v, rfl, rfl, h⟩
      · by_cases e : s 6 k = 1
        · have t7 : u.1 0 (9 * 0) 7 k = nI (s 7 k) := u7 e
          rw [t7, r7 e, e]
          exact ⟨nI (s 7 k), u, v, rfl, rfl, h⟩
        · have h6 := (w1.2.2.2.2.2 k hk).2.2.2.1
          have hne : ¬ nI (s 6 k) = 1 := fun z => e ((nIeq (by omega) (by omega)).mp (show nI (s 6 k) = nI 1 from z))
          simp only [if_neg hne]
          exact ⟨-4, u, v, rfl, rfl, h⟩
    · rw [hC.2 h1, o_bd_some]
      have n0 : ¬ a1 = 0 := fun e => h1 (by rw [e]; exact ⟨by decide, by decide⟩)
      have n1 : ¬ a1 = 1 := fun e => h1 (by rw [e]; exact ⟨by decide, by decide⟩)
      have n2 : ¬ a1 = 2 := fun e => h1 (by rw [e]; exact ⟨by decide, by decide⟩)
      have n3 : ¬ a1 = 3 := fun e => h1 (by rw [e]; exact ⟨by decide, by decide⟩)
      have n4 : ¬ a1 = 4 := fun e => h1 (by rw [e]; exact ⟨by decide, by decide⟩)
      simp only [if_neg n0, if_neg n1, if_neg n2, if_neg n3, if_neg n4]
      exact ⟨-1, u, v, rfl, rfl, h⟩
  · rw [hA.2 h0, hB.2 h0, o_bd_some, o_bd_some]
    exact ⟨-1, u, v, rfl, rfl, h⟩
