/-! teach, later, again, put -/
theorem nI_or (a b : Nat) : nI a ||| nI b = nI (a ||| b) := by
  apply Int32.toBitVec_inj.mp
  show BitVec.ofNat 32 a ||| BitVec.ofNat 32 b = BitVec.ofNat 32 (a ||| b)
  apply BitVec.eq_of_toNat_eq
  simp [BitVec.toNat_or, Nat.or_mod_two_pow]
theorem nI_shl1 {k : Nat} (hk : k < 31) : (1 : Int32) <<< (nI k &&& 31) = nI (2 ^ k) := by
  have : ∀ k, k < 31 → (1 : Int32) <<< (nI k &&& 31) = nI (2 ^ k) := by decide +kernel
  exact this k hk
theorem bit01 {m k : Nat} : m / 2 ^ k % 2 = 0 ∨ m / 2 ^ k % 2 = 1 := by omega
theorem p_isIn {m k : Nat} (hm : m < 2147483648) (hk : k < 31) (t : Mm) : f_X7_isIn (nI m) (nI k) t = some (nI (m / 2 ^ k % 2), t) := by
  unfold f_X7_isIn
  rw [nI_bit hm hk]
  rcases bit01 (m := m) (k := k) with e | e <;> rw [e] <;> rfl
theorem p_has {m k : Nat} (hm : m < 2147483648) (hk : k < 31) (t : Mm) : f_X8_has (nI m) (nI k) t = some (nI (m / 2 ^ k % 2), t) := by
  unfold f_X8_has
  rw [nI_bit hm hk]
  rcases bit01 (m := m) (k := k) with e | e <;> rw [e] <;> rfl
theorem op_later (N : Nat) (hN : 300 ≤ N) : Op_later N Rel := by
  intro u v h a0 a1
  obtain ⟨⟨⟨s, w1, w2, w3, w4⟩, hU⟩, -⟩ := id h
  have eq : u.1 0 0 0 1 = nI (s 0 1) := w3.1.2.1
  have eq' : v.1 9 0 0 1 = nI (s 0 1) := w4.1.2.1
  unfold f_X7_later f_X8_later
  have hA := p_hasC (t := u) (i := 9 * 0) (a := a0) eq w1.2.1
  have hB := p_isC (t := v) (a := a0) eq' w1.2.1
  by_cases h0 : inR a0 0 ((s 0 1 : Int) - 1)
  · rw [hA.1 h0, hB.1 h0, o_bd_some, o_bd_some]
    simp only [if_neg one_ne]
    have hC := p_out (a := a1) (lo := 0) (hi := 40) (l := 0) (h := 40) u rfl rfl
    have hD := p_in (a := a1) (lo := 0) (hi := 40) (l := 0) (h := 40) v rfl rfl
    by_cases h1 : inR a1 0 40
    · rw [hC.1 h1, hD.1 h1, o_bd_some, o_bd_some]
      simp only [if_neg one_ne]
      obtain ⟨k, rfl, -, hk, hk2⟩ := inR_nat h0 (by omega)
      obtain ⟨z, rfl, -, hz, hz2⟩ := inR_nat h1 (by omega)
      have hk : k < s 0 1 := by omega
      have h5 := w1.2.1
      have hi : o_inb (nI k) 5 = true := inb_nI (by omega) (by omega)
      obtain ⟨u3, u4, u5, u6, u7⟩ := w3.2.2 k hk
      obtain ⟨r3, r4, r5, r6, r7⟩ := w4.2.2.1 k hk
      obtain ⟨f3, f4, f5, f6, f7⟩ := w1.2.2.2.2.2 k hk
      have cl : ∀ n, n ≤ 24 → (nI n + nI k).toNatClampNeg = n + k := fun n hn => by rw [nI_add, cl_nI (by omega)]
      have ib : ∀ n, n ≤ 24 → o_inb (nI n + nI k) 31 = true := fun n hn => by rw [nI_add]; exact inb_nI (by omega) (by omega)
      simp only [if_pos hi, cl_nI hk2, show (14 : Int32) = nI 14 from rfl, show (19 : Int32) = nI 19 from rfl, if_pos (ib 14 (by omega)), if_pos (ib 19 (by omega)), cl 14 (by omega), cl 19 (by omega), o_nm, show (9 * 0 : Nat) = 0 from rfl]
      rw [u5, u6, r5, r6]
      have c6 : nI (s 6 k) = 0 ↔ s 6 k = 0 := nIeq (b := 0) (by omega) (by omega)
      have c5 : nI (s 5 k) = nI z ↔ s 5 k = z := nIeq (by omega) (by omega)
      by_cases e6 : s 6 k = 0
      · simp only [if_pos (c6.mpr e6)]
        by_cases e5 : s 5 k = z
        · simp only [if_pos (c5.mpr e5)]
          exact ⟨-2, u, v, rfl, rfl, h⟩
        · simp only [if_neg (fun q => e5 (c5.mp q))]
          obtain ⟨u1, v1, b1, b2, b3, b4, b5⟩ := p_change (r := 5) (k := k) (x := z) hN h w1 w2 w3 w4 (by unfold okS; omega) (by omega) (by omega) (wf_set w1 (by omega) (by omega) (by omega) (by omega))
          rw [b1, b2, o_bd_some, o_bd_some]
          refine ⟨nI (s 5 k), sI u1 0 0 5 k (nI z), sI v1 9 0 4 (14 + k) (nI z), rfl, ?_, b5⟩
          rw [show v1.1 9 0 4 (14 + k) = nI (s 5 k) from by rw [b4]; exact r5]
      · simp only [if_neg (fun q => e6 (c6.mp q))]
        exact ⟨-2, u, v, rfl, rfl, h⟩
    · rw [hC.2 h1, hD.2 h1, o_bd_some, o_bd_some]
      exact ⟨-1, u, v, rfl, rfl, h⟩
  · rw [hA.2 h0, hB.2 h0, o_bd_some, o_bd_some]
    exact ⟨-1, u, v, rfl, rfl, h⟩
theorem op_put (N : Nat) (hN : 300 ≤ N) : Op_put N Rel := by
  intro u v h a0 a1
  obtain ⟨⟨⟨s, w1, w2, w3, w4⟩, hU⟩, -⟩ := id h
  have eq : u.1 0 0 0 0 = nI (s 0 0) := w3.1.1
  have eq' : v.1 9 0 0 0 = nI (s 0 0) := w4.1.1
  unfold f_X7_put f_X8_put
  have hA := p_hasQ (t := u) (i := 9 * 0) (a := a0) eq w1.1
  have hB := p_isQ (t := v) (a := a0) eq' w1.1
  by_cases h0 : inR a0 0 ((s 0 0 : Int) - 1)
  · rw [hA.1 h0, hB.1 h0, o_bd_some, o_bd_some]
    simp only [if_neg one_ne]
    have hC := p_out (a := a1) (lo := 1) (hi := 9) (l := 1) (h := 9) u rfl rfl
    have hD := p_in (a := a1) (lo := 1) (hi := 9) (l := 1) (h := 9) v rfl rfl
    by_cases h1 : inR a1 1 9
    · rw [hC.1 h1, hD.1 h1, o_bd_some, o_bd_some]
      simp only [if_neg one_ne]
      obtain ⟨k, rfl, -, hk, hk2⟩ := inR_nat h0 (by omega)
      obtain ⟨z, rfl, hz0, hz, hz2⟩ := inR_nat h1 (by omega)
      have hk : k < s 0 0 := by omega
      have h8 := w1.1
      have hi : o_inb (nI k) 8 = true := inb_nI (by omega) (by omega)
      obtain ⟨u1', u2'⟩ := w3.2.1 k hk
      obtain ⟨r1', r2'⟩ := w4.2.1 k hk
      obtain ⟨f1, f2, f3⟩ := w1.2.2.2.2.1 k hk
      have cl : (nI 1 + nI k).toNatClampNeg = 1 + k := by rw [nI_add, cl_nI (by omega)]
      have ib : o_inb (nI 1 + nI k) 31 = true := by rw [nI_add]; exact inb_nI (by omega) (by omega)
      have l1 : ((1 : Int32) + nI k).toNatClampNeg = 1 + k := cl
      have l2 : o_inb ((1 : Int32) + nI k) 31 = true := ib
      simp only [if_pos hi, cl_nI hk2, l1, if_pos l2, o_nm, show (9 * 0 : Nat) = 0 from rfl]
      rw [u2', r2']
      have c5 : nI (s 2 k) = nI z ↔ s 2 k = z := nIeq (by omega) (by omega)
      by_cases e5 : s 2 k = z
      · simp only [if_pos (c5.mpr e5)]
        exact ⟨-2, u, v, rfl, rfl, h⟩
      · simp only [if_neg (fun q => e5 (c5.mp q))]
        obtain ⟨u1, v1, b1, b2, b3, b4, b5⟩ := p_change (r := 2) (k := k) (x := z) hN h w1 w2 w3 w4 (by unfold okS; omega) (by omega) (by omega) (wf_set w1 (by omega) (by omega) (by omega) (by omega))
        rw [b1, b2, o_bd_some, o_bd_some]
        exact ⟨nI (s 2 k), sI u1 0 0 2 k (nI z), sI v1 9 0 4 (1 + k) (nI z), rfl, rfl, b5⟩
    · rw [hC.2 h1, hD.2 h1, o_bd_some, o_bd_some]
      exact ⟨-1, u, v, rfl, rfl, h⟩
  · rw [hA.2 h0, hB.2 h0, o_bd_some, o_bd_some]
    exact ⟨-1, u, v, rfl, rfl, h⟩
