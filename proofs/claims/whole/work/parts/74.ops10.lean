/-! item -/
theorem p_refusal {u : Mm} {j z l : Nat} {a i : Int32} {n : Int32} (h1 : u.1 2 j 0 1 = nI z) (h2 : u.1 2 j 0 0 = nI l) (hz : z ≤ 24) : f_X3_refusal j a i n u = some (if a = nI l then (if i < 0 then -13 else if n < 0 then -13 else if nI z - n < i then -13 else 0) else -12, u) := by
  have n1 : ¬ nI z = -1 := fun q => by
    have := congrArg Int32.toInt q
    rw [nI_toInt (by omega)] at this
    have e : (-1 : Int32).toInt = -1 := rfl
    omega
  unfold f_X3_refusal f_X3_isMissing f_X3_holds
  simp only [h1, h2, if_neg n1, o_bd_some, if_pos rfl, ite_true]
  by_cases e : a = nI l
  · simp only [if_pos e]
    by_cases c1 : i < 0
    · simp only [if_pos c1, o_bd_some, ite_true]
    · by_cases c2 : n < 0
      · simp only [if_neg c1, if_pos c2, o_bd_some, ite_true]
      · by_cases c3 : nI z - n < i
        · simp only [if_neg c1, if_neg c2, if_pos c3, o_bd_some, ite_true]
        · simp only [if_neg c1, if_neg c2, if_neg c3, o_bd_some, if_neg one_ne]
  · simp only [if_neg e]
theorem p_missing {u : Mm} {j : Nat} {a i n : Int32} (h1 : u.1 2 j 0 1 = -1) : f_X3_refusal j a i n u = some (-11, u) := by
  unfold f_X3_refusal f_X3_isMissing
  simp only [h1, ite_true, o_bd_some, if_neg one_ne]
/-- a span in both ways -/
theorem span_iff {z : Nat} {i n : Int32} (hz : z ≤ 24) (hi : ¬ i < 0) (hn : ¬ n < 0) : (nI z - n < i) ↔ (z : Int) < i.toInt + n.toInt := by
  have e0 : (0 : Int32).toInt = 0 := rfl
  rw [Int32.lt_iff_toInt_lt, e0] at hi hn
  have hlt : n.toInt < 2147483648 := by have := n.toInt_lt; simpa using this
  have e1 : (nI z - n).toInt = (z : Int) - n.toInt := by
    rw [Int32.toInt_sub, nI_toInt (by omega)]
    exact Int.bmod_eq_of_le (by omega) (by omega)
  rw [Int32.lt_iff_toInt_lt, e1]
  omega
theorem p_span {v : Mm} {j z : Nat} {i n : Int32} (hj : j < 4) (h1 : v.1 9 0 14 j = nI z) (hz : z ≤ 24) : f_X8_isSpan (nI j) i n v = some (if i < 0 then 0 else if n < 0 then 0 else if nI z - n < i then 0 else 1, v) := by
  unfold f_X8_isSpan
  have i1 : o_inb (nI j) 4 = true := inb_nI hj (by omega)
  by_cases c1 : i < 0
  · simp only [if_pos c1]
  · by_cases c2 : n < 0
    · simp only [if_neg c1, if_pos c2]
    · simp only [if_neg c1, if_neg c2, if_pos i1, cl_nI (show j < 2147483648 by omega), h1]
      have e : (0 < lg_cmp (i.toInt64 + n.toInt64) (nI z).toInt64) ↔ nI z - n < i := by
        rw [lgc_gt, span_iff hz c1 c2, Int32.toInt_toInt64, nI_toInt (by omega)]
        have l1 : i.toInt < 2147483648 := by have := i.toInt_lt; simpa using this
        have l2 : n.toInt < 2147483648 := by have := n.toInt_lt; simpa using this
        have e0 : (0 : Int32).toInt = 0 := rfl
        rw [Int32.lt_iff_toInt_lt, e0] at c1 c2
        have e3 : (i.toInt64 + n.toInt64).toInt = i.toInt + n.toInt := by
          rw [Int64.toInt_add, Int32.toInt_toInt64, Int32.toInt_toInt64]
          exact Int.bmod_eq_of_le (by omega) (by omega)
        rw [e3]
      by_cases c3 : nI z - n < i
      · simp only [if_pos (e.mpr c3), if_pos c3]
      · simp only [if_neg (fun q => c3 (e.mp q)), if_neg c3]
theorem p_lacks {v : Mm} {j z l : Nat} {a i n : Int32} (hj : j < 4) (h1 : v.1 9 0 14 j = nI z) (h2 : v.1 9 0 13 j = nI l) (hz : z ≤ 24) : f_X8_lacks (nI j) a i n v = some (if a = nI l then (if i < 0 then -13 else if n < 0 then -13 else if nI z - n < i then -13 else 0) else -12, v) := by
  unfold f_X8_lacks
  have i1 : o_inb (nI j) 4 = true := inb_nI hj (by omega)
  have p0 : (0 : Int32) ≤ nI z := nI_pos' (by omega)
  simp only [if_pos i1, cl_nI (show j < 2147483648 by omega), h1, h2, if_pos p0]
  by_cases e : a = nI l
  · rw [if_pos e, if_pos e.symm, p_span hj h1 hz, o_bd_some]
    by_cases c1 : i < 0
    · simp only [if_pos c1, ite_true]
    · by_cases c2 : n < 0
      · simp only [if_neg c1, if_pos c2, ite_true]
      · by_cases c3 : nI z - n < i
        · simp only [if_neg c1, if_neg c2, if_pos c3, ite_true]
        · simp only [if_neg c1, if_neg c2, if_neg c3, if_neg one_ne]
  · rw [if_neg e, if_neg (fun q => e q.symm)]
theorem p_lacks0 {v : Mm} {j : Nat} {a i n : Int32} (hj : j < 4) (h1 : v.1 9 0 14 j = -1) : f_X8_lacks (nI j) a i n v = some (-11, v) := by
  unfold f_X8_lacks
  have i1 : o_inb (nI j) 4 = true := inb_nI hj (by omega)
  simp only [if_pos i1, cl_nI (show j < 2147483648 by omega), h1, if_neg (show ¬ (0 : Int32) ≤ -1 by decide)]
theorem sh_64 : (((56 : Int32).toInt64 &&& 63).toBitVec.smod 64).toNat = 56 ∧ (((48 : Int32).toInt64 &&& 63).toBitVec.smod 64).toNat = 48 ∧ (((32 : Int32).toInt64 &&& 63).toBitVec.smod 64).toNat = 32 := by decide +kernel
theorem low_bits (x : BitVec 64) (k w : Nat) (hk : k + w = 64) (hw : 0 < w) : (x <<< k).sshiftRight k = (x.setWidth w).signExtend 64 := by
  apply BitVec.eq_of_getLsbD_eq
  intro i hi
  rw [BitVec.getLsbD_sshiftRight, BitVec.getLsbD_signExtend]
  simp only [hi, decide_true, Bool.true_and, BitVec.getLsbD_setWidth, BitVec.getLsbD_shiftLeft, BitVec.msb_eq_getLsbD_last]
  by_cases h1 : i < w
  · have a1 : k + i < 64 := by omega
    simp [h1, a1, show ¬ k + i < k by omega, show ¬ 64 ≤ i by omega]
  · have a1 : ¬ k + i < 64 := by omega
    simp [h1, a1, show ¬ 63 < k by omega, show ¬ 64 ≤ i by omega, show w - 1 < w by omega, show 63 - k = w - 1 by omega]
