theorem se_tr {n w : Nat} (x : BitVec n) (h : w ≤ n) : x.signExtend w = x.setWidth w := by
  apply BitVec.eq_of_getLsbD_eq
  intro i hi
  simp only [BitVec.getLsbD_signExtend, BitVec.getLsbD_setWidth, hi, decide_true, Bool.true_and, if_pos (show i < n by omega)]
theorem se_se (x : BitVec 64) (w : Nat) (h : w < 32) (h0 : 0 < w) : (((x.setWidth 32).setWidth w).signExtend 32).signExtend 64 = (x.setWidth w).signExtend 64 := by
  apply BitVec.eq_of_getLsbD_eq
  intro i hi
  simp only [BitVec.getLsbD_signExtend, hi, decide_true, Bool.true_and, BitVec.getLsbD_setWidth, BitVec.msb_eq_getLsbD_last]
  by_cases h1 : i < w
  · simp [h1, show i < 32 by omega]
  · by_cases h2 : i < 32
    · simp [h1, h2, show w - 1 < w by omega, show w - 1 < 32 by omega]
    · simp [h1, h2, show ¬ (31 : Nat) < w by omega, show w - 1 < w by omega, show w - 1 < 32 by omega]
theorem lb_bv (v : Int64) (c : Int32) (k : Nat) (hc : ((c.toInt64 &&& 63).toBitVec.smod 64).toNat = k) : ((v <<< (c.toInt64 &&& 63)) >>> (c.toInt64 &&& 63)).toBitVec = (v.toBitVec <<< k).sshiftRight k := by
  rw [Int64.toBitVec_shiftRight, Int64.toBitVec_shiftLeft]
  show ((v.toBitVec <<< ((c.toInt64 &&& 63).toBitVec.smod 64).toNat).sshiftRight ((c.toInt64 &&& 63).toBitVec.smod 64).toNat) = _
  rw [hc]
theorem lb8 (v : Int64) : (v <<< ((56 : Int32).toInt64 &&& 63)) >>> ((56 : Int32).toInt64 &&& 63) = ((v.toInt32).toInt8.toInt32).toInt64 := by
  apply Int64.toBitVec_inj.mp
  rw [lb_bv v 56 56 sh_64.1, low_bits _ 56 8 (by omega) (by omega)]
  rw [Int32.toBitVec_toInt64, Int8.toBitVec_toInt32, Int32.toBitVec_toInt8, Int64.toBitVec_toInt32]
  simp only [se_tr (n := 64) (w := 32) _ (by omega), se_tr (n := 32) (w := 8) _ (by omega)]
  exact (se_se v.toBitVec 8 (by omega) (by omega)).symm
theorem lb16 (v : Int64) : (v <<< ((48 : Int32).toInt64 &&& 63)) >>> ((48 : Int32).toInt64 &&& 63) = ((v.toInt32).toInt16.toInt32).toInt64 := by
  apply Int64.toBitVec_inj.mp
  rw [lb_bv v 48 48 sh_64.2.1, low_bits _ 48 16 (by omega) (by omega)]
  rw [Int32.toBitVec_toInt64, Int16.toBitVec_toInt32, Int32.toBitVec_toInt16, Int64.toBitVec_toInt32]
  simp only [se_tr (n := 64) (w := 32) _ (by omega), se_tr (n := 32) (w := 16) _ (by omega)]
  exact (se_se v.toBitVec 16 (by omega) (by omega)).symm
theorem lb32 (v : Int64) : (v <<< ((32 : Int32).toInt64 &&& 63)) >>> ((32 : Int32).toInt64 &&& 63) = (v.toInt32).toInt64 := by
  apply Int64.toBitVec_inj.mp
  rw [lb_bv v 32 32 sh_64.2.2, low_bits _ 32 32 (by omega) (by omega), Int32.toBitVec_toInt64, Int64.toBitVec_toInt32]
  simp only [se_tr (n := 64) (w := 32) _ (by omega)]
def lowB (l : Nat) (v : Int64) : Int64 := if l = 0 then ((v.toInt32).toInt8.toInt32).toInt64 else if l = 1 then ((v.toInt32).toInt16.toInt32).toInt64 else if l = 2 then (v.toInt32).toInt64 else v
theorem p_low {u : Mm} {j l : Nat} (h : u.1 2 j 0 0 = nI l) (hl : l < 4) (x : Int64) : f_X3_lowestBits j x u = some (lowB l x, u) := by
  unfold f_X3_lowestBits lowB
  rw [h]
  rcases (show l = 0 ∨ l = 1 ∨ l = 2 ∨ l = 3 by omega) with rfl | rfl | rfl | rfl <;> rfl
theorem op_item (N : Nat) : Op_item N Rel := by
  intro u v h a0 a1 a2 a3
  have hS := h.2.2.1
  unfold f_X7_item f_X8_item
  by_cases h0 : inR a0 0 3
  · rw [(p_noSh.1 h0).1, (p_isSh.1 h0).1, o_bd_some, o_bd_some]
    simp only [if_neg one_ne]
    by_cases h1 : inR a1 0 3
    · rw [(p_noSh.1 h1).2, (p_isSh.1 h1).2, o_bd_some, o_bd_some]
      simp only [if_neg one_ne, ite_true]
      obtain ⟨j, rfl, -, hj, hj2⟩ := inR_nat h0 (by omega)
      have hj : j < 4 := by omega
      have i1 : o_inb (nI j) 4 = true := inb_nI hj (by omega)
      obtain ⟨e1, e2, e3⟩ := hS j hj
      simp only [if_pos i1, cl_nI hj2]
      rcases e3 with e3 | ⟨z, l, z1, z2, z3, z4, z5⟩
      · rw [p_missing e3, p_lacks0 hj (e2.symm.trans e3), o_bd_some, o_bd_some]
        exact ⟨-11, u, v, rfl, rfl, h⟩
      · rw [p_refusal z3 z4 z1, p_lacks hj (e2.symm.trans z3) (e1.symm.trans z4) z1, o_bd_some, o_bd_some]
        by_cases c0 : a1 = nI l
        · simp only [if_pos c0]
          by_cases c1 : a2 < 0
          · simp only [if_pos c1]
            exact ⟨-13, u, v, rfl, rfl, h⟩
          · by_cases c3 : nI z - 1 < a2
            · simp only [if_neg c1, if_neg (show ¬ (1 : Int32) < 0 by decide), if_pos c3]
              exact ⟨-13, u, v, rfl, rfl, h⟩
            · simp only [if_neg c1, if_neg (show ¬ (1 : Int32) < 0 by decide), if_neg c3, ite_true]
              have hsp := mt (span_iff (n := 1) z1 c1 (by decide)).mpr c3
              have e0 : (0 : Int32).toInt = 0 := rfl
              have e11 : (1 : Int32).toInt = 1 := rfl
              have c1' := c1
              rw [Int32.lt_iff_toInt_lt, e0] at c1'
              obtain ⟨k, rfl, -, hk, hk2⟩ := inR_nat (a := a2) (l := 0) (h := (z : Int) - 1) ⟨by omega, by rw [e11] at hsp; omega⟩ (by omega)
              have i2 : o_inb (nI k) 24 = true := inb_nI (by omega) (by omega)
              have f1 : f_X3_write j (nI k) a3 u = some (sJ u j k (lowB l a3)) := by
                unfold f_X3_write f_X3_holds
                rw [z3]
                simp only [if_neg c1, if_neg (show ¬ (1 : Int32) < 0 by decide), if_neg c3, o_bd_some, if_neg one_ne]
                rw [p_low z4 z2, o_bd_some]
                simp only [if_pos i2, cl_nI hk2, o_nm]
              have e24 : (24 : Int32) * nI j + nI k = nI (24 * j + k) := by rw [show (24 : Int32) = nI 24 from rfl, pk_mul, nI_add]
              have f2 : ∀ x, f_X8_item_93 (24 * nI j + nI k) x v = some (1, sJ v 0 (24 * j + k) x) := by
                intro x
                unfold f_X8_item_93
                rw [e24, if_pos (inb_nI (by omega) (by omega)), cl_nI (by omega)]
                rfl
              rw [f1, o_bd_some]
              refine ⟨1, sJ u j k (lowB l a3), sJ v 0 (24 * j + k) (lowB l a3), rfl, ?_, ?_⟩
              · rw [c0, f2, f2, f2, f2, lb8, lb16, lb32]
                unfold lowB
                rcases (show l = 0 ∨ l = 1 ∨ l = 2 ∨ l = 3 by omega) with rfl | rfl | rfl | rfl <;> rfl
              · refine h.sheets (fun q hq => ?_) rfl rfl rfl (fun _ _ _ => rfl)
                obtain ⟨g1, g2, g3⟩ := hS q hq
                refine ⟨g1, g2, ?_⟩
                rcases g3 with g3 | ⟨z', l', y1, y2, y3, y4, y5⟩
                · exact Or.inl g3
                · refine Or.inr ⟨z', l', y1, y2, y3, y4, fun k' hk' => ?_⟩
                  by_cases e : q = j
                  · subst e
                    unfold sJ
                    rw [sL_at, sL_at]
                    unfold vp_updL
                    by_cases ek : k' = k
                    · rw [if_pos ek, if_pos (by omega)]
                    · rw [if_neg ek, if_neg (by omega)]
                      exact y5 k' hk'
                  · unfold sJ
                    rw [sL_off e, sL_at]
                    unfold vp_updL
                    rw [if_neg (by omega)]
                    exact y5 k' hk'
        · simp only [if_neg c0]
          exact ⟨-12, u, v, rfl, rfl, h⟩
    · rw [(p_noSh.2 h1).2, (p_isSh.2 h1).2, o_bd_some, o_bd_some]
      exact ⟨-1, u, v, rfl, rfl, h⟩
  · rw [(p_noSh.2 h0).1, (p_isSh.2 h0).1, o_bd_some, o_bd_some]
    exact ⟨-1, u, v, rfl, rfl, h⟩
