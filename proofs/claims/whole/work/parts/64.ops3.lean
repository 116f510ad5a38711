theorem fb_char' (n : Nat) (h : n < 65536) : (nI n).toUInt32.toUInt16.toUInt32.toInt32 = nI n := by
  apply Int32.toBitVec_inj.mp
  simp [nI]
  apply BitVec.eq_of_toNat_eq
  simp
  omega
theorem one_ne : ¬ (1 : Int32) = 0 := by decide
theorem sI_Ford {t : Mm} {i c j i' : Nat} {x : Int32} (h : i' ≠ i) : (sI t 0 i c j x).1 0 i' = t.1 0 i' := by
  funext r k
  exact congrFun (sI_off (by omega)) k
theorem sI_kind {t : Mm} {a b c j a' : Nat} {x : Int32} (h : a' ≠ a) : (sI t a b c j x).1 a' = t.1 a' := by
  funext b' r k
  exact congrFun (sI_off (by omega)) k
theorem sI_num {t : Mm} {a b c j b' : Nat} {x : Int32} (h : b' ≠ b) : (sI t a b c j x).1 a b' = t.1 a b' := by
  funext r k
  exact congrFun (sI_off (by omega)) k
theorem v2_at {v : Nat → Nat → Int32} {r k : Nat} {x : Int32} : v2 v r k x r k = x := if_pos ⟨rfl, rfl⟩
theorem v2_off {v : Nat → Nat → Int32} {r k r' k' : Nat} {x : Int32} (h : ¬ (r' = r ∧ k' = k)) : v2 v r k x r' k' = v r' k' := if_neg h
theorem op_type (N : Nat) : Op_type N Rel := by
  intro u v h a0
  obtain ⟨hN, hI, hS, ⟨n, ch, t1, t2, t3, t4⟩, h17, h19⟩ := id h
  unfold f_X7_type f_X8_type
  have hA := p_out (a := a0) (lo := 32) (hi := 126) (l := 32) (h := 126) u rfl rfl
  have hB := p_in (a := a0) (lo := 32) (hi := 126) (l := 32) (h := 126) v rfl rfl
  by_cases h0 : inR a0 32 126
  · rw [hA.1 h0, hB.1 h0, o_bd_some, o_bd_some]
    simp only [if_neg one_ne, t2, t3]
    obtain ⟨k, rfl, hk1, hk, hk2⟩ := inR_nat h0 (by omega)
    by_cases hn : n < 90
    · have hi : o_inb (nI n) 90 = true := inb_nI hn (by omega)
      have e1 : nI n < 90 := (nIlt (b := 90) (by omega) (by omega)).mpr hn
      have e2 : ¬ nI n = 90 := fun z => absurd ((nIeq (b := 90) (by omega) (by omega)).mp z) (by omega)
      have e3 : ¬ (90 : Int32) ≤ nI n := fun z => absurd ((nIle (a := 90) (by omega) (by omega)).mp z) (by omega)
      have ec : vp_nar .char (((nI k).toUInt32 % 65536).toInt32) = nI k := by
        have hc : ((nI k).toUInt32 % 65536).toInt32 = nI k := by
          rw [pk_char, pk_tn (by omega)]
          congr 1
          omega
        rw [hc, vp_nar_char]
        exact fb_char' k (by omega)
      simp only [if_pos e1, if_neg e2, if_pos hi, cl_nI (show n < 2147483648 by omega)]
      refine ⟨nI (n + 1), sI (sI u 3 2 0 n (nI k)) 3 1 0 1 (nI (n + 1)), sI (sI v 9 0 16 n (nI k)) 9 0 0 15 (nI (n + 1)), ?_, ?_, ?_⟩
      · unfold f_X5_append f_X5_append_30
        simp only [t2, if_neg e3, if_pos hi, cl_nI (show n < 2147483648 by omega), ec]
        show some ((sI (sI u 3 2 0 n (nI k)) 3 1 0 1 ((sI u 3 2 0 n (nI k)).1 3 1 0 1 + 1)).1 3 1 0 1, _) = _
        rw [show (sI u 3 2 0 n (nI k)).1 3 1 0 1 = nI n from t2, nI_1, sI_at, upd_at]
      · show some ((sI (sI v 9 0 16 n (nI k)) 9 0 0 15 ((sI v 9 0 16 n (nI k)).1 9 0 0 15 + 1)).1 9 0 0 15, _) = _
        rw [show (sI v 9 0 16 n (nI k)).1 9 0 0 15 = nI n from t3, nI_1, sI_at, upd_at]
      · refine ⟨hN, ?_, hS, ⟨n + 1, fun j => if j = n then k else ch j, by omega, rfl, rfl, fun j hj => ?_⟩, h17, h19⟩
        · exact hI
        · show 32 ≤ (if j = n then k else ch j) ∧ (if j = n then k else ch j) ≤ 126 ∧ (if j = n then nI k else u.1 3 2 0 j) = nI (if j = n then k else ch j) ∧ (if j = n then nI k else v.1 9 0 16 j) = nI (if j = n then k else ch j)
          by_cases e : j = n
          · simp only [if_pos e]
            exact ⟨by omega, by omega, trivial, trivial⟩
          · simp only [if_neg e]
            exact t4 j (by omega)
    · have hn : n = 90 := by omega
      subst hn
      have e1 : ¬ nI 90 < 90 := by decide
      have e2 : nI 90 = 90 := rfl
      simp only [if_neg e1, if_pos e2]
      exact ⟨-3, u, v, rfl, rfl, h⟩
  · rw [hA.2 h0, hB.2 h0, o_bd_some, o_bd_some]
    exact ⟨-1, u, v, rfl, rfl, h⟩
