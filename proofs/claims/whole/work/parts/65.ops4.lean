theorem FR_addQ {v : Nat → Nat → Int32} {s : Sx} {a b : Nat} (h : FR v s) : FR (v2 (v2 (v2 v 1 (s 0 0) (nI a)) 2 (s 0 0) (nI b)) 0 0 (nI (s 0 0 + 1))) (u2 (u2 (u2 s 1 (s 0 0) a) 2 (s 0 0) b) 0 0 (s 0 0 + 1)) := by
  obtain ⟨⟨a1, a2, a3, a4, a5⟩, f, g⟩ := h
  refine ⟨⟨pt_v2 (pt_v2 (pt_v2 a1)), pt_v2 (pt_v2 (pt_v2 a2)), pt_v2 (pt_v2 (pt_v2 a3)), pt_v2 (pt_v2 (pt_v2 a4)), pt_v2 (pt_v2 (pt_v2 a5))⟩, fun k hk => ?_, fun k hk => ?_⟩
  · have hk : k < s 0 0 + 1 := by simpa [u2] using hk
    by_cases e : k = s 0 0
    · subst e
      simp [v2, u2]
    · have := f k (by omega)
      exact ⟨pt_v2 (pt_v2 (pt_v2 this.1)), pt_v2 (pt_v2 (pt_v2 this.2))⟩
  · have hk : k < s 0 1 := by simpa [u2] using hk
    obtain ⟨g3, g4, g5, g6, g7⟩ := g k hk
    refine ⟨pt_v2 (pt_v2 (pt_v2 g3)), pt_v2 (pt_v2 (pt_v2 g4)), pt_v2 (pt_v2 (pt_v2 g5)), pt_v2 (pt_v2 (pt_v2 g6)), fun h1 => pt_v2 (pt_v2 (pt_v2 (g7 ?_)))⟩
    simpa [u2] using h1
theorem RR_addQ {q c : Int32} {tp kd w : Nat → Int32} {s : Sx} {a b : Nat} (h : RR q c tp kd w s) (hq : s 0 0 < 8) (hc : s 0 1 ≤ 5) : RR (nI (s 0 0 + 1)) c (upd tp (s 0 0) (nI a)) kd (upd w (1 + s 0 0) (nI b)) (u2 (u2 (u2 s 1 (s 0 0) a) 2 (s 0 0) b) 0 0 (s 0 0 + 1)) := by
  obtain ⟨⟨a1, a2, a3, a4, a5⟩, f, g, z⟩ := h
  have e0 : ∀ j, j ≠ 0 → u2 (u2 (u2 s 1 (s 0 0) a) 2 (s 0 0) b) 0 0 (s 0 0 + 1) 0 j = s 0 j := fun j hj => by simp [u2, hj]
  have er : ∀ r j, 3 ≤ r → u2 (u2 (u2 s 1 (s 0 0) a) 2 (s 0 0) b) 0 0 (s 0 0 + 1) r j = s r j := fun r j hr => by simp [u2, show r ≠ 0 by omega, show r ≠ 1 by omega, show r ≠ 2 by omega]
  have uo : ∀ j, j ≠ 1 + s 0 0 → upd w (1 + s 0 0) (nI b) j = w j := fun j hj => upd_off hj
  refine ⟨⟨by simp [u2], by rw [e0 1 (by decide)]; exact a2, by rw [e0 2 (by decide), uo 0 (by omega)]; exact a3, by rw [e0 3 (by decide), uo 29 (by omega)]; exact a4, by rw [e0 4 (by decide), uo 30 (by omega)]; exact a5⟩, fun k hk => ?_, fun k hk => ?_, fun k hk h5 => ?_⟩
  · have hk : k < s 0 0 + 1 := by simpa [u2] using hk
    by_cases e : k = s 0 0
    · subst e
      simp [upd, u2]
    · have := f k (by omega)
      rw [upd_off e, uo (1 + k) (by omega)]
      simpa [u2, e] using this
  · rw [e0 1 (by decide)] at hk
    obtain ⟨g3, g4, g5, g6, g7⟩ := g k hk
    rw [er 3 k (by omega), er 4 k (by omega), er 5 k (by omega), er 6 k (by omega), er 7 k (by omega), uo (9 + k) (by omega), uo (14 + k) (by omega), uo (19 + k) (by omega), uo (24 + k) (by omega)]
    exact ⟨g3, g4, g5, g6, g7⟩
  · rw [e0 1 (by decide)] at hk
    rw [uo (19 + k) (by omega)]
    exact z k hk h5
theorem wf_addQ {s : Sx} {a b : Nat} (h : wfS s) (hq : s 0 0 < 8) (ha : a < 8) (hb : 1 ≤ b) (hb2 : b ≤ 9) : wfS (u2 (u2 (u2 s 1 (s 0 0) a) 2 (s 0 0) b) 0 0 (s 0 0 + 1)) := by
  obtain ⟨h1, h2, h3, h4, f, g⟩ := h
  have e0 : ∀ j, j ≠ 0 → u2 (u2 (u2 s 1 (s 0 0) a) 2 (s 0 0) b) 0 0 (s 0 0 + 1) 0 j = s 0 j := fun j hj => by simp [u2, hj]
  have e00 : u2 (u2 (u2 s 1 (s 0 0) a) 2 (s 0 0) b) 0 0 (s 0 0 + 1) 0 0 = s 0 0 + 1 := by simp [u2]
  have er : ∀ r j, 3 ≤ r → u2 (u2 (u2 s 1 (s 0 0) a) 2 (s 0 0) b) 0 0 (s 0 0 + 1) r j = s r j := fun r j hr => by simp [u2, show r ≠ 0 by omega, show r ≠ 1 by omega, show r ≠ 2 by omega]
  unfold wfS
  rw [e00, e0 1 (by decide), e0 2 (by decide), e0 4 (by decide), e0 3 (by decide)]
  refine ⟨by omega, h2, ?_, h4, fun k hk => ?_, fun k hk => ?_⟩
  · rw [Nat.pow_succ]; omega
  · by_cases e : k = s 0 0
    · subst e
      simp [u2]; omega
    · have := f k (by omega)
      simpa [u2, e] using this
  · rw [er 3 k (by omega), er 4 k (by omega), er 5 k (by omega), er 6 k (by omega), er 7 k (by omega)]
    exact g k hk
theorem op_question (N : Nat) : Op_question N Rel := by
  intro u v h a0 a1
  obtain ⟨⟨⟨s, w1, w2, w3, w4⟩, hU⟩, -⟩ := id h
  have eq : u.1 0 0 0 0 = nI (s 0 0) := w3.1.1
  have eq' : v.1 9 0 0 0 = nI (s 0 0) := w4.1.1
  unfold f_X7_question f_X8_question
  have hA := p_out (a := a0) (lo := 0) (hi := 7) (l := 0) (h := 7) u rfl rfl
  have hB := p_in (a := a0) (lo := 0) (hi := 7) (l := 0) (h := 7) v rfl rfl
  by_cases h0 : inR a0 0 7
  · rw [hA.1 h0, hB.1 h0, o_bd_some, o_bd_some]
    simp only [if_neg one_ne]
    have hC := p_out (a := a1) (lo := 1) (hi := 9) (l := 1) (h := 9) u rfl rfl
    have hD := p_in (a := a1) (lo := 1) (hi := 9) (l := 1) (h := 9) v rfl rfl
    by_cases h1 : inR a1 1 9
    · rw [hC.1 h1, hD.1 h1, o_bd_some, o_bd_some]
      simp only [if_neg one_ne, eq']
      rw [show u.1 0 (9 * 0) 0 0 = nI (s 0 0) from eq]
      obtain ⟨a, rfl, -, ha, ha2⟩ := inR_nat h0 (by omega)
      obtain ⟨b, rfl, hb0, hb, hb2⟩ := inR_nat h1 (by omega)
      have h8 := w1.1
      by_cases hq : s 0 0 < 8
      · have i1 : o_inb (nI (s 0 0)) 8 = true := inb_nI hq (by omega)
        have i2 : o_inb (nI 1 + nI (s 0 0)) 31 = true := by rw [nI_add]; exact inb_nI (by omega) (by omega)
        have c2 : (nI 1 + nI (s 0 0)).toNatClampNeg = 1 + s 0 0 := by rw [nI_add, cl_nI (by omega)]
        have l1 : nI (s 0 0) < 8 := (nIlt (b := 8) (by omega) (by omega)).mpr hq
        have n1 : ¬ nI (s 0 0) = 8 := fun z => absurd ((nIeq (b := 8) (by omega) (by omega)).mp z) (by omega)
        have c1 : (nI (s 0 0)).toNatClampNeg = s 0 0 := cl_nI (by omega)
        refine ⟨nI (s 0 0), sI (sI (sI (sI u 1 0 0 3 0) 0 0 1 (s 0 0) (nI a)) 0 0 2 (s 0 0) (nI b)) 0 0 0 0 (nI (s 0 0 + 1)), sI (sI (sI (sI v 9 0 2 (s 0 0) (nI a)) 9 0 4 (1 + s 0 0) (nI b)) 9 0 0 0 (nI (s 0 0 + 1))) 9 0 0 7 0, ?_, ?_, ?_⟩
        · simp only [if_pos l1]
          unfold f_X4_forgetPast f_X0_addQuestion
          show o_bd (if (sI u 1 0 0 3 0).1 0 0 0 0 < 8 then _ else _) _ = _
          have e1 : (sI u 1 0 0 3 0).1 0 0 0 0 = nI (s 0 0) := eq
          simp only [show (9 * 0 : Nat) = 0 from rfl, e1, if_pos l1, if_pos i1, c1]
          show some (nI (s 0 0), sI _ 0 0 0 0 ((sI (sI (sI u 1 0 0 3 0) 0 0 1 (s 0 0) (nI a)) 0 0 2 (s 0 0) (nI b)).1 0 0 0 0 + 1)) = _
          rw [show (sI (sI (sI u 1 0 0 3 0) 0 0 1 (s 0 0) (nI a)) 0 0 2 (s 0 0) (nI b)).1 0 0 0 0 = nI (s 0 0) from eq, nI_1]
        · simp only [if_neg n1, if_pos i1, c1]
          show (if o_inb (nI 1 + (sI v 9 0 2 (s 0 0) (nI a)).1 9 0 0 0) 31 = true then _ else none) = _
          rw [show (sI v 9 0 2 (s 0 0) (nI a)).1 9 0 0 0 = nI (s 0 0) from eq', if_pos i2]
          show some ((sI (sI (sI (sI v 9 0 2 (s 0 0) (nI a)) 9 0 4 ((nI 1 + nI (s 0 0)).toNatClampNeg) (nI b)) 9 0 0 0 (v.1 9 0 0 0 + 1)) 9 0 0 7 0).1 9 0 0 0 - 1, sI (sI (sI (sI v 9 0 2 (s 0 0) (nI a)) 9 0 4 ((nI 1 + nI (s 0 0)).toNatClampNeg) (nI b)) 9 0 0 0 (v.1 9 0 0 0 + 1)) 9 0 0 7 0) = _
          rw [c2, eq', nI_1]
          congr 2
          show nI (s 0 0 + 1) - 1 = nI (s 0 0)
          exact nI_pred (s 0 0)
        · refine h.now ⟨⟨_, wf_addQ (a := a) (b := b) w1 hq (by omega) (by omega) (by omega), ?_, ?_, ?_⟩, ?_⟩ ?_ ?_
          · have : u2 (u2 (u2 s 1 (s 0 0) a) 2 (s 0 0) b) 0 0 (s 0 0 + 1) 0 3 = s 0 3 := by simp [u2]
            rw [this]; exact w2
          · rw [sI_v2, sI_v2, sI_v2]
            exact FR_addQ w3
          · exact RR_addQ w4 hq w1.2.1
          · exact UR_none hU _
          · exact ⟨fun i h1 h2 => by rw [sI_Ford (by omega), sI_Ford (by omega), sI_Ford (by omega)]; rfl, rfl, rfl, rfl, rfl, rfl, rfl⟩
          · exact ⟨⟨rfl, rfl, rfl, rfl, rfl, rfl⟩, rfl, rfl, rfl, rfl, rfl⟩
      · have hq : s 0 0 = 8 := by omega
        rw [hq]
        simp only [if_neg (show ¬ nI 8 < 8 by decide), if_pos (show nI 8 = 8 from rfl)]
        exact ⟨-3, u, v, rfl, rfl, h⟩
    · rw [hC.2 h1, hD.2 h1, o_bd_some, o_bd_some]
      exact ⟨-1, u, v, rfl, rfl, h⟩
  · rw [hA.2 h0, hB.2 h0, o_bd_some, o_bd_some]
    exact ⟨-1, u, v, rfl, rfl, h⟩
