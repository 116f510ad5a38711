def sAC (s : Sx) (k n c : Nat) : Sx := u2 (u2 (u2 (u2 (u2 (u2 s 3 (s 0 1) k) 4 (s 0 1) n) 5 (s 0 1) c) 6 (s 0 1) 0) 7 (s 0 1) 0) 0 1 (s 0 1 + 1)
theorem sAC_0 (s : Sx) (k n c j : Nat) (h : j ≠ 1) : sAC s k n c 0 j = s 0 j := by simp [sAC, u2, h]
theorem sAC_01 (s : Sx) (k n c : Nat) : sAC s k n c 0 1 = s 0 1 + 1 := by simp [sAC, u2]
theorem sAC_r (s : Sx) (k n c r j : Nat) (h : 0 < r) (h2 : j ≠ s 0 1 ∨ r < 3) : sAC s k n c r j = s r j := by
  unfold sAC u2
  rw [if_neg (by omega), if_neg (by omega), if_neg (by omega), if_neg (by omega), if_neg (by omega), if_neg (by omega)]
theorem sAC_at (s : Sx) (k n c : Nat) : sAC s k n c 3 (s 0 1) = k ∧ sAC s k n c 4 (s 0 1) = n ∧ sAC s k n c 5 (s 0 1) = c ∧ sAC s k n c 6 (s 0 1) = 0 ∧ sAC s k n c 7 (s 0 1) = 0 := by simp [sAC, u2]
theorem FR_addC {v : Nat → Nat → Int32} {s : Sx} {k n c : Nat} (h : FR v s) : FR (v2 (v2 (v2 (v2 (v2 (v2 v 3 (s 0 1) (nI k)) 4 (s 0 1) (nI n)) 5 (s 0 1) (nI c)) 6 (s 0 1) (nI 0)) 7 (s 0 1) (nI 0)) 0 1 (nI (s 0 1 + 1))) (sAC s k n c) := by
  obtain ⟨⟨a1, a2, a3, a4, a5⟩, f, g⟩ := h
  have pt : ∀ {r j}, v r j = nI (s r j) → v2 (v2 (v2 (v2 (v2 (v2 v 3 (s 0 1) (nI k)) 4 (s 0 1) (nI n)) 5 (s 0 1) (nI c)) 6 (s 0 1) (nI 0)) 7 (s 0 1) (nI 0)) 0 1 (nI (s 0 1 + 1)) r j = nI (sAC s k n c r j) := fun e => pt_v2 (pt_v2 (pt_v2 (pt_v2 (pt_v2 (pt_v2 e)))))
  refine ⟨⟨pt a1, pt a2, pt a3, pt a4, pt a5⟩, fun j hj => ?_, fun j hj => ?_⟩
  · rw [sAC_0 s k n c 0 (by decide)] at hj
    exact ⟨pt (f j hj).1, pt (f j hj).2⟩
  · rw [sAC_01] at hj
    by_cases e : j = s 0 1
    · subst e
      obtain ⟨b1, b2, b3, b4, b5⟩ := sAC_at s k n c
      rw [b1, b2, b3, b4]
      refine ⟨by simp [v2], by simp [v2], by simp [v2], by simp [v2], fun h => absurd h (by decide)⟩
    · obtain ⟨g3, g4, g5, g6, g7⟩ := g j (by omega)
      refine ⟨pt g3, pt g4, pt g5, pt g6, fun h1 => pt (g7 ?_)⟩
      rw [sAC_r s k n c 6 j (by omega) (by omega)] at h1
      exact h1
theorem RR_addC {q c : Int32} {tp kd w : Nat → Int32} {s : Sx} {k n x : Nat} (h : RR q c tp kd w s) (hq : s 0 0 ≤ 8) (hc : s 0 1 < 5) : RR q (nI (s 0 1 + 1)) tp (upd kd (s 0 1) (nI k)) (upd (upd w (9 + s 0 1) (nI n)) (14 + s 0 1) (nI x)) (sAC s k n x) := by
  obtain ⟨⟨a1, a2, a3, a4, a5⟩, f, g, z⟩ := h
  have uo : ∀ j, j ≠ 9 + s 0 1 → j ≠ 14 + s 0 1 → upd (upd w (9 + s 0 1) (nI n)) (14 + s 0 1) (nI x) j = w j := fun j h1 h2 => by rw [upd_off h2, upd_off h1]
  refine ⟨⟨by rw [sAC_0 s k n x 0 (by decide)]; exact a1, by rw [sAC_01], by rw [sAC_0 s k n x 2 (by decide), uo 0 (by omega) (by omega)]; exact a3, by rw [sAC_0 s k n x 3 (by decide), uo 29 (by omega) (by omega)]; exact a4, by rw [sAC_0 s k n x 4 (by decide), uo 30 (by omega) (by omega)]; exact a5⟩, fun j hj => ?_, fun j hj => ?_, fun j hj h5 => ?_⟩
  · rw [sAC_0 s k n x 0 (by decide)] at hj
    rw [sAC_r s k n x 1 j (by omega) (by omega), sAC_r s k n x 2 j (by omega) (by omega), uo (1 + j) (by omega) (by omega)]
    exact f j hj
  · rw [sAC_01] at hj
    by_cases e : j = s 0 1
    · subst e
      obtain ⟨b1, b2, b3, b4, b5⟩ := sAC_at s k n x
      rw [b1, b2, b3, b4]
      refine ⟨upd_at, by rw [upd_off (by omega), upd_at], upd_at, by rw [uo _ (by omega) (by omega)]; exact z _ (Nat.le_refl _) hc, fun h => absurd h (by decide)⟩
    · obtain ⟨g3, g4, g5, g6, g7⟩ := g j (by omega)
      rw [sAC_r s k n x 3 j (by omega) (by omega), sAC_r s k n x 4 j (by omega) (by omega), sAC_r s k n x 5 j (by omega) (by omega), sAC_r s k n x 6 j (by omega) (by omega), sAC_r s k n x 7 j (by omega) (by omega), upd_off e, uo (9 + j) (by omega) (by omega), uo (14 + j) (by omega) (by omega), uo (19 + j) (by omega) (by omega), uo (24 + j) (by omega) (by omega)]
      exact ⟨g3, g4, g5, g6, g7⟩
  · rw [sAC_01] at hj
    rw [uo (19 + j) (by omega) (by omega)]
    exact z j (by omega) h5
theorem wf_addC {s : Sx} {k n x : Nat} (h : wfS s) (hc : s 0 1 < 5) (h1 : k < 5) (h2 : n < 256) (h3 : x ≤ 40) : wfS (sAC s k n x) := by
  obtain ⟨b1, b2, b3, b4, f, g⟩ := h
  unfold wfS
  rw [sAC_01, sAC_0 s k n x 0 (by decide), sAC_0 s k n x 2 (by decide), sAC_0 s k n x 3 (by decide), sAC_0 s k n x 4 (by decide)]
  refine ⟨b1, by omega, b3, b4, fun j hj => ?_, fun j hj => ?_⟩
  · rw [sAC_r s k n x 1 j (by omega) (by omega), sAC_r s k n x 2 j (by omega) (by omega)]
    exact f j hj
  · by_cases e : j = s 0 1
    · subst e
      obtain ⟨c1, c2, c3, c4, c5⟩ := sAC_at s k n x
      rw [c1, c2, c3, c4]
      exact ⟨h1, h2, h3, by decide, fun h => absurd h (by decide)⟩
    · rw [sAC_r s k n x 3 j (by omega) (by omega), sAC_r s k n x 4 j (by omega) (by omega), sAC_r s k n x 5 j (by omega) (by omega), sAC_r s k n x 6 j (by omega) (by omega), sAC_r s k n x 7 j (by omega) (by omega)]
      exact g j (by omega)
theorem op_crosser (N : Nat) : Op_crosser N Rel := by
  intro u v h a0 a1 a2
  obtain ⟨⟨⟨s, w1, w2, w3, w4⟩, hU⟩, -⟩ := id h
  have eq : u.1 0 0 0 1 = nI (s 0 1) := w3.1.2.1
  have eq' : v.1 9 0 0 1 = nI (s 0 1) := w4.1.2.1
  unfold f_X7_crosser f_X8_crosser
  have hA := p_out (a := a0) (lo := 0) (hi := 4) (l := 0) (h := 4) u rfl rfl
  have hB := p_in (a := a0) (lo := 0) (hi := 4) (l := 0) (h := 4) v rfl rfl
  by_cases h0 : inR a0 0 4
  · rw [hA.1 h0, hB.1 h0, o_bd_some, o_bd_some]
    simp only [if_neg one_ne]
    have hC := p_out (a := a1) (lo := 0) (hi := 255) (l := 0) (h := 255) u rfl rfl
    have hD := p_in (a := a1) (lo := 0) (hi := 255) (l := 0) (h := 255) v rfl rfl
    by_cases h1 : inR a1 0 255
    · rw [hC.1 h1, hD.1 h1, o_bd_some, o_bd_some]
      simp only [if_neg one_ne]
      have hE := p_out (a := a2) (lo := 0) (hi := 40) (l := 0) (h := 40) u rfl rfl
      have hF := p_in (a := a2) (lo := 0) (hi := 40) (l := 0) (h := 40) v rfl rfl
      by_cases h2 : inR a2 0 40
      · rw [hE.1 h2, hF.1 h2, o_bd_some, o_bd_some]
        simp only [if_neg one_ne, eq']
        rw [show u.1 0 (9 * 0) 0 1 = nI (s 0 1) from eq]
        obtain ⟨a, rfl, -, ha, ha2⟩ := inR_nat h0 (by omega)
        obtain ⟨b, rfl, -, hb, hb2⟩ := inR_nat h1 (by omega)
        obtain ⟨x, rfl, -, hx, hx2⟩ := inR_nat h2 (by omega)
        have h5 := w1.2.1
        by_cases hc : s 0 1 < 5
        · have i1 : o_inb (nI (s 0 1)) 5 = true := inb_nI hc (by omega)
          have i9 : o_inb (nI 9 + nI (s 0 1)) 31 = true := by rw [nI_add]; exact inb_nI (by omega) (by omega)
          have i14 : o_inb (nI 14 + nI (s 0 1)) 31 = true := by rw [nI_add]; exact inb_nI (by omega) (by omega)
          have c9 : ((9 : Int32) + nI (s 0 1)).toNatClampNeg = 9 + s 0 1 := by rw [show (9 : Int32) = nI 9 from rfl, nI_add, cl_nI (by omega)]
          have c14 : ((14 : Int32) + nI (s 0 1)).toNatClampNeg = 14 + s 0 1 := by rw [show (14 : Int32) = nI 14 from rfl, nI_add, cl_nI (by omega)]
          have l1 : nI (s 0 1) < 5 := (nIlt (b := 5) (by omega) (by omega)).mpr hc
          have n1 : ¬ nI (s 0 1) = 5 := fun z => absurd ((nIeq (b := 5) (by omega) (by omega)).mp z) (by omega)
          have c1 : (nI (s 0 1)).toNatClampNeg = s 0 1 := cl_nI (by omega)
          refine ⟨nI (s 0 1), sI (sI (sI (sI (sI (sI (sI u 1 0 0 3 0) 0 0 3 (s 0 1) (nI a)) 0 0 4 (s 0 1) (nI b)) 0 0 5 (s 0 1) (nI x)) 0 0 6 (s 0 1) (nI 0)) 0 0 7 (s 0 1) (nI 0)) 0 0 0 1 (nI (s 0 1 + 1)), sI (sI (sI (sI (sI v 9 0 3 (s 0 1) (nI a)) 9 0 4 (9 + s 0 1) (nI b)) 9 0 4 (14 + s 0 1) (nI x)) 9 0 0 1 (nI (s 0 1 + 1))) 9 0 0 7 0, ?_, ?_, ?_⟩
          · simp only [if_pos l1]
            unfold f_X4_forgetPast f_X0_addCrosser
            show o_bd (if (sI u 1 0 0 3 0).1 0 0 0 1 < 5 then _ else _) _ = _
            have e1 : (sI u 1 0 0 3 0).1 0 0 0 1 = nI (s 0 1) := eq
            simp only [show (9 * 0 : Nat) = 0 from rfl, e1, if_pos l1, if_pos i1, c1]
            show some (nI (s 0 1), sI _ 0 0 0 1 ((sI (sI (sI (sI (sI (sI u 1 0 0 3 0) 0 0 3 (s 0 1) (nI a)) 0 0 4 (s 0 1) (nI b)) 0 0 5 (s 0 1) (nI x)) 0 0 6 (s 0 1) 0) 0 0 7 (s 0 1) 0).1 0 0 0 1 + 1)) = _
            rw [show (sI (sI (sI (sI (sI (sI u 1 0 0 3 0) 0 0 3 (s 0 1) (nI a)) 0 0 4 (s 0 1) (nI b)) 0 0 5 (s 0 1) (nI x)) 0 0 6 (s 0 1) 0) 0 0 7 (s 0 1) 0).1 0 0 0 1 = nI (s 0 1) from eq, nI_1]
            rfl
          · simp only [if_neg n1, if_pos i1, c1]
            show (if o_inb (nI 9 + (sI v 9 0 3 (s 0 1) (nI a)).1 9 0 0 1) 31 = true then _ else none) = _
            rw [show (sI v 9 0 3 (s 0 1) (nI a)).1 9 0 0 1 = nI (s 0 1) from eq', if_pos i9, c9]
            show (if o_inb (nI 14 + (sI (sI v 9 0 3 (s 0 1) (nI a)) 9 0 4 (9 + s 0 1) (nI b)).1 9 0 0 1) 31 = true then _ else none) = _
            rw [show (sI (sI v 9 0 3 (s 0 1) (nI a)) 9 0 4 (9 + s 0 1) (nI b)).1 9 0 0 1 = nI (s 0 1) from eq', if_pos i14, c14]
            show some ((sI (sI (sI (sI (sI v 9 0 3 (s 0 1) (nI a)) 9 0 4 (9 + s 0 1) (nI b)) 9 0 4 (14 + s 0 1) (nI x)) 9 0 0 1 (v.1 9 0 0 1 + 1)) 9 0 0 7 0).1 9 0 0 1 - 1, sI (sI (sI (sI (sI v 9 0 3 (s 0 1) (nI a)) 9 0 4 (9 + s 0 1) (nI b)) 9 0 4 (14 + s 0 1) (nI x)) 9 0 0 1 (v.1 9 0 0 1 + 1)) 9 0 0 7 0) = _
            rw [eq', nI_1]
            congr 2
            show nI (s 0 1 + 1) - 1 = nI (s 0 1)
            exact nI_pred (s 0 1)
          · refine h.now ⟨⟨_, wf_addC (k := a) (n := b) (x := x) w1 hc (by omega) (by omega) (by omega), ?_, ?_, ?_⟩, ?_⟩ ?_ ?_
            · rw [sAC_0 s a b x 3 (by decide)]; exact w2
            · rw [sI_v2, sI_v2, sI_v2, sI_v2, sI_v2, sI_v2]
              exact FR_addC w3
            · exact RR_addC w4 w1.1 hc
            · exact UR_none hU _
            · exact ⟨fun i h1 h2 => by rw [sI_Ford (by omega), sI_Ford (by omega), sI_Ford (by omega), sI_Ford (by omega), sI_Ford (by omega), sI_Ford (by omega)]; rfl, rfl, rfl, rfl, rfl, rfl, rfl⟩
            · exact ⟨⟨rfl, rfl, rfl, rfl, rfl, rfl⟩, rfl, rfl, rfl, rfl, rfl⟩
        · have hc : s 0 1 = 5 := by omega
          rw [hc]
          simp only [if_neg (show ¬ nI 5 < 5 by decide), if_pos (show nI 5 = 5 from rfl)]
          exact ⟨-3, u, v, rfl, rfl, h⟩
      · rw [hE.2 h2, hF.2 h2, o_bd_some, o_bd_some]
        exact ⟨-1, u, v, rfl, rfl, h⟩
    · rw [hC.2 h1, hD.2 h1, o_bd_some, o_bd_some]
      exact ⟨-1, u, v, rfl, rfl, h⟩
  · rw [hA.2 h0, hB.2 h0, o_bd_some, o_bd_some]
    exact ⟨-1, u, v, rfl, rfl, h⟩
