theorem NowR_keep {u v u' v' : Mm} (h : NowR u v) (hC : ∀ i, i < 9 → u'.1 0 i = u.1 0 i) (h1 : u'.1 1 0 = u.1 1 0) (r0 : v'.1 9 0 0 0 = v.1 9 0 0 0) (r1 : v'.1 9 0 0 1 = v.1 9 0 0 1) (r7 : v'.1 9 0 0 7 = v.1 9 0 0 7) (r2 : v'.1 9 0 2 = v.1 9 0 2) (r3 : v'.1 9 0 3 = v.1 9 0 3) (r4 : v'.1 9 0 4 = v.1 9 0 4) (r6 : v'.1 9 0 6 = v.1 9 0 6) : NowR u' v' := by
  unfold NowR at h ⊢
  rw [h1, r0, r1, r7, r2, r3, r4, r6]
  obtain ⟨⟨s, a1, a2, a3, a4⟩, h2⟩ := h
  exact ⟨⟨s, a1, a2, by rw [hC 0 (by omega)]; exact a3, a4⟩, UR_congr h2 (fun j hj => hC _ (by omega))⟩
theorem op_image (N : Nat) (hN : 300 ≤ N) : Op_image N Rel := by
  intro u v h
  obtain ⟨hNow, hI, hS, hT, h17, h19⟩ := id h
  unfold f_X7_image f_X8_image
  obtain ⟨t1, e1, k1, k2, k3, k4, k5, k6⟩ := p_storyTake (N := N) (w := 1) (i0 := 0) hN (by omega) (by omega) (by omega) u
  rw [e1, o_bd_some, if_pos (by decide)]
  have i1 : o_inb 1 16 = true := by decide
  have i2 : o_inb 2 16 = true := by decide
  simp only [o_nm, if_pos i1, if_pos i2, show Int32.toNatClampNeg 0 = 0 from rfl, show Int32.toNatClampNeg 1 = 1 from rfl, show Int32.toNatClampNeg 2 = 2 from rfl]
  rw [p_img32 hN, p_img60 hN, p_img88 hN, p_img114 hN]
  refine ⟨1, sI t1 3 0 0 2 1, _, rfl, rfl, ?_⟩
  refine ⟨?_, Or.inr ⟨rfl, rfl, ?_⟩, ?_, ?_, h17, h19⟩
  · exact NowR_keep hNow (fun i hi => by rw [sI_nums (by omega), k1 0 i (by omega) (by omega)]) (by rw [sI_nums (by omega), k1 1 0 (by omega) (by omega)]) rfl rfl rfl rfl rfl rfl rfl
  · unfold ImR
    have n2 : (sI t1 3 0 0 2 1).1 1 1 0 2 = u.1 1 0 0 2 := by rw [sI_nums (by omega)]; exact k3
    have n3 : (sI t1 3 0 0 2 1).1 1 1 0 3 = u.1 1 0 0 3 := by rw [sI_nums (by omega)]; exact k4
    rw [n2, n3]
    refine SR_copy (F := u.1 0) (o := 0) (w := v.1 9 0 4) (bf := v.1 9 0 6) (tp := v.1 9 0 2) (kd := v.1 9 0 3) hNow (fun k hk => ?_) (fun k hk => ?_) (fun k hk => ?_) (fun j hj => ?_) (fun s hq hc hF => ?_) (fun p s hp hq hc hF => ?_)
    · show cpl (cpl _ (v.1 9 0 2) 3 0 0 8) (v.1 9 0 3) 11 0 0 5 (3 + k) = _
      rw [cpl_out (by omega), cpl_in hk, Nat.zero_add]
    · show cpl _ (v.1 9 0 3) 11 0 0 5 (11 + k) = _
      rw [cpl_in hk, Nat.zero_add]
    · show cpl _ (v.1 9 0 4) 0 0 0 31 k = _
      rw [cpl_in0 hk]
    · show cpl _ (v.1 9 0 6) 0 0 0 248 j = _
      rw [cpl_in0 hj]
    · rw [sI_kind (by decide)]
      exact k5 s hq hc hF
    · rw [sI_kind (by decide)]
      exact k6 p s hp hq hc (by rw [show 9 * 0 + 1 + p = 0 + 1 + p by omega]; exact hF)
  · unfold ShR at hS ⊢
    rw [sI_kind (by decide)]
    have e2 : t1.1 2 = u.1 2 := by funext b; exact k1 2 b (by omega) (by omega)
    rw [e2]
    show ∀ j, j < 4 → _ ∧ _ ∧ (_ ∨ ∃ z l : Nat, _ ∧ _ ∧ _ ∧ _ ∧ ∀ k, k < z → t1.2 j k = v.2 0 (24 * j + k))
    rw [k2]
    exact hS
  · unfold TpR at hT ⊢
    have x1 : (sI t1 3 0 0 2 1).1 3 1 = u.1 3 1 := by rw [sI_num (by decide)]; exact k1 3 1 (by omega) (by omega)
    have x2 : (sI t1 3 0 0 2 1).1 3 2 = u.1 3 2 := by rw [sI_num (by decide)]; exact k1 3 2 (by omega) (by omega)
    rw [x1, x2]
    exact hT
/-! restore -/
theorem p_rst124 {N : Nat} (hN : 300 ≤ N) (t : Mm) : f_X8_restore_124 N 0 t = some (1, sR t 9 0 6 (cpl (t.1 9 0 6) (t.1 9 0 11) 0 0 0 248)) := by
  show o_lp _ N (nI 0, t) = _
  refine copy_loop (cont := fun t => some (1, t)) (E := 248) (D := 6) (S := 11) (a := 0) (b := 0) (by decide) (fun K t => ?_) (fun K k t hk => ?_) N 0 t (by omega) (by omega)
  · rfl
  · show b_X8_restore_124 N K (nI k) t = _
    unfold b_X8_restore_124
    have c1 : ¬ (248 : Int32) ≤ nI k := fun z => absurd ((nIle (a := 248) (by omega) (by omega)).mp z) (by omega)
    have i1 : o_inb (nI k) 248 = true := inb_nI hk (by omega)
    simp only [if_neg c1, if_pos i1, cl_nI (show k < 2147483648 by omega), o_nm, nI_1, Nat.zero_add]
theorem p_rst98 {N : Nat} (hN : 300 ≤ N) (t : Mm) : f_X8_restore_98 N 0 t = f_X8_restore_124 N 0 (sR t 9 0 4 (cpl (t.1 9 0 4) (t.1 9 0 10) 0 0 0 31)) := by
  show o_lp _ N (nI 0, t) = _
  refine copy_loop (cont := fun t => f_X8_restore_124 N 0 t) (E := 31) (D := 4) (S := 10) (a := 0) (b := 0) (by decide) (fun K t => ?_) (fun K k t hk => ?_) N 0 t (by omega) (by omega)
  · rfl
  · show b_X8_restore_98 N K (nI k) t = _
    unfold b_X8_restore_98
    have c1 : ¬ (31 : Int32) ≤ nI k := fun z => absurd ((nIle (a := 31) (by omega) (by omega)).mp z) (by omega)
    have i1 : o_inb (nI k) 31 = true := inb_nI hk (by omega)
    simp only [if_neg c1, if_pos i1, cl_nI (show k < 2147483648 by omega), o_nm, nI_1, Nat.zero_add]
theorem p_rst70 {N : Nat} (hN : 300 ≤ N) (t : Mm) : f_X8_restore_70 N 0 t = f_X8_restore_98 N 0 (sR t 9 0 3 (cpl (t.1 9 0 3) (t.1 9 0 9) 0 11 0 5)) := by
  show o_lp _ N (nI 0, t) = _
  refine copy_loop (cont := fun t => f_X8_restore_98 N 0 t) (E := 5) (D := 3) (S := 9) (a := 0) (b := 11) (by decide) (fun K t => ?_) (fun K k t hk => ?_) N 0 t (by omega) (by omega)
  · rfl
  · show b_X8_restore_70 N K (nI k) t = _
    unfold b_X8_restore_70
    have c1 : ¬ (5 : Int32) ≤ nI k := fun z => absurd ((nIle (a := 5) (by omega) (by omega)).mp z) (by omega)
    have i1 : o_inb (nI k) 5 = true := inb_nI hk (by omega)
    have e1 : (11 : Int32) + nI k = nI (11 + k) := nI_add 11 k
    have i2 : o_inb (nI (11 + k)) 16 = true := inb_nI (by omega) (by omega)
    simp only [if_neg c1, if_pos i1, e1, if_pos i2, cl_nI (show k < 2147483648 by omega), cl_nI (show 11 + k < 2147483648 by omega), o_nm, nI_1, Nat.zero_add]
theorem p_rst42 {N : Nat} (hN : 300 ≤ N) (t : Mm) : f_X8_restore_42 N 0 t = f_X8_restore_70 N 0 (sR t 9 0 2 (cpl (t.1 9 0 2) (t.1 9 0 9) 0 3 0 8)) := by
  show o_lp _ N (nI 0, t) = _
  refine copy_loop (cont := fun t => f_X8_restore_70 N 0 t) (E := 8) (D := 2) (S := 9) (a := 0) (b := 3) (by decide) (fun K t => ?_) (fun K k t hk => ?_) N 0 t (by omega) (by omega)
  · rfl
  · show b_X8_restore_42 N K (nI k) t = _
    unfold b_X8_restore_42
    have c1 : ¬ (8 : Int32) ≤ nI k := fun z => absurd ((nIle (a := 8) (by omega) (by omega)).mp z) (by omega)
    have i1 : o_inb (nI k) 8 = true := inb_nI hk (by omega)
    have e1 : (3 : Int32) + nI k = nI (3 + k) := nI_add 3 k
    have i2 : o_inb (nI (3 + k)) 16 = true := inb_nI (by omega) (by omega)
    simp only [if_neg c1, if_pos i1, e1, if_pos i2, cl_nI (show k < 2147483648 by omega), cl_nI (show 3 + k < 2147483648 by omega), o_nm, nI_1, Nat.zero_add]
theorem op_restore (N : Nat) (hN : 300 ≤ N) : Op_restore N Rel := by
  intro u v h
  obtain ⟨hNow, hI, hS, hT, h17, h19⟩ := id h
  unfold f_X7_restore f_X8_restore
  rcases hI with ⟨e1, e2⟩ | ⟨e1, e2, hIm⟩
  · rw [if_pos e1, if_pos e2]
    exact ⟨-4, u, v, rfl, rfl, h⟩
  · rw [if_neg (by rw [e1]; decide), if_neg (by rw [e2]; decide), if_pos (by decide)]
    obtain ⟨t1, f1, k1, k2, k3, k4, k5, k6⟩ := p_storyTake (N := N) (w := 0) (i0 := 1) hN (by omega) (by omega) (by omega) u
    rw [f1, o_bd_some]
    have i1 : o_inb 1 16 = true := by decide
    have i2 : o_inb 2 16 = true := by decide
    simp only [o_nm, if_pos i1, if_pos i2, show Int32.toNatClampNeg 0 = 0 from rfl, show Int32.toNatClampNeg 1 = 1 from rfl, show Int32.toNatClampNeg 2 = 2 from rfl]
    rw [p_rst42 hN, p_rst70 hN, p_rst98 hN, p_rst124 hN]
    refine ⟨1, t1, _, rfl, rfl, ?_⟩
    refine h.now ?_ ⟨fun i h1 h2 => k1 0 i (by omega) (by omega), k1 1 1 (by omega) (by omega), by funext b; exact k1 2 b (by omega) (by omega), k2, k1 3 0 (by omega) (by omega), k1 3 1 (by omega) (by omega), k1 3 2 (by omega) (by omega)⟩ ⟨⟨rfl, rfl, rfl, rfl, rfl, rfl⟩, rfl, rfl, rfl, rfl, rfl⟩
    unfold NowR
    rw [k3, k4]
    refine SR_copy (F := u.1 0) (o := 9) (w := v.1 9 0 10) (bf := v.1 9 0 11) (tp := fun k => v.1 9 0 9 (3 + k)) (kd := fun k => v.1 9 0 9 (11 + k)) hIm (fun k hk => ?_) (fun k hk => ?_) (fun k hk => ?_) (fun j hj => ?_) (fun s hq hc hF => ?_) (fun p s hp hq hc hF => ?_)
    · show cpl _ (v.1 9 0 9) 0 3 0 8 k = _
      have := cpl_in (g := (v.1 9 0 2)) (f := v.1 9 0 9) (a := 0) (b := 3) (E := 8) (k := k) hk
      rw [Nat.zero_add] at this
      exact this
    · show cpl _ (v.1 9 0 9) 0 11 0 5 k = _
      have := cpl_in (g := (v.1 9 0 3)) (f := v.1 9 0 9) (a := 0) (b := 11) (E := 5) (k := k) hk
      rw [Nat.zero_add] at this
      exact this
    · show cpl _ (v.1 9 0 10) 0 0 0 31 k = _
      rw [cpl_in0 hk]
    · show cpl _ (v.1 9 0 11) 0 0 0 248 j = _
      rw [cpl_in0 hj]
    · exact k5 s hq hc hF
    · have := k6 p s hp hq hc hF
      rw [show 9 * 0 + 1 + p = 0 + 1 + p by omega] at this
      exact this
