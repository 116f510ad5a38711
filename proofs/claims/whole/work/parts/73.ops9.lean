/-! sheets -/
theorem sJ_1 {t : Mm} {b j : Nat} {x : Int64} : (sJ t b j x).1 = t.1 := rfl
theorem sL_at {t : Mm} {b : Nat} {f : Nat → Int64} : (sL t b f).2 b = f := by simp [sL]
theorem sL_off {t : Mm} {b b' : Nat} {f : Nat → Int64} (h : b' ≠ b) : (sL t b f).2 b' = t.2 b' := by simp [sL, h]
theorem sL_sL {t : Mm} {b : Nat} {f g : Nat → Int64} : sL (sL t b f) b g = sL t b g := by
  unfold sL
  congr 1
  funext b'
  by_cases h : b' = b <;> simp [h]
theorem sL_self {t : Mm} {b : Nat} : sL t b (t.2 b) = t := by
  unfold sL
  ext1
  · rfl
  · funext b'
    by_cases h : b' = b
    · subst h; simp
    · simp [h]
theorem Rel.sheets {u v u' v' : Mm} (h : Rel u v) (hS : ShR u' v') (c0 : u'.1 0 = u.1 0) (c1 : u'.1 1 = u.1 1) (c3 : u'.1 3 = u.1 3) (hr : ∀ r, r ≠ 13 → r ≠ 14 → v'.1 9 0 r = v.1 9 0 r) : Rel u' v' := by
  obtain ⟨h1, h2, -, h4, h5, h6⟩ := h
  have r0 := hr 0 (by decide) (by decide)
  refine ⟨?_, ?_, hS, ?_, by rw [r0]; exact h5, by rw [r0]; exact h6⟩
  · unfold NowR at h1 ⊢
    rw [c0, c1, r0, hr 2 (by decide) (by decide), hr 3 (by decide) (by decide), hr 4 (by decide) (by decide), hr 6 (by decide) (by decide)]
    exact h1
  · unfold ImR at h2 ⊢
    rw [c0, c1, c3, r0, hr 9 (by decide) (by decide), hr 10 (by decide) (by decide), hr 11 (by decide) (by decide)]
    exact h2
  · unfold TpR at h4 ⊢
    rw [c3, r0, hr 16 (by decide) (by decide)]
    exact h4
theorem op_drop (N : Nat) : Op_drop N Rel := by
  intro u v h a0
  have hS := h.2.2.1
  unfold f_X7_drop f_X8_drop
  by_cases h0 : inR a0 0 3
  · rw [(p_noSh.1 h0).1, (p_isSh.1 h0).1, o_bd_some, o_bd_some]
    simp only [if_neg one_ne]
    obtain ⟨j, rfl, -, hj, hj2⟩ := inR_nat h0 (by omega)
    have hj : j < 4 := by omega
    have i1 : o_inb (nI j) 4 = true := inb_nI hj (by omega)
    obtain ⟨e1, e2, e3⟩ := hS j hj
    unfold f_X3_isMissing f_X3_end
    simp only [if_pos i1, cl_nI hj2, o_nm, ← e2]
    rcases e3 with e3 | ⟨z, l, z1, z2, z3, z4, z5⟩
    · rw [e3]
      simp only [if_pos rfl, o_bd_some, if_neg one_ne, if_neg (show ¬ (0 : Int32) ≤ -1 by decide)]
      exact ⟨-11, u, v, rfl, rfl, h⟩
    · have n1 : ¬ nI z = -1 := fun q => by
        have := congrArg Int32.toInt q
        rw [nI_toInt (by omega)] at this
        have e : (-1 : Int32).toInt = -1 := rfl
        omega
      rw [z3]
      have p0 : (0 : Int32) ≤ nI z := nI_pos' (by omega)
      simp only [if_neg n1, o_bd_some, if_pos p0, if_pos rfl]
      refine ⟨nI z, sI u 2 j 0 1 (-1), sI v 9 0 14 j (-1), ?_, rfl, ?_⟩
      · simp [o_bd, z3]
      · refine h.sheets (fun q hq => ?_) (sI_kind (by decide)) (sI_kind (by decide)) (sI_kind (by decide)) (fun r h1 h2 => sI_off (by omega))
        by_cases e : q = j
        · subst e
          rw [sI_v2]
          refine ⟨?_, ?_, Or.inl ?_⟩
          · rw [v2_off (by omega)]
            exact e1
          · rw [v2_at, sI_at, upd_at]
          · rw [v2_at]
        · rw [sI_num e, sI_at, upd_off e]
          exact hS q hq
  · rw [(p_noSh.2 h0).1, (p_isSh.2 h0).1, o_bd_some, o_bd_some]
    exact ⟨-1, u, v, rfl, rfl, h⟩
/-- filling with 0 -/
def zf (g : Nat → Int64) (a lo E : Nat) : Nat → Int64 := fun j => if a + lo ≤ j ∧ j < a + E then 0 else g j
theorem zf_step {g : Nat → Int64} {a k E : Nat} (h : k < E) : zf (vp_updL g (a + k) 0) a (k + 1) E = zf g a k E := by
  funext j
  unfold zf vp_updL
  by_cases h1 : j = a + k
  · subst h1
    rw [if_neg (by omega), if_pos rfl, if_pos (by omega)]
  · by_cases h2 : a + (k + 1) ≤ j ∧ j < a + E
    · rw [if_pos h2, if_pos (by omega)]
    · rw [if_neg h2, if_neg h1, if_neg (by omega)]
theorem zf_end {g : Nat → Int64} {a E : Nat} : zf g a E E = g := by
  funext j
  unfold zf
  rw [if_neg (by omega)]
theorem p_fill {N i0 : Nat} : ∀ (m k : Nat) (t : Mm), k ≤ 24 → 24 - k < m → o_lp (fun k x => b_J7_fill_d0a16_6 N i0 k x.1 x.2.1 x.2.2.1 x.2.2.2) m (0, nI k, 24, t) = some (sL t i0 (zf (t.2 i0) 0 k 24))
  | 0, k, t, hk, hm => absurd hm (by omega)
  | m + 1, k, t, hk, hm => by
    have ih := fun (t' : Mm) (h1 : k + 1 ≤ 24) (h2 : 24 - (k + 1) < m) => p_fill (N := N) (i0 := i0) m (k + 1) t' h1 h2
    show b_J7_fill_d0a16_6 N i0 (o_lp (fun k x => b_J7_fill_d0a16_6 N i0 k x.1 x.2.1 x.2.2.1 x.2.2.2) m) 0 (nI k) 24 t = _
    generalize o_lp (fun k x => b_J7_fill_d0a16_6 N i0 k x.1 x.2.1 x.2.2.1 x.2.2.2) m = K at ih ⊢
    unfold b_J7_fill_d0a16_6
    by_cases h : k = 24
    · subst h
      rw [if_pos (by decide), zf_end, sL_self]
    · have c1 : ¬ (24 : Int32) ≤ nI k := fun z => absurd ((nIle (a := 24) (by omega) (by omega)).mp z) (by omega)
      have i1 : o_inb (nI k) 24 = true := inb_nI (by omega) (by omega)
      simp only [if_neg c1, if_pos i1, cl_nI (show k < 2147483648 by omega), o_nm, nI_1]
      rw [ih (sJ t i0 k 0) (by omega) (by omega)]
      congr 1
      show sL (sL t i0 _) i0 _ = _
      rw [sL_sL]
      have := zf_step (g := t.2 i0) (a := 0) (k := k) (E := 24) (by omega)
      rw [Nat.zero_add] at this
      rw [← this, sJ, sL_at]
theorem p_shloop {N j n : Nat} (hj : j < 4) (hn : n ≤ 24) : ∀ (m k : Nat) (t : Mm), k ≤ n → n - k < m → o_lp (fun k x => b_X8_sheet_46 N k x.1 x.2.1 x.2.2.1 x.2.2.2) m (nI j, nI n, nI k, t) = some (nI n, sL t 0 (zf (t.2 0) (24 * j) k n))
  | 0, k, t, hk, hm => absurd hm (by omega)
  | m + 1, k, t, hk, hm => by
    have ih := fun (t' : Mm) (h1 : k + 1 ≤ n) (h2 : n - (k + 1) < m) => p_shloop (N := N) hj hn m (k + 1) t' h1 h2
    show b_X8_sheet_46 N (o_lp (fun k x => b_X8_sheet_46 N k x.1 x.2.1 x.2.2.1 x.2.2.2) m) (nI j) (nI n) (nI k) t = _
    generalize o_lp (fun k x => b_X8_sheet_46 N k x.1 x.2.1 x.2.2.1 x.2.2.2) m = K at ih ⊢
    unfold b_X8_sheet_46
    have cc : nI n ≤ nI k ↔ n ≤ k := nIle (by omega) (by omega)
    by_cases h : k = n
    · subst h
      rw [if_pos (cc.mpr (Nat.le_refl _)), zf_end, sL_self]
    · have c1 : ¬ nI n ≤ nI k := fun z => absurd (cc.mp z) (by omega)
      have e1 : (24 : Int32) * nI j + nI k = nI (24 * j + k) := by rw [show (24 : Int32) = nI 24 from rfl, pk_mul, nI_add]
      have i1 : o_inb (nI (24 * j + k)) 96 = true := inb_nI (by omega) (by omega)
      simp only [if_neg c1, e1, if_pos i1, cl_nI (show 24 * j + k < 2147483648 by omega), o_nm, nI_1]
      rw [ih (sJ t 0 (24 * j + k) 0) (by omega) (by omega)]
      congr 2
      show sL (sL t 0 _) 0 _ = _
      rw [sL_sL, sJ, sL_at, zf_step (by omega)]
theorem op_sheet (N : Nat) (hN : 300 ≤ N) : Op_sheet N Rel := by
  intro u v h a0 a1 a2
  have hS := h.2.2.1
  unfold f_X7_sheet f_X8_sheet
  by_cases h0 : inR a0 0 3
  · rw [(p_noSh.1 h0).1, (p_isSh.1 h0).1, o_bd_some, o_bd_some]
    simp only [if_neg one_ne]
    by_cases h1 : inR a1 0 3
    · rw [(p_noSh.1 h1).2, (p_isSh.1 h1).2, o_bd_some, o_bd_some]
      simp only [if_neg one_ne, if_pos rfl]
      by_cases c24 : a2 ≤ 24
      · by_cases c0 : 0 ≤ a2
        · obtain ⟨j, rfl, -, hj, hj2⟩ := inR_nat h0 (by omega)
          obtain ⟨l, rfl, -, hl, hl2⟩ := inR_nat h1 (by omega)
          obtain ⟨n, rfl, -, hn, hn2⟩ := inR_nat (a := a2) (l := 0) (h := 24) ⟨by rw [Int32.le_iff_toInt_le] at c0; exact c0, by rw [Int32.le_iff_toInt_le] at c24; exact c24⟩ (by omega)
          have hj : j < 4 := by omega
          have i1 : o_inb (nI j) 4 = true := inb_nI hj (by omega)
          unfold f_X3_begin
          simp only [if_pos c24, if_pos c0, if_pos i1, cl_nI hj2, o_nm]
          refine ⟨nI n, sL (sI (sI u 2 j 0 0 (nI l)) 2 j 0 1 (nI n)) j (zf (u.2 j) 0 0 24), sL (sI (sI v 9 0 13 j (nI l)) 9 0 14 j (nI n)) 0 (zf (v.2 0) (24 * j) 0 n), ?_, ?_, ?_⟩
          · show o_bd (o_bd (o_lp _ N (0, nI 0, 24, _)) _) _ = _
            rw [p_fill N 0 _ (by omega) (by omega)]
            rfl
          · show o_lp _ N (nI j, nI n, nI 0, _) = _
            rw [p_shloop hj (by omega) N 0 _ (by omega) (by omega)]
            rfl
          · have kd : ∀ a, a ≠ 2 → (sI (sI u 2 j 0 0 (nI l)) 2 j 0 1 (nI n)).1 a = u.1 a := fun a ha => by rw [sI_kind ha, sI_kind ha]
            refine h.sheets (fun q hq => ?_) (kd 0 (by decide)) (kd 1 (by decide)) (kd 3 (by decide)) (fun r h1 h2 => ?_)
            · show (sI (sI u 2 j 0 0 (nI l)) 2 j 0 1 (nI n)).1 2 q 0 0 = (sI (sI v 9 0 13 j (nI l)) 9 0 14 j (nI n)).1 9 0 13 q ∧ (sI (sI u 2 j 0 0 (nI l)) 2 j 0 1 (nI n)).1 2 q 0 1 = (sI (sI v 9 0 13 j (nI l)) 9 0 14 j (nI n)).1 9 0 14 q ∧ ((sI (sI u 2 j 0 0 (nI l)) 2 j 0 1 (nI n)).1 2 q 0 1 = -1 ∨ _)
              rw [sI_off (t := sI v 9 0 13 j (nI l)) (a' := 9) (b' := 0) (c' := 13) (by omega), sI_at, sI_at, sI_off (t := v) (a' := 9) (b' := 0) (c' := 14) (by omega)]
              by_cases e : q = j
              · subst e
                rw [sI_v2, sI_v2, v2_off (by omega), v2_at, v2_at, upd_at, upd_at]
                refine ⟨rfl, rfl, Or.inr ⟨n, l, by omega, by omega, by show (sI (sI u 2 q 0 0 (nI l)) 2 q 0 1 (nI n)).1 2 q 0 1 = nI n; rw [sI_v2, v2_at], by show (sI (sI u 2 q 0 0 (nI l)) 2 q 0 1 (nI n)).1 2 q 0 0 = nI l; rw [sI_v2, sI_v2, v2_off (by omega), v2_at], fun k hk => ?_⟩⟩
                rw [sL_at, sL_at]
                unfold zf
                rw [if_pos (by omega), if_pos (by omega)]
              · rw [sI_num e, sI_num e, upd_off e, upd_off e]
                obtain ⟨e1, e2, e3⟩ := hS q hq
                refine ⟨e1, e2, ?_⟩
                rcases e3 with e3 | ⟨z, l', z1, z2, z3, z4, z5⟩
                · exact Or.inl e3
                · refine Or.inr ⟨z, l', z1, z2, by show (sI (sI u 2 j 0 0 (nI l)) 2 j 0 1 (nI n)).1 2 q 0 1 = _; rw [sI_num e, sI_num e]; exact z3, by show (sI (sI u 2 j 0 0 (nI l)) 2 j 0 1 (nI n)).1 2 q 0 0 = _; rw [sI_num e, sI_num e]; exact z4, fun k hk => ?_⟩
                  rw [sL_off e, sL_at]
                  unfold zf
                  rw [if_neg (by omega)]
                  exact z5 k hk
            · show (sI (sI v 9 0 13 j (nI l)) 9 0 14 j (nI n)).1 9 0 r = _
              rw [sI_off (by omega), sI_off (by omega)]
        · simp only [if_pos c24, if_neg c0]
          exact ⟨-14, u, v, rfl, rfl, h⟩
      · simp only [if_neg c24]
        exact ⟨-1, u, v, rfl, rfl, h⟩
    · rw [(p_noSh.2 h1).2, (p_isSh.2 h1).2, o_bd_some, o_bd_some]
      exact ⟨-1, u, v, rfl, rfl, h⟩
  · rw [(p_noSh.2 h0).1, (p_isSh.2 h0).1, o_bd_some, o_bd_some]
    exact ⟨-1, u, v, rfl, rfl, h⟩
