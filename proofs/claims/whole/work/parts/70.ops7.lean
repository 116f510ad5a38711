def clrB (m k : Nat) : Nat := if m / 2 ^ k % 2 = 1 then m - 2 ^ k else m
theorem clrB_le (m k : Nat) : clrB m k ≤ m := by
  unfold clrB
  split
  · exact Nat.sub_le _ _
  · exact Nat.le_refl _
theorem nI_clr {m k : Nat} (hm : m < 256) (hk : k < 8) : nI m &&& ((1 <<< (nI k &&& 31)) ^^^ (-1)) = nI (clrB m k) := by
  have h : ∀ m, m < 256 → ∀ k, k < 8 → nI m &&& ((1 <<< (nI k &&& 31)) ^^^ (-1)) = nI (clrB m k) := by decide +kernel
  exact h m hm k hk
theorem asked_lt {s : Sx} (h : wfS s) : s 0 2 < 256 := by
  have h1 := h.2.2.1
  have h2 : 2 ^ s 0 0 ≤ 2 ^ 8 := Nat.pow_le_pow_right (by decide) h.1
  omega
theorem op_teach (N : Nat) (hN : 300 ≤ N) : Op_teach N Rel := by
  intro u v h a0 a1
  obtain ⟨⟨⟨s, w1, w2, w3, w4⟩, hU⟩, -⟩ := id h
  have eq : u.1 0 0 0 1 = nI (s 0 1) := w3.1.2.1
  have eq' : v.1 9 0 0 1 = nI (s 0 1) := w4.1.2.1
  unfold f_X7_teach f_X8_teach
  have hA := p_hasC (t := u) (i := 9 * 0) (a := a0) eq w1.2.1
  have hB := p_isC (t := v) (a := a0) eq' w1.2.1
  by_cases h0 : inR a0 0 ((s 0 1 : Int) - 1)
  · rw [hA.1 h0, hB.1 h0, o_bd_some, o_bd_some]
    simp only [if_neg one_ne]
    have hC := p_out (a := a1) (lo := 0) (hi := 7) (l := 0) (h := 7) u rfl rfl
    have hD := p_in (a := a1) (lo := 0) (hi := 7) (l := 0) (h := 7) v rfl rfl
    by_cases h1 : inR a1 0 7
    · rw [hC.1 h1, hD.1 h1, o_bd_some, o_bd_some]
      simp only [if_neg one_ne]
      obtain ⟨k, rfl, -, hk, hk2⟩ := inR_nat h0 (by omega)
      obtain ⟨z, rfl, -, hz, hz2⟩ := inR_nat h1 (by omega)
      have hk : k < s 0 1 := by omega
      have h5 := w1.2.1
      have hi : o_inb (nI k) 5 = true := inb_nI (by omega) (by omega)
      obtain ⟨u3, u4, u5, u6, u7⟩ := w3.2.2 k hk
      obtain ⟨r3, r4, r5, r6, r7⟩ := w4.2.2.1 k hk
      obtain ⟨f3, f4, f5, f6, f7⟩ := w1.2.2.2.2.2 k hk
      have l1 : ((9 : Int32) + nI k).toNatClampNeg = 9 + k := by rw [show (9 : Int32) = nI 9 from rfl, nI_add, cl_nI (by omega)]
      have l2 : o_inb ((9 : Int32) + nI k) 31 = true := by rw [show (9 : Int32) = nI 9 from rfl, nI_add]; exact inb_nI (by omega) (by omega)
      simp only [if_pos hi, cl_nI hk2, l1, if_pos l2, o_nm, show (9 * 0 : Nat) = 0 from rfl]
      rw [u4, r4, p_isIn (by omega) (by omega), p_has (by omega) (by omega), o_bd_some, o_bd_some]
      rcases bit01 (m := s 4 k) (k := z) with e | e
      · rw [e]
        simp only [if_pos (show nI 0 = 0 from rfl)]
        have ho : s 4 k ||| 2 ^ z < 256 := Nat.or_lt_two_pow (n := 8) (by omega) (Nat.pow_lt_pow_right (by decide) (by omega))
        obtain ⟨u1, v1, b1, b2, b3, b4, b5⟩ := p_change (r := 4) (k := k) (x := s 4 k ||| 2 ^ z) hN h w1 w2 w3 w4 (by unfold okS; omega) (by omega) (by omega) (wf_set w1 (by omega) (by omega) (by omega) (by omega))
        rw [b1, b2, o_bd_some, o_bd_some]
        simp only [b3, b4, u4, r4, nI_shl1 (show z < 31 by omega), nI_or]
        refine ⟨nI (s 4 k ||| 2 ^ z), sI u1 0 0 4 k (nI (s 4 k ||| 2 ^ z)), sI v1 9 0 4 (9 + k) (nI (s 4 k ||| 2 ^ z)), ?_, ?_, b5⟩
        · simp only [ite_true, sI_at, upd_at]
        · simp only [sI_at, upd_at]
      · rw [e]
        simp only [if_neg (show ¬ nI 1 = 0 by decide)]
        exact ⟨-2, u, v, rfl, rfl, h⟩
    · rw [hC.2 h1, hD.2 h1, o_bd_some, o_bd_some]
      exact ⟨-1, u, v, rfl, rfl, h⟩
  · rw [hA.2 h0, hB.2 h0, o_bd_some, o_bd_some]
    exact ⟨-1, u, v, rfl, rfl, h⟩
theorem op_again (N : Nat) (hN : 300 ≤ N) : Op_again N Rel := by
  intro u v h a0
  obtain ⟨⟨⟨s, w1, w2, w3, w4⟩, hU⟩, -⟩ := id h
  have eq : u.1 0 0 0 0 = nI (s 0 0) := w3.1.1
  have eq' : v.1 9 0 0 0 = nI (s 0 0) := w4.1.1
  have ea : u.1 0 0 0 2 = nI (s 0 2) := w3.1.2.2.1
  have eb : v.1 9 0 4 0 = nI (s 0 2) := w4.1.2.2.1
  unfold f_X7_again f_X8_again
  have hA := p_hasQ (t := u) (i := 9 * 0) (a := a0) eq w1.1
  have hB := p_isQ (t := v) (a := a0) eq' w1.1
  by_cases h0 : inR a0 0 ((s 0 0 : Int) - 1)
  · rw [hA.1 h0, hB.1 h0, o_bd_some, o_bd_some]
    simp only [if_neg one_ne]
    obtain ⟨k, rfl, -, hk, hk2⟩ := inR_nat h0 (by omega)
    have hk : k < s 0 0 := by omega
    have h8 := w1.1
    have hm := asked_lt w1
    have i0 : o_inb 0 31 = true := by decide
    unfold f_X0_isAsked f_X0_letAskAgain
    simp only [show (9 * 0 : Nat) = 0 from rfl, if_pos i0, show Int32.toNatClampNeg 0 = 0 from rfl, o_nm]
    rw [ea, eb, p_isIn (by omega) (by omega), p_has (by omega) (by omega), o_bd_some, o_bd_some]
    rcases bit01 (m := s 0 2) (k := k) with e | e
    · rw [e]
      exact ⟨-2, u, v, rfl, rfl, h⟩
    · rw [e]
      have hc : clrB (s 0 2) k < 2 ^ s 0 0 := Nat.lt_of_le_of_lt (clrB_le _ _) w1.2.2.1
      obtain ⟨u1, v1, b1, b2, b3, b4, b5⟩ := p_change (r := 0) (k := 2) (x := clrB (s 0 2) k) hN h w1 w2 w3 w4 (by unfold okS; omega) (by omega) (by omega) (wf_asked w1 hc)
      show St Rel (o_bd (f_X4_remember 0 u) _) (o_bd (f_X8_note N v) _)
      rw [b1, b2, o_bd_some, o_bd_some]
      simp only [b3, b4, ea, eb, nI_clr hm (show k < 8 by omega)]
      refine ⟨nI (clrB (s 0 2) k), sI u1 0 0 0 2 (nI (clrB (s 0 2) k)), sI v1 9 0 4 0 (nI (clrB (s 0 2) k)), ?_, ?_, b5⟩
      · rw [sI_at, upd_at]
      · rw [o_bd_some]
        simp only [b4, eb, nI_clr hm (show k < 8 by omega), sI_at, upd_at]
  · rw [hA.2 h0, hB.2 h0, o_bd_some, o_bd_some]
    exact ⟨-1, u, v, rfl, rfl, h⟩
/-! undo -/
def cpR (bf w : Nat → Int32) (a lo : Nat) : Nat → Int32 := fun j => if lo ≤ j ∧ j < 31 then bf (a + j) else w j
theorem cpR_step {bf w : Nat → Int32} {a k : Nat} (h : k < 31) : cpR bf (upd w k (bf (a + k))) a (k + 1) = cpR bf w a k := by
  funext j
  unfold cpR upd
  by_cases h1 : j = k
  · subst h1
    rw [if_neg (by omega), if_pos rfl, if_pos (by omega)]
  · by_cases h2 : k + 1 ≤ j ∧ j < 31
    · rw [if_pos h2, if_pos (by omega)]
    · rw [if_neg h2, if_neg h1, if_neg (by omega)]
theorem p_undo22 {N n : Nat} (hn : n < 8) : ∀ (m k : Nat) (t : Mm), k ≤ 31 → 31 - k < m → t.1 9 0 0 7 = nI n → o_lp (fun k x => b_X8_undo_22 N k x.1 x.2) m (nI k, t) = some (nI n, sR t 9 0 4 (cpR (t.1 9 0 6) (t.1 9 0 4) (31 * n) k))
  | 0, k, t, hk, hm, hu => absurd hm (by omega)
  | m + 1, k, t, hk, hm, hu => by
    have ih := fun (t' : Mm) (h1 : k + 1 ≤ 31) (h2 : 31 - (k + 1) < m) (hu' : t'.1 9 0 0 7 = nI n) => p_undo22 (N := N) hn m (k + 1) t' h1 h2 hu'
    show b_X8_undo_22 N (o_lp (fun k x => b_X8_undo_22 N k x.1 x.2) m) (nI k) t = _
    generalize o_lp (fun k x => b_X8_undo_22 N k x.1 x.2) m = K at ih ⊢
    unfold b_X8_undo_22
    by_cases h : 31 ≤ k
    · have hk : k = 31 := by omega
      subst hk
      rw [if_pos (by decide), hu]
      have e : cpR (t.1 9 0 6) (t.1 9 0 4) (31 * n) 31 = t.1 9 0 4 := by
        funext j
        unfold cpR
        rw [if_neg (by omega)]
      rw [e, sR_self]
    · have hlt : k < 31 := by omega
      have c1 : ¬ (31 : Int32) ≤ nI k := fun z => absurd ((nIle (a := 31) (by omega) (by omega)).mp z) (by omega)
      have i1 : o_inb (nI k) 31 = true := inb_nI hlt (by omega)
      have e1 : (31 : Int32) * nI n + nI k = nI (31 * n + k) := by rw [show (31 : Int32) = nI 31 from rfl, pk_mul, nI_add]
      have i2 : o_inb (nI (31 * n + k)) 248 = true := inb_nI (by omega) (by omega)
      simp only [hu, if_neg c1, if_pos i1, e1, if_pos i2, cl_nI (show 31 * n + k < 2147483648 by omega), cl_nI (show k < 2147483648 by omega), o_nm, nI_1]
      rw [ih (sI t 9 0 4 k (t.1 9 0 6 (31 * n + k))) (by omega) (by omega) hu]
      congr 2
      show sR (sR t 9 0 4 (upd (t.1 9 0 4) k (t.1 9 0 6 (31 * n + k)))) 9 0 4 (cpR (t.1 9 0 6) (upd (t.1 9 0 4) k (t.1 9 0 6 (31 * n + k))) (31 * n) (k + 1)) = _
      rw [sR_sR, cpR_step hlt]
theorem op_undo (N : Nat) (hN : 300 ≤ N) : Op_undo N Rel := by
  intro u v h
  obtain ⟨⟨⟨s, w1, w2, w3, w4⟩, hU⟩, -⟩ := id h
  obtain ⟨n, x, ps, a1, a2, a3, a4, a5, a6⟩ := hU
  unfold f_X7_undo f_X8_undo f_X4_goBack
  by_cases h0 : n = 0
  · subst h0
    have e1 : u.1 1 0 0 3 = 0 := a4
    have e2 : v.1 9 0 0 7 = 0 := a5
    rw [if_pos e1, if_pos e2]
    exact ⟨-4, u, v, rfl, rfl, h⟩
  · obtain ⟨m, rfl⟩ : ∃ m, n = m + 1 := ⟨n - 1, by omega⟩
    have n1 : ¬ u.1 1 0 0 3 = 0 := fun z => absurd ((nIeq (b := 0) (by omega) (by omega)).mp (a4.symm.trans z)) (by omega)
    have n2 : ¬ v.1 9 0 0 7 = 0 := fun z => absurd ((nIeq (b := 0) (by omega) (by omega)).mp (a5.symm.trans z)) (by omega)
    rw [if_neg n1, if_neg n2]
    obtain ⟨g1, g2, g3, g4⟩ := a6 m (by omega)
    have em : nI (m + 1) - 1 = nI m := nI_pred m
    have ex : (nI x + 8 - 1) - (nI x + 8 - 1) / 8 * 8 = nI ((x + 7) % 8) := by
      have : nI x + 8 - 1 = nI (x + 7) := by
        rw [show (8 : Int32) = nI 8 from rfl, nI_add, show x + 8 = (x + 7) + 1 by omega, nI_pred]
      rw [this, mod8 (by omega)]
    have hx7 : (x + 7) % 8 < 8 := Nat.mod_lt _ (by decide)
    have i1 : o_inb (nI ((x + 7) % 8)) 8 = true := inb_nI hx7 (by omega)
    obtain ⟨t1, e1, k1, k2, k3⟩ := p_takeFrom (t := sI (sI u 1 0 0 2 (nI ((x + 7) % 8))) 1 0 0 3 (nI m)) (i := 9 * 0) (o := 9 * 0 + 1 + (x + 7) % 8) (by omega)
    simp only [o_nm, a3, a4, a5, ex, em]
    have r2 : (sI (sI u 1 0 0 2 (nI ((x + 7) % 8))) 1 0 0 3 ((sI u 1 0 0 2 (nI ((x + 7) % 8))).1 1 0 0 3 - 1)) = sI (sI u 1 0 0 2 (nI ((x + 7) % 8))) 1 0 0 3 (nI m) := by
      rw [show (sI u 1 0 0 2 (nI ((x + 7) % 8))).1 1 0 0 3 = nI (m + 1) from a4, em]
    rw [r2]
    have r3 : (sI (sI u 1 0 0 2 (nI ((x + 7) % 8))) 1 0 0 3 (nI m)).1 1 0 0 2 = nI ((x + 7) % 8) := rfl
    rw [r3, if_pos i1, cl_nI (by omega), e1]
    refine ⟨nI m, t1, sR (sI v 9 0 0 7 (nI m)) 9 0 4 (cpR (v.1 9 0 6) (v.1 9 0 4) (31 * m) 0), ?_, ?_, ?_⟩
    · show some (t1.1 1 0 0 3, t1) = _
      rw [k1 1 0 (by omega)]
      rfl
    · show o_lp _ N (nI 0, sI v 9 0 0 7 (nI m)) = _
      rw [p_undo22 (n := m) (by omega) N 0 _ (by omega) (by omega) rfl]
      rfl
    · refine h.now ⟨⟨ps m, g1, g2, ?_, ?_⟩, ?_⟩ ?_ ?_
      · refine k3 (ps m) g1.1 g1.2.1 ?_
        rw [sI_nums (by omega), sI_nums (by omega)]
        rw [show (x + 8 - (m + 1) + m) % 8 = (x + 7) % 8 by omega] at g3
        exact g3
      · refine RR_read g4 g1.1 g1.2.1 (fun k hk => ?_)
        rw [sR_at]
        unfold cpR
        rw [if_pos (by omega)]
      · refine ⟨m, (x + 7) % 8, ps, by omega, hx7, ?_, ?_, rfl, fun j hj => ?_⟩
        · rw [k1 1 0 (by omega)]; rfl
        · rw [k1 1 0 (by omega)]; rfl
        · obtain ⟨b1, b2, b3, b4⟩ := a6 j (by omega)
          refine ⟨b1, b2, ?_, b4⟩
          rw [show ((x + 7) % 8 + 8 - m + j) % 8 = (x + 8 - (m + 1) + j) % 8 by omega]
          show FR (t1.1 0 (0 + 1 + (x + 8 - (m + 1) + j) % 8)) (ps j)
          rw [k1 0 _ (by omega), sI_nums (by omega), sI_nums (by omega)]
          exact b3
      · refine ⟨fun i h1 h2 => by rw [k1 0 i (by omega)]; rfl, by rw [k1 1 1 (by omega)]; rfl, by funext b; rw [k1 2 b (by omega)]; rfl, k2, by rw [k1 3 0 (by omega)]; rfl, by rw [k1 3 1 (by omega)]; rfl, by rw [k1 3 2 (by omega)]; rfl⟩
      · exact ⟨⟨rfl, rfl, rfl, rfl, rfl, rfl⟩, rfl, rfl, rfl, rfl, rfl⟩
