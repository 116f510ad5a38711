/-! hours, drift -/
/-- an hour that both pass, what was remembered being remembered -/
theorem p_both {N : Nat} {u v u1 v1 : Mm} {f : Nat → Int32} {s : Sx} (hN : 300 ≤ N) (h : Rel u v) (hs : wfS s) (hh : s 0 3 < 9999) (hF : FR (u1.1 0 0) s) (hR : SD v1 f s) (hU : UR (fun j => u1.1 0 (0 + 1 + j)) (u1.1 1 0 0 2) (u1.1 1 0 0 3) (v1.1 9 0 0 0) (v1.1 9 0 0 1) (v1.1 9 0 2) (v1.1 9 0 3) (v1.1 9 0 6) (v1.1 9 0 0 7)) (hC : KC u u1) (hK : KR v v1) : ∃ u2 v2 g, f_X0_passHour N (9 * 0) u1 = some u2 ∧ f_X8_goHour N (sR v1 9 0 5 f) = some (sR v1 9 0 5 g) ∧ f_X8_take N (sR v1 9 0 5 g) = some v2 ∧ Rel u2 v2 ∧ u2.1 0 0 0 3 = nI (s 0 3 + 1) ∧ ∃ s', wfS s' ∧ FR (u2.1 0 0) s' ∧ SD v2 (v2.1 9 0 5) s' := by
  have h17 : v1.1 9 0 0 17 = -4 := by rw [hK.2.2.2.2.1]; exact h.2.2.2.2.1
  have h19 : v1.1 9 0 0 19 = 0 := by rw [hK.2.2.2.2.2]; exact h.2.2.2.2.2
  obtain ⟨u2, b1, b2, b3, b4⟩ := p_pass (N := N) (i := 9 * 0) (t := u1) hN hs (by omega) hF
  obtain ⟨g, d1, d2⟩ := p_goHour (N := N) (t := sR v1 9 0 5 f) (s := s) (fq := lowF) hN hs (by omega) (by rw [sR_at]; exact hR) (HT_low h19)
  rw [sR_sR] at d1
  have hw := wf_PH (f := lowF) hs
  have d2 : SD v1 g (PH lowF s) := d2
  have d3 : RR (v1.1 9 0 0 0) (v1.1 9 0 0 1) (v1.1 9 0 2) (v1.1 9 0 3) g (PH lowF s) := RR_read2 d2 hw.1 hw.2.1 (fun _ _ => rfl) (fun k hk => (kdO_now h17 k hk).symm) (fun _ _ => rfl)
  refine ⟨u2, _, g, b1, d1, p_take hN _, ?_, ?_, PH lowF s, hw, b4, d2⟩
  · refine h.now ⟨⟨PH lowF s, hw, by rw [PH_hour]; omega, b4, ?_⟩, ?_⟩ ?_ ?_
    · rw [sR_at]
      exact RR_read2 d3 hw.1 hw.2.1 (fun _ _ => rfl) (fun _ _ => rfl) (fun k hk => by rw [sR_at]; exact cpl_in0 hk)
    · have e1 : u2.1 1 0 = u1.1 1 0 := b2 1 0 (by omega)
      rw [e1]
      exact UR_congr hU (fun j hj => b2 0 (0 + 1 + j) (by omega))
    · obtain ⟨c1, c2, c3, c4, c5, c6, c7⟩ := hC
      exact ⟨fun i h1 h2 => (b2 0 i (by omega)).trans (c1 i h1 h2), (b2 1 1 (by omega)).trans c2, (funext fun b => b2 2 b (by omega)).trans c3, b3.trans c4, (b2 3 0 (by omega)).trans c5, (b2 3 1 (by omega)).trans c6, (b2 3 2 (by omega)).trans c7⟩
    · exact hK
  · have := b4.1.2.2.2.1
    rw [PH_hour] at this
    exact this
theorem hour_eq {u : Mm} {s : Sx} {h : Nat} (hF : FR (u.1 0 0) s) (hs : s 0 3 ≤ 9999) (hh : h < 1000000) (e : u.1 0 0 0 3 = nI h) : s 0 3 = h := by
  have h1 := hF.1.2.2.2.1
  rw [e] at h1
  exact ((nIeq (by omega) (by omega)).mp h1).symm
def IPs (n : Nat) (d : Int32) (h0 k : Nat) (x : Int32 × Int32 × Int32 × Mm) (y : Int32 × Int32 × Mm) : Prop := ∃ u v : Mm, x = (nI n, d, nI k, u) ∧ y = (nI n, nI k, v) ∧ Rel u v ∧ u.1 0 0 0 3 = nI (h0 + k) ∧ (0 < k → ∃ s', wfS s' ∧ FR (u.1 0 0) s' ∧ SD v (v.1 9 0 5) s')
theorem p_hoursL {N n h0 : Nat} {u v : Mm} (hN : 300 ≤ N) (h : Rel u v) (hn1 : 1 ≤ n) (hn : n ≤ 40) (hh : u.1 0 0 0 3 = nI h0) (hb : h0 + n ≤ 9999) : St Rel (f_X7_pass_35 N (nI n) 0 0 u) (f_X8_hours_34 N (nI n) 0 v) := by
  refine lp_two (b := fun k x => b_X7_pass_35 N k x.1 x.2.1 x.2.2.1 x.2.2.2) (b' := fun k x => b_X8_hours_34 N k x.1 x.2.1 x.2.2) (St Rel) (IPs n 0 h0) n (fun K K' x y hI => ?_) (fun K K' k x y hk hI => ?_) N N 0 (nI n, 0, 0, u) (nI n, 0, v) (by omega) (by omega) (by omega) ⟨u, v, rfl, rfl, h, hh, fun z => absurd z (Nat.lt_irrefl 0)⟩
  · obtain ⟨u1, v1, rfl, rfl, a1, a2, a3⟩ := hI
    obtain ⟨s', b1, b2, b3⟩ := a3 (by omega)
    show St Rel (b_X7_pass_35 N K (nI n) 0 (nI n) u1) (b_X8_hours_34 N K' (nI n) (nI n) v1)
    unfold b_X7_pass_35 b_X8_hours_34
    rw [if_pos Int32.le_rfl, if_pos Int32.le_rfl, show (2 : Int32) = nI 2 from rfl, p_those (i := 9 * 0) hN b1 (by omega) b2, p_placed hN b1 (by omega) b3, o_bd_some, o_bd_some]
    exact ⟨_, u1, v1, rfl, rfl, a1⟩
  · obtain ⟨u1, v1, rfl, rfl, a1, a2, a3⟩ := hI
    show ∃ x' y', _ ∧ b_X7_pass_35 N K (nI n) 0 (nI k) u1 = _ ∧ b_X8_hours_34 N K' (nI n) (nI k) v1 = _
    unfold b_X7_pass_35 b_X8_hours_34 f_X7_pass_61
    have c1 : ¬ nI n ≤ nI k := fun z => absurd ((nIle (by omega) (by omega)).mp z) (by omega)
    obtain ⟨⟨⟨s, w1, w2, w3, w4⟩, hU⟩, -⟩ := id a1
    have hs := hour_eq w3 w2 (by omega) a2
    obtain ⟨u2, v2, d1, d2, d3, d4, ⟨g1, g2, g3, g4⟩, d5, d6, d7, d8, d9, d10, d11⟩ := p_push hN w1 w2 w3 w4 hU
    have h17 : v2.1 9 0 0 17 = -4 := by rw [d7.2.2.2.2.1]; exact a1.2.2.2.2.1
    obtain ⟨f, e1, e2⟩ := p_asideR (N := N) (v := v2) (s := s) hN w1 h17 (by rw [g1, g2, g3, g4, d4]; exact w4)
    obtain ⟨u3, v3, g, m1, m2, m3, m4, m5, m6⟩ := p_both (N := N) hN a1 w1 (by omega) (by rw [d3]; exact w3) e2 d5 d6 d7
    rw [if_neg c1, if_neg c1, d1, d2, o_bd_some, o_bd_some, if_pos rfl, m1, o_bd_some, e1, o_bd_some, m2, o_bd_some, m3, o_bd_some, nI_1]
    exact ⟨_, _, ⟨u3, v3, rfl, rfl, m4, by rw [m5, hs]; rfl, fun _ => m6⟩, rfl, rfl⟩
theorem op_hours (N : Nat) (hN : 300 ≤ N) : Op_hours N Rel := by
  intro u v h a0
  obtain ⟨⟨⟨s, w1, w2, w3, w4⟩, hU⟩, -, -, -, h17, h19⟩ := id h
  unfold f_X7_hours f_X7_pass f_X8_hours
  have hA := p_out (a := a0) (lo := 1) (hi := 40) (l := 1) (h := 40) u rfl rfl
  have hB := p_in (a := a0) (lo := 1) (hi := 40) (l := 1) (h := 40) v rfl rfl
  by_cases h0 : inR a0 1 40
  · rw [hA.1 h0, hB.1 h0, o_bd_some, o_bd_some]
    simp only [if_neg one_ne, ite_true]
    obtain ⟨n, rfl, hn1, hn, hn2⟩ := inR_nat h0 (by omega)
    have i29 : o_inb 29 31 = true := by decide
    have e1 : u.1 0 (9 * 0) 0 3 = nI (s 0 3) := w3.1.2.2.2.1
    have e2 : v.1 9 0 4 (Int32.toNatClampNeg 29) = nI (s 0 3) := w4.1.2.2.2.1
    have c : nI (s 0 3 + n) ≤ 9999 ↔ s 0 3 + n ≤ 9999 := nIle (b := 9999) (by omega) (by omega)
    simp only [if_pos i29, e1, e2, nI_add, c]
    by_cases g : s 0 3 + n ≤ 9999
    · simp only [if_pos g]
      obtain ⟨r, u1, v1, a1, a2, a3⟩ := p_hoursL (N := N) (n := n) hN h (by omega) (by omega) e1 g
      rw [a1, a2, o_bd_some]
      exact ⟨r, u1, v1, rfl, rfl, a3⟩
    · simp only [if_neg g]
      exact ⟨-3, u, v, rfl, rfl, h⟩
  · rw [hA.2 h0, hB.2 h0, o_bd_some, o_bd_some]
    exact ⟨-1, u, v, rfl, rfl, h⟩
/-! draws -/
theorem draw_ex {d : Nat} (hd : d < 2147483648) : ∃ D : Nat, D < 2147483648 ∧ (nI d * 1103515245 + 12345) &&& 2147483647 = nI D ∧ (((nI d).toInt64 * 1103515245 + 12345) &&& 2147483647).toInt32 = nI D := by
  refine ⟨(d * 1103515245 + 12345) % 2 ^ 31, Nat.mod_lt _ (Nat.two_pow_pos 31), ?_, ?_⟩
  · rw [show (1103515245 : Int32) = nI 1103515245 from rfl, show (12345 : Int32) = nI 12345 from rfl, pk_mul, nI_add, pk_and _ 31 (by decide)]
    have e : (nI (d * 1103515245 + 12345)).toBitVec.toNat = (d * 1103515245 + 12345) % 2 ^ 32 := BitVec.toNat_ofNat _ _
    rw [e, Nat.mod_mod_of_dvd _ (Nat.pow_dvd_pow 2 (by decide))]
  · rw [nI_l (by omega), show (1103515245 : Int64) = lN 1103515245 from rfl, show (12345 : Int64) = lN 12345 from rfl, lN_mul, lN_add]
    generalize d * 1103515245 + 12345 = X
    have : lN X &&& 2147483647 = lN (X % 2 ^ 31) := by
      apply Int64.toBitVec_inj.mp
      show BitVec.ofNat 64 X &&& BitVec.ofNat 64 2147483647 = BitVec.ofNat 64 (X % 2 ^ 31)
      apply BitVec.eq_of_toNat_eq
      rw [BitVec.toNat_and, BitVec.toNat_ofNat, BitVec.toNat_ofNat, BitVec.toNat_ofNat]
      rw [show 2147483647 % 2 ^ 64 = 2 ^ 31 - 1 by decide, Nat.and_two_pow_sub_one_eq_mod, Nat.mod_mod_of_dvd _ (Nat.pow_dvd_pow 2 (by decide))]
      exact (Nat.mod_eq_of_lt (Nat.lt_of_lt_of_le (Nat.mod_lt _ (Nat.two_pow_pos 31)) (Nat.pow_le_pow_right (by decide) (by decide)))).symm
    rw [this, lN_i]
def DR (s : Sx) (D : Nat) : Sx := if 0 < s 0 0 ∧ D / 128 % 3 = 0 then u2 (u2 s 0 4 D) 0 2 (clrB (s 0 2) (D / 65536 % s 0 0)) else u2 s 0 4 D
theorem wf_DR {s : Sx} {D : Nat} (hD : D < 2147483648) (h : wfS s) : wfS (DR s D) := by
  unfold DR
  have h1 := wf_draw h hD
  split
  · refine wf_asked h1 ?_
    have h2 := clrB_le (s 0 2) (D / 65536 % s 0 0)
    have h3 := h.2.2.1
    show clrB (s 0 2) _ < 2 ^ s 0 0
    omega
  · exact h1
theorem DR_hour {s : Sx} {D : Nat} : DR s D 0 3 = s 0 3 := by
  unfold DR
  split <;> rfl
theorem eD {D : Nat} (hD : D < 2147483648) : nI D / 128 - nI D / 128 / 3 * 3 = nI (D / 128 % 3) := by
  rw [show (128 : Int32) = nI 128 from rfl, pk_div (by omega) (by omega) (by omega)]
  exact pk_rem (d := 3) (by omega) (by omega) (by omega)
theorem eQ {D q : Nat} (hD : D < 2147483648) (hq : q ≤ 8) (g : 0 < q) : nI D / 65536 - nI D / 65536 / nI q * nI q = nI (D / 65536 % q) := by
  rw [show (65536 : Int32) = nI 65536 from rfl, pk_div (by omega) (by omega) (by omega)]
  exact pk_rem (by omega) (by omega) (by omega)
theorem p_drawC {t : Mm} {i D : Nat} {s : Sx} (hs : wfS s) (hF : FR (t.1 0 i) s) (hd : D < 2147483648) (hC : (nI (s 0 4) * 1103515245 + 12345) &&& 2147483647 = nI D) : ∃ t' : Mm, f_X0_drawQuestion i t = some t' ∧ (∀ a b, ¬ (a = 0 ∧ b = i) → t'.1 a b = t.1 a b) ∧ t'.2 = t.2 ∧ FR (t'.1 0 i) (DR s D) := by
  have h8 := hs.1
  have ha := asked_lt hs
  have e4 : t.1 0 i 0 4 = nI (s 0 4) := hF.1.2.2.2.2
  unfold f_X0_drawQuestion f_X0_letAskAgain
  rw [e4, hC]
  simp only [o_nm]
  have f1 : FR ((sI t 0 i 0 4 (nI D)).1 0 i) (u2 s 0 4 D) := by
    rw [sI_v2]
    exact FR_set hF (by unfold okS; omega) (fun z => by omega)
  have e0 : (sI t 0 i 0 4 (nI D)).1 0 i 0 0 = nI (s 0 0) := f1.1.1
  have e2 : (sI t 0 i 0 4 (nI D)).1 0 i 0 2 = nI (s 0 2) := f1.1.2.2.1
  have e4' : (sI t 0 i 0 4 (nI D)).1 0 i 0 4 = nI D := f1.1.2.2.2.2
  have c0 : nI (s 0 0) ≤ 0 ↔ s 0 0 ≤ 0 := nIle (b := 0) (by omega) (by omega)
  have c3 : nI (D / 128 % 3) = 0 ↔ D / 128 % 3 = 0 := nIeq (b := 0) (by omega) (by omega)
  have cz : nI (s 0 0) = 0 ↔ s 0 0 = 0 := nIeq (b := 0) (by omega) (by omega)
  simp only [e0, e2, e4', eD hd, c0, c3, cz]
  unfold DR
  by_cases g : 0 < s 0 0
  · have hm : D / 65536 % s 0 0 < s 0 0 := Nat.mod_lt _ g
    simp only [if_neg (show ¬ s 0 0 ≤ 0 by omega)]
    by_cases z : D / 128 % 3 = 0
    · have gz : 0 < s 0 0 ∧ D / 128 % 3 = 0 := ⟨g, z⟩
      simp only [if_pos z, if_pos gz, eQ hd h8 g, nI_clr (show s 0 2 < 256 from ha) (show D / 65536 % s 0 0 < 8 by omega), show ¬ s 0 0 = 0 by omega, not_false_eq_true, ite_true, o_bd_some]
      refine ⟨_, rfl, fun a b h => by rw [sI_nums h, sI_nums h], rfl, ?_⟩
      rw [sI_v2]
      exact FR_set f1 (by unfold okS; omega) (fun z => by omega)
    · simp only [if_neg z, if_neg (show ¬ (0 < s 0 0 ∧ D / 128 % 3 = 0) from fun y => z y.2)]
      exact ⟨_, rfl, fun a b h => by rw [sI_nums h], rfl, f1⟩
  · simp only [if_pos (show s 0 0 ≤ 0 by omega), if_neg (show ¬ (0 < s 0 0 ∧ D / 128 % 3 = 0) from fun y => g y.1)]
    exact ⟨_, rfl, fun a b h => by rw [sI_nums h], rfl, f1⟩
theorem p_driftL {N n h0 : Nat} {u v : Mm} (hN : 300 ≤ N) (h : Rel u v) (hn1 : 1 ≤ n) (hn : n ≤ 40) (hh : u.1 0 0 0 3 = nI h0) (hb : h0 + n ≤ 9999) : St Rel (f_X7_pass_35 N (nI n) 1 0 u) (f_X8_drift_34 N (nI n) 0 v) := by
  refine lp_two (b := fun k x => b_X7_pass_35 N k x.1 x.2.1 x.2.2.1 x.2.2.2) (b' := fun k x => b_X8_drift_34 N k x.1 x.2.1 x.2.2) (St Rel) (IPs n 1 h0) n (fun K K' x y hI => ?_) (fun K K' k x y hk hI => ?_) N N 0 (nI n, 1, 0, u) (nI n, 0, v) (by omega) (by omega) (by omega) ⟨u, v, rfl, rfl, h, hh, fun z => absurd z (Nat.lt_irrefl 0)⟩
  · obtain ⟨u1, v1, rfl, rfl, a1, a2, a3⟩ := hI
    obtain ⟨s', b1, b2, b3⟩ := a3 (by omega)
    show St Rel (b_X7_pass_35 N K (nI n) 1 (nI n) u1) (b_X8_drift_34 N K' (nI n) (nI n) v1)
    unfold b_X7_pass_35 b_X8_drift_34
    rw [if_pos Int32.le_rfl, if_pos Int32.le_rfl, show (2 : Int32) = nI 2 from rfl, p_those (i := 9 * 0) hN b1 (by omega) b2, p_placed hN b1 (by omega) b3, o_bd_some, o_bd_some]
    exact ⟨_, u1, v1, rfl, rfl, a1⟩
  · obtain ⟨u1, v1, rfl, rfl, a1, a2, a3⟩ := hI
    show ∃ x' y', _ ∧ b_X7_pass_35 N K (nI n) 1 (nI k) u1 = _ ∧ b_X8_drift_34 N K' (nI n) (nI k) v1 = _
    unfold b_X7_pass_35 b_X8_drift_34 f_X7_pass_61 f_X8_drift_116
    have c1 : ¬ nI n ≤ nI k := fun z => absurd ((nIle (by omega) (by omega)).mp z) (by omega)
    obtain ⟨⟨⟨s, w1, w2, w3, w4⟩, hU⟩, -⟩ := id a1
    have hs := hour_eq w3 w2 (by omega) a2
    obtain ⟨u2', v2, d1, d2, d3, d4, ⟨g1, g2, g3, g4⟩, d5, d6, d7, d8, d9, d10, d11⟩ := p_push hN w1 w2 w3 w4 hU
    have h17 : v2.1 9 0 0 17 = -4 := by rw [d7.2.2.2.2.1]; exact a1.2.2.2.2.1
    have w4' : RR (v2.1 9 0 0 0) (v2.1 9 0 0 1) (v2.1 9 0 2) (v2.1 9 0 3) (v2.1 9 0 4) s := by rw [g1, g2, g3, g4, d4]; exact w4
    obtain ⟨f, e1, e2⟩ := p_asideR (N := N) (v := v2) (s := s) hN w1 h17 w4'
    obtain ⟨D, hd, hC, hR⟩ := draw_ex w1.2.2.2.1
    obtain ⟨u3, q1, q2, q3, q4⟩ := p_drawC (t := u2') (i := 9 * 0) w1 (by rw [show 9 * 0 = 0 from rfl, d3]; exact w3) hd hC
    have h8 := w1.1
    have ha := asked_lt w1
    have f1 : SD v2 (upd f 30 (nI (D))) (u2 s 0 4 (D)) := RR_set (r := 0) (k := 4) e2 w1.1 w1.2.1 (by unfold okS; omega) (fun z => by omega)
    have hf : ∃ f', SD v2 f' (DR s D) ∧ (if (v2.1 9 0 0 0) ≤ 0 then f' = upd f 30 (nI (D)) else if D / 128 % 3 = 0 then f' = upd (upd f 30 (nI (D))) 0 (nI (clrB (s 0 2) (D / 65536 % s 0 0))) else f' = upd f 30 (nI (D))) := by
      have e0 : v2.1 9 0 0 0 = nI (s 0 0) := w4'.1.1
      have c0 : nI (s 0 0) ≤ 0 ↔ s 0 0 ≤ 0 := nIle (b := 0) (by omega) (by omega)
      simp only [e0, c0]
      unfold DR
      by_cases g : 0 < s 0 0
      · simp only [if_neg (show ¬ s 0 0 ≤ 0 by omega)]
        by_cases z : D / 128 % 3 = 0
        · rw [if_pos (show 0 < s 0 0 ∧ D / 128 % 3 = 0 from ⟨g, z⟩)]
          refine ⟨upd (upd f 30 (nI D)) 0 (nI (clrB (s 0 2) (D / 65536 % s 0 0))), ?_, ?_⟩
          · exact RR_set (r := 0) (k := 2) (x := clrB (s 0 2) (D / 65536 % s 0 0)) f1 w1.1 w1.2.1 (by unfold okS; omega) (fun z => by omega)
          · rw [if_pos z]
        · rw [if_neg (fun y => z y.2)]
          exact ⟨_, f1, by rw [if_neg z]⟩
      · rw [if_neg (fun y => g y.1)]
        exact ⟨_, f1, by rw [if_pos (show s 0 0 ≤ 0 by omega)]⟩
    obtain ⟨f', hf1, hf2⟩ := hf
    have hd5 : UR (fun j => u3.1 0 (0 + 1 + j)) (u3.1 1 0 0 2) (u3.1 1 0 0 3) (v2.1 9 0 0 0) (v2.1 9 0 0 1) (v2.1 9 0 2) (v2.1 9 0 3) (v2.1 9 0 6) (v2.1 9 0 0 7) := by
      rw [q2 1 0 (by omega)]
      exact UR_congr d5 (fun j hj => q2 0 (0 + 1 + j) (by omega))
    have hKC : KC u1 u3 := by
      obtain ⟨c1, c2, c3, c4, c5, c6, c7⟩ := d6
      exact ⟨fun i h1 h2 => (q2 0 i (by omega)).trans (c1 i h1 h2), (q2 1 1 (by omega)).trans c2, (funext fun b => q2 2 b (by omega)).trans c3, q3.trans c4, (q2 3 0 (by omega)).trans c5, (q2 3 1 (by omega)).trans c6, (q2 3 2 (by omega)).trans c7⟩
    obtain ⟨u4, v3, g, m1, m2, m3, m4, m5, m6⟩ := p_both (N := N) hN a1 (wf_DR hd w1) (by rw [DR_hour]; omega) q4 hf1 hd5 hKC d7
    have i30 : o_inb 30 31 = true := by decide
    have i0 : o_inb 0 31 = true := by decide
    have e30 : (sR v2 9 0 5 f).1 9 0 4 (Int32.toNatClampNeg 30) = nI (s 0 4) := w4'.1.2.2.2.2
    rw [if_neg c1, if_neg c1, d1, d2, o_bd_some, o_bd_some, if_neg one_ne, q1, o_bd_some, m1, o_bd_some, e1, o_bd_some, if_pos i30, e30, hR]
    simp only [o_nm, if_pos i30, if_pos i0, show Int32.toNatClampNeg 30 = 30 from rfl, show Int32.toNatClampNeg 0 = 0 from rfl, sI_sR, sR_at]
    have c3 : nI (D / 128 % 3) = 0 ↔ D / 128 % 3 = 0 := nIeq (b := 0) (by omega) (by omega)
    have eu : upd f 30 (nI (D)) 0 = nI (s 0 2) := by rw [upd_off (by omega)]; exact e2.1.2.2.1
    have e0 : v2.1 9 0 0 0 = nI (s 0 0) := w4'.1.1
    have e0' : ∀ F, (sR v2 9 0 5 F).1 9 0 0 0 = v2.1 9 0 0 0 := fun F => rfl
    simp only [eD hd, c3, e0', eu]
    have hgo : ∀ (L : Mm → Option (Int32 × Mm)), o_bd (f_X8_goHour N (sR v2 9 0 5 f')) (fun t_1 => o_bd (f_X8_take N t_1) L) = L v3 := by
      intro L
      rw [m2, o_bd_some, m3, o_bd_some]
    refine ⟨_, _, ⟨u4, v3, rfl, rfl, m4, by rw [m5, DR_hour, hs]; rfl, fun _ => m6⟩, by rw [nI_1], ?_⟩
    by_cases g : v2.1 9 0 0 0 ≤ 0
    · rw [if_pos g] at hf2
      rw [if_pos g, ← hf2, hgo, nI_1]
    · rw [if_neg g] at hf2
      rw [if_neg g]
      by_cases z : D / 128 % 3 = 0
      · rw [if_pos z] at hf2
        have hpos : 0 < s 0 0 := by
          rcases Nat.eq_zero_or_pos (s 0 0) with y | y
          · exact absurd (by rw [e0, y]; exact Int32.le_rfl) g
          · exact y
        have cz : ¬ v2.1 9 0 0 0 = 0 := by
          rw [e0]
          intro y
          have := (nIeq (b := 0) (by omega) (by omega)).mp y
          omega
        have hm : D / 65536 % s 0 0 < s 0 0 := Nat.mod_lt _ hpos
        rw [if_pos z, if_pos cz, e0, eQ hd h8 hpos, nI_clr (by omega) (by omega), ← hf2, hgo, nI_1]
      · rw [if_neg z] at hf2
        rw [if_neg z, ← hf2, hgo, nI_1]
theorem op_drift (N : Nat) (hN : 300 ≤ N) : Op_drift N Rel := by
  intro u v h a0
  obtain ⟨⟨⟨s, w1, w2, w3, w4⟩, hU⟩, -, -, -, h17, h19⟩ := id h
  unfold f_X7_drift f_X7_pass f_X8_drift
  have hA := p_out (a := a0) (lo := 1) (hi := 40) (l := 1) (h := 40) u rfl rfl
  have hB := p_in (a := a0) (lo := 1) (hi := 40) (l := 1) (h := 40) v rfl rfl
  by_cases h0 : inR a0 1 40
  · rw [hA.1 h0, hB.1 h0, o_bd_some, o_bd_some]
    simp only [if_neg one_ne, ite_true]
    obtain ⟨n, rfl, hn1, hn, hn2⟩ := inR_nat h0 (by omega)
    have i29 : o_inb 29 31 = true := by decide
    have e1 : u.1 0 (9 * 0) 0 3 = nI (s 0 3) := w3.1.2.2.2.1
    have e2 : v.1 9 0 4 (Int32.toNatClampNeg 29) = nI (s 0 3) := w4.1.2.2.2.1
    have c : nI (s 0 3 + n) ≤ 9999 ↔ s 0 3 + n ≤ 9999 := nIle (b := 9999) (by omega) (by omega)
    simp only [if_pos i29, e1, e2, nI_add, c]
    by_cases g : s 0 3 + n ≤ 9999
    · simp only [if_pos g]
      obtain ⟨r, u1, v1, a1, a2, a3⟩ := p_driftL (N := N) (n := n) hN h (by omega) (by omega) e1 g
      rw [a1, a2, o_bd_some]
      exact ⟨r, u1, v1, rfl, rfl, a3⟩
    · simp only [if_neg g]
      exact ⟨-3, u, v, rfl, rfl, h⟩
  · rw [hA.2 h0, hB.2 h0, o_bd_some, o_bd_some]
    exact ⟨-1, u, v, rfl, rfl, h⟩
