/-! op ford -/
theorem Rel.read {u v u' v' : Mm} (h : Rel u v) (hC : FrC u u') (hR : QF v v') : Rel u' v' := by
  obtain ⟨c1, c2⟩ := hC
  obtain ⟨r1, r2, r3⟩ := hR
  refine h.now ?_ ⟨fun i _ hi => c1 0 i (by unfold scr; omega), c1 1 1 (by unfold scr; omega), funext fun b => c1 2 b (by unfold scr; omega), c2, c1 3 0 (by unfold scr; omega), c1 3 1 (by unfold scr; omega), c1 3 2 (by unfold scr; omega)⟩ ⟨⟨r1 9 (by omega) (by omega) (by omega) (by omega), r1 10 (by omega) (by omega) (by omega) (by omega), r1 11 (by omega) (by omega) (by omega) (by omega), r1 13 (by omega) (by omega) (by omega) (by omega), r1 14 (by omega) (by omega) (by omega) (by omega), r1 16 (by omega) (by omega) (by omega) (by omega)⟩, r2, r3 8 (by omega) (by omega) (by omega) (by omega) (by omega), r3 15 (by omega) (by omega) (by omega) (by omega) (by omega), r3 17 (by omega) (by omega) (by omega) (by omega) (by omega), r3 19 (by omega) (by omega) (by omega) (by omega) (by omega)⟩
  have hN := h.1
  unfold NowR at hN ⊢
  rw [c1 1 0 (by unfold scr; omega), r3 0 (by omega) (by omega) (by omega) (by omega) (by omega), r3 1 (by omega) (by omega) (by omega) (by omega) (by omega), r3 7 (by omega) (by omega) (by omega) (by omega) (by omega), r1 2 (by omega) (by omega) (by omega) (by omega), r1 3 (by omega) (by omega) (by omega) (by omega), r1 4 (by omega) (by omega) (by omega) (by omega), r1 6 (by omega) (by omega) (by omega) (by omega)]
  obtain ⟨⟨s, a1, a2, a3, a4⟩, hU⟩ := hN
  exact ⟨⟨s, a1, a2, by rw [c1 0 0 (by unfold scr; omega)]; exact a3, a4⟩, UR_congr hU (fun j hj => c1 0 (0 + 1 + j) (by unfold scr; omega))⟩
theorem Rel.tape0 {u v : Mm} (h : Rel u v) : Rel (sI u 3 1 0 1 0) (sI v 9 0 0 15 0) := by
  obtain ⟨a, b, c, d, e, f⟩ := h
  exact ⟨a, b, c, ⟨0, fun _ => 0, by omega, rfl, rfl, fun k hk => absurd hk (Nat.not_lt_zero k)⟩, e, f⟩
theorem nI_any (x : Int32) : ∃ k, x = nI k := ⟨x.toBitVec.toNat, Int32.toBitVec_inj.mp (BitVec.eq_of_toNat_eq (by rw [pk_tn x.toBitVec.isLt]))⟩
def fdS (s : Sx) (d : Nat) : Sx := fun r k => if r = 0 ∧ k = 3 then 0 else if r = 0 ∧ k = 4 then d else if r = 6 then 0 else s r k
theorem wf_fdS {s : Sx} {d : Nat} (h : WX s) (hd : d < 2147483648) : wfS (fdS s d) := by
  obtain ⟨a1, a2, a3, a4, a5⟩ := h
  refine ⟨a1, a2, a3, hd, fun k hk => a4 k hk, fun k hk => ?_⟩
  obtain ⟨b1, b2, b3⟩ := a5 k hk
  exact ⟨b1, b2, b3, Nat.zero_le _, fun e => absurd (show (0 : Nat) = 1 from e) (by decide)⟩
theorem FR_new {v : Nat → Nat → Int32} {s : Sx} {d : Nat} (h : FX v s) (hd : v 0 4 = nI d) : FR v (fdS s d) := by
  obtain ⟨⟨a1, a2, a3, a4⟩, f, g⟩ := h
  refine ⟨⟨a1, a2, a3, a4, hd⟩, fun k hk => f k hk, fun k hk => ?_⟩
  obtain ⟨b1, b2, b3, b4⟩ := g k hk
  exact ⟨b1, b2, b3, b4, fun e => absurd (show (0 : Nat) = 1 from e) (by decide)⟩
theorem RR_new {q c : Int32} {tp kd w tp' kd' w' : Nat → Int32} {s : Sx} {d : Nat} (h : RX q c tp kd w s) (hW : WX s) (h1 : ∀ k, k < 8 → tp' k = tp k) (h2 : ∀ k, k < 5 → kd' k = kd k) (h3 : ∀ k, k < 30 → w' k = w k) (h4 : w' 30 = nI d) : RR q c tp' kd' w' (fdS s d) := by
  obtain ⟨⟨a1, a2, a3, a4⟩, f, g, z⟩ := h
  obtain ⟨b1, b2, -⟩ := hW
  refine ⟨⟨a1, a2, by rw [h3 0 (by omega)]; exact a3, by rw [h3 29 (by omega)]; exact a4, h4⟩, fun k hk => ?_, fun k hk => ?_, fun k _ hk => ?_⟩
  · have hk : k < s 0 0 := hk
    rw [h1 k (by omega), h3 (1 + k) (by omega)]
    exact f k hk
  · have hk : k < s 0 1 := hk
    obtain ⟨g1, g2, g3⟩ := g k hk
    rw [h2 k (by omega), h3 (9 + k) (by omega), h3 (14 + k) (by omega), h3 (19 + k) (by omega), z k (by omega)]
    exact ⟨g1, g2, g3, rfl, fun e => absurd (show (0 : Nat) = 1 from e) (by decide)⟩
  · rw [h3 (19 + k) (by omega)]
    exact z k hk
theorem p_fd111 {N : Nat} (hN : 300 ≤ N) (t : Mm) : f_X8_ford_111 N 0 t = some (t.1 9 0 0 0, sI (sR t 9 0 4 (cpl (t.1 9 0 4) (t.1 9 0 27) 0 0 0 30)) 9 0 0 7 0) := by
  show o_lp _ N (nI 0, t) = _
  refine copy_loop (cont := fun t => some (t.1 9 0 0 0, sI t 9 0 0 7 0)) (E := 30) (D := 4) (S := 27) (a := 0) (b := 0) (by decide) (fun K t => ?_) (fun K k t hk => ?_) N 0 t (by omega) (by omega)
  · rfl
  · show b_X8_ford_111 N K (nI k) t = _
    unfold b_X8_ford_111
    have c1 : ¬ (30 : Int32) ≤ nI k := fun z => absurd ((nIle (a := 30) (by omega) (by omega)).mp z) (by omega)
    have i1 : o_inb (nI k) 31 = true := inb_nI (by omega) (by omega)
    simp only [if_neg c1, if_pos i1, cl_nI (show k < 2147483648 by omega), o_nm, nI_1, Nat.zero_add]
theorem p_fd86 {N : Nat} (hN : 300 ≤ N) (t : Mm) : f_X8_ford_86 N 0 t = f_X8_ford_111 N 0 (sR t 9 0 3 (cpl (t.1 9 0 3) (t.1 9 0 26) 0 0 0 5)) := by
  show o_lp _ N (nI 0, t) = _
  refine copy_loop (cont := fun t => f_X8_ford_111 N 0 t) (E := 5) (D := 3) (S := 26) (a := 0) (b := 0) (by decide) (fun K t => ?_) (fun K k t hk => ?_) N 0 t (by omega) (by omega)
  · rfl
  · show b_X8_ford_86 N K (nI k) t = _
    unfold b_X8_ford_86
    have c1 : ¬ (5 : Int32) ≤ nI k := fun z => absurd ((nIle (a := 5) (by omega) (by omega)).mp z) (by omega)
    have i1 : o_inb (nI k) 5 = true := inb_nI (by omega) (by omega)
    simp only [if_neg c1, if_pos i1, cl_nI (show k < 2147483648 by omega), o_nm, nI_1, Nat.zero_add]
theorem p_fd60 {N : Nat} (hN : 300 ≤ N) (t : Mm) : f_X8_ford_60 N 0 t = f_X8_ford_86 N 0 (sR t 9 0 2 (cpl (t.1 9 0 2) (t.1 9 0 25) 0 0 0 8)) := by
  show o_lp _ N (nI 0, t) = _
  refine copy_loop (cont := fun t => f_X8_ford_86 N 0 t) (E := 8) (D := 2) (S := 25) (a := 0) (b := 0) (by decide) (fun K t => ?_) (fun K k t hk => ?_) N 0 t (by omega) (by omega)
  · rfl
  · show b_X8_ford_60 N K (nI k) t = _
    unfold b_X8_ford_60
    have c1 : ¬ (8 : Int32) ≤ nI k := fun z => absurd ((nIle (a := 8) (by omega) (by omega)).mp z) (by omega)
    have i1 : o_inb (nI k) 8 = true := inb_nI (by omega) (by omega)
    simp only [if_neg c1, if_pos i1, cl_nI (show k < 2147483648 by omega), o_nm, nI_1, Nat.zero_add]
theorem op_ford (N : Nat) (hN : 300 ≤ N) : Op_ford N Rel := by
  intro u v h
  obtain ⟨⟨⟨s, w1, w2, w3, w4⟩, hU⟩, hIm, hSh, ⟨n, ch, hn, t1, t2, t3⟩, h17, h19⟩ := id h
  have okt : okT n ch := ⟨hn, fun k hk => ⟨(t3 k hk).1, (t3 k hk).2.1⟩⟩
  have hTP : TP u n ch := ⟨okt, t1, fun k hk => (t3 k hk).2.2.1⟩
  have hTQ : TQ v n ch := ⟨okt, t2, fun k hk => (t3 k hk).2.2.2⟩
  have hC := c_ford hN hTP
  have hR := r_ford hN hTQ
  unfold f_X7_ford f_X8_ford f_X8_ford_27
  cases hq : fdF n ch with
  | inl b =>
    rw [hq] at hC hR
    obtain ⟨u1, c1, c2, c3, c4⟩ := hC
    obtain ⟨v1, r1, r2, r3, r4⟩ := hR
    rw [c1, r1, o_bd_some, o_bd_some]
    simp only [o_nm, ite_true]
    have e15 : v1.1 9 0 0 15 = nI n := by
      rw [r2.2.2 15 (by omega) (by omega) (by omega) (by omega) (by omega)]
      exact t2
    refine ⟨-20 - nI b, sI u1 3 1 0 1 0, sI v1 9 0 0 15 0, ?_, ?_, (h.read c2 r2).tape0⟩
    · show some (-20 - u1.1 3 3 0 2, _) = _
      rw [c3]
    · rw [e15, r3]
      by_cases z : n ≤ b
      · rw [show n = b by omega]
        split <;> rfl
      · rw [if_neg (fun y => z ((nIle (by omega) (by omega)).mp y))]
  | inr x =>
    rw [hq] at hC hR
    obtain ⟨u1, c1, c2, c3, c4, c5, c6⟩ := hC
    obtain ⟨v1, r1, tp, kd, w, ⟨q1, ⟨k28, k22, k21, k23, k24⟩, q3, q4, q5⟩, r3, r4, r5⟩ := hR
    have hrel : Rel (sI u1 3 1 0 1 0) (sI v1 9 0 0 15 0) := (h.read c2 q1).tape0
    rw [c1, r1, o_bd_some, o_bd_some]
    simp only [o_nm, if_neg one_ne]
    obtain ⟨d0, hd0⟩ := nI_any (u1.1 0 20 0 4)
    unfold f_X4_forgetPast f_X0_becomeNew
    simp only [o_nm, o_bd_some]
    obtain ⟨u2', m1, m2, m3, m4⟩ := p_takeFrom (t := sI (sI u1 3 1 0 1 0) 1 0 0 3 0) (i := 9 * 0) (o := 20) (by omega)
    rw [m1, o_bd_some]
    have f1 : FR (u2'.1 0 0) (fdS x.2 d0) := m4 _ r4.1 r4.2.1 (FR_new c5 hd0)
    have e4 : (sI (sI u1 3 1 0 1 0) 1 0 0 3 0).1 0 (9 * 0) 0 4 = nI (s 0 4) := by
      show u1.1 0 0 0 4 = _
      rw [c2.1 0 0 (by unfold scr; omega)]
      exact w3.1.2.2.2.2
    have f2 : FR ((sI u2' 0 0 0 4 (nI (s 0 4))).1 0 0) (fdS x.2 (s 0 4)) := by
      have := FR_set (r := 0) (k := 4) (x := s 0 4) f1 (by unfold okS; omega) (fun z => by omega)
      rw [sI_v2]
      have e : u2 (fdS x.2 d0) 0 4 (s 0 4) = fdS x.2 (s 0 4) := by
        funext r k
        unfold u2 fdS
        by_cases e : r = 0 ∧ k = 4
        · rw [if_pos e, if_neg (by omega), if_pos e]
        · rw [if_neg e, if_neg e, if_neg e]
      rw [← e]
      exact this
    have e0 : u2'.1 0 0 0 0 = nI (x.2 0 0) := f1.1.1
    have e23 : (sI v1 9 0 0 15 0).1 9 0 0 23 = nI (x.2 0 0) := k23
    have e24 : (sI (sI v1 9 0 0 15 0) 9 0 0 0 (nI (x.2 0 0))).1 9 0 0 24 = nI (x.2 0 1) := k24
    have hv : ∀ (P : Prop) (_ : Decidable P) (a : Option (Int32 × Mm)), (if P then a else a) = a := fun P _ a => by split <;> rfl
    simp only [e23, e24, hv, p_fd60 hN, p_fd86 hN, p_fd111 hN]
    refine ⟨nI (x.2 0 0), sI u2' 0 0 0 4 (nI (s 0 4)), _, ?_, rfl, hrel.now ?_ ?_ ?_⟩
    · show some ((sI u2' 0 0 0 4 ((sI (sI u1 3 1 0 1 0) 1 0 0 3 0).1 0 (9 * 0) 0 4)).1 0 0 0 0, sI u2' 0 0 0 4 ((sI (sI u1 3 1 0 1 0) 1 0 0 3 0).1 0 (9 * 0) 0 4)) = _
      rw [e4]
      show some (u2'.1 0 0 0 0, _) = _
      rw [e0]
    · refine ⟨⟨fdS x.2 (s 0 4), wf_fdS r4 w1.2.2.2.1, Nat.zero_le _, f2, ?_⟩, ?_⟩
      · refine RR_new (tp := tp) (kd := kd) (w := w) r3 r4 (fun k hk => ?_) (fun k hk => ?_) (fun k hk => ?_) ?_
        · rw [← q3]
          exact cpl_in0 hk
        · rw [← q4]
          exact cpl_in0 hk
        · rw [← q5]
          exact cpl_in0 hk
        · show cpl (v1.1 9 0 4) (v1.1 9 0 27) 0 0 0 30 30 = _
          rw [cpl_out (by omega), q1.1 4 (by omega) (by omega) (by omega) (by omega)]
          exact w4.1.2.2.2.2
      · have e12 : (sI u2' 0 0 0 4 (nI (s 0 4))).1 1 0 0 2 = u.1 1 0 0 2 := by
          show u2'.1 1 0 0 2 = _
          rw [m2 1 0 (by omega)]
          show u1.1 1 0 0 2 = _
          rw [c2.1 1 0 (by unfold scr; omega)]
        have e13 : (sI u2' 0 0 0 4 (nI (s 0 4))).1 1 0 0 3 = 0 := by
          show u2'.1 1 0 0 3 = _
          rw [m2 1 0 (by omega)]
          rfl
        rw [e12, e13]
        exact UR_none hU _
    · refine ⟨fun i h1 h2 => ?_, ?_, ?_, ?_, ?_, ?_, ?_⟩
      · rw [sI_nums (by omega), m2 0 i (by omega)]
        rfl
      · rw [sI_nums (by omega), m2 1 1 (by omega)]
        rfl
      · funext b
        rw [sI_nums (by omega), m2 2 b (by omega)]
        rfl
      · exact m3
      · rw [sI_nums (by omega), m2 3 0 (by omega)]
        rfl
      · rw [sI_nums (by omega), m2 3 1 (by omega)]
        rfl
      · rw [sI_nums (by omega), m2 3 2 (by omega)]
        rfl
    · exact ⟨⟨rfl, rfl, rfl, rfl, rfl, rfl⟩, rfl, rfl, rfl, rfl, rfl⟩
