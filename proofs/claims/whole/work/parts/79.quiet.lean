/-! what only looks ahead -/
theorem lp_two {σ τ ρ ρ' : Type} {b : (σ → Option ρ) → σ → Option ρ} {b' : (τ → Option ρ') → τ → Option ρ'} (P : Option ρ → Option ρ' → Prop) (I : Nat → σ → τ → Prop) (n : Nat) (hend : ∀ K K' x y, I n x y → P (b K x) (b' K' y)) (hstep : ∀ K K' k x y, k < n → I k x y → ∃ x' y', I (k + 1) x' y' ∧ b K x = K x' ∧ b' K' y = K' y') : ∀ (m m' k : Nat) (x : σ) (y : τ), k ≤ n → n - k < m → n - k < m' → I k x y → P (o_lp b m x) (o_lp b' m' y)
  | 0, _, k, x, y, h1, h2, _, _ => absurd h2 (by omega)
  | _ + 1, 0, k, x, y, h1, _, h2, _ => absurd h2 (by omega)
  | m + 1, m' + 1, k, x, y, h1, h2, h3, hI => by
    show P (b (o_lp b m) x) (b' (o_lp b' m') y)
    by_cases h : k = n
    · subst h; exact hend _ _ x y hI
    · obtain ⟨x', y', hx, e, e'⟩ := hstep (o_lp b m) (o_lp b' m') k x y (by omega) hI
      rw [e, e']; exact lp_two P I n hend hstep m m' (k + 1) x' y' (by omega) (by omega) (by omega) hx
def scr (a b : Nat) : Prop := (a = 0 ∧ 18 ≤ b) ∨ (a = 3 ∧ 3 ≤ b)
def FrC (u u' : Mm) : Prop := (∀ a b, ¬ scr a b → u'.1 a b = u.1 a b) ∧ u'.2 = u.2
theorem FrC.rfl' (u : Mm) : FrC u u := ⟨fun _ _ _ => rfl, rfl⟩
theorem FrC.tr {u v w : Mm} (h : FrC u v) (h' : FrC v w) : FrC u w := ⟨fun a b z => (h'.1 a b z).trans (h.1 a b z), h'.2.trans h.2⟩
theorem FrC.of {u u' : Mm} {a0 b0 : Nat} (hs : scr a0 b0) (h : ∀ a b, ¬ (a = a0 ∧ b = b0) → u'.1 a b = u.1 a b) (h2 : u'.2 = u.2) : FrC u u' := ⟨fun a b z => h a b (fun y => z (by rw [y.1, y.2]; exact hs)), h2⟩
theorem FrC.sI {u : Mm} {a0 b0 c j : Nat} {x : Int32} (hs : scr a0 b0) : FrC u (sI u a0 b0 c j x) := FrC.of hs (fun _ _ h => sI_nums h) rfl
def QR (v v' : Mm) : Prop := (∀ r, r ≠ 0 → r ≠ 5 → r ≠ 20 → r ≠ 30 → v'.1 9 0 r = v.1 9 0 r) ∧ v'.2 = v.2 ∧ ∀ j, j ≠ 18 → j ≠ 29 → v'.1 9 0 0 j = v.1 9 0 0 j
theorem QR.rfl' (v : Mm) : QR v v := ⟨fun _ _ _ _ _ => rfl, rfl, fun _ _ _ => rfl⟩
theorem QR.tr {u v w : Mm} (h : QR u v) (h' : QR v w) : QR u w := ⟨fun r a b c d => (h'.1 r a b c d).trans (h.1 r a b c d), h'.2.1.trans h.2.1, fun j a b => (h'.2.2 j a b).trans (h.2.2 j a b)⟩
theorem QR.side {v : Mm} {f : Nat → Int32} : QR v (sR v 9 0 5 f) := ⟨fun r _ h _ _ => sR_off (by omega), rfl, fun _ _ _ => rfl⟩
theorem Rel.quiet {u v u' v' : Mm} (h : Rel u v) (hC : FrC u u') (hR : QR v v') : Rel u' v' := by
  obtain ⟨c1, c2⟩ := hC
  obtain ⟨r1, r2, r3⟩ := hR
  refine h.now ?_ ⟨fun i _ hi => c1 0 i (by unfold scr; omega), c1 1 1 (by unfold scr; omega), funext fun b => c1 2 b (by unfold scr; omega), c2, c1 3 0 (by unfold scr; omega), c1 3 1 (by unfold scr; omega), c1 3 2 (by unfold scr; omega)⟩ ⟨⟨r1 9 (by omega) (by omega) (by omega) (by omega), r1 10 (by omega) (by omega) (by omega) (by omega), r1 11 (by omega) (by omega) (by omega) (by omega), r1 13 (by omega) (by omega) (by omega) (by omega), r1 14 (by omega) (by omega) (by omega) (by omega), r1 16 (by omega) (by omega) (by omega) (by omega)⟩, r2, r3 8 (by omega) (by omega), r3 15 (by omega) (by omega), r3 17 (by omega) (by omega), r3 19 (by omega) (by omega)⟩
  have hN := h.1
  unfold NowR at hN ⊢
  rw [c1 1 0 (by unfold scr; omega), r3 0 (by omega) (by omega), r3 1 (by omega) (by omega), r3 7 (by omega) (by omega), r1 2 (by omega) (by omega) (by omega) (by omega), r1 3 (by omega) (by omega) (by omega) (by omega), r1 4 (by omega) (by omega) (by omega) (by omega), r1 6 (by omega) (by omega) (by omega) (by omega)]
  obtain ⟨⟨s, a1, a2, a3, a4⟩, hU⟩ := hN
  exact ⟨⟨s, a1, a2, by rw [c1 0 0 (by unfold scr; omega)]; exact a3, a4⟩, UR_congr hU (fun j hj => c1 0 (0 + 1 + j) (by unfold scr; omega))⟩
theorem ne4 {q : Nat} (hq : q < 1000000) : ¬ nI q = -4 := by
  intro z
  have : (nI q).toInt = (-4 : Int32).toInt := by rw [z]
  rw [nI_toInt (by omega), show (-4 : Int32).toInt = -4 from rfl] at this
  omega
theorem kdO_now {v : Mm} (h : v.1 9 0 0 17 = -4) : ∀ k, k < 5 → kdO v k = v.1 9 0 3 k := by
  intro k hk
  unfold kdO
  rw [h, if_neg (ne4 (by omega))]
theorem p_asideR {N : Nat} {v : Mm} {s : Sx} (hN : 300 ≤ N) (hs : wfS s) (h17 : v.1 9 0 0 17 = -4) (hR : RR (v.1 9 0 0 0) (v.1 9 0 0 1) (v.1 9 0 2) (v.1 9 0 3) (v.1 9 0 4) s) : ∃ f, f_X8_aside N v = some (sR v 9 0 5 f) ∧ SD v f s :=
  ⟨_, p_aside hN v, RR_read2 hR hs.1 hs.2.1 (fun _ _ => rfl) (kdO_now h17) (fun _ hk => cpl_in0 hk)⟩
theorem p_start {t : Mm} {s : Sx} (hs : wfS s) (hF : FR (t.1 0 0) s) : ∃ t' : Mm, f_X1_startFrom (9 * 0) t = some t' ∧ (∀ a b, ¬ (a = 0 ∧ b = 18) → t'.1 a b = t.1 a b) ∧ t'.2 = t.2 ∧ FR (t'.1 0 18) s := by
  obtain ⟨t1, a1, a2, a3, a4⟩ := p_takeFrom (t := t) (i := 18) (o := 9 * 0) (by omega)
  unfold f_X1_startFrom
  rw [a1, o_bd_some]
  exact ⟨t1, rfl, a2, a3, a4 s hs.1 hs.2.1 hF⟩
theorem p_howMany {N : Nat} {t : Mm} {s : Sx} (hN : 300 ≤ N) (hs : wfS s) (hF : FR (t.1 0 18) s) : f_X1_howManyIn N t = some (nI (othN s 9 (s 0 1)), t) := by
  have h5 := hs.2.1
  have hlt : setN s 1 (s 0 1) < 32 := by
    have h1 := setN_lt s 1 (s 0 1)
    have h2 : 2 ^ s 0 1 ≤ 2 ^ 5 := Nat.pow_le_pow_right (by decide) h5
    omega
  unfold f_X1_howManyIn
  rw [show (1 : Int32) = nI 1 from rfl, p_those hN hs (by omega) hF, o_bd_some]
  simp only []
  rw [p_bitc hlt, o_bd_some, pc_set h5]
theorem op_count (N : Nat) (hN : 300 ≤ N) : Op_count N Rel := by
  intro u v h a0
  obtain ⟨⟨⟨s, w1, w2, w3, w4⟩, hU⟩, -, -, -, h17, h19⟩ := id h
  obtain ⟨f, e1, e2⟩ := p_asideR hN w1 h17 w4
  have hq : Rel u (sR v 9 0 5 f) := h.quiet (FrC.rfl' u) QR.side
  have hp := fun w hw => p_placed (N := N) (w := w) (t := sR v 9 0 5 f) (s := s) hN w1 hw (by rw [sR_at]; exact e2)
  have ht := fun w hw => p_those (N := N) (i := 9 * 0) (w := w) (t := u) (s := s) hN w1 hw w3
  have ht0 : f_X0_thoseWho N (9 * 0) 0 u = _ := ht 0 (by omega)
  have ht1 : f_X0_thoseWho N (9 * 0) 1 u = _ := ht 1 (by omega)
  have ht2 : f_X0_thoseWho N (9 * 0) 2 u = _ := ht 2 (by omega)
  unfold f_X7_count f_X8_count f_X8_count_77
  rw [e1, o_bd_some, ht0, ht1, ht2]
  simp only [o_bd_some]
  by_cases h1 : inR a0 0 7
  · obtain ⟨z, rfl, -, hz, hz2⟩ := inR_nat h1 (by omega)
    rcases (show z = 0 ∨ z = 1 ∨ z = 2 ∨ z = 3 ∨ z = 4 ∨ z = 5 ∨ z = 6 ∨ z = 7 by omega) with rfl | rfl | rfl | rfl | rfl | rfl | rfl | rfl
    · exact ⟨_, u, _, rfl, by
        show some (v.1 9 0 0 0, _) = some (u.1 0 0 0 0, _)
        rw [w4.1.1, w3.1.1], hq⟩
    · exact ⟨_, u, _, rfl, by
        show some (v.1 9 0 0 1, _) = some (u.1 0 0 0 1, _)
        rw [w4.1.2.1, w3.1.2.1], hq⟩
    · exact ⟨_, u, _, rfl, by
        show some (v.1 9 0 4 29, _) = some (u.1 0 0 0 3, _)
        rw [w4.1.2.2.2.1, w3.1.2.2.2.1], hq⟩
    · exact ⟨_, u, _, rfl, by
        show some (v.1 9 0 4 0, _) = some (u.1 0 0 0 2, _)
        rw [w4.1.2.2.1, w3.1.2.2.1], hq⟩
    · exact ⟨_, u, _, rfl, by
        show o_bd (f_X8_placed N (nI 0) _) _ = _
        rw [hp 0 (by omega), o_bd_some], hq⟩
    · exact ⟨_, u, _, rfl, by
        show o_bd (f_X8_placed N (nI 1) _) _ = _
        rw [hp 1 (by omega), o_bd_some], hq⟩
    · exact ⟨_, u, _, rfl, by
        show o_bd (f_X8_placed N (nI 2) _) _ = _
        rw [hp 2 (by omega), o_bd_some], hq⟩
    · obtain ⟨n, x, ps, g1, g2, g3, g4, g5, g6⟩ := hU
      exact ⟨_, u, _, rfl, by
        show some (v.1 9 0 0 7, _) = some (u.1 1 0 0 3, _)
        rw [g4, g5], hq⟩
  · have n0 : ¬ a0 = 0 := fun e => h1 (by rw [e]; exact ⟨by decide, by decide⟩)
    have n1 : ¬ a0 = 1 := fun e => h1 (by rw [e]; exact ⟨by decide, by decide⟩)
    have n2 : ¬ a0 = 2 := fun e => h1 (by rw [e]; exact ⟨by decide, by decide⟩)
    have n3 : ¬ a0 = 3 := fun e => h1 (by rw [e]; exact ⟨by decide, by decide⟩)
    have n4 : ¬ a0 = 4 := fun e => h1 (by rw [e]; exact ⟨by decide, by decide⟩)
    have n5 : ¬ a0 = 5 := fun e => h1 (by rw [e]; exact ⟨by decide, by decide⟩)
    have n6 : ¬ a0 = 6 := fun e => h1 (by rw [e]; exact ⟨by decide, by decide⟩)
    have n7 : ¬ a0 = 7 := fun e => h1 (by rw [e]; exact ⟨by decide, by decide⟩)
    simp only [if_neg n0, if_neg n1, if_neg n2, if_neg n3, if_neg n4, if_neg n5, if_neg n6, if_neg n7]
    exact ⟨-1, u, _, rfl, rfl, hq⟩
theorem pc_clr : ∀ m, m < 32 → ∀ k, k < 5 → pc5 (clrB m k) + m / 2 ^ k % 2 = pc5 m := by decide +kernel
theorem setN_bit {s : Sx} {w c : Nat} : ∀ n, c < n → setN s w n / 2 ^ c % 2 = at1 s w c
  | 0, h => absurd h (Nat.not_lt_zero c)
  | n + 1, h => by
    rw [setN]
    have hl := setN_lt s w n
    have ha := at1_le s w n
    by_cases e : c = n
    · subst e
      rw [Nat.add_mul_div_left _ _ (Nat.two_pow_pos c), Nat.div_eq_of_lt hl]
      omega
    · have ih := setN_bit (s := s) (w := w) (c := c) n (by omega)
      obtain ⟨d, rfl⟩ : ∃ d, n = c + 1 + d := ⟨n - c - 1, by omega⟩
      rw [show 2 ^ (c + 1 + d) * at1 s w (c + 1 + d) = 2 ^ c * (2 * (2 ^ d * at1 s w (c + 1 + d))) by rw [Nat.pow_add, Nat.pow_succ, Nat.mul_assoc, Nat.mul_assoc], Nat.add_mul_div_left _ _ (Nat.two_pow_pos c), Nat.add_mul_mod_self_left]
      exact ih
theorem oth_self {s : Sx} {c : Nat} : ∀ n, n ≤ 9 → c < n → othN s c n + at1 s 1 c = othN s 9 n
  | 0, _, h => absurd h (Nat.not_lt_zero c)
  | n + 1, hn, h => by
    rw [othN, othN, if_neg (show ¬ n = 9 by omega)]
    by_cases e : n = c
    · subst e
      rw [if_pos rfl]
      have : ∀ k, k ≤ n → othN s n k = othN s 9 k := by
        intro k
        induction k with
        | zero => intro _; rfl
        | succ k ih => intro hk; rw [othN, othN, if_neg (by omega), if_neg (by omega), ih (by omega)]
      rw [this n (Nat.le_refl _)]
      omega
    · rw [if_neg e]
      have := oth_self (s := s) (c := c) n (by omega) (by omega)
      omega
theorem op_takes (N : Nat) (hN : 300 ≤ N) : Op_takes N Rel := by
  intro u v h a0 a1
  obtain ⟨⟨⟨s, w1, w2, w3, w4⟩, hU⟩, -, -, -, h17, h19⟩ := id h
  have eq : u.1 0 0 0 1 = nI (s 0 1) := w3.1.2.1
  have eq' : v.1 9 0 0 1 = nI (s 0 1) := w4.1.2.1
  unfold f_X7_takes f_X8_takes
  have hA := p_hasC (t := u) (i := 9 * 0) (a := a0) eq w1.2.1
  have hB := p_isC (t := v) (a := a0) eq' w1.2.1
  by_cases h0 : inR a0 0 ((s 0 1 : Int) - 1)
  · rw [hA.1 h0, hB.1 h0, o_bd_some, o_bd_some]
    simp only [if_neg one_ne]
    have hC := p_hasQ (t := u) (i := 9 * 0) (a := a1) w3.1.1 w1.1
    have hD := p_isQ (t := v) (a := a1) w4.1.1 w1.1
    by_cases h1 : inR a1 0 ((s 0 0 : Int) - 1)
    · rw [hC.1 h1, hD.1 h1, o_bd_some, o_bd_some]
      simp only [if_neg one_ne]
      obtain ⟨c, rfl, -, hc, hc2⟩ := inR_nat h0 (by omega)
      obtain ⟨q, rfl, -, hq, hq2⟩ := inR_nat h1 (by omega)
      have hc : c < s 0 1 := by omega
      have hq : q < s 0 0 := by omega
      have h5 := w1.2.1
      have h8 := w1.1
      obtain ⟨f, e1, e2⟩ := p_asideR hN w1 h17 w4
      rw [e1, o_bd_some, p_hoursOf hN w1 (by omega) (by rw [sR_at]; exact e2) hc hq, o_bd_some]
      refine ⟨nI (hrs s (othN s c (s 0 1)) c q (s 0 3)), u, sR v 9 0 5 f, ?_, rfl, h.quiet (FrC.rfl' u) QR.side⟩
      unfold f_X0_hoursFor
      have hlt : setN s 1 (s 0 1) < 32 := by
        have h1 := setN_lt s 1 (s 0 1)
        have h2 : 2 ^ s 0 1 ≤ 2 ^ 5 := Nat.pow_le_pow_right (by decide) h5
        omega
      have ht1 : f_X0_thoseWho N (9 * 0) 1 u = _ := p_those (N := N) (i := 9 * 0) (w := 1) (t := u) (s := s) hN w1 (by omega) w3
      rw [ht1, o_bd_some]
      simp only []
      have hcl := clrB_le (setN s 1 (s 0 1)) c
      rw [nI_clr (by omega) (by omega), p_bitc (by omega), o_bd_some]
      have hp := pc_clr (setN s 1 (s 0 1)) hlt c (by omega)
      rw [setN_bit (s 0 1) hc, pc_set h5, ← oth_self (s 0 1) (by omega) hc] at hp
      rw [show pc5 (clrB (setN s 1 (s 0 1)) c) = othN s c (s 0 1) by omega]
      have e3 : u.1 0 (9 * 0) 0 3 = nI (s 0 3) := w3.1.2.2.2.1
      simp only [e3]
      rw [p_among w1 w3 hc hq (by omega)]
      rfl
    · rw [hC.2 h1, hD.2 h1, o_bd_some, o_bd_some]
      exact ⟨-1, u, v, rfl, rfl, h⟩
  · rw [hA.2 h0, hB.2 h0, o_bd_some, o_bd_some]
    exact ⟨-1, u, v, rfl, rfl, h⟩
theorem p_behind7 {N n : Nat} {t : Mm} {s : Sx} (hN : 300 ≤ N) (hn : n ≤ 100) (hs : wfS s) (hh : s 0 3 ≤ 19000) (hF : FR (t.1 0 18) s) : ∃ t' : Mm, f_X1_behind_7 N (9 * 0) (nI n) 0 t = some t' ∧ (∀ a b, ¬ (a = 0 ∧ b = 18) → t'.1 a b = t.1 a b) ∧ t'.2 = t.2 ∧ FR (t'.1 0 18) (IT lowF s n) := by
  refine lp_up (body := fun k x => b_X1_behind_7 N (9 * 0) k x.1 x.2.1 x.2.2) (fun o => ∃ t' : Mm, o = some t' ∧ (∀ a b, ¬ (a = 0 ∧ b = 18) → t'.1 a b = t.1 a b) ∧ t'.2 = t.2 ∧ FR (t'.1 0 18) (IT lowF s n)) (fun k x => ∃ t1 : Mm, x = (nI n, nI k, t1) ∧ (∀ a b, ¬ (a = 0 ∧ b = 18) → t1.1 a b = t.1 a b) ∧ t1.2 = t.2 ∧ FR (t1.1 0 18) (IT lowF s k)) n (fun K x hx => ?_) (fun K k x hk hx => ?_) N 0 (nI n, 0, t) (by omega) (by omega) ⟨t, rfl, fun _ _ _ => rfl, rfl, hF⟩
  · obtain ⟨t1, rfl, a1, a2, a3⟩ := hx
    refine ⟨t1, ?_, a1, a2, a3⟩
    show b_X1_behind_7 N (9 * 0) K (nI n) (nI n) t1 = _
    unfold b_X1_behind_7
    rw [if_pos Int32.le_rfl]
  · obtain ⟨t1, rfl, a1, a2, a3⟩ := hx
    right
    show ∃ x', _ ∧ b_X1_behind_7 N (9 * 0) K (nI n) (nI k) t1 = _
    unfold b_X1_behind_7
    have c1 : ¬ nI n ≤ nI k := fun z => absurd ((nIle (by omega) (by omega)).mp z) (by omega)
    obtain ⟨t2, b1, b2, b3, b4⟩ := p_pass (N := N) (i := 18) hN (wf_IT hs k) (by rw [IT_hour]; omega) a3
    rw [if_neg c1, b1, o_bd_some, nI_1]
    exact ⟨_, ⟨t2, rfl, fun a b z => (b2 a b z).trans (a1 a b z), b3.trans a2, b4⟩, rfl⟩
theorem p_goHours {N n : Nat} {t : Mm} {s : Sx} {fq : Sx → Nat → Nat} (hN : 300 ≤ N) (hn : n ≤ 100) (hs : wfS s) (hh : s 0 3 ≤ 19000) (hR : SD t (t.1 9 0 5) s) (hT : HT t (s 0 0) fq) : ∃ f, f_X8_goHours N (nI n) t = some (sR t 9 0 5 f) ∧ SD t f (IT fq s n) := by
  refine lp_up (body := fun k x => b_X8_goHours_2 N k x.1 x.2.1 x.2.2) (fun o => ∃ f, o = some (sR t 9 0 5 f) ∧ SD t f (IT fq s n)) (fun k x => ∃ f, x = (nI n, nI k, sR t 9 0 5 f) ∧ SD t f (IT fq s k)) n (fun K x hx => ?_) (fun K k x hk hx => ?_) N 0 (nI n, 0, t) (by omega) (by omega) ⟨t.1 9 0 5, by rw [sR_self]; rfl, hR⟩
  · obtain ⟨f, rfl, a1⟩ := hx
    refine ⟨f, ?_, a1⟩
    show b_X8_goHours_2 N K (nI n) (nI n) (sR t 9 0 5 f) = _
    unfold b_X8_goHours_2
    rw [if_pos Int32.le_rfl]
  · obtain ⟨f, rfl, a1⟩ := hx
    right
    show ∃ x', _ ∧ b_X8_goHours_2 N K (nI n) (nI k) (sR t 9 0 5 f) = _
    unfold b_X8_goHours_2
    have c1 : ¬ nI n ≤ nI k := fun z => absurd ((nIle (by omega) (by omega)).mp z) (by omega)
    obtain ⟨g, b1, b2⟩ := p_goHour (N := N) (t := sR t 9 0 5 f) (s := IT fq s k) (fq := fq) hN (wf_IT hs k) (by rw [IT_hour]; omega) (by rw [sR_at]; exact a1) (by rw [IT_keep (by unfold fixd; omega)]; exact hT)
    rw [if_neg c1, b1, o_bd_some, nI_1, sR_sR]
    exact ⟨_, ⟨g, rfl, b2⟩, rfl⟩
theorem HT_low {v : Mm} {Q : Nat} (h : v.1 9 0 0 19 = 0) : HT v Q lowF := Or.inl ⟨h, rfl⟩
theorem op_then (N : Nat) (hN : 300 ≤ N) : Op_then N Rel := by
  intro u v h a0 a1
  obtain ⟨⟨⟨s, w1, w2, w3, w4⟩, hU⟩, -, -, -, h17, h19⟩ := id h
  unfold f_X7_then f_X8_then
  have hA := p_out (a := a0) (lo := 0) (hi := 100) (l := 0) (h := 100) u rfl rfl
  have hB := p_in (a := a0) (lo := 0) (hi := 100) (l := 0) (h := 100) v rfl rfl
  by_cases h0 : inR a0 0 100
  · rw [hA.1 h0, hB.1 h0, o_bd_some, o_bd_some]
    simp only [if_neg one_ne, ite_true]
    have hC := p_out (a := a1) (lo := 0) (hi := 2) (l := 0) (h := 2) u rfl rfl
    have hD := p_in (a := a1) (lo := 0) (hi := 2) (l := 0) (h := 2) v rfl rfl
    by_cases h1 : inR a1 0 2
    · rw [hC.1 h1, hD.1 h1, o_bd_some, o_bd_some]
      simp only [if_neg one_ne, ite_true]
      obtain ⟨n, rfl, -, hn, hn2⟩ := inR_nat h0 (by omega)
      obtain ⟨z, rfl, -, hz, hz2⟩ := inR_nat h1 (by omega)
      obtain ⟨f, e1, e2⟩ := p_asideR hN w1 h17 w4
      obtain ⟨g, e3, e4⟩ := p_goHours (N := N) (n := n) (t := sR v 9 0 5 f) (s := s) hN (by omega) w1 (by omega) (by rw [sR_at]; exact e2) (HT_low h19)
      rw [sR_sR] at e3
      obtain ⟨t1, b1, b2, b3, b4⟩ := p_start w1 w3
      obtain ⟨t2, d1, d2, d3, d4⟩ := p_behind7 (N := N) (n := n) hN (by omega) w1 (by omega) b4
      unfold f_X1_behind
      rw [b1, o_bd_some, d1, o_bd_some, e1, o_bd_some, e3, o_bd_some]
      have hw := wf_IT (f := lowF) w1 n
      have hq : Rel t2 (sR v 9 0 5 g) := h.quiet ((FrC.of (by unfold scr; omega) b2 b3).tr (FrC.of (by unfold scr; omega) d2 d3)) QR.side
      have e4 : SD v g (IT lowF s n) := e4
      have hp := fun w hw' => p_placed (N := N) (w := w) (t := sR v 9 0 5 g) (s := IT lowF s n) hN hw hw' (by rw [sR_at]; exact e4)
      have ht := fun w hw' => p_those (N := N) (i := 18) (w := w) (t := t2) (s := IT lowF s n) hN hw hw' d4
      rcases (show z = 0 ∨ z = 1 ∨ z = 2 by omega) with rfl | rfl | rfl
      · refine ⟨nI (setN (IT lowF s n) 1 (IT lowF s n 0 1)), t2, _, ?_, ?_, hq⟩
        · show o_bd (f_X0_thoseWho N 18 (nI 1) t2) _ = _
          rw [ht 1 (by omega), o_bd_some]
        · show o_bd (f_X8_placed N (nI 1) _) _ = _
          rw [hp 1 (by omega), o_bd_some]
      · refine ⟨nI (setN (IT lowF s n) 2 (IT lowF s n 0 1)), t2, _, ?_, ?_, hq⟩
        · show o_bd (f_X0_thoseWho N 18 (nI 2) t2) _ = _
          rw [ht 2 (by omega), o_bd_some]
        · show o_bd (f_X8_placed N (nI 2) _) _ = _
          rw [hp 2 (by omega), o_bd_some]
      · refine ⟨nI (IT lowF s n 0 2), t2, _, ?_, ?_, hq⟩
        · show some (t2.1 0 18 0 2, t2) = _
          rw [d4.1.2.2.1]
        · show some (g 0, _) = _
          rw [e4.1.2.2.1]
    · rw [hC.2 h1, hD.2 h1, o_bd_some, o_bd_some]
      exact ⟨-1, u, v, rfl, rfl, h⟩
  · rw [hA.2 h0, hB.2 h0, o_bd_some, o_bd_some]
    exact ⟨-1, u, v, rfl, rfl, h⟩
