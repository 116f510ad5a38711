/-! film -/
/-- items written one by one -/
def wrF (g it : Nat → Int64) (a : Nat) : Nat → Nat → Int64
  | 0 => g
  | k + 1 => vp_updL (wrF g it a k) (a + k) (it k)
theorem wrF_at {g it : Nat → Int64} {a : Nat} : ∀ n j, wrF g it a n j = if a ≤ j ∧ j < a + n then it (j - a) else g j
  | 0, j => by rw [if_neg (by omega)]; rfl
  | n + 1, j => by
    show vp_updL (wrF g it a n) (a + n) (it n) j = _
    unfold vp_updL
    by_cases e : j = a + n
    · rw [if_pos e, if_pos (by omega), e, Nat.add_sub_cancel_left]
    · rw [if_neg e, wrF_at n j]
      by_cases c : a ≤ j ∧ j < a + n
      · rw [if_pos c, if_pos (by omega)]
      · rw [if_neg c, if_neg (by omega)]
theorem low_small : ∀ x, x < 6 → ∀ l, l < 4 → lowB l (nI x).toInt64 = (nI x).toInt64 := by decide +kernel
theorem p_filmC {N j k m z l : Nat} {t : Mm} {s : Sx} (hN : 300 ≤ N) (hs : wfS s) (hh : s 0 3 ≤ 9999) (hF : FR (t.1 0 0) s) (hj : j < 4) (hl : l < 4) (hz : z ≤ 24) (h1 : t.1 2 j 0 1 = nI z) (h2 : t.1 2 j 0 0 = nI l) (hkm : k + m ≤ z) : ∃ t' : Mm, f_X1_writeFilm N (9 * 0) j (nI k) (nI m) t = some t' ∧ (∀ a b, ¬ scr a b → t'.1 a b = t.1 a b) ∧ (∀ q, q ≠ j → t'.2 q = t.2 q) ∧ t'.2 j = wrF (t.2 j) (fun h => (nI (inM (IT lowF s (h + 1)))).toInt64) k m := by
  unfold f_X1_writeFilm
  obtain ⟨t0, s1, s2, s3, s4⟩ := p_start hs hF
  rw [s1, o_bd_some]
  refine lp_up (body := fun k x => b_X1_writeFilm_8 N (9 * 0) j k x.1 x.2.1 x.2.2.1 x.2.2.2) (fun o => ∃ t' : Mm, o = some t' ∧ (∀ a b, ¬ scr a b → t'.1 a b = t.1 a b) ∧ (∀ q, q ≠ j → t'.2 q = t.2 q) ∧ t'.2 j = wrF (t.2 j) (fun h => (nI (inM (IT lowF s (h + 1)))).toInt64) k m) (fun q x => ∃ t1 : Mm, x = (nI k, nI m, nI q, t1) ∧ (∀ a b, ¬ (a = 0 ∧ b = 18) → t1.1 a b = t.1 a b) ∧ (∀ q, q ≠ j → t1.2 q = t.2 q) ∧ t1.2 j = wrF (t.2 j) (fun h => (nI (inM (IT lowF s (h + 1)))).toInt64) k q ∧ FR (t1.1 0 18) (IT lowF s q)) m (fun K x hx => ?_) (fun K q x hq hx => ?_) N 0 (nI k, nI m, 0, t0) (by omega) (by omega) ⟨t0, rfl, s2, fun q _ => by rw [s3], by rw [s3]; rfl, s4⟩
  · obtain ⟨t1, rfl, a1, a2, a3, a4⟩ := hx
    refine ⟨t1, ?_, fun a b h => a1 a b (fun z => h (by unfold scr; omega)), a2, a3⟩
    show b_X1_writeFilm_8 N (9 * 0) j K (nI k) (nI m) (nI m) t1 = _
    unfold b_X1_writeFilm_8
    rw [if_pos Int32.le_rfl]
  · obtain ⟨t1, rfl, a1, a2, a3, a4⟩ := hx
    right
    have c1 : ¬ nI m ≤ nI q := fun z => absurd ((nIle (by omega) (by omega)).mp z) (by omega)
    obtain ⟨t2, b1, b2, b3, b4⟩ := p_pass (N := N) (i := 18) hN (wf_IT (f := lowF) hs q) (by rw [IT_hour]; omega) a4
    have hw := wf_IT (f := lowF) hs (q + 1)
    have hm : f_X1_howManyIn N t2 = some (nI (inM (IT lowF s (q + 1))), t2) := p_howMany hN hw b4
    have hle := inM_le hw
    have e1 : t2.1 2 j 0 1 = nI z := by rw [b2 2 j (by omega), a1 2 j (by omega)]; exact h1
    have e2 : t2.1 2 j 0 0 = nI l := by rw [b2 2 j (by omega), a1 2 j (by omega)]; exact h2
    have f1 : f_X3_write j (nI k + nI q) (nI (inM (IT lowF s (q + 1)))).toInt64 t2 = some (sJ t2 j (k + q) (nI (inM (IT lowF s (q + 1)))).toInt64) := by
      unfold f_X3_write f_X3_holds
      have n1 : ¬ nI (k + q) < 0 := nI_pos (by omega)
      have i2 : o_inb (nI (k + q)) 24 = true := inb_nI (by omega) (by omega)
      have c3 : ¬ nI z - 1 < nI (k + q) := by
        rw [show (1 : Int32) = nI 1 from rfl, pk_sub (by omega)]
        exact fun y => absurd ((nIlt (by omega) (by omega)).mp y) (by omega)
      rw [nI_add, e1]
      simp only [if_neg n1, if_neg (show ¬ (1 : Int32) < 0 by decide), if_neg c3, o_bd_some, if_neg one_ne]
      rw [p_low e2 hl, o_bd_some]
      simp only [if_pos i2, cl_nI (show k + q < 2147483648 by omega), o_nm]
      rw [low_small _ (by omega) l hl]
    show ∃ x', _ ∧ b_X1_writeFilm_8 N (9 * 0) j K (nI k) (nI m) (nI q) t1 = _
    unfold b_X1_writeFilm_8
    simp only [if_neg c1, b1, o_bd_some, hm, f1, nI_1]
    refine ⟨_, ⟨sJ t2 j (k + q) (nI (inM (IT lowF s (q + 1)))).toInt64, rfl, fun a b h => (b2 a b h).trans (a1 a b h), fun q' h' => ?_, ?_, b4⟩, rfl⟩
    · unfold sJ
      rw [sL_off h', b3]
      exact a2 q' h'
    · unfold sJ
      rw [sL_at, b3, a3]
      rfl
theorem p_filmR {N j k m : Nat} {v : Mm} {s : Sx} (hN : 300 ≤ N) (hj : j < 4) (hs : wfS s) (hh : s 0 3 ≤ 9999) (h19 : v.1 9 0 0 19 = 0) (hR : SD v (v.1 9 0 5) s) (hkm : k + m ≤ 24) : ∃ f, f_X8_film_54 N (nI m) (nI j) (nI k) 0 v = some (nI m, sL (sR v 9 0 5 f) 0 (wrF (v.2 0) (fun h => (nI (inM (IT lowF s (h + 1)))).toInt64) (24 * j + k) m)) := by
  refine lp_up (body := fun k x => b_X8_film_54 N k x.1 x.2.1 x.2.2.1 x.2.2.2.1 x.2.2.2.2) (fun o => ∃ f, o = some (nI m, sL (sR v 9 0 5 f) 0 (wrF (v.2 0) (fun h => (nI (inM (IT lowF s (h + 1)))).toInt64) (24 * j + k) m))) (fun q x => ∃ f, x = (nI m, nI j, nI k, nI q, sL (sR v 9 0 5 f) 0 (wrF (v.2 0) (fun h => (nI (inM (IT lowF s (h + 1)))).toInt64) (24 * j + k) q)) ∧ SD v f (IT lowF s q)) m (fun K x hx => ?_) (fun K q x hq hx => ?_) N 0 (nI m, nI j, nI k, 0, v) (by omega) (by omega) ⟨v.1 9 0 5, ?_, hR⟩
  · obtain ⟨f, rfl, a1⟩ := hx
    refine ⟨f, ?_⟩
    show b_X8_film_54 N K (nI m) (nI j) (nI k) (nI m) _ = _
    unfold b_X8_film_54
    rw [if_pos Int32.le_rfl]
  · obtain ⟨f, rfl, a1⟩ := hx
    right
    have c1 : ¬ nI m ≤ nI q := fun z => absurd ((nIle (by omega) (by omega)).mp z) (by omega)
    generalize hW : wrF (v.2 0) (fun h => (nI (inM (IT lowF s (h + 1)))).toInt64) (24 * j + k) q = W
    obtain ⟨g, b1, b2⟩ := p_goHour (N := N) (t := sL (sR v 9 0 5 f) 0 W) (s := IT lowF s q) (fq := lowF) hN (wf_IT (f := lowF) hs q) (by rw [IT_hour]; omega) (by show SD v ((sR v 9 0 5 f).1 9 0 5) _; rw [sR_at]; exact a1) (HT_low h19)
    have eS : sR (sL (sR v 9 0 5 f) 0 W) 9 0 5 g = sL (sR v 9 0 5 g) 0 W := by
      show sL (sR (sR v 9 0 5 f) 9 0 5 g) 0 W = _
      rw [sR_sR]
    rw [eS] at b1
    have hw := wf_IT (f := lowF) hs (q + 1)
    have hm : f_X8_inMany N (sL (sR v 9 0 5 g) 0 W) = some (nI (inM (IT lowF s (q + 1))), sL (sR v 9 0 5 g) 0 W) := p_inMany hN hw (by show SD v ((sR v 9 0 5 g).1 9 0 5) _; rw [sR_at]; exact b2)
    have e24 : (24 : Int32) * nI j + nI k + nI q = nI (24 * j + k + q) := by rw [show (24 : Int32) = nI 24 from rfl, pk_mul, nI_add, nI_add]
    have i1 : o_inb (nI (24 * j + k + q)) 96 = true := inb_nI (by omega) (by omega)
    have eJ : sJ (sL (sR v 9 0 5 g) 0 W) 0 (24 * j + k + q) (nI (inM (IT lowF s (q + 1)))).toInt64 = sL (sR v 9 0 5 g) 0 (vp_updL W (24 * j + k + q) (nI (inM (IT lowF s (q + 1)))).toInt64) := by
      unfold sJ
      rw [sL_at, sL_sL]
    show ∃ x', _ ∧ b_X8_film_54 N K (nI m) (nI j) (nI k) (nI q) (sL (sR v 9 0 5 f) 0 W) = _
    unfold b_X8_film_54
    simp only [if_neg c1, b1, o_bd_some, hm, e24, if_pos i1, cl_nI (show 24 * j + k + q < 2147483648 by omega), o_nm, eJ, nI_1]
    refine ⟨_, ⟨g, ?_, b2⟩, rfl⟩
    rw [← hW]
    rfl
  · have : sL (sR v 9 0 5 (v.1 9 0 5)) 0 (v.2 0) = v := by
      rw [sR_self, sL_self]
    show _ = (nI m, nI j, nI k, nI 0, sL (sR v 9 0 5 (v.1 9 0 5)) 0 (v.2 0))
    rw [this]
    rfl
theorem Rel.items {u v u' v' : Mm} (h : Rel u v) (hC : ∀ a b, ¬ scr a b → u'.1 a b = u.1 a b) (hR : v'.1 = (sR v 9 0 5 (v'.1 9 0 5)).1) (hi : ∀ j z, j < 4 → z ≤ 24 → u.1 2 j 0 1 = nI z → (∀ q, q < z → u.2 j q = v.2 0 (24 * j + q)) → ∀ q, q < z → u'.2 j q = v'.2 0 (24 * j + q)) : Rel u' v' := by
  have h1 : Rel (u'.1, u.2) (v'.1, v.2) := by
    refine h.quiet ⟨fun a b z => hC a b z, rfl⟩ ?_
    rw [hR]
    exact QR.side (v := v)
  refine h1.sheets ?_ rfl rfl rfl (fun _ _ _ => rfl)
  intro j hj
  obtain ⟨e1, e2, e3⟩ := h1.2.2.1 j hj
  refine ⟨e1, e2, ?_⟩
  rcases e3 with e3 | ⟨z, l, z1, z2, z3, z4, z5⟩
  · exact Or.inl e3
  · refine Or.inr ⟨z, l, z1, z2, z3, z4, hi j z hj z1 ?_ z5⟩
    rw [← hC 2 j (by unfold scr; omega)]
    exact z3
theorem op_film (N : Nat) (hN : 300 ≤ N) : Op_film N Rel := by
  intro u v h a0 a1 a2 a3
  obtain ⟨⟨⟨s, w1, w2, w3, w4⟩, hU⟩, -, -, -, h17, h19⟩ := id h
  unfold f_X7_film f_X8_film
  have hA := p_out (a := a0) (lo := 1) (hi := 24) (l := 1) (h := 24) u rfl rfl
  have hB := p_in (a := a0) (lo := 1) (hi := 24) (l := 1) (h := 24) v rfl rfl
  by_cases h0 : inR a0 1 24
  · rw [hA.1 h0, hB.1 h0, o_bd_some, o_bd_some]
    simp only [if_neg one_ne, ite_true]
    by_cases h1 : inR a1 0 3
    · rw [(p_noSh.1 h1).1, (p_isSh.1 h1).1, o_bd_some, o_bd_some]
      simp only [if_neg one_ne, ite_true]
      by_cases h2 : inR a2 0 3
      · rw [(p_noSh.1 h2).2, (p_isSh.1 h2).2, o_bd_some, o_bd_some]
        simp only [if_neg one_ne, ite_true]
        obtain ⟨j, rfl, -, hj, hj2⟩ := inR_nat h1 (by omega)
        have i1 : o_inb (nI j) 4 = true := inb_nI (by omega) (by omega)
        rw [if_pos i1, cl_nI hj2]
        obtain ⟨r, b1, b2, b3⟩ := p_check h (show j < 4 by omega) a2 a3 a0
        rw [b1, b2, o_bd_some, o_bd_some]
        by_cases er : r = 0
        · obtain ⟨k, m, z, l, rfl, rfl, e1, e2, e3, e4, e5, e6⟩ := b3 er
          simp only [if_pos er]
          obtain ⟨t1, d1, d2, d3, d4⟩ := p_filmC (N := N) (j := j) (k := k) (m := m) hN w1 w2 w3 (by omega) e3 e2 e4 e5 e1
          obtain ⟨f, g1, g2⟩ := p_asideR hN w1 h17 w4
          obtain ⟨f', g3⟩ := p_filmR (N := N) (j := j) (k := k) (m := m) (v := sR v 9 0 5 f) (s := s) hN (by omega) w1 w2 h19 (by rw [sR_at]; exact g2) (by omega)
          rw [sR_sR] at g3
          rw [d1, o_bd_some, g1, o_bd_some, g3]
          refine ⟨nI m, t1, _, rfl, rfl, h.items d2 ?_ (fun j' z' hj' hz' ez hq q hlt => ?_)⟩
          · show (sR v 9 0 5 f').1 = (sR v 9 0 5 ((sR v 9 0 5 f').1 9 0 5)).1
            rw [sR_at]
          · rw [sL_at, wrF_at]
            by_cases e : j' = j
            · subst e
              rw [d4, wrF_at]
              by_cases c : k ≤ q ∧ q < k + m
              · rw [if_pos c, if_pos (by omega), show 24 * j' + q - (24 * j' + k) = q - k by omega]
              · rw [if_neg c, if_neg (by omega)]
                exact hq q hlt
            · rw [d3 j' e, if_neg (by omega)]
              exact hq q hlt
        · simp only [if_neg er]
          exact ⟨r, u, v, rfl, rfl, h⟩
      · rw [(p_noSh.2 h2).2, (p_isSh.2 h2).2, o_bd_some, o_bd_some]
        exact ⟨-1, u, v, rfl, rfl, h⟩
    · rw [(p_noSh.2 h1).1, (p_isSh.2 h1).1, o_bd_some, o_bd_some]
      exact ⟨-1, u, v, rfl, rfl, h⟩
  · rw [hA.2 h0, hB.2 h0, o_bd_some, o_bd_some]
    exact ⟨-1, u, v, rfl, rfl, h⟩
/-! copy -/
/-- what the reference's loop has written behind k rounds -/
def cpF (g : Nat → Int64) (a b n k : Nat) (up : Bool) : Nat → Int64 := fun q => if b ≤ q ∧ q < b + n ∧ (if up then q < b + k else b + n ≤ q + k) then g (a + (q - b)) else g q
theorem p_copyR {N a b n fr i to j : Nat} {v : Mm} (hN : 300 ≤ N) (hf : fr < 4) (ht : to < 4) (hi : i + n ≤ 24) (hj : j + n ≤ 24) (ha : a = 24 * fr + i) (hb : b = 24 * to + j) (ho : fr = to ∨ a + 24 ≤ b + i ∨ b + 24 ≤ a + j + 24) (hsep : fr ≠ to → a + n ≤ b ∨ b + n ≤ a) : ∃ W, f_X8_copy_84 N (nI fr) (nI i) (nI to) (nI j) (nI n) 0 v = some (nI n, sL v 0 W) ∧ ∀ q, W q = if b ≤ q ∧ q < b + n then v.2 0 (a + (q - b)) else v.2 0 q := by
  refine lp_up (body := fun k x => b_X8_copy_84 N k x.1 x.2.1 x.2.2.1 x.2.2.2.1 x.2.2.2.2.1 x.2.2.2.2.2.1 x.2.2.2.2.2.2) (fun o => ∃ W, o = some (nI n, sL v 0 W) ∧ ∀ q, W q = if b ≤ q ∧ q < b + n then v.2 0 (a + (q - b)) else v.2 0 q) (fun k x => x = (nI fr, nI i, nI to, nI j, nI n, nI k, sL v 0 (cpF (v.2 0) a b n k (decide (j ≤ i))))) n (fun K x hx => ?_) (fun K k x hk hx => ?_) N 0 (nI fr, nI i, nI to, nI j, nI n, 0, v) (by omega) (by omega) ?_
  · subst hx
    refine ⟨cpF (v.2 0) a b n n (decide (j ≤ i)), ?_, fun q => ?_⟩
    · show b_X8_copy_84 N K (nI fr) (nI i) (nI to) (nI j) (nI n) (nI n) _ = _
      unfold b_X8_copy_84
      rw [if_pos Int32.le_rfl]
    · unfold cpF
      by_cases c : b ≤ q ∧ q < b + n
      · rw [if_pos c, if_pos ⟨c.1, c.2, by split <;> omega⟩]
      · rw [if_neg c, if_neg (fun z => c ⟨z.1, z.2.1⟩)]
  · subst hx
    right
    refine ⟨_, rfl, ?_⟩
    have c1 : ¬ nI n ≤ nI k := fun z => absurd ((nIle (by omega) (by omega)).mp z) (by omega)
    have cij : nI i < nI j ↔ i < j := nIlt (by omega) (by omega)
    show b_X8_copy_84 N K (nI fr) (nI i) (nI to) (nI j) (nI n) (nI k) (sL v 0 (cpF (v.2 0) a b n k (decide (j ≤ i)))) = _
    have h109 : ∀ p, p < n → (∀ q, cpF (v.2 0) a b n (k + 1) (decide (j ≤ i)) q = vp_updL (cpF (v.2 0) a b n k (decide (j ≤ i))) (b + p) (cpF (v.2 0) a b n k (decide (j ≤ i)) (a + p)) q) → f_X8_copy_109 N K (nI fr) (nI i) (nI to) (nI j) (nI n) (nI k) (nI p) (sL v 0 (cpF (v.2 0) a b n k (decide (j ≤ i)))) = K (nI fr, nI i, nI to, nI j, nI n, nI (k + 1), sL v 0 (cpF (v.2 0) a b n (k + 1) (decide (j ≤ i)))) := by
      intro p hp hq
      unfold f_X8_copy_109
      have e1 : (24 : Int32) * nI fr + nI i + nI p = nI (a + p) := by rw [show (24 : Int32) = nI 24 from rfl, pk_mul, nI_add, nI_add, ha]
      have e2 : (24 : Int32) * nI to + nI j + nI p = nI (b + p) := by rw [show (24 : Int32) = nI 24 from rfl, pk_mul, nI_add, nI_add, hb]
      have i1 : o_inb (nI (a + p)) 96 = true := inb_nI (by omega) (by omega)
      have i2 : o_inb (nI (b + p)) 96 = true := inb_nI (by omega) (by omega)
      simp only [e1, e2, if_pos i1, if_pos i2, cl_nI (show a + p < 2147483648 by omega), cl_nI (show b + p < 2147483648 by omega), o_nm, nI_1]
      unfold sJ
      rw [sL_at, sL_sL, ← funext hq]
    unfold b_X8_copy_84
    rw [if_neg c1]
    simp only [cij]
    by_cases g : i < j
    · rw [if_pos g]
      have ep : nI n - 1 - nI k = nI (n - 1 - k) := by rw [show (1 : Int32) = nI 1 from rfl, pk_sub (by omega), pk_sub (by omega)]
      rw [ep]
      refine h109 (n - 1 - k) (by omega) (fun q => ?_)
      have ed : decide (j ≤ i) = false := decide_eq_false (by omega)
      rw [ed]
      have hr : cpF (v.2 0) a b n k false (a + (n - 1 - k)) = v.2 0 (a + (n - 1 - k)) := by
        unfold cpF
        simp only [Bool.false_eq_true, if_false]
        rw [if_neg (by omega)]
      have hl : cpF (v.2 0) a b n (k + 1) false (b + (n - 1 - k)) = v.2 0 (a + (n - 1 - k)) := by
        unfold cpF
        simp only [Bool.false_eq_true, if_false]
        rw [if_pos (by omega), Nat.add_sub_cancel_left]
      rw [hr]
      unfold vp_updL
      by_cases y : q = b + (n - 1 - k)
      · rw [if_pos y, y]
        exact hl
      · rw [if_neg y]
        unfold cpF
        simp only [Bool.false_eq_true, if_false]
        by_cases c : b ≤ q ∧ q < b + n ∧ b + n ≤ q + k
        · rw [if_pos c, if_pos (by omega)]
        · rw [if_neg c, if_neg (by omega)]
    · rw [if_neg g]
      refine h109 k hk (fun q => ?_)
      have ed : decide (j ≤ i) = true := decide_eq_true (by omega)
      rw [ed]
      have hr : cpF (v.2 0) a b n k true (a + k) = v.2 0 (a + k) := by
        unfold cpF
        simp only [if_true]
        rw [if_neg (by omega)]
      have hl : cpF (v.2 0) a b n (k + 1) true (b + k) = v.2 0 (a + k) := by
        unfold cpF
        simp only [if_true]
        rw [if_pos (by omega), Nat.add_sub_cancel_left]
      rw [hr]
      unfold vp_updL
      by_cases y : q = b + k
      · rw [if_pos y, y]
        exact hl
      · rw [if_neg y]
        unfold cpF
        simp only [if_true]
        by_cases c : b ≤ q ∧ q < b + n ∧ q < b + k
        · rw [if_pos c, if_pos (by omega)]
        · rw [if_neg c, if_neg (by omega)]
  · have : cpF (v.2 0) a b n 0 (decide (j ≤ i)) = v.2 0 := by
      funext q
      unfold cpF
      rw [if_neg (fun z => by
        have h3 := z.2.2
        split at h3 <;> omega)]
    rw [this, sL_self]
    rfl
theorem op_copy (N : Nat) (hN : 300 ≤ N) : Op_copy N Rel := by
  intro u v h a0 a1 a2 a3 a4
  have hS := h.2.2.1
  unfold f_X7_copy f_X8_copy
  by_cases h0 : inR a0 0 3
  · rw [(p_noSh.1 h0).1, (p_isSh.1 h0).1, o_bd_some, o_bd_some]
    simp only [if_neg one_ne, ite_true]
    by_cases h2 : inR a2 0 3
    · rw [(p_noSh.1 h2).1, (p_isSh.1 h2).1, o_bd_some, o_bd_some]
      simp only [if_neg one_ne, ite_true]
      obtain ⟨fr, rfl, -, hfr, hfr2⟩ := inR_nat h0 (by omega)
      obtain ⟨to, rfl, -, hto, hto2⟩ := inR_nat h2 (by omega)
      have hfr : fr < 4 := by omega
      have hto : to < 4 := by omega
      have i1 : o_inb (nI fr) 4 = true := inb_nI hfr (by omega)
      have i2 : o_inb (nI to) 4 = true := inb_nI hto (by omega)
      obtain ⟨e1, e2, e3⟩ := hS fr hfr
      obtain ⟨g1, g2, g3⟩ := hS to hto
      unfold f_X3_isMissing
      simp only [if_pos i1, if_pos i2, cl_nI hfr2, cl_nI hto2]
      have hneg : ∀ z : Nat, z ≤ 24 → ¬ nI z = -1 := fun z hz q => by
        have := congrArg Int32.toInt q
        rw [nI_toInt (by omega)] at this
        have e : (-1 : Int32).toInt = -1 := rfl
        omega
      rcases e3 with e3 | ⟨z, l, z1, z2, z3, z4, z5⟩
      · rw [if_pos e3, o_bd_some, if_pos (show v.1 9 0 14 fr < 0 by rw [← e2, e3]; decide)]
        exact ⟨-11, u, v, rfl, rfl, h⟩
      · rw [if_neg (by rw [z3]; exact hneg z z1), o_bd_some, if_neg (show ¬ v.1 9 0 14 fr < 0 by rw [← e2, z3]; exact nI_pos (by omega))]
        simp only [ite_true]
        rcases g3 with g3 | ⟨y, l', y1, y2, y3, y4, y5⟩
        · rw [if_pos g3, o_bd_some, if_neg (show ¬ (0 : Int32) ≤ v.1 9 0 14 to by rw [← g2, g3]; decide)]
          exact ⟨-11, u, v, rfl, rfl, h⟩
        · rw [if_neg (by rw [y3]; exact hneg y y1), o_bd_some, if_pos (show (0 : Int32) ≤ v.1 9 0 14 to by rw [← g2, y3]; exact nI_pos' (by omega))]
          simp only [ite_true]
          rw [← e1, ← g1]
          by_cases el : u.1 2 fr 0 0 = u.1 2 to 0 0
          · rw [if_pos el, if_pos el, p_span hfr (e2.symm.trans z3) z1, o_bd_some]
            unfold f_X3_holds
            simp only [z3, y3]
            by_cases c1 : a1 < 0
            · simp only [if_pos c1, o_bd_some, ite_true]
              exact ⟨-13, u, v, rfl, rfl, h⟩
            · by_cases c4 : a4 < 0
              · simp only [if_neg c1, if_pos c4, o_bd_some, ite_true]
                exact ⟨-13, u, v, rfl, rfl, h⟩
              · by_cases c3 : nI z - a4 < a1
                · simp only [if_neg c1, if_neg c4, if_pos c3, o_bd_some, ite_true]
                  exact ⟨-13, u, v, rfl, rfl, h⟩
                · simp only [if_neg c1, if_neg c4, if_neg c3, o_bd_some, if_neg one_ne, p_span hto (g2.symm.trans y3) y1, y3]
                  by_cases d1 : a3 < 0
                  · simp only [if_pos d1, o_bd_some, ite_true]
                    exact ⟨-13, u, v, rfl, rfl, h⟩
                  · by_cases d3 : nI y - a4 < a3
                    · simp only [if_neg d1, if_pos d3, o_bd_some, ite_true]
                      exact ⟨-13, u, v, rfl, rfl, h⟩
                    · have s1 := mt (span_iff z1 c1 c4).mpr c3
                      have s2 := mt (span_iff y1 d1 c4).mpr d3
                      have n1 := c1
                      have n3 := d1
                      have n4 := c4
                      have e0 : (0 : Int32).toInt = 0 := rfl
                      rw [Int32.lt_iff_toInt_lt, e0] at n1 n3 n4
                      obtain ⟨i, rfl, -, hi, hi2⟩ := inR_nat (a := a1) (l := 0) (h := 24) ⟨by omega, by omega⟩ (by omega)
                      obtain ⟨j, rfl, -, hj, hj2⟩ := inR_nat (a := a3) (l := 0) (h := 24) ⟨by omega, by omega⟩ (by omega)
                      obtain ⟨n, rfl, -, hn, hn2⟩ := inR_nat (a := a4) (l := 0) (h := 24) ⟨by omega, by omega⟩ (by omega)
                      rw [nI_toInt (by omega), nI_toInt (by omega)] at s1 s2
                      obtain ⟨W, m1, m2⟩ := p_copyR (N := N) (a := 24 * fr + i) (b := 24 * to + j) (n := n) (fr := fr) (i := i) (to := to) (j := j) (v := v) hN hfr hto (by omega) (by omega) rfl rfl (by omega) (by omega)
                      have hd : (decide (¬ nI i < 0) && decide (¬ nI j < 0) && decide (¬ nI n < 0) && decide (i + n ≤ 24) && decide (j + n ≤ 24)) = true := by
                        rw [decide_eq_true c1, decide_eq_true d1, decide_eq_true c4, decide_eq_true (show i + n ≤ 24 by omega), decide_eq_true (show j + n ≤ 24 by omega)]
                        rfl
                      simp only [if_neg d1, if_neg d3, o_bd_some, if_neg one_ne, cl_nI hi2, cl_nI hj2, cl_nI hn2, if_pos hd, m1, o_nm]
                      refine ⟨nI n, _, _, rfl, rfl, h.sheets (fun p hp => ?_) rfl rfl rfl (fun _ _ _ => rfl)⟩
                      obtain ⟨t1, t2, t3⟩ := hS p hp
                      refine ⟨t1, t2, ?_⟩
                      rcases t3 with t3 | ⟨z', k', x1, x2, x3, x4, x5⟩
                      · exact Or.inl t3
                      · refine Or.inr ⟨z', k', x1, x2, x3, x4, fun q hq => ?_⟩
                        rw [sL_at, m2]
                        by_cases e : p = to
                        · subst e
                          rw [sL_at]
                          unfold va_cpy
                          by_cases c : j ≤ q ∧ q < j + n
                          · rw [if_pos c, if_pos (by omega), show 24 * fr + i + (24 * p + q - (24 * p + j)) = 24 * fr + (i + (q - j)) by omega]
                            exact z5 _ (by omega)
                          · rw [if_neg c, if_neg (by omega)]
                            exact x5 q hq
                        · rw [sL_off e, if_neg (by omega)]
                          exact x5 q hq
          · rw [if_neg el, if_neg el]
            exact ⟨-12, u, v, rfl, rfl, h⟩
    · rw [(p_noSh.2 h2).1, (p_isSh.2 h2).1, o_bd_some, o_bd_some]
      exact ⟨-1, u, v, rfl, rfl, h⟩
  · rw [(p_noSh.2 h0).1, (p_isSh.2 h0).1, o_bd_some, o_bd_some]
    exact ⟨-1, u, v, rfl, rfl, h⟩
