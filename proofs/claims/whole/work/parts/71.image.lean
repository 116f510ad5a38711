/-! copying loops of the reference -/
def cpl (g f : Nat → Int32) (a b lo E : Nat) : Nat → Int32 := fun j => if a + lo ≤ j ∧ j < a + E then f (b + (j - a)) else g j
theorem cpl_in {g f : Nat → Int32} {a b E k : Nat} (h : k < E) : cpl g f a b 0 E (a + k) = f (b + k) := by
  unfold cpl
  rw [if_pos (by omega), show a + k - a = k by omega]
theorem cpl_in0 {g f : Nat → Int32} {E k : Nat} (h : k < E) : cpl g f 0 0 0 E k = f k := by
  have := cpl_in (g := g) (f := f) (a := 0) (b := 0) h
  simpa using this
theorem cpl_out {g f : Nat → Int32} {a b E j : Nat} (h : j < a ∨ a + E ≤ j) : cpl g f a b 0 E j = g j := by
  unfold cpl
  rw [if_neg (by omega)]
theorem cpl_step {g f : Nat → Int32} {a b k E : Nat} (h : k < E) : cpl (upd g (a + k) (f (b + k))) f a b (k + 1) E = cpl g f a b k E := by
  funext j
  unfold cpl upd
  by_cases h1 : j = a + k
  · subst h1
    rw [if_neg (by omega), if_pos rfl, if_pos (by omega), show a + k - a = k by omega]
  · by_cases h2 : a + (k + 1) ≤ j ∧ j < a + E
    · rw [if_pos h2, if_pos (by omega)]
    · rw [if_neg h2, if_neg h1, if_neg (by omega)]
theorem copy_loop {ρ : Type} {body : (Int32 × Mm → Option ρ) → Int32 × Mm → Option ρ} {cont : Mm → Option ρ} {E D S a b : Nat} (hDS : S ≠ D) (h1 : ∀ K t, body K (nI E, t) = cont t) (h2 : ∀ K k t, k < E → body K (nI k, t) = K (nI (k + 1), sI t 9 0 D (a + k) (t.1 9 0 S (b + k)))) : ∀ (m k : Nat) (t : Mm), k ≤ E → E - k < m → o_lp body m (nI k, t) = cont (sR t 9 0 D (cpl (t.1 9 0 D) (t.1 9 0 S) a b k E))
  | 0, k, t, hk, hm => absurd hm (by omega)
  | m + 1, k, t, hk, hm => by
    show body (o_lp body m) (nI k, t) = _
    by_cases h : k = E
    · subst h
      rw [h1]
      have e : cpl (t.1 9 0 D) (t.1 9 0 S) a b k k = t.1 9 0 D := by
        funext j
        unfold cpl
        rw [if_neg (by omega)]
      rw [e, sR_self]
    · rw [h2 _ k t (by omega), copy_loop hDS h1 h2 m (k + 1) _ (by omega) (by omega)]
      congr 1
      show sR (sR t 9 0 D _) 9 0 D _ = _
      rw [sR_sR, sI_at, sI_off (by omega), cpl_step (by omega)]
theorem p_aside {N : Nat} (hN : 300 ≤ N) (t : Mm) : f_X8_aside N t = some (sR t 9 0 5 (cpl (t.1 9 0 5) (t.1 9 0 4) 0 0 0 31)) := by
  show o_lp _ N (nI 0, t) = _
  refine copy_loop (cont := fun t => some t) (E := 31) (D := 5) (S := 4) (a := 0) (b := 0) (by decide) (fun K t => ?_) (fun K k t hk => ?_) N 0 t (by omega) (by omega)
  · rfl
  · show b_X8_aside_2 N K (nI k) t = _
    unfold b_X8_aside_2
    have c1 : ¬ (31 : Int32) ≤ nI k := fun z => absurd ((nIle (a := 31) (by omega) (by omega)).mp z) (by omega)
    have i1 : o_inb (nI k) 31 = true := inb_nI hk (by omega)
    simp only [if_neg c1, if_pos i1, cl_nI (show k < 2147483648 by omega), o_nm, nI_1, Nat.zero_add]
theorem p_take {N : Nat} (hN : 300 ≤ N) (t : Mm) : f_X8_take N t = some (sR t 9 0 4 (cpl (t.1 9 0 4) (t.1 9 0 5) 0 0 0 31)) := by
  show o_lp _ N (nI 0, t) = _
  refine copy_loop (cont := fun t => some t) (E := 31) (D := 4) (S := 5) (a := 0) (b := 0) (by decide) (fun K t => ?_) (fun K k t hk => ?_) N 0 t (by omega) (by omega)
  · rfl
  · show b_X8_take_2 N K (nI k) t = _
    unfold b_X8_take_2
    have c1 : ¬ (31 : Int32) ≤ nI k := fun z => absurd ((nIle (a := 31) (by omega) (by omega)).mp z) (by omega)
    have i1 : o_inb (nI k) 31 = true := inb_nI hk (by omega)
    simp only [if_neg c1, if_pos i1, cl_nI (show k < 2147483648 by omega), o_nm, nI_1, Nat.zero_add]
theorem lpI (n : Nat) {k : Nat} (hk : k < 2147483648 - n) (hn : n < 1000) : nI n + nI k = nI (n + k) := nI_add n k
theorem p_img114 {N : Nat} (hN : 300 ≤ N) (t : Mm) : f_X8_image_114 N 0 t = some (1, sI (sR t 9 0 11 (cpl (t.1 9 0 11) (t.1 9 0 6) 0 0 0 248)) 9 0 0 8 1) := by
  show o_lp _ N (nI 0, t) = _
  refine copy_loop (cont := fun t => some (1, sI t 9 0 0 8 1)) (E := 248) (D := 11) (S := 6) (a := 0) (b := 0) (by decide) (fun K t => ?_) (fun K k t hk => ?_) N 0 t (by omega) (by omega)
  · rfl
  · show b_X8_image_114 N K (nI k) t = _
    unfold b_X8_image_114
    have c1 : ¬ (248 : Int32) ≤ nI k := fun z => absurd ((nIle (a := 248) (by omega) (by omega)).mp z) (by omega)
    have i1 : o_inb (nI k) 248 = true := inb_nI hk (by omega)
    simp only [if_neg c1, if_pos i1, cl_nI (show k < 2147483648 by omega), o_nm, nI_1, Nat.zero_add]
theorem p_img88 {N : Nat} (hN : 300 ≤ N) (t : Mm) : f_X8_image_88 N 0 t = f_X8_image_114 N 0 (sR t 9 0 10 (cpl (t.1 9 0 10) (t.1 9 0 4) 0 0 0 31)) := by
  show o_lp _ N (nI 0, t) = _
  refine copy_loop (cont := fun t => f_X8_image_114 N 0 t) (E := 31) (D := 10) (S := 4) (a := 0) (b := 0) (by decide) (fun K t => ?_) (fun K k t hk => ?_) N 0 t (by omega) (by omega)
  · rfl
  · show b_X8_image_88 N K (nI k) t = _
    unfold b_X8_image_88
    have c1 : ¬ (31 : Int32) ≤ nI k := fun z => absurd ((nIle (a := 31) (by omega) (by omega)).mp z) (by omega)
    have i1 : o_inb (nI k) 31 = true := inb_nI hk (by omega)
    simp only [if_neg c1, if_pos i1, cl_nI (show k < 2147483648 by omega), o_nm, nI_1, Nat.zero_add]
theorem p_img60 {N : Nat} (hN : 300 ≤ N) (t : Mm) : f_X8_image_60 N 0 t = f_X8_image_88 N 0 (sR t 9 0 9 (cpl (t.1 9 0 9) (t.1 9 0 3) 11 0 0 5)) := by
  show o_lp _ N (nI 0, t) = _
  refine copy_loop (cont := fun t => f_X8_image_88 N 0 t) (E := 5) (D := 9) (S := 3) (a := 11) (b := 0) (by decide) (fun K t => ?_) (fun K k t hk => ?_) N 0 t (by omega) (by omega)
  · rfl
  · show b_X8_image_60 N K (nI k) t = _
    unfold b_X8_image_60
    have c1 : ¬ (5 : Int32) ≤ nI k := fun z => absurd ((nIle (a := 5) (by omega) (by omega)).mp z) (by omega)
    have i1 : o_inb (nI k) 5 = true := inb_nI hk (by omega)
    have e1 : (11 : Int32) + nI k = nI (11 + k) := nI_add 11 k
    have i2 : o_inb (nI (11 + k)) 16 = true := inb_nI (by omega) (by omega)
    simp only [if_neg c1, if_pos i1, e1, if_pos i2, cl_nI (show k < 2147483648 by omega), cl_nI (show 11 + k < 2147483648 by omega), o_nm, nI_1, Nat.zero_add]
theorem p_img32 {N : Nat} (hN : 300 ≤ N) (t : Mm) : f_X8_image_32 N 0 t = f_X8_image_60 N 0 (sR t 9 0 9 (cpl (t.1 9 0 9) (t.1 9 0 2) 3 0 0 8)) := by
  show o_lp _ N (nI 0, t) = _
  refine copy_loop (cont := fun t => f_X8_image_60 N 0 t) (E := 8) (D := 9) (S := 2) (a := 3) (b := 0) (by decide) (fun K t => ?_) (fun K k t hk => ?_) N 0 t (by omega) (by omega)
  · rfl
  · show b_X8_image_32 N K (nI k) t = _
    unfold b_X8_image_32
    have c1 : ¬ (8 : Int32) ≤ nI k := fun z => absurd ((nIle (a := 8) (by omega) (by omega)).mp z) (by omega)
    have i1 : o_inb (nI k) 8 = true := inb_nI hk (by omega)
    have e1 : (3 : Int32) + nI k = nI (3 + k) := nI_add 3 k
    have i2 : o_inb (nI (3 + k)) 16 = true := inb_nI (by omega) (by omega)
    simp only [if_neg c1, if_pos i1, e1, if_pos i2, cl_nI (show k < 2147483648 by omega), cl_nI (show 3 + k < 2147483648 by omega), o_nm, nI_1, Nat.zero_add]
theorem RR_read2 {q c : Int32} {tp kd w tp' kd' w' : Nat → Int32} {s : Sx} (h : RR q c tp kd w s) (hq : s 0 0 ≤ 8) (hc : s 0 1 ≤ 5) (ht : ∀ k, k < 8 → tp' k = tp k) (hk : ∀ k, k < 5 → kd' k = kd k) (hw : ∀ k, k < 31 → w' k = w k) : RR q c tp' kd' w' s := by
  obtain ⟨⟨a1, a2, a3, a4, a5⟩, f, g, z⟩ := RR_read h hq hc hw
  refine ⟨⟨a1, a2, a3, a4, a5⟩, fun k h => ?_, fun k h => ?_, z⟩
  · rw [ht k (by omega)]; exact f k h
  · rw [hk k (by omega)]; exact g k h
theorem SR_copy {F F' : Nat → Nat → Nat → Int32} {o o' : Nat} {nx kn q c un : Int32} {tp kd w bf tp' kd' w' bf' : Nat → Int32} (h : SR F o nx kn q c tp kd w bf un) (ht : ∀ k, k < 8 → tp' k = tp k) (hk : ∀ k, k < 5 → kd' k = kd k) (hw : ∀ k, k < 31 → w' k = w k) (hb : ∀ j, j < 248 → bf' j = bf j) (hF : ∀ s : Sx, s 0 0 ≤ 8 → s 0 1 ≤ 5 → FR (F o) s → FR (F' o') s) (hP : ∀ (p : Nat) (s : Sx), p < 8 → s 0 0 ≤ 8 → s 0 1 ≤ 5 → FR (F (o + 1 + p)) s → FR (F' (o' + 1 + p)) s) : SR F' o' nx kn q c tp' kd' w' bf' un := by
  obtain ⟨⟨s, a1, a2, a3, a4⟩, n, x, ps, b1, b2, b3, b4, b5, b6⟩ := h
  refine ⟨⟨s, a1, a2, hF s a1.1 a1.2.1 a3, RR_read2 a4 a1.1 a1.2.1 ht hk hw⟩, n, x, ps, b1, b2, b3, b4, b5, fun j hj => ?_⟩
  obtain ⟨g1, g2, g3, g4⟩ := b6 j hj
  exact ⟨g1, g2, hP _ _ (Nat.mod_lt _ (by decide)) g1.1 g1.2.1 g3, RR_read2 g4 g1.1 g1.2.1 ht hk (fun k hk => hb _ (by omega))⟩
/-- Story.takeFrom -/
theorem p_take13 {N w i0 : Nat} (hw : w < 2) (hi : i0 < 2) (hne : i0 ≠ w) : ∀ (m k : Nat) (t : Mm), k ≤ 8 → 8 - k < m → ∃ t' : Mm, o_lp (fun k x => b_X4_takeFrom_13 N w i0 k x.1 x.2) m (nI k, t) = some t' ∧ (∀ a b, ¬ (a = 0 ∧ 9 * w + 1 ≤ b ∧ b < 9 * w + 9) → ¬ (a = 1 ∧ b = w) → t'.1 a b = t.1 a b) ∧ t'.2 = t.2 ∧ t'.1 1 w 0 2 = t.1 1 i0 0 2 ∧ t'.1 1 w 0 3 = t.1 1 i0 0 3 ∧ (∀ p, p < k → t'.1 0 (9 * w + 1 + p) = t.1 0 (9 * w + 1 + p)) ∧ ∀ (p : Nat) (s : Sx), k ≤ p → p < 8 → s 0 0 ≤ 8 → s 0 1 ≤ 5 → FR (t.1 0 (9 * i0 + 1 + p)) s → FR (t'.1 0 (9 * w + 1 + p)) s
  | 0, k, t, hk, hm => absurd hm (by omega)
  | m + 1, k, t, hk, hm => by
    have ih := fun (t' : Mm) (h1 : k + 1 ≤ 8) (h2 : 8 - (k + 1) < m) => p_take13 (N := N) hw hi hne m (k + 1) t' h1 h2
    show ∃ t' : Mm, b_X4_takeFrom_13 N w i0 (o_lp (fun k x => b_X4_takeFrom_13 N w i0 k x.1 x.2) m) (nI k) t = some t' ∧ _
    generalize o_lp (fun k x => b_X4_takeFrom_13 N w i0 k x.1 x.2) m = K at ih ⊢
    unfold b_X4_takeFrom_13
    by_cases h : k = 8
    · subst h
      rw [if_pos (by decide)]
      refine ⟨_, rfl, fun a b h1 h2 => ?_, rfl, ?_, ?_, fun p hp => ?_, fun p s h1 h2 => absurd h1 (by omega)⟩
      · rw [sI_nums h2, sI_nums h2]
      · rw [sI_at, upd_off (by decide), sI_at, upd_at]
      · rw [sI_at, upd_at, sI_num hne]
      · rw [sI_nums (by omega), sI_nums (by omega)]
    · have hlt : k < 8 := by omega
      have c1 : ¬ (8 : Int32) ≤ nI k := fun z => absurd ((nIle (a := 8) (by omega) (by omega)).mp z) (by omega)
      have i1 : o_inb (nI k) 8 = true := inb_nI hlt (by omega)
      obtain ⟨t1, e1, k1, k2, k3⟩ := p_takeFrom (t := t) (i := 9 * w + 1 + k) (o := 9 * i0 + 1 + k) (by omega)
      rw [if_neg c1, if_pos i1, if_pos i1, cl_nI (by omega), e1, o_bd_some, nI_1]
      obtain ⟨t', f1, f2, f3, f4, f5, f6, f7⟩ := ih t1 (by omega) (by omega)
      refine ⟨t', f1, fun a b h1 h2 => ?_, by rw [f3, k2], ?_, ?_, fun p hp => ?_, fun p s h1 h2 hq hc hF => ?_⟩
      · rw [f2 a b h1 h2, k1 a b (by omega)]
      · rw [f4, k1 1 i0 (by omega)]
      · rw [f5, k1 1 i0 (by omega)]
      · rw [f6 p (by omega), k1 0 _ (by omega)]
      · by_cases e : p = k
        · subst e
          rw [f6 p (by omega)]
          exact k3 s hq hc hF
        · refine f7 p s (by omega) h2 hq hc ?_
          rw [k1 0 _ (by omega)]
          exact hF
theorem p_storyTake {N w i0 : Nat} (hN : 300 ≤ N) (hw : w < 2) (hi : i0 < 2) (hne : i0 ≠ w) (t : Mm) : ∃ t' : Mm, f_X4_takeFrom N w i0 t = some t' ∧ (∀ a b, ¬ (a = 0 ∧ 9 * w ≤ b ∧ b < 9 * w + 9) → ¬ (a = 1 ∧ b = w) → t'.1 a b = t.1 a b) ∧ t'.2 = t.2 ∧ t'.1 1 w 0 2 = t.1 1 i0 0 2 ∧ t'.1 1 w 0 3 = t.1 1 i0 0 3 ∧ (∀ s : Sx, s 0 0 ≤ 8 → s 0 1 ≤ 5 → FR (t.1 0 (9 * i0)) s → FR (t'.1 0 (9 * w)) s) ∧ ∀ (p : Nat) (s : Sx), p < 8 → s 0 0 ≤ 8 → s 0 1 ≤ 5 → FR (t.1 0 (9 * i0 + 1 + p)) s → FR (t'.1 0 (9 * w + 1 + p)) s := by
  unfold f_X4_takeFrom
  obtain ⟨t1, e1, k1, k2, k3⟩ := p_takeFrom (t := t) (i := 9 * w) (o := 9 * i0) (by omega)
  rw [e1, o_bd_some]
  obtain ⟨t', f1, f2, f3, f4, f5, f6, f7⟩ := p_take13 (N := N) hw hi hne N 0 t1 (by omega) (by omega)
  refine ⟨t', f1, fun a b h1 h2 => ?_, by rw [f3, k2], ?_, ?_, fun s hq hc hF => ?_, fun p s hp hq hc hF => ?_⟩
  · rw [f2 a b (by omega) h2, k1 a b (by omega)]
  · rw [f4, k1 1 i0 (by omega)]
  · rw [f5, k1 1 i0 (by omega)]
  · rw [f2 0 (9 * w) (by omega) (by omega)]
    exact k3 s hq hc hF
  · refine f7 p s (by omega) hp hq hc ?_
    rw [k1 0 _ (by omega)]
    exact hF
