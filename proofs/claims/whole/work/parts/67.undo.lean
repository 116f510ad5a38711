/-! what is remembered: takeFrom, remember, note -/
def rw2 (v : Nat → Nat → Int32) (c : Nat) (f : Nat → Int32) : Nat → Nat → Int32 := fun r => if r = c then f else v r
theorem sR_rw2 {t : Mm} {a b c : Nat} {f : Nat → Int32} : (sR t a b c f).1 a b = rw2 (t.1 a b) c f := by
  funext c'
  by_cases h : c' = c
  · subst h
    rw [sR_at]
    simp [rw2]
  · rw [sR_off (by simp [h])]
    simp [rw2, h]
theorem sR_num {t : Mm} {a b c a' b' : Nat} {f : Nat → Int32} (h : ¬ (a' = a ∧ b' = b)) : (sR t a b c f).1 a' b' = t.1 a' b' := by
  funext c'
  exact sR_off (fun z => h ⟨z.1, z.2.1⟩)
theorem sI_nums {t : Mm} {a b c j a' b' : Nat} {x : Int32} (h : ¬ (a' = a ∧ b' = b)) : (sI t a b c j x).1 a' b' = t.1 a' b' := sR_num h
theorem cpy_lo {f g : Nat → Int32} {n j : Nat} (h : j < n) : va_cpy f g 0 0 n j = f j := by
  unfold va_cpy
  rw [if_pos (by omega)]
  congr 1
  omega
theorem FR_read {v w : Nat → Nat → Int32} {s : Sx} (h : FR v s) (hq : s 0 0 ≤ 8) (hc : s 0 1 ≤ 5) (h0 : ∀ j, j < 5 → w 0 j = v 0 j) (h1 : ∀ r k, r = 1 ∨ r = 2 → k < 8 → w r k = v r k) (h2 : ∀ r k, 3 ≤ r → r ≤ 7 → k < 5 → w r k = v r k) : FR w s := by
  obtain ⟨⟨a1, a2, a3, a4, a5⟩, f, g⟩ := h
  refine ⟨⟨by rw [h0 0 (by omega)]; exact a1, by rw [h0 1 (by omega)]; exact a2, by rw [h0 2 (by omega)]; exact a3, by rw [h0 3 (by omega)]; exact a4, by rw [h0 4 (by omega)]; exact a5⟩, fun k hk => ?_, fun k hk => ?_⟩
  · rw [h1 1 k (by omega) (by omega), h1 2 k (by omega) (by omega)]
    exact f k hk
  · rw [h2 3 k (by omega) (by omega) (by omega), h2 4 k (by omega) (by omega) (by omega), h2 5 k (by omega) (by omega) (by omega), h2 6 k (by omega) (by omega) (by omega), h2 7 k (by omega) (by omega) (by omega)]
    exact g k hk
theorem p_takeFrom {t : Mm} {i o : Nat} (hne : o ≠ i) : ∃ t' : Mm, f_X0_takeFrom i o t = some t' ∧ (∀ a b, ¬ (a = 0 ∧ b = i) → t'.1 a b = t.1 a b) ∧ t'.2 = t.2 ∧ ∀ s : Sx, s 0 0 ≤ 8 → s 0 1 ≤ 5 → FR (t.1 0 o) s → FR (t'.1 0 i) s := by
  unfold f_X0_takeFrom
  have hn : ¬ ((0 : Nat) = 0 ∧ o = i) := fun z => hne z.2
  simp only [o_nm, sI_nums hn, sR_num hn, show Int32.toNatClampNeg 0 = 0 from rfl, show Int32.toNatClampNeg 8 = 8 from rfl, show Int32.toNatClampNeg 5 = 5 from rfl]
  refine ⟨_, rfl, fun a b h => ?_, rfl, fun s hq hc h => ?_⟩
  · simp only [sI_nums h, sR_num h]
  · refine FR_read h hq hc (fun j hj => ?_) (fun r k hr hk => ?_) (fun r k h3 h7 hk => ?_)
    · simp only [sR_rw2, sI_v2]
      rcases (show j = 0 ∨ j = 1 ∨ j = 2 ∨ j = 3 ∨ j = 4 by omega) with rfl | rfl | rfl | rfl | rfl <;> simp [rw2, v2]
    · simp only [sR_rw2, sI_v2]
      rcases hr with rfl | rfl <;> simp [rw2, cpy_lo hk]
    · simp only [sR_rw2, sI_v2]
      rcases (show r = 3 ∨ r = 4 ∨ r = 5 ∨ r = 6 ∨ r = 7 by omega) with rfl | rfl | rfl | rfl | rfl <;> simp [rw2, cpy_lo hk]
theorem mod8 {a : Nat} (ha : a < 2147483648) : nI a - nI a / 8 * 8 = nI (a % 8) := pk_rem (d := 8) (by omega) (by omega) (by omega)
/-- Story.remember -/
theorem p_remember {t : Mm} {x n : Nat} (hx : t.1 1 0 0 2 = nI x) (hx8 : x < 8) (hn : t.1 1 0 0 3 = nI n) (hn8 : n ≤ 8) : ∃ t' : Mm, f_X4_remember 0 t = some t' ∧ (∀ a b, ¬ (a = 0 ∧ b = 1 + x) → ¬ (a = 1 ∧ b = 0) → t'.1 a b = t.1 a b) ∧ t'.2 = t.2 ∧ t'.1 1 0 0 2 = nI ((x + 1) % 8) ∧ t'.1 1 0 0 3 = nI (if n < 8 then n + 1 else 8) ∧ ∀ s : Sx, s 0 0 ≤ 8 → s 0 1 ≤ 5 → FR (t.1 0 0) s → FR (t'.1 0 (1 + x)) s := by
  unfold f_X4_remember
  have hi : o_inb (nI x) 8 = true := inb_nI hx8 (by omega)
  obtain ⟨t1, e1, k1, k2, k3⟩ := p_takeFrom (t := t) (i := 9 * 0 + 1 + x) (o := 9 * 0) (by omega)
  rw [hx, if_pos hi, cl_nI (by omega), e1, o_bd_some]
  have g2 : t1.1 1 0 0 2 = nI x := by rw [k1 1 0 (by omega)]; exact hx
  have g3 : t1.1 1 0 0 3 = nI n := by rw [k1 1 0 (by omega)]; exact hn
  refine ⟨_, rfl, fun a b h1 h2 => ?_, k2, ?_, ?_, fun s hq hc h => ?_⟩
  · rw [sI_nums h2, sI_nums h2]
    exact k1 a b (by omega)
  · show (t1.1 1 0 0 2 + 1) - (t1.1 1 0 0 2 + 1) / 8 * 8 = _
    rw [g2, nI_1, mod8 (by omega)]
  · show (if (8 : Int32) < t1.1 1 0 0 3 + 1 then 8 else t1.1 1 0 0 3 + 1) = _
    rw [g3, nI_1]
    have : (8 : Int32) < nI (n + 1) ↔ 8 < n + 1 := nIlt (a := 8) (by omega) (by omega)
    simp only [this]
    by_cases h : n < 8
    · rw [if_neg (by omega), if_pos h]
    · rw [if_pos (by omega), if_neg h]
      rfl
  · rw [sI_nums (by omega), sI_nums (by omega)]
    have := k3 s hq hc h
    rw [show 9 * 0 + 1 + x = 1 + x by omega] at this
    exact this
/-- the reference's note -/
theorem sR_sR {t : Mm} {a b c : Nat} {f g : Nat → Int32} : sR (sR t a b c f) a b c g = sR t a b c g := by
  unfold sR
  congr 1
  funext a' b' c'
  by_cases h : a' = a ∧ b' = b ∧ c' = c
  · simp [h]
  · simp [h]
def flR (bf w : Nat → Int32) (a lo : Nat) : Nat → Int32 := fun j => if a + lo ≤ j ∧ j < a + 31 then w (j - a) else bf j
theorem flR_step {bf w : Nat → Int32} {a k : Nat} (h : k < 31) : flR (upd bf (a + k) (w k)) w a (k + 1) = flR bf w a k := by
  funext j
  unfold flR upd
  by_cases h1 : j = a + k
  · subst h1
    rw [if_neg (by omega), if_pos rfl, if_pos (by omega)]
    congr 1; omega
  · by_cases h2 : a + (k + 1) ≤ j ∧ j < a + 31
    · rw [if_pos h2, if_pos (by omega)]
    · rw [if_neg h2, if_neg h1, if_neg (by omega)]
theorem p_note51 {N n : Nat} (hn : n < 8) : ∀ (m k : Nat) (t : Mm), k ≤ 31 → 31 - k < m → t.1 9 0 0 7 = nI n → o_lp (fun k x => b_X8_note_51 N k x.1 x.2) m (nI k, t) = some (sI (sR t 9 0 6 (flR (t.1 9 0 6) (t.1 9 0 4) (31 * n) k)) 9 0 0 7 (nI (n + 1)))
  | 0, k, t, hk, hm, hu => absurd hm (by omega)
  | m + 1, k, t, hk, hm, hu => by
    have ih := fun (t' : Mm) (h1 : k + 1 ≤ 31) (h2 : 31 - (k + 1) < m) (hu' : t'.1 9 0 0 7 = nI n) => p_note51 (N := N) hn m (k + 1) t' h1 h2 hu'
    show b_X8_note_51 N (o_lp (fun k x => b_X8_note_51 N k x.1 x.2) m) (nI k) t = _
    generalize o_lp (fun k x => b_X8_note_51 N k x.1 x.2) m = K at ih ⊢
    unfold b_X8_note_51
    by_cases h : 31 ≤ k
    · have hk : k = 31 := by omega
      subst hk
      rw [if_pos (by decide)]
      show some (sI t 9 0 0 7 (t.1 9 0 0 7 + 1)) = _
      rw [hu, nI_1]
      have e : flR (t.1 9 0 6) (t.1 9 0 4) (31 * n) 31 = t.1 9 0 6 := by
        funext j
        unfold flR
        rw [if_neg (by omega)]
      rw [e]
      have e2 : sR t 9 0 6 (t.1 9 0 6) = t := by
        unfold sR
        ext1
        · funext a b c
          by_cases h : a = 9 ∧ b = 0 ∧ c = 6
          · obtain ⟨rfl, rfl, rfl⟩ := h; simp
          · simp [h]
        · rfl
      rw [e2]
    · have hlt : k < 31 := by omega
      have c1 : ¬ (31 : Int32) ≤ nI k := fun z => absurd ((nIle (a := 31) (by omega) (by omega)).mp z) (by omega)
      have i1 : o_inb (nI k) 31 = true := inb_nI hlt (by omega)
      have e1 : (31 : Int32) * nI n + nI k = nI (31 * n + k) := by rw [show (31 : Int32) = nI 31 from rfl, pk_mul, nI_add]
      have i2 : o_inb (nI (31 * n + k)) 248 = true := inb_nI (by omega) (by omega)
      simp only [hu, if_neg c1, if_pos i1, e1, if_pos i2, cl_nI (show 31 * n + k < 2147483648 by omega), cl_nI (show k < 2147483648 by omega), o_nm, nI_1]
      rw [ih (sI t 9 0 6 (31 * n + k) (t.1 9 0 4 k)) (by omega) (by omega) hu]
      congr 2
      show sR (sR t 9 0 6 (upd (t.1 9 0 6) (31 * n + k) (t.1 9 0 4 k))) 9 0 6 (flR (upd (t.1 9 0 6) (31 * n + k) (t.1 9 0 4 k)) (t.1 9 0 4) (31 * n) (k + 1)) = _
      rw [sR_sR, flR_step hlt]
def shR8 (bf : Nat → Int32) (lo : Nat) : Nat → Int32 := fun j => if lo ≤ j ∧ j < 217 then bf (31 + j) else bf j
theorem shR8_step {bf : Nat → Int32} {k : Nat} (h : k < 217) : shR8 (upd bf k (bf (31 + k))) (k + 1) = shR8 bf k := by
  funext j
  unfold shR8 upd
  by_cases h1 : j = k
  · subst h1
    rw [if_neg (by omega), if_pos rfl, if_pos (by omega)]
  · by_cases h2 : k + 1 ≤ j ∧ j < 217
    · rw [if_pos h2, if_neg (by omega), if_pos (by omega)]
    · rw [if_neg h2, if_neg h1, if_neg (by omega)]
theorem sR_self {t : Mm} {a b c : Nat} : sR t a b c (t.1 a b c) = t := by
  unfold sR
  ext1
  · funext a' b' c'
    by_cases h : a' = a ∧ b' = b ∧ c' = c
    · obtain ⟨rfl, rfl, rfl⟩ := h; simp
    · simp [h]
  · rfl
theorem p_note11 {N : Nat} : ∀ (m k : Nat) (t : Mm), k ≤ 217 → 217 - k < m → t.1 9 0 0 7 = nI 8 → o_lp (fun k x => b_X8_note_11 N k x.1 x.2) m (nI k, t) = f_X8_note_49 N (sI (sR t 9 0 6 (shR8 (t.1 9 0 6) k)) 9 0 0 7 (nI 7))
  | 0, k, t, hk, hm, hu => absurd hm (by omega)
  | m + 1, k, t, hk, hm, hu => by
    have ih := fun (t' : Mm) (h1 : k + 1 ≤ 217) (h2 : 217 - (k + 1) < m) (hu' : t'.1 9 0 0 7 = nI 8) => p_note11 (N := N) m (k + 1) t' h1 h2 hu'
    show b_X8_note_11 N (o_lp (fun k x => b_X8_note_11 N k x.1 x.2) m) (nI k) t = _
    generalize o_lp (fun k x => b_X8_note_11 N k x.1 x.2) m = K at ih ⊢
    unfold b_X8_note_11
    by_cases h : 217 ≤ k
    · have hk : k = 217 := by omega
      subst hk
      rw [if_pos (by decide)]
      show f_X8_note_49 N (sI t 9 0 0 7 (t.1 9 0 0 7 - 1)) = _
      have e : shR8 (t.1 9 0 6) 217 = t.1 9 0 6 := by
        funext j
        unfold shR8
        rw [if_neg (by omega)]
      rw [hu, e, sR_self]
      rfl
    · have hlt : k < 217 := by omega
      have c1 : ¬ (217 : Int32) ≤ nI k := fun z => absurd ((nIle (a := 217) (by omega) (by omega)).mp z) (by omega)
      have i1 : o_inb (nI k) 248 = true := inb_nI (by omega) (by omega)
      have e1 : (31 : Int32) + nI k = nI (31 + k) := by rw [show (31 : Int32) = nI 31 from rfl, nI_add]
      have i2 : o_inb (nI (31 + k)) 248 = true := inb_nI (by omega) (by omega)
      simp only [if_neg c1, if_pos i1, e1, if_pos i2, cl_nI (show 31 + k < 2147483648 by omega), cl_nI (show k < 2147483648 by omega), o_nm, nI_1]
      rw [ih (sI t 9 0 6 k (t.1 9 0 6 (31 + k))) (by omega) (by omega) hu]
      congr 2
      show sR (sR t 9 0 6 (upd (t.1 9 0 6) k (t.1 9 0 6 (31 + k)))) 9 0 6 (shR8 (upd (t.1 9 0 6) k (t.1 9 0 6 (31 + k))) (k + 1)) = _
      rw [sR_sR, shR8_step hlt]
/-- what note leaves: the rows of before, and how many -/
def ntB (bf w : Nat → Int32) (n : Nat) : Nat → Int32 := if n < 8 then flR bf w (31 * n) 0 else flR (shR8 bf 0) w (31 * 7) 0
theorem sI_sI {t : Mm} {a b c j : Nat} {x y : Int32} : sI (sI t a b c j x) a b c j y = sI t a b c j y := by
  unfold sI
  rw [sR_at, sR_sR]
  congr 1
  funext k
  unfold upd
  split <;> rfl
theorem sR_sI_comm {t : Mm} {a b c c' j : Nat} {x : Int32} {f : Nat → Int32} (h : c ≠ c') : sR (sI t a b c j x) a b c' f = sI (sR t a b c' f) a b c j x := by
  unfold sI
  rw [sR_off (by omega)]
  unfold sR
  congr 1
  funext a' b' d
  by_cases h1 : a' = a ∧ b' = b
  · obtain ⟨rfl, rfl⟩ := h1
    by_cases h2 : d = c
    · subst h2; simp [h]
    · simp [h2]
  · have n1 : ¬ (a' = a ∧ b' = b ∧ d = c') := fun z => h1 ⟨z.1, z.2.1⟩
    have n2 : ¬ (a' = a ∧ b' = b ∧ d = c) := fun z => h1 ⟨z.1, z.2.1⟩
    simp [n1, n2]
theorem p_note {N n : Nat} {t : Mm} (hN : 300 ≤ N) (hn : n ≤ 8) (hu : t.1 9 0 0 7 = nI n) : f_X8_note N t = some (sI (sR t 9 0 6 (ntB (t.1 9 0 6) (t.1 9 0 4) n)) 9 0 0 7 (nI (if n < 8 then n + 1 else 8))) := by
  unfold f_X8_note
  by_cases h : n < 8
  · have c1 : ¬ nI n = 8 := fun z => absurd ((nIeq (b := 8) (by omega) (by omega)).mp z) (by omega)
    rw [hu, if_neg c1]
    show o_lp _ N (nI 0, t) = _
    rw [p_note51 h N 0 t (by omega) (by omega) hu]
    unfold ntB
    rw [if_pos h, if_pos h]
  · have hn : n = 8 := by omega
    subst hn
    rw [hu, if_pos (by decide)]
    show o_lp _ N (nI 0, t) = _
    rw [p_note11 N 0 t (by omega) (by omega) hu]
    show o_lp _ N (nI 0, _) = _
    rw [p_note51 (n := 7) (by omega) N 0 _ (by omega) (by omega) rfl]
    unfold ntB
    rw [if_neg (by omega), if_neg (by omega)]
    show some (sI (sR (sI (sR t 9 0 6 (shR8 (t.1 9 0 6) 0)) 9 0 0 7 (nI 7)) 9 0 6 (flR (shR8 (t.1 9 0 6) 0) (t.1 9 0 4) (31 * 7) 0)) 9 0 0 7 (nI 8)) = _
    rw [sR_sI_comm (by decide), sR_sR, sI_sI]
