/-! BEST: the reference goes through the codes -/
def wlP (s : Sx) (f : Nat → Nat) (l : Nat) : Prop := (∀ c, l ≤ c → mem s c → s 0 2 / 2 ^ f c % 2 = 0) ∧ ∀ c c', l ≤ c → l ≤ c' → mem s c → mem s c' → c ≠ c' → f c ≠ f c'
theorem wlP_Vt {s : Sx} {k : Nat} : wlP s (toldN s k) 0 ↔ Vt s (toldN s k) := by
  constructor
  · intro h
    refine ⟨fun c hc => ⟨?_, h.1 c (Nat.zero_le _) hc⟩, fun c c' hc hc' hne => h.2 c c' (Nat.zero_le _) (Nat.zero_le _) hc hc' hne, fun c hc => if_neg hc⟩
    have : toldN s k c = _ := if_pos hc
    rw [this]
    exact Nat.mod_lt _ (mem_Q hc)
  · intro h
    exact ⟨fun c _ hc => (h.1 c hc).2, fun c c' _ _ hc hc' hne => h.2.1 c c' hc hc' hne⟩
theorem p_isTelling {N M k : Nat} {t : Mm} {s : Sx} (hN : 300 ≤ N) (hs : wfS s) (e0 : t.1 9 0 0 0 = nI (s 0 0)) (e1 : t.1 9 0 0 1 = nI (s 0 1)) (e4 : t.1 9 0 4 0 = nI (s 0 2)) (e29 : t.1 9 0 0 29 = nI M) (hM : M < 32 ∧ ∀ c, c < 5 → (M / 2 ^ c % 2 = 1 ↔ mem s c)) (hk : k < 100000) : ∃ g wl, f_X8_isTelling N (nI k) t = some (wl, sR t 9 0 20 g) ∧ (∀ c, c < s 0 1 → g c = qI (s 0 0) (toldN s k c)) ∧ ((wl = 1 ∧ Vt s (toldN s k)) ∨ (wl = 0 ∧ ¬ Vt s (toldN s k))) := by
  have h5 := hs.2.1
  have h8 := hs.1
  have ha := asked_lt hs
  have i0 : o_inb 0 31 = true := by decide
  have e4' : t.1 9 0 4 (Int32.toNatClampNeg 0) = nI (s 0 2) := e4
  have hst : nI (s 0 1) - 1 = if 0 < s 0 1 then nI (s 0 1 - 1 - 0) else -1 := by
    by_cases g : 0 < s 0 1
    · rw [if_pos g, show (1 : Int32) = nI 1 from rfl, pk_sub (by omega)]
      rfl
    · rw [if_neg g, show s 0 1 = 0 by omega]
      rfl
  unfold f_X8_isTelling
  rw [if_pos i0, e4', e1, hst]
  simp only [o_nm]
  refine lp_up (body := fun k x => b_X8_isTelling_20 N k x.1 x.2.1 x.2.2.1 x.2.2.2.1 x.2.2.2.2) (fun r => ∃ g wl, r = some (wl, sR t 9 0 20 g) ∧ (∀ c, c < s 0 1 → g c = qI (s 0 0) (toldN s k c)) ∧ ((wl = 1 ∧ Vt s (toldN s k)) ∨ (wl = 0 ∧ ¬ Vt s (toldN s k)))) (fun j x => ∃ (hd : Nat) (g : Nat → Int32) (wl : Int32), x = (nI hd, nI (lfN s k j), wl, (if j < s 0 1 then nI (s 0 1 - 1 - j) else -1), sR t 9 0 20 g) ∧ hd < 256 ∧ (∀ q, q < 8 → (hd / 2 ^ q % 2 = 1 ↔ s 0 2 / 2 ^ q % 2 = 1 ∨ ∃ c, s 0 1 - j ≤ c ∧ mem s c ∧ toldN s k c = q)) ∧ (∀ c, s 0 1 - j ≤ c → c < s 0 1 → g c = qI (s 0 0) (toldN s k c)) ∧ ((wl = 1 ∧ wlP s (toldN s k) (s 0 1 - j)) ∨ (wl = 0 ∧ ¬ wlP s (toldN s k) (s 0 1 - j)))) (s 0 1) (fun K x hx => ?_) (fun K j x hj hx => ?_) N 0 (nI (s 0 2), nI k, 1, (if 0 < s 0 1 then nI (s 0 1 - 1 - 0) else -1), t) (by omega) (by omega) ⟨s 0 2, t.1 9 0 20, 1, by rw [sR_self]; rfl, ha, fun q hq => ⟨fun z => Or.inl z, ?_⟩, fun c h1 h2 => absurd h1 (by omega), Or.inl ⟨rfl, fun c h1 h2 => absurd h2.1 (by omega), fun c c' h1 _ h2 => absurd h2.1 (by omega)⟩⟩
  · obtain ⟨hd, g, wl, rfl, a1, a2, a3, a4⟩ := hx
    rw [Nat.sub_self, wlP_Vt] at a4
    refine ⟨g, wl, ?_, fun c hc => a3 c (by omega) hc, a4⟩
    rw [if_neg (Nat.lt_irrefl _)]
    show b_X8_isTelling_20 N K (nI hd) (nI (lfN s k (s 0 1))) wl (-1) (sR t 9 0 20 g) = _
    unfold b_X8_isTelling_20
    rw [if_pos (by decide)]
    rcases a4 with ⟨rfl, -⟩ | ⟨rfl, -⟩ <;> rfl
  · obtain ⟨hd, g, wl, rfl, a1, a2, a3, a4⟩ := hx
    right
    rw [if_pos hj]
    show ∃ x', _ ∧ b_X8_isTelling_20 N K (nI hd) (nI (lfN s k j)) wl (nI (s 0 1 - 1 - j)) (sR t 9 0 20 g) = _
    obtain ⟨c, hc⟩ : ∃ c, s 0 1 - 1 - j = c := ⟨_, rfl⟩
    have hcj : s 0 1 - 1 - c = j := by omega
    have hc5 : c < 5 := by omega
    have hcC : c < s 0 1 := by omega
    have hlo : s 0 1 - j = c + 1 := by omega
    have hlo' : s 0 1 - (j + 1) = c := by omega
    have hlf : lfN s k (j + 1) = if mem s c then lfN s k j / s 0 0 else lfN s k j := by rw [lfN, hc]
    have hnx : nI c + -1 = if j + 1 < s 0 1 then nI (s 0 1 - 1 - (j + 1)) else -1 := by
      by_cases z : j + 1 < s 0 1
      · rw [if_pos z, show c = (s 0 1 - 1 - (j + 1)) + 1 by omega, pk_m1]
      · rw [if_neg z, show c = 0 by omega]
        rfl
    rw [hlo] at a2 a3 a4
    rw [hc, hlo', hlf, ← hnx]
    have n0 : ¬ nI c < 0 := nI_pos (by omega)
    have i5 : o_inb (nI c) 5 = true := inb_nI (by omega) (by omega)
    have q29 : ∀ g' : Nat → Int32, (sR t 9 0 20 g').1 9 0 0 29 = nI M := fun g' => e29
    have q0 : ∀ g' : Nat → Int32, (sR t 9 0 20 g').1 9 0 0 0 = nI (s 0 0) := fun g' => e0
    have q20 : ∀ g' : Nat → Int32, (sR t 9 0 20 g').1 9 0 20 = g' := fun g' => sR_at
    unfold b_X8_isTelling_20 f_X8_isTelling_82 f_X8_isTelling_83 f_X8_isTelling_104
    simp only [if_neg n0, if_pos i5, cl_nI (show c < 2147483648 by omega), o_nm, sI_sR, q29, q0]
    rw [p_has (by omega) (by omega), o_bd_some]
    have hMc := hM.2 c hc5
    simp only [q0]
    rcases bit01 (m := M) (k := c) with e | e
    · have nm : ¬ mem s c := fun z => by
        have := hMc.mpr z
        omega
      have ht : toldN s k c = s 0 0 := if_neg nm
      rw [e]
      simp only [show nI 0 = 0 from rfl, ite_true, if_neg nm]
      refine ⟨_, ⟨hd, upd g c (-4), wl, rfl, a1, fun q hq => ?_, fun d h1 h2 => ?_, ?_⟩, rfl⟩
      · rw [a2 q hq]
        constructor
        · rintro (z | ⟨d, z1, z2⟩)
          · exact Or.inl z
          · exact Or.inr ⟨d, by omega, z2⟩
        · rintro (z | ⟨d, z1, z2, z3⟩)
          · exact Or.inl z
          · by_cases y : d = c
            · rw [y] at z2
              exact absurd z2 nm
            · exact Or.inr ⟨d, by omega, z2, z3⟩
      · by_cases y : d = c
        · rw [y, upd_at, ht]
          exact (if_neg (Nat.lt_irrefl _)).symm
        · rw [upd_off y]
          exact a3 d (by omega) h2
      · have hw : wlP s (toldN s k) (c + 1) ↔ wlP s (toldN s k) c := by
          constructor
          · intro h
            refine ⟨fun d h1 h2 => h.1 d ?_ h2, fun d d' h1 h1' h2 h2' hne => h.2 d d' ?_ ?_ h2 h2' hne⟩
            · by_cases y : d = c
              · rw [y] at h2; exact absurd h2 nm
              · omega
            · by_cases y : d = c
              · rw [y] at h2; exact absurd h2 nm
              · omega
            · by_cases y : d' = c
              · rw [y] at h2'; exact absurd h2' nm
              · omega
          · intro h
            exact ⟨fun d h1 h2 => h.1 d (by omega) h2, fun d d' h1 h1' h2 h2' hne => h.2 d d' (by omega) (by omega) h2 h2' hne⟩
        rw [hw] at a4
        exact a4
    · have hm : mem s c := hMc.mp e
      have hQ := mem_Q hm
      have ht : toldN s k c = lfN s k j % s 0 0 := by
        have : toldN s k c = _ := if_pos hm
        rw [this, hcj]
      have hl := lfN_le s k j
      have htq : toldN s k c < s 0 0 := by rw [ht]; exact Nat.mod_lt _ hQ
      have hq0 : ¬ nI (s 0 0) = 0 := nI_ne0 hQ (by omega)
      have er : nI (lfN s k j) - nI (lfN s k j) / nI (s 0 0) * nI (s 0 0) = nI (toldN s k c) := by
        rw [ht]
        exact pk_rem (by omega) hQ (by omega)
      have ed : nI (lfN s k j) / nI (s 0 0) = nI (lfN s k j / s 0 0) := pk_div (by omega) hQ (by omega)
      have er : nI (lfN s k j) - nI (lfN s k j / s 0 0) * nI (s 0 0) = nI (toldN s k c) := by
        rw [← ed]
        exact er
      rw [e]
      simp only [if_neg (show ¬ nI 1 = 0 by decide), if_pos hq0, er, ed, if_pos i5, cl_nI (show c < 2147483648 by omega), sI_sR, q0, q20, upd_at, nI_shl1 (show toldN s k c < 31 by omega), nI_or, if_pos hm]
      have hup : upd (upd g c (-4)) c (nI (toldN s k c)) = upd g c (nI (toldN s k c)) := by
        funext d
        by_cases y : d = c
        · rw [y, upd_at, upd_at]
        · rw [upd_off y, upd_off y, upd_off y]
      have fin : ∀ wl' : Int32, ((wl' = 1 ∧ wlP s (toldN s k) c) ∨ (wl' = 0 ∧ ¬ wlP s (toldN s k) c)) → ∃ x', (∃ (hd' : Nat) (g' : Nat → Int32) (wl'' : Int32), x' = (nI hd', nI (lfN s k j / s 0 0), wl'', nI c + -1, sR t 9 0 20 g') ∧ hd' < 256 ∧ (∀ q, q < 8 → (hd' / 2 ^ q % 2 = 1 ↔ s 0 2 / 2 ^ q % 2 = 1 ∨ ∃ d, c ≤ d ∧ mem s d ∧ toldN s k d = q)) ∧ (∀ d, c ≤ d → d < s 0 1 → g' d = qI (s 0 0) (toldN s k d)) ∧ ((wl'' = 1 ∧ wlP s (toldN s k) c) ∨ (wl'' = 0 ∧ ¬ wlP s (toldN s k) c))) ∧ K (nI (hd ||| 2 ^ toldN s k c), nI (lfN s k j / s 0 0), wl', nI c + -1, sR t 9 0 20 (upd (upd g c (-4)) c (nI (toldN s k c)))) = K x' := by
        intro wl' hwl
        refine ⟨_, ⟨hd ||| 2 ^ toldN s k c, upd g c (nI (toldN s k c)), wl', by rw [hup], ?_, fun q hq => ?_, fun d h1 h2 => ?_, hwl⟩, rfl⟩
        · show (hd ||| 2 ^ toldN s k c) < 2 ^ 8
          exact Nat.or_lt_two_pow a1 (Nat.pow_lt_pow_right (by decide) (by omega))
        · rw [or_bit]
          by_cases y : q = toldN s k c
          · rw [if_pos y]
            exact ⟨fun _ => Or.inr ⟨c, Nat.le_refl _, hm, y.symm⟩, fun _ => rfl⟩
          · rw [if_neg y, a2 q hq]
            constructor
            · rintro (z | ⟨d, z1, z2⟩)
              · exact Or.inl z
              · exact Or.inr ⟨d, by omega, z2⟩
            · rintro (z | ⟨d, z1, z2, z3⟩)
              · exact Or.inl z
              · by_cases y2 : d = c
                · rw [y2] at z3
                  exact absurd z3.symm y
                · exact Or.inr ⟨d, by omega, z2, z3⟩
        · by_cases y : d = c
          · rw [y, upd_at]
            exact (if_pos htq).symm
          · rw [upd_off y]
            exact a3 d (by omega) h2
      have hbit := a2 (toldN s k c) (by omega)
      rcases a4 with ⟨rfl, a4⟩ | ⟨rfl, a4⟩
      · simp only [if_neg one_ne]
        rw [p_has (by omega) (by omega), o_bd_some]
        simp only [q0, q20, upd_at, nI_shl1 (show toldN s k c < 31 by omega), nI_or, if_pos hq0, ed]
        rcases bit01 (m := hd) (k := toldN s k c) with y | y
        · rw [y]
          simp only [show nI 0 = 0 from rfl, ite_true]
          refine fin 1 (Or.inl ⟨rfl, fun d h1 h2 => ?_, fun d d' h1 h1' h2 h2' hne => ?_⟩)
          · by_cases z : d = c
            · rw [z]
              rcases bit01 (m := s 0 2) (k := toldN s k c) with w | w
              · exact w
              · have := hbit.mpr (Or.inl w)
                omega
            · exact a4.1 d (by omega) h2
          · by_cases z : d = c
            · rw [z]
              intro w
              have := hbit.mpr (Or.inr ⟨d', by omega, h2', w.symm⟩)
              omega
            · by_cases z' : d' = c
              · rw [z']
                intro w
                have := hbit.mpr (Or.inr ⟨d, by omega, h2, w⟩)
                omega
              · exact a4.2 d d' (by omega) (by omega) h2 h2' hne
        · rw [y]
          simp only [if_neg (show ¬ nI 1 = 0 by decide)]
          refine fin 0 (Or.inr ⟨rfl, fun w => ?_⟩)
          rcases hbit.mp y with z | ⟨d, z1, z2, z3⟩
          · have := w.1 c (Nat.le_refl _) hm
            omega
          · exact w.2 d c (by omega) (Nat.le_refl _) z2 hm (by omega) z3
      · simp only [ite_true]
        refine fin 0 (Or.inr ⟨rfl, fun w => a4 ⟨fun d h1 h2 => w.1 d (by omega) h2, fun d d' h1 h1' h2 h2' hne => w.2 d d' (by omega) (by omega) h2 h2' hne⟩⟩)
  · rintro (z | ⟨c, z1, z2, -⟩)
    · exact z
    · have := z2.1
      omega
theorem p_b132 {N : Nat} {t : Mm} {s : Sx} {w x1 x2 x3 x5 x6 : Int32} {k73 : Int32 × Int32 × Int32 × Int32 × Int32 × Mm → Option (Int32 × Mm)} (hN : 300 ≤ N) (h5 : s 0 1 ≤ 5) (e1 : t.1 9 0 0 1 = nI (s 0 1)) : ∃ g, f_X8_best_132 N k73 x1 x2 x3 x5 x6 w 0 t = k73 (x1, x2, (if w = 0 then x3 else x6), 1, x5 + 1, sR t 9 0 30 g) ∧ ∀ c, c < s 0 1 → g c = if w = 0 then t.1 9 0 30 c else t.1 9 0 20 c := by
  refine lp_up (body := fun k x => b_X8_best_132 N k73 k x.1 x.2.1 x.2.2.1 x.2.2.2.1 x.2.2.2.2.1 x.2.2.2.2.2.1 x.2.2.2.2.2.2.1 x.2.2.2.2.2.2.2) (fun r => ∃ g, r = k73 (x1, x2, (if w = 0 then x3 else x6), 1, x5 + 1, sR t 9 0 30 g) ∧ ∀ c, c < s 0 1 → g c = if w = 0 then t.1 9 0 30 c else t.1 9 0 20 c) (fun k y => ∃ g, y = (x1, x2, x3, x5, x6, w, nI k, sR t 9 0 30 g) ∧ (∀ c, c < k → g c = if w = 0 then t.1 9 0 30 c else t.1 9 0 20 c) ∧ ∀ c, k ≤ c → g c = t.1 9 0 30 c) (s 0 1) (fun K y hy => ?_) (fun K k y hk hy => ?_) N 0 (x1, x2, x3, x5, x6, w, 0, t) (by omega) (by omega) ⟨t.1 9 0 30, by rw [sR_self]; rfl, fun c hc => absurd hc (Nat.not_lt_zero c), fun _ _ => rfl⟩
  · obtain ⟨g, rfl, a1, a2⟩ := hy
    refine ⟨g, ?_, a1⟩
    show b_X8_best_132 N k73 K x1 x2 x3 x5 x6 w (nI (s 0 1)) (sR t 9 0 30 g) = _
    unfold b_X8_best_132 f_X8_best_187 f_X8_best_191
    have e1' : (sR t 9 0 30 g).1 9 0 0 1 = nI (s 0 1) := e1
    rw [e1', if_pos Int32.le_rfl]
    by_cases z : w = 0
    · rw [if_pos z, if_pos z]
    · rw [if_neg z, if_neg z]
  · obtain ⟨g, rfl, a1, a2⟩ := hy
    right
    show ∃ x', _ ∧ b_X8_best_132 N k73 K x1 x2 x3 x5 x6 w (nI k) (sR t 9 0 30 g) = _
    unfold b_X8_best_132 f_X8_best_169
    have e1' : (sR t 9 0 30 g).1 9 0 0 1 = nI (s 0 1) := e1
    have c1 : ¬ nI (s 0 1) ≤ nI k := fun z => absurd ((nIle (by omega) (by omega)).mp z) (by omega)
    have i1 : o_inb (nI k) 5 = true := inb_nI (by omega) (by omega)
    have q30 : (sR t 9 0 30 g).1 9 0 30 = g := sR_at
    have q20 : (sR t 9 0 30 g).1 9 0 20 = t.1 9 0 20 := rfl
    simp only [e1', if_neg c1, if_pos i1, cl_nI (show k < 2147483648 by omega), o_nm, nI_1, sI_sR, q30, q20]
    have fin : ∀ X : Int32, X = (if w = 0 then t.1 9 0 30 k else t.1 9 0 20 k) → ∃ x', (∃ g', x' = (x1, x2, x3, x5, x6, w, nI (k + 1), sR t 9 0 30 g') ∧ (∀ c, c < k + 1 → g' c = if w = 0 then t.1 9 0 30 c else t.1 9 0 20 c) ∧ ∀ c, k + 1 ≤ c → g' c = t.1 9 0 30 c) ∧ K (x1, x2, x3, x5, x6, w, nI (k + 1), sR t 9 0 30 (upd g k X)) = K x' := by
      intro X hX
      refine ⟨_, ⟨upd g k X, rfl, fun c hc => ?_, fun c hc => ?_⟩, rfl⟩
      · by_cases y : c = k
        · rw [y, upd_at, hX]
        · rw [upd_off y]
          exact a1 c (by omega)
      · rw [upd_off (by omega)]
        exact a2 c (by omega)
    by_cases z : w = 0
    · rw [if_pos z]
      exact fin _ (by rw [if_pos z]; exact a2 k (Nat.le_refl _))
    · rw [if_neg z]
      exact fin _ (by rw [if_neg z])
