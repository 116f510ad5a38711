/-! BEST: the reference: who is asked, which codes are tellings -/
theorem p_leftMany {N : Nat} {t : Mm} {s : Sx} (hN : 300 ≤ N) (hs : wfS s) (e0 : t.1 9 0 0 0 = nI (s 0 0)) (e4 : t.1 9 0 4 0 = nI (s 0 2)) : f_X8_leftMany N t = some (nI (left s), t) := by
  have h8 := hs.1
  have ha := asked_lt hs
  refine lp_up (body := fun k x => b_X8_leftMany_4 N k x.1 x.2.1 x.2.2) (fun o => o = some (nI (left s), t)) (fun k x => x = (nI (frN (s 0 2) k), nI k, t)) (s 0 0) (fun K x hx => ?_) (fun K k x hk hx => ?_) N 0 (0, 0, t) (by omega) (by omega) rfl
  · subst hx
    show b_X8_leftMany_4 N K (nI (frN (s 0 2) (s 0 0))) (nI (s 0 0)) t = _
    unfold b_X8_leftMany_4
    rw [e0, if_pos Int32.le_rfl]
    rfl
  · subst hx
    right
    refine ⟨(nI (frN (s 0 2) (k + 1)), nI (k + 1), t), rfl, ?_⟩
    show b_X8_leftMany_4 N K (nI (frN (s 0 2) k)) (nI k) t = _
    unfold b_X8_leftMany_4 f_X8_leftMany_31
    have c1 : ¬ nI (s 0 0) ≤ nI k := fun z => absurd ((nIle (by omega) (by omega)).mp z) (by omega)
    have i0 : o_inb 0 31 = true := by decide
    have e4' : t.1 9 0 4 (Int32.toNatClampNeg 0) = nI (s 0 2) := e4
    have ez : nI (frN (s 0 2) k) + 0 = nI (frN (s 0 2) k) := nI_add _ 0
    rw [e0, if_neg c1, if_pos i0, e4', p_has (by omega) (by omega), o_bd_some]
    simp only [nI_1, ez]
    rw [frN]
    rcases bit01 (m := s 0 2) (k := k) with e | e
    · rw [e, if_pos (show (0 : Nat) = 0 from rfl)]
      rfl
    · rw [e, if_neg (show ¬ (1 : Nat) = 0 by decide)]
      rfl
abbrev cnd (s : Sx) (M c : Nat) : Prop := s 6 c = 0 ∧ M / 2 ^ c % 2 = 0
theorem p_lay19 {N M j : Nat} {x : Int32} {v : Mm} {s : Sx} {k10 : Int32 × Mm → Option Mm} (hN : 300 ≤ N) (hs : wfS s) (hR : RR (v.1 9 0 0 0) (v.1 9 0 0 1) (v.1 9 0 2) (v.1 9 0 3) (v.1 9 0 4) s) (hM : M < 32 ∧ ∀ c, c < 5 → (M / 2 ^ c % 2 = 1 ↔ c < s 0 1 ∧ s 6 c = 0 ∧ rank s c < j)) : ∃ M', f_X8_layAsked_19 N k10 x (-4) 0 (sI v 9 0 0 29 (nI M)) = k10 (x + -1, sI v 9 0 0 29 (nI M')) ∧ M' < 32 ∧ ∀ c, c < 5 → (M' / 2 ^ c % 2 = 1 ↔ c < s 0 1 ∧ s 6 c = 0 ∧ rank s c < j + 1) := by
  have h5 := hs.2.1
  obtain ⟨m1, m2⟩ := hM
  have e1 : (sI v 9 0 0 29 (nI M)).1 9 0 0 1 = nI (s 0 1) := hR.1.2.1
  have e29 : (sI v 9 0 0 29 (nI M)).1 9 0 0 29 = nI M := rfl
  refine lp_up (body := fun k x => b_X8_layAsked_19 N k10 k x.1 x.2.1 x.2.2.1 x.2.2.2) (fun r => ∃ M', r = k10 (x + -1, sI v 9 0 0 29 (nI M')) ∧ M' < 32 ∧ ∀ c, c < 5 → (M' / 2 ^ c % 2 = 1 ↔ c < s 0 1 ∧ s 6 c = 0 ∧ rank s c < j + 1)) (fun k y => ∃ who, y = (x, who, nI k, sI v 9 0 0 29 (nI M)) ∧ ((who = -4 ∧ ∀ c, c < k → ¬ cnd s M c) ∨ ∃ w, who = nI w ∧ w < k ∧ cnd s M w ∧ ∀ c, c < k → cnd s M c → kyD s w ≤ kyD s c)) (s 0 1) (fun K y hy => ?_) (fun K k y hk hy => ?_) N 0 (x, -4, 0, sI v 9 0 0 29 (nI M)) (by omega) (by omega) ⟨-4, rfl, Or.inl ⟨rfl, fun c hc => absurd hc (Nat.not_lt_zero c)⟩⟩
  · obtain ⟨who, rfl, h⟩ := hy
    show ∃ M', b_X8_layAsked_19 N k10 K x who (nI (s 0 1)) (sI v 9 0 0 29 (nI M)) = _ ∧ _
    unfold b_X8_layAsked_19 f_X8_layAsked_119
    rw [e1, if_pos Int32.le_rfl]
    simp only [e29, o_nm, sI_sI]
    rcases h with ⟨rfl, h⟩ | ⟨w, rfl, h1, h2, h3⟩
    · have eo : nI M ||| 0 = nI M := (nI_or M 0).trans (by rw [Nat.or_zero])
      rw [if_pos rfl, eo]
      refine ⟨M, rfl, m1, fun c hc => ?_⟩
      rw [m2 c hc]
      refine ⟨fun z => ⟨z.1, z.2.1, by omega⟩, fun z => ?_⟩
      have hb : ¬ M / 2 ^ c % 2 = 0 := fun y => h c z.1 ⟨z.2.1, y⟩
      exact (m2 c hc).mp (by omega)
    · rw [if_neg (ne4 (by omega)), nI_shl1 (by omega), nI_or]
      have hw1 : ¬ rank s w < j := fun z => by
        have := (m2 w (by omega)).mpr ⟨h1, h2.1, z⟩
        have := h2.2
        omega
      have hwj : rank s w = j := by
        rcases Nat.lt_or_ge j (rank s w) with z | z
        · exfalso
          obtain ⟨d, d1, d2, d3, d4⟩ := rank_pred (w := w) h5 (by omega)
          have hd : M / 2 ^ d % 2 = 0 := by
            rcases bit01 (m := M) (k := d) with y | y
            · exact y
            · have := (m2 d (by omega)).mp y
              omega
          have := h3 d d1 ⟨d2, hd⟩
          omega
        · omega
      refine ⟨M ||| 2 ^ w, rfl, ?_, fun c hc => ?_⟩
      · show (M ||| 2 ^ w) < 2 ^ 5
        exact Nat.or_lt_two_pow m1 (Nat.pow_lt_pow_right (by decide) (by omega))
      · rw [or_bit]
        by_cases y : c = w
        · rw [if_pos y, y]
          exact ⟨fun _ => ⟨h1, h2.1, by omega⟩, fun _ => rfl⟩
        · rw [if_neg y, m2 c hc]
          refine ⟨fun z => ⟨z.1, z.2.1, by omega⟩, fun z => ⟨z.1, z.2.1, ?_⟩⟩
          have := rank_ne h5 z.1 h1 z.2.1 h2.1 y
          omega
  · obtain ⟨who, rfl, h⟩ := hy
    right
    show ∃ x', _ ∧ b_X8_layAsked_19 N k10 K x who (nI k) (sI v 9 0 0 29 (nI M)) = _
    unfold b_X8_layAsked_19 f_X8_layAsked_54 f_X8_layAsked_55 f_X8_layAsked_93 f_X8_layAsked_89 f_X8_layAsked_94
    have c1 : ¬ nI (s 0 1) ≤ nI k := fun z => absurd ((nIle (by omega) (by omega)).mp z) (by omega)
    obtain ⟨i19, l19⟩ := lit19 (k := k) (by omega) 19 (by omega)
    have i19 : o_inb (19 + nI k) 31 = true := i19
    have l19 : ((19 : Int32) + nI k).toNatClampNeg = 19 + k := l19
    obtain ⟨i14, l14⟩ := lit19 (k := k) (by omega) 14 (by omega)
    have i14 : o_inb (14 + nI k) 31 = true := i14
    have l14 : ((14 : Int32) + nI k).toNatClampNeg = 14 + k := l14
    obtain ⟨u3, u4, u5, u6, u7⟩ := hR.2.2.1 k hk
    have u5 : (sI v 9 0 0 29 (nI M)).1 9 0 4 (14 + k) = nI (s 5 k) := u5
    have u6 : (sI v 9 0 0 29 (nI M)).1 9 0 4 (19 + k) = nI (s 6 k) := u6
    have f5 := (hs.2.2.2.2.2 k hk).2.2
    have c6 : nI (s 6 k) = 0 ↔ s 6 k = 0 := nIeq (b := 0) (by omega) (by omega)
    simp only [e1, if_neg c1, if_pos i19, l19, u6, c6, e29, nI_1, ite_true]
    have keep : ¬ cnd s M k → ∃ x', (∃ who, x' = (x, who, nI (k + 1), sI v 9 0 0 29 (nI M)) ∧ ((who = -4 ∧ ∀ c, c < k + 1 → ¬ cnd s M c) ∨ ∃ w, who = nI w ∧ w < k + 1 ∧ cnd s M w ∧ ∀ c, c < k + 1 → cnd s M c → kyD s w ≤ kyD s c)) ∧ K (x, who, nI (k + 1), sI v 9 0 0 29 (nI M)) = K x' := by
      intro nc
      refine ⟨_, ⟨who, rfl, ?_⟩, rfl⟩
      rcases h with ⟨rfl, h⟩ | ⟨w, rfl, h1, h2, h3⟩
      · refine Or.inl ⟨rfl, fun c hc => ?_⟩
        by_cases y : c = k
        · rw [y]; exact nc
        · exact h c (by omega)
      · refine Or.inr ⟨w, rfl, by omega, h2, fun c hc cc => ?_⟩
        by_cases y : c = k
        · rw [y] at cc
          exact absurd cc nc
        · exact h3 c (by omega) cc
    by_cases z6 : s 6 k = 0
    · rw [if_pos z6, p_has (by omega) (by omega), o_bd_some]
      simp only []
      rcases bit01 (m := M) (k := k) with e | e
      · rw [e]
        simp only [show nI 0 = 0 from rfl, ite_true, if_neg one_ne, if_pos i14, l14, u5]
        have hcn : cnd s M k := ⟨z6, e⟩
        rcases h with ⟨rfl, h⟩ | ⟨w, rfl, h1, h2, h3⟩
        · rw [if_pos rfl]
          refine ⟨_, ⟨nI k, rfl, Or.inr ⟨k, rfl, by omega, hcn, fun c hc cc => ?_⟩⟩, rfl⟩
          by_cases y : c = k
          · rw [y]; exact Nat.le_refl _
          · exact absurd cc (h c (by omega))
        · obtain ⟨j14, k14⟩ := lit19 (k := w) (by omega) 14 (by omega)
          have j14 : o_inb (14 + nI w) 31 = true := j14
          have k14 : ((14 : Int32) + nI w).toNatClampNeg = 14 + w := k14
          have w5 : (sI v 9 0 0 29 (nI M)).1 9 0 4 (14 + w) = nI (s 5 w) := (hR.2.2.1 w (by omega)).2.2.1
          have g5 := (hs.2.2.2.2.2 w (by omega)).2.2.1
          have cc : nI (s 5 w) ≤ nI (s 5 k) ↔ s 5 w ≤ s 5 k := nIle (by omega) (by omega)
          rw [if_neg (ne4 (by omega)), if_pos j14, k14, w5]
          simp only [cc]
          by_cases y : s 5 w ≤ s 5 k
          · rw [if_pos y]
            refine ⟨_, ⟨nI w, rfl, Or.inr ⟨w, rfl, by omega, h2, fun c hc q => ?_⟩⟩, rfl⟩
            by_cases y2 : c = k
            · rw [y2]
              unfold kyD
              omega
            · exact h3 c (by omega) q
          · rw [if_neg y]
            refine ⟨_, ⟨nI k, rfl, Or.inr ⟨k, rfl, by omega, hcn, fun c hc q => ?_⟩⟩, rfl⟩
            by_cases y2 : c = k
            · rw [y2]; exact Nat.le_refl _
            · have := h3 c (by omega) q
              unfold kyD at this ⊢
              omega
      · rw [e]
        simp only [if_neg (show ¬ nI 1 = 0 by decide)]
        exact keep (fun q => by have := q.2; omega)
    · rw [if_neg z6]
      exact keep (fun q => z6 q.1)
theorem p_layAsked {N : Nat} {v : Mm} {s : Sx} (hN : 300 ≤ N) (hs : wfS s) (hR : RR (v.1 9 0 0 0) (v.1 9 0 0 1) (v.1 9 0 2) (v.1 9 0 3) (v.1 9 0 4) s) : ∃ M, f_X8_layAsked N v = some (sI v 9 0 0 29 (nI M)) ∧ M < 32 ∧ ∀ c, c < 5 → (M / 2 ^ c % 2 = 1 ↔ mem s c) := by
  have hlf : left s ≤ 8 := by
    have := frN_le (s 0 2) (s 0 0)
    have := hs.1
    unfold left
    omega
  unfold f_X8_layAsked
  simp only [o_nm]
  rw [p_leftMany (t := sI v 9 0 0 29 0) hN hs hR.1.1 hR.1.2.2.1, o_bd_some]
  refine lp_up (body := fun k x => b_X8_layAsked_10 N k x.1 x.2) (fun r => ∃ M, r = some (sI v 9 0 0 29 (nI M)) ∧ M < 32 ∧ ∀ c, c < 5 → (M / 2 ^ c % 2 = 1 ↔ mem s c)) (fun k x => ∃ M, x = (nI (left s - k), sI v 9 0 0 29 (nI M)) ∧ M < 32 ∧ ∀ c, c < 5 → (M / 2 ^ c % 2 = 1 ↔ c < s 0 1 ∧ s 6 c = 0 ∧ rank s c < k)) (left s) (fun K x hx => ?_) (fun K k x hk hx => ?_) N 0 (nI (left s), sI v 9 0 0 29 0) (by omega) (by omega) ⟨0, rfl, by omega, fun c _ => ⟨fun z => absurd z (by rw [Nat.zero_div]; decide), fun z => absurd z.2.2 (Nat.not_lt_zero _)⟩⟩
  · obtain ⟨M, rfl, a1, a2⟩ := hx
    refine ⟨M, ?_, a1, a2⟩
    show b_X8_layAsked_10 N K (nI (left s - left s)) _ = _
    unfold b_X8_layAsked_10
    rw [Nat.sub_self, if_pos (by decide)]
  · obtain ⟨M, rfl, a1, a2⟩ := hx
    right
    obtain ⟨M', b1, b2, b3⟩ := p_lay19 (x := nI (left s - k)) (k10 := K) hN hs hR ⟨a1, a2⟩
    refine ⟨_, ⟨M', rfl, b2, b3⟩, ?_⟩
    show b_X8_layAsked_10 N K (nI (left s - k)) _ = _
    unfold b_X8_layAsked_10
    have c0 : ¬ nI (left s - k) ≤ 0 := fun z => absurd ((nIle (b := 0) (by omega) (by omega)).mp z) (by omega)
    rw [if_neg c0, b1, show left s - k = (left s - (k + 1)) + 1 by omega, pk_m1]
/-! codes -/
def cdN (s : Sx) : Nat → Nat
  | 0 => 1
  | c + 1 => cdN s c * (if mem s c then s 0 0 else 1)
theorem cdN_le {s : Sx} (h8 : s 0 0 ≤ 8) : ∀ c, cdN s c ≤ 8 ^ c
  | 0 => Nat.le_refl _
  | c + 1 => by
    rw [cdN, Nat.pow_succ]
    refine Nat.mul_le_mul (cdN_le h8 c) ?_
    split <;> omega
def lfN (s : Sx) (k : Nat) : Nat → Nat
  | 0 => k
  | j + 1 => if mem s (s 0 1 - 1 - j) then lfN s k j / s 0 0 else lfN s k j
def toldN (s : Sx) (k c : Nat) : Nat := if mem s c then lfN s k (s 0 1 - 1 - c) % s 0 0 else s 0 0
theorem lfN_le (s : Sx) (k : Nat) : ∀ j, lfN s k j ≤ k
  | 0 => Nat.le_refl _
  | j + 1 => by
    have := lfN_le s k j
    rw [lfN]
    split
    · have := Nat.div_le_self (lfN s k j) (s 0 0)
      omega
    · exact this
theorem mem_Q {s : Sx} {c : Nat} (h : mem s c) : 0 < s 0 0 := by
  have h1 := h.2.2
  have h2 := frN_le (s 0 2) (s 0 0)
  unfold left at h1
  omega
theorem cdF_told {s : Sx} {k : Nat} (hk : k < cdN s (s 0 1)) : ∀ i, i ≤ s 0 1 → cdF s (toldN s k) i = lfN s k (s 0 1 - i) := by
  have hlt : ∀ j, j ≤ s 0 1 → lfN s k j < cdN s (s 0 1 - j) := by
    intro j
    induction j with
    | zero => intro _; exact hk
    | succ j ih =>
      intro hj
      have ih := ih (by omega)
      rw [show s 0 1 - j = (s 0 1 - 1 - j) + 1 by omega, cdN] at ih
      rw [lfN, show s 0 1 - (j + 1) = s 0 1 - 1 - j by omega]
      by_cases e : mem s (s 0 1 - 1 - j)
      · rw [if_pos e] at ih ⊢
        rw [Nat.mul_comm] at ih
        exact Nat.div_lt_of_lt_mul ih
      · rw [if_neg e] at ih ⊢
        rw [Nat.mul_one] at ih
        exact ih
  intro i
  induction i with
  | zero =>
    intro _
    have := hlt (s 0 1) (Nat.le_refl _)
    rw [Nat.sub_self, cdN] at this
    rw [Nat.sub_zero, cdF]
    omega
  | succ i ih =>
    intro hi
    have ih := ih (by omega)
    rw [show s 0 1 - i = (s 0 1 - 1 - i) + 1 by omega, lfN, show s 0 1 - 1 - (s 0 1 - 1 - i) = i by omega] at ih
    rw [cdF, ih, show s 0 1 - (i + 1) = s 0 1 - 1 - i by omega]
    by_cases e : mem s i
    · have ht : toldN s k i = lfN s k (s 0 1 - 1 - i) % s 0 0 := if_pos e
      rw [ht, if_pos (Nat.mod_lt _ (mem_Q e)), if_pos e]
      exact Nat.div_add_mod _ _
    · have ht : toldN s k i = s 0 0 := if_neg e
      rw [ht, if_neg (Nat.lt_irrefl _), if_neg e]
theorem told_cdF {s : Sx} {f : Nat → Nat} (hV : Vt s f) : toldN s (cdF s f (s 0 1)) = f := by
  have hl : ∀ j, j ≤ s 0 1 → lfN s (cdF s f (s 0 1)) j = cdF s f (s 0 1 - j) := by
    intro j
    induction j with
    | zero => intro _; rfl
    | succ j ih =>
      intro hj
      have ih := ih (by omega)
      rw [show s 0 1 - j = (s 0 1 - 1 - j) + 1 by omega, cdF] at ih
      rw [lfN, ih, show s 0 1 - (j + 1) = s 0 1 - 1 - j by omega]
      by_cases e : mem s (s 0 1 - 1 - j)
      · have hq := (Vt_mem hV _).mp e
        rw [if_pos e, if_pos hq, Nat.mul_add_div (by omega), Nat.div_eq_of_lt hq, Nat.add_zero]
      · rw [if_neg e, if_neg (fun z => e ((Vt_mem hV _).mpr z))]
  funext c
  by_cases e : mem s c
  · have hq := (Vt_mem hV c).mp e
    have hc := e.1
    have : toldN s (cdF s f (s 0 1)) c = lfN s (cdF s f (s 0 1)) (s 0 1 - 1 - c) % s 0 0 := if_pos e
    rw [this, hl _ (by omega), show s 0 1 - (s 0 1 - 1 - c) = c + 1 by omega, cdF, if_pos hq, Nat.mul_add_mod, Nat.mod_eq_of_lt hq]
  · rw [hV.2.2 c e]
    exact if_neg e
theorem cdF_lt {s : Sx} {f : Nat → Nat} (hV : Vt s f) : ∀ c, cdF s f c < cdN s c
  | 0 => by simp [cdF, cdN]
  | c + 1 => by
    have ih := cdF_lt hV c
    rw [cdF, cdN]
    by_cases e : mem s c
    · have hq := (Vt_mem hV c).mp e
      rw [if_pos hq, if_pos e]
      have : s 0 0 * (cdF s f c + 1) ≤ s 0 0 * cdN s c := Nat.mul_le_mul_left _ ih
      rw [Nat.mul_add, Nat.mul_one] at this
      rw [Nat.mul_comm (cdN s c)]
      omega
    · rw [if_neg (fun z => e ((Vt_mem hV _).mpr z)), if_neg e, Nat.mul_one]
      exact ih
theorem cdF_up {s : Sx} {f : Nat → Nat} (hV : Vt s f) : ∀ d, cdF s f (s 0 1 + d) = cdF s f (s 0 1)
  | 0 => rfl
  | d + 1 => by
    rw [← Nat.add_assoc, cdF, if_neg (fun z => by have := ((Vt_mem hV _).mpr z).1; omega), cdF_up hV d]
/-- what is best by the one order is so by the other -/
theorem best_same {s : Sx} {f g : Nat → Nat} (hs : wfS s) (hf : Vt s f) (hg : Vt s g) (h1 : lxl (vl s f) (vl s g)) (h2 : lxl (lastV s g, cdF s g (s 0 1)) (lastV s f, cdF s f (s 0 1))) : f = g := by
  have h5 := hs.2.1
  have h8 := hs.1
  have e1 := cdF_up hf (5 - s 0 1)
  have e2 := cdF_up hg (5 - s 0 1)
  rw [show s 0 1 + (5 - s 0 1) = 5 by omega] at e1 e2
  rw [← e1, ← e2] at h2
  have ho := ord_eq (f := f) (f' := g) h8 (fun c => (Vt_mem hf c).symm.trans (Vt_mem hg c)) 5
  have hp : pkF s f 5 = pkF s g 5 := by
    unfold lxl vl at h1
    unfold lxl at h2
    simp only [] at h1 h2
    omega
  funext c
  by_cases e : mem s c
  · have := pkF_dig (c := c) h8 hp (by have := e.1; omega)
    unfold dgF at this
    rw [if_pos ((Vt_mem hf c).mp e), if_pos ((Vt_mem hg c).mp e)] at this
    exact this
  · rw [hf.2.2 c e, hg.2.2 c e]
