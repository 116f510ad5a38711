/-! behind how many hours -/
def hl (f : Sx → Nat → Nat) (p : Sx → Bool) (s : Sx) : Nat → Nat
  | 0 => 101
  | j + 1 => if p (IT f s (101 - (j + 1))) then 101 - (j + 1) else hl f p s j
def htl (f : Sx → Nat → Nat) (p : Sx → Bool) (s : Sx) : Nat := hl f p s 101
theorem hl_le {f : Sx → Nat → Nat} {p : Sx → Bool} {s : Sx} : ∀ j, hl f p s j ≤ 101
  | 0 => Nat.le_refl _
  | j + 1 => by
    rw [hl]
    split
    · omega
    · exact hl_le j
theorem htl_le {f : Sx → Nat → Nat} {p : Sx → Bool} {s : Sx} : htl f p s ≤ 101 := hl_le 101
theorem p_till {N m : Nat} {t : Mm} {s : Sx} {p : Sx → Bool} (hN : 300 ≤ N) (hs : wfS s) (hh : s 0 3 ≤ 19000) (hF : FR (t.1 0 18) s) (hp : ∀ s' : Sx, wfS s' → s' 0 1 = s 0 1 → ((nI m &&& (nI (setN s' 2 (s' 0 1)) ^^^ (-1))) = 0 ↔ p s')) : ∃ t' : Mm, f_X1_hoursTillOver N (nI m) t = some (nI (htl lowF p s), t') ∧ (∀ a b, ¬ (a = 0 ∧ b = 18) → t'.1 a b = t.1 a b) ∧ t'.2 = t.2 := by
  refine lp_up (body := fun k x => b_X1_hoursTillOver_2 N k x.1 x.2.1 x.2.2) (fun o => ∃ t' : Mm, o = some (nI (htl lowF p s), t') ∧ (∀ a b, ¬ (a = 0 ∧ b = 18) → t'.1 a b = t.1 a b) ∧ t'.2 = t.2) (fun k x => ∃ t1 : Mm, x = (nI m, nI k, t1) ∧ (∀ a b, ¬ (a = 0 ∧ b = 18) → t1.1 a b = t.1 a b) ∧ t1.2 = t.2 ∧ FR (t1.1 0 18) (IT lowF s k) ∧ htl lowF p s = hl lowF p s (101 - k)) 101 (fun K x hx => ?_) (fun K k x hk hx => ?_) N 0 (nI m, 0, t) (by omega) (by omega) ⟨t, rfl, fun _ _ _ => rfl, rfl, hF, rfl⟩
  · obtain ⟨t1, rfl, a1, a2, a3, a4⟩ := hx
    refine ⟨t1, ?_, a1, a2⟩
    show b_X1_hoursTillOver_2 N K (nI m) (nI 101) t1 = _
    unfold b_X1_hoursTillOver_2
    rw [if_pos (by decide), a4]
    rfl
  · obtain ⟨t1, rfl, a1, a2, a3, a4⟩ := hx
    have c1 : ¬ (100 : Int32) < nI k := fun z => absurd ((nIlt (a := 100) (by omega) (by omega)).mp z) (by omega)
    have hw := wf_IT (f := lowF) hs k
    have h2 : f_X0_thoseWho N 18 2 t1 = _ := p_those (w := 2) hN hw (by omega) a3
    rw [show 101 - k = (101 - (k + 1)) + 1 by omega, hl, show 101 - (101 - (k + 1) + 1) = k by omega] at a4
    have hpk := hp (IT lowF s k) hw (IT_keep (by unfold fixd; omega) k)
    show (∃ t', b_X1_hoursTillOver_2 N K (nI m) (nI k) t1 = _ ∧ _) ∨ ∃ x', _ ∧ b_X1_hoursTillOver_2 N K (nI m) (nI k) t1 = _
    unfold b_X1_hoursTillOver_2
    rw [if_neg c1, h2, o_bd_some]
    simp only [hpk]
    by_cases e : p (IT lowF s k)
    · left
      rw [if_pos e] at a4
      rw [if_pos e, a4]
      exact ⟨t1, rfl, a1, a2⟩
    · right
      rw [if_neg e] at a4
      rw [if_neg e]
      obtain ⟨t2, b1, b2, b3, b4⟩ := p_pass (N := N) (i := 18) hN hw (by rw [IT_hour]; omega) a3
      rw [b1, o_bd_some, nI_1]
      exact ⟨_, ⟨t2, rfl, fun a b z => (b2 a b z).trans (a1 a b z), b3.trans a2, b4, a4⟩, rfl⟩
/-- as an answer -/
def aI (h : Nat) : Int32 := if h < 101 then nI h else -4
theorem p_orNone {h : Nat} (hh : h ≤ 101) (t : Mm) : f_X7_orNone (nI h) t = some (aI h, t) := by
  unfold f_X7_orNone aI
  have c : nI h < 101 ↔ h < 101 := nIlt (b := 101) (by omega) (by omega)
  by_cases e : h < 101
  · rw [if_pos (c.mpr e), if_pos e]
  · rw [if_neg (fun z => e (c.mp z)), if_neg e]
def allO (s : Sx) : Bool := decide (setN s 2 (s 0 1) = 2 ^ s 0 1 - 1)
def oneO (c : Nat) (s : Sx) : Bool := decide (s 6 c = 2)
theorem allO_iff {s : Sx} : allO s = true ↔ setN s 2 (s 0 1) = 2 ^ s 0 1 - 1 := decide_eq_true_iff
theorem oneO_iff {c : Nat} {s : Sx} : oneO c s = true ↔ s 6 c = 2 := decide_eq_true_iff
theorem all_test : ∀ n, n < 6 → ∀ m, m < 32 → m < 2 ^ n → ((nI (2 ^ n - 1) &&& (nI m ^^^ (-1))) = 0 ↔ m = 2 ^ n - 1) := by decide +kernel
theorem one_test : ∀ c, c < 5 → ∀ m, m < 32 → ((nI (2 ^ c) &&& (nI m ^^^ (-1))) = 0 ↔ m / 2 ^ c % 2 = 1) := by decide +kernel
theorem set_lt5 {s : Sx} {w n : Nat} (h : n ≤ 5) : setN s w n < 32 := by
  have h1 := setN_lt s w n
  have h2 : 2 ^ n ≤ 2 ^ 5 := Nat.pow_le_pow_right (by decide) h
  omega
theorem p_tillAll {N n : Nat} {t : Mm} {s : Sx} (hN : 300 ≤ N) (hs : wfS s) (hh : s 0 3 ≤ 19000) (hF : FR (t.1 0 18) s) (hn : n = s 0 1) : ∃ t' : Mm, f_X1_hoursTillOver N (nI (2 ^ n - 1)) t = some (nI (htl lowF allO s), t') ∧ (∀ a b, ¬ (a = 0 ∧ b = 18) → t'.1 a b = t.1 a b) ∧ t'.2 = t.2 := by
  have h5 := hs.2.1
  refine p_till hN hs hh hF (fun s' h1 h2 => ?_)
  subst hn
  have := all_test (s 0 1) (by omega) (setN s' 2 (s 0 1)) (set_lt5 h5) (setN_lt _ _ _)
  rw [allO_iff, h2]
  exact this
theorem p_tillOne {N c : Nat} {t : Mm} {s : Sx} (hN : 300 ≤ N) (hs : wfS s) (hh : s 0 3 ≤ 19000) (hF : FR (t.1 0 18) s) (hc : c < s 0 1) : ∃ t' : Mm, f_X1_hoursTillOver N (nI (2 ^ c)) t = some (nI (htl lowF (oneO c) s), t') ∧ (∀ a b, ¬ (a = 0 ∧ b = 18) → t'.1 a b = t.1 a b) ∧ t'.2 = t.2 := by
  have h5 := hs.2.1
  refine p_till hN hs hh hF (fun s' h1 h2 => ?_)
  rw [h2]
  have := one_test c (by omega) (setN s' 2 (s 0 1)) (set_lt5 h5)
  rw [this, setN_bit (s 0 1) hc, oneO_iff]
  unfold at1
  split
  · rename_i e
    exact ⟨fun _ => e, fun _ => rfl⟩
  · rename_i e
    exact ⟨fun z => by omega, fun z => absurd z e⟩
theorem ev_all : ∀ n, n < 6 → ((1 : Int32) <<< (nI n &&& 31)) - 1 = nI (2 ^ n - 1) := by decide +kernel
theorem p_lastHour {N : Nat} {t : Mm} {s : Sx} {fq : Sx → Nat → Nat} (hN : 300 ≤ N) (hs : wfS s) (hh : s 0 3 ≤ 19000) (hR : SD t (t.1 9 0 5) s) (hT : HT t (s 0 0) fq) : ∃ f, f_X8_lastHour N t = some (aI (htl fq allO s), sR t 9 0 5 f) := by
  have h5 := hs.2.1
  have e1 : t.1 9 0 0 1 = nI (s 0 1) := hR.1.2.1
  refine lp_up (body := fun k x => b_X8_lastHour_2 N k x.1 x.2) (fun o => ∃ f, o = some (aI (htl fq allO s), sR t 9 0 5 f)) (fun k x => ∃ f, x = (nI k, sR t 9 0 5 f) ∧ SD t f (IT fq s k) ∧ htl fq allO s = hl fq allO s (101 - k)) 101 (fun K x hx => ?_) (fun K k x hk hx => ?_) N 0 (0, t) (by omega) (by omega) ⟨t.1 9 0 5, by rw [sR_self]; rfl, hR, rfl⟩
  · obtain ⟨f, rfl, a1, a2⟩ := hx
    refine ⟨f, ?_⟩
    show b_X8_lastHour_2 N K (nI 101) _ = _
    unfold b_X8_lastHour_2
    rw [if_pos (by decide), a2]
    rfl
  · obtain ⟨f, rfl, a1, a2⟩ := hx
    have c1 : ¬ (101 : Int32) ≤ nI k := fun z => absurd ((nIle (a := 101) (by omega) (by omega)).mp z) (by omega)
    have hw := wf_IT (f := fq) hs k
    have k1 := IT_keep (f := fq) (s := s) (r := 0) (k := 1) (by unfold fixd; omega) k
    have h2 : f_X8_placed N 2 (sR t 9 0 5 f) = _ := p_placed (w := 2) (t := sR t 9 0 5 f) (s := IT fq s k) hN hw (by omega) (by rw [sR_at]; exact a1)
    rw [show 101 - k = (101 - (k + 1)) + 1 by omega, hl, show 101 - (101 - (k + 1) + 1) = k by omega] at a2
    have e1' : (sR t 9 0 5 f).1 9 0 0 1 = nI (s 0 1) := e1
    have hlt := set_lt5 (s := IT fq s k) (w := 2) h5
    have hev : 2 ^ s 0 1 - 1 < 2147483648 := by
      have h2 : 2 ^ s 0 1 ≤ 2 ^ 5 := Nat.pow_le_pow_right (by decide) h5
      omega
    have ct : nI (setN (IT fq s k) 2 (s 0 1)) = nI (2 ^ s 0 1 - 1) ↔ allO (IT fq s k) := by
      rw [allO_iff, k1]
      exact nIeq (by omega) hev
    show (∃ f', b_X8_lastHour_2 N K (nI k) (sR t 9 0 5 f) = _) ∨ ∃ x', _ ∧ b_X8_lastHour_2 N K (nI k) (sR t 9 0 5 f) = _
    unfold b_X8_lastHour_2
    rw [if_neg c1, h2, o_bd_some]
    simp only [e1', ev_all (s 0 1) (by omega), k1, ct]
    by_cases e : allO (IT fq s k)
    · left
      rw [if_pos e] at a2
      simp only [if_pos e]
      refine ⟨f, ?_⟩
      rw [a2]
      unfold aI
      rw [if_pos hk]
    · right
      rw [if_neg e] at a2
      simp only [if_neg e]
      obtain ⟨g, b1, b2⟩ := p_goHour (N := N) (t := sR t 9 0 5 f) (s := IT fq s k) (fq := fq) hN hw (by rw [IT_hour]; omega) (by rw [sR_at]; exact a1) (by rw [IT_keep (by unfold fixd; omega)]; exact hT)
      rw [b1, o_bd_some, nI_1, sR_sR]
      exact ⟨_, ⟨g, rfl, b2, a2⟩, rfl⟩
theorem p_overHour {N c : Nat} {t : Mm} {s : Sx} {fq : Sx → Nat → Nat} (hN : 300 ≤ N) (hs : wfS s) (hh : s 0 3 ≤ 19000) (hR : SD t (t.1 9 0 5) s) (hT : HT t (s 0 0) fq) (hc : c < s 0 1) : ∃ f, f_X8_overHour N (nI c) t = some (aI (htl fq (oneO c) s), sR t 9 0 5 f) := by
  have h5 := hs.2.1
  refine lp_up (body := fun k x => b_X8_overHour_2 N k x.1 x.2.1 x.2.2) (fun o => ∃ f, o = some (aI (htl fq (oneO c) s), sR t 9 0 5 f)) (fun k x => ∃ f, x = (nI c, nI k, sR t 9 0 5 f) ∧ SD t f (IT fq s k) ∧ htl fq (oneO c) s = hl fq (oneO c) s (101 - k)) 101 (fun K x hx => ?_) (fun K k x hk hx => ?_) N 0 (nI c, 0, t) (by omega) (by omega) ⟨t.1 9 0 5, by rw [sR_self]; rfl, hR, rfl⟩
  · obtain ⟨f, rfl, a1, a2⟩ := hx
    refine ⟨f, ?_⟩
    show b_X8_overHour_2 N K (nI c) (nI 101) _ = _
    unfold b_X8_overHour_2
    rw [if_pos (by decide), a2]
    rfl
  · obtain ⟨f, rfl, a1, a2⟩ := hx
    have c1 : ¬ (101 : Int32) ≤ nI k := fun z => absurd ((nIle (a := 101) (by omega) (by omega)).mp z) (by omega)
    have hw := wf_IT (f := fq) hs k
    have k1 := IT_keep (f := fq) (s := s) (r := 0) (k := 1) (by unfold fixd; omega) k
    obtain ⟨i19, l19⟩ := lit19 (k := c) (by omega) 19 (by omega)
    have i19 : o_inb (19 + nI c) 31 = true := i19
    have l19 : ((19 : Int32) + nI c).toNatClampNeg = 19 + c := l19
    obtain ⟨u3, u4, u5, u6, u7⟩ := a1.2.2.1 c (by rw [k1]; exact hc)
    have f6 := (hw.2.2.2.2.2 c (by rw [k1]; exact hc)).2.2.2.1
    have c6 : nI (IT fq s k 6 c) = 2 ↔ oneO c (IT fq s k) := by
      rw [oneO_iff]
      exact nIeq (b := 2) (by omega) (by omega)
    rw [show 101 - k = (101 - (k + 1)) + 1 by omega, hl, show 101 - (101 - (k + 1) + 1) = k by omega] at a2
    show (∃ f', b_X8_overHour_2 N K (nI c) (nI k) (sR t 9 0 5 f) = _) ∨ ∃ x', _ ∧ b_X8_overHour_2 N K (nI c) (nI k) (sR t 9 0 5 f) = _
    unfold b_X8_overHour_2
    simp only [if_neg c1, if_pos i19, l19, sR_at, u6, c6]
    by_cases e : oneO c (IT fq s k)
    · left
      rw [if_pos e] at a2
      simp only [if_pos e]
      refine ⟨f, ?_⟩
      rw [a2]
      unfold aI
      rw [if_pos hk]
    · right
      rw [if_neg e] at a2
      simp only [if_neg e]
      obtain ⟨g, b1, b2⟩ := p_goHour (N := N) (t := sR t 9 0 5 f) (s := IT fq s k) (fq := fq) hN hw (by rw [IT_hour]; omega) (by rw [sR_at]; exact a1) (by rw [IT_keep (by unfold fixd; omega)]; exact hT)
      rw [b1, o_bd_some, nI_1, sR_sR]
      exact ⟨_, ⟨g, rfl, b2, a2⟩, rfl⟩
theorem op_crosses (N : Nat) (hN : 300 ≤ N) : Op_crosses N Rel := by
  intro u v h a0
  obtain ⟨⟨⟨s, w1, w2, w3, w4⟩, hU⟩, -, -, -, h17, h19⟩ := id h
  have eq : u.1 0 0 0 1 = nI (s 0 1) := w3.1.2.1
  have eq' : v.1 9 0 0 1 = nI (s 0 1) := w4.1.2.1
  unfold f_X7_crosses f_X8_crosses
  have hA := p_hasC (t := u) (i := 9 * 0) (a := a0) eq w1.2.1
  have hB := p_isC (t := v) (a := a0) eq' w1.2.1
  by_cases h0 : inR a0 0 ((s 0 1 : Int) - 1)
  · rw [hA.1 h0, hB.1 h0, o_bd_some, o_bd_some]
    simp only [if_neg one_ne]
    obtain ⟨c, rfl, -, hc, hc2⟩ := inR_nat h0 (by omega)
    have hc : c < s 0 1 := by omega
    have h5 := w1.2.1
    obtain ⟨f, e1, e2⟩ := p_asideR hN w1 h17 w4
    obtain ⟨g, e3⟩ := p_overHour (N := N) (c := c) (t := sR v 9 0 5 f) (s := s) hN w1 (by omega) (by rw [sR_at]; exact e2) (HT_low h19) hc
    rw [sR_sR] at e3
    obtain ⟨t1, b1, b2, b3, b4⟩ := p_start w1 w3
    obtain ⟨t2, d1, d2, d3⟩ := p_tillOne (N := N) hN w1 (by omega) b4 hc
    rw [b1, o_bd_some, nI_shl1 (by omega), d1, o_bd_some, e1, o_bd_some, e3, o_bd_some]
    simp only []
    rw [p_orNone htl_le, o_bd_some]
    exact ⟨_, t2, _, rfl, rfl, h.quiet ((FrC.of (by unfold scr; omega) b2 b3).tr (FrC.of (by unfold scr; omega) d2 d3)) QR.side⟩
  · rw [hA.2 h0, hB.2 h0, o_bd_some, o_bd_some]
    exact ⟨-1, u, v, rfl, rfl, h⟩
theorem op_last (N : Nat) (hN : 300 ≤ N) : Op_last N Rel := by
  intro u v h
  obtain ⟨⟨⟨s, w1, w2, w3, w4⟩, hU⟩, -, -, -, h17, h19⟩ := id h
  unfold f_X7_last f_X8_last f_X0_everyone
  have h5 := w1.2.1
  obtain ⟨f, e1, e2⟩ := p_asideR hN w1 h17 w4
  obtain ⟨g, e3⟩ := p_lastHour (N := N) (t := sR v 9 0 5 f) (s := s) hN w1 (by omega) (by rw [sR_at]; exact e2) (HT_low h19)
  rw [sR_sR] at e3
  obtain ⟨t1, b1, b2, b3, b4⟩ := p_start w1 w3
  have eq : t1.1 0 (9 * 0) 0 1 = nI (s 0 1) := by rw [b2 0 (9 * 0) (by omega)]; exact w3.1.2.1
  obtain ⟨t2, d1, d2, d3⟩ := p_tillAll (N := N) hN w1 (by omega) b4 rfl
  rw [b1, o_bd_some, eq, ev_all (s 0 1) (by omega), o_bd_some, e1, o_bd_some, e3, o_bd_some]
  simp only []
  rw [d1, o_bd_some]
  simp only []
  rw [p_orNone htl_le, o_bd_some]
  exact ⟨_, t2, _, rfl, rfl, h.quiet ((FrC.of (by unfold scr; omega) b2 b3).tr (FrC.of (by unfold scr; omega) d2 d3)) QR.side⟩
/-! the most -/
def inM (s : Sx) : Nat := othN s 9 (s 0 1)
def mst (s : Sx) : Nat → Nat × Nat
  | 0 => (inM s, 0)
  | k + 1 => if (mst s k).1 < inM (IT lowF s (k + 1)) then (inM (IT lowF s (k + 1)), k + 1) else mst s k
theorem inM_le {s : Sx} (h : wfS s) : inM s ≤ 5 := by
  have h1 := othN_le s 9 (s 0 1)
  have h2 := h.2.1
  unfold inM
  omega
theorem mst_le {s : Sx} (h : wfS s) : ∀ k, (mst s k).1 ≤ 5 ∧ (mst s k).2 ≤ k
  | 0 => ⟨inM_le h, Nat.le_refl _⟩
  | k + 1 => by
    rw [mst]
    have h1 := mst_le h k
    split
    · exact ⟨inM_le (wf_IT h _), Nat.le_refl _⟩
    · exact ⟨h1.1, by omega⟩
theorem p_most20 {N : Nat} {t : Mm} {s : Sx} (hN : 300 ≤ N) (hs : wfS s) (hh : s 0 3 ≤ 19000) (hF : FR (t.1 0 18) s) (h1 : t.1 3 4 0 1 = nI (inM s)) (h2 : t.1 3 4 0 2 = 0) : ∃ t' : Mm, f_X1_seekMost_20 N (9 * 0) 1 t = some t' ∧ FrC t t' ∧ t'.1 3 4 0 1 = nI (mst s 100).1 ∧ t'.1 3 4 0 2 = nI (mst s 100).2 := by
  refine lp_up (body := fun k x => b_X1_seekMost_20 N (9 * 0) k x.1 x.2) (fun o => ∃ t' : Mm, o = some t' ∧ FrC t t' ∧ t'.1 3 4 0 1 = nI (mst s 100).1 ∧ t'.1 3 4 0 2 = nI (mst s 100).2) (fun k x => ∃ t1 : Mm, x = (nI (k + 1), t1) ∧ FrC t t1 ∧ t1.1 3 4 0 1 = nI (mst s k).1 ∧ t1.1 3 4 0 2 = nI (mst s k).2 ∧ FR (t1.1 0 18) (IT lowF s k)) 100 (fun K x hx => ?_) (fun K k x hk hx => ?_) N 0 (1, t) (by omega) (by omega) ⟨t, rfl, FrC.rfl' t, h1, h2, hF⟩
  · obtain ⟨t1, rfl, a1, a2, a3, a4⟩ := hx
    exact ⟨t1, rfl, a1, a2, a3⟩
  · obtain ⟨t1, rfl, a1, a2, a3, a4⟩ := hx
    right
    show ∃ x', _ ∧ b_X1_seekMost_20 N (9 * 0) K (nI (k + 1)) t1 = _
    unfold b_X1_seekMost_20 f_X1_seekMost_57
    have c1 : ¬ (100 : Int32) < nI (k + 1) := fun z => absurd ((nIlt (a := 100) (by omega) (by omega)).mp z) (by omega)
    obtain ⟨t2, b1, b2, b3, b4⟩ := p_pass (N := N) (i := 18) hN (wf_IT (f := lowF) hs k) (by rw [IT_hour]; omega) a4
    have hw := wf_IT (f := lowF) hs (k + 1)
    have hm : f_X1_howManyIn N t2 = some (nI (inM (IT lowF s (k + 1))), t2) := p_howMany hN hw b4
    have e1 : t2.1 3 4 0 1 = nI (mst s k).1 := by rw [b2 3 4 (by omega)]; exact a2
    have e2 : t2.1 3 4 0 2 = nI (mst s k).2 := by rw [b2 3 4 (by omega)]; exact a3
    have l1 := (mst_le hs k).1
    have l2 := inM_le hw
    have c2 : nI (inM (IT lowF s (k + 1))) ≤ nI (mst s k).1 ↔ inM (IT lowF s (k + 1)) ≤ (mst s k).1 := nIle (by omega) (by omega)
    have hf := a1.tr (FrC.of (by unfold scr; omega) b2 b3)
    rw [if_neg c1, b1, o_bd_some, hm, o_bd_some]
    simp only [e1, c2, nI_1]
    rw [mst]
    by_cases e : inM (IT lowF s (k + 1)) ≤ (mst s k).1
    · rw [if_pos e, if_neg (by omega)]
      exact ⟨_, ⟨t2, rfl, hf, e1, e2, b4⟩, rfl⟩
    · rw [if_neg e, if_pos (by omega), hm, o_bd_some]
      simp only [o_nm]
      exact ⟨_, ⟨sI (sI t2 3 4 0 1 (nI (inM (IT lowF s (k + 1))))) 3 4 0 2 (nI (k + 1)), rfl, (hf.tr (FrC.sI (by unfold scr; omega))).tr (FrC.sI (by unfold scr; omega)), rfl, rfl, b4⟩, rfl⟩
theorem p_most24 {N a : Nat} {t : Mm} {s : Sx} (hN : 300 ≤ N) (ha : a < 2) (hs : wfS s) (hh : s 0 3 ≤ 19000) (hR : SD t (t.1 9 0 5) s) (hT : HT t (s 0 0) lowF) : ∃ f, f_X8_most_24 N (nI a) (-4) 0 0 t = some ((if a = 0 then nI (mst s 100).1 else nI (mst s 100).2), sR t 9 0 5 f) := by
  refine lp_up (body := fun k x => b_X8_most_24 N k x.1 x.2.1 x.2.2.1 x.2.2.2.1 x.2.2.2.2) (fun o => ∃ f, o = some ((if a = 0 then nI (mst s 100).1 else nI (mst s 100).2), sR t 9 0 5 f)) (fun k x => ∃ f, x = (nI a, (if k = 0 then -4 else nI (mst s (k - 1)).1), (if k = 0 then 0 else nI (mst s (k - 1)).2), nI k, sR t 9 0 5 f) ∧ SD t f (IT lowF s k)) 101 (fun K x hx => ?_) (fun K k x hk hx => ?_) N 0 (nI a, -4, 0, 0, t) (by omega) (by omega) ⟨t.1 9 0 5, by rw [sR_self]; rfl, hR⟩
  · obtain ⟨f, rfl, a1⟩ := hx
    refine ⟨f, ?_⟩
    show b_X8_most_24 N K (nI a) (nI (mst s 100).1) (nI (mst s 100).2) (nI 101) _ = _
    unfold b_X8_most_24
    rw [if_pos (by decide)]
    rcases (show a = 0 ∨ a = 1 by omega) with rfl | rfl <;> rfl
  · obtain ⟨f, rfl, a1⟩ := hx
    right
    have c1 : ¬ (101 : Int32) ≤ nI k := fun z => absurd ((nIle (a := 101) (by omega) (by omega)).mp z) (by omega)
    have hw := wf_IT (f := lowF) hs k
    have hm : f_X8_inMany N (sR t 9 0 5 f) = some (nI (inM (IT lowF s k)), sR t 9 0 5 f) := p_inMany hN hw (by rw [sR_at]; exact a1)
    obtain ⟨g, b1, b2⟩ := p_goHour (N := N) (t := sR t 9 0 5 f) (s := IT lowF s k) (fq := lowF) hN hw (by rw [IT_hour]; omega) (by rw [sR_at]; exact a1) (by rw [IT_keep (by unfold fixd; omega)]; exact hT)
    rw [sR_sR] at b1
    have l2 := inM_le hw
    show ∃ x', _ ∧ b_X8_most_24 N K (nI a) (if k = 0 then -4 else nI (mst s (k - 1)).1) (if k = 0 then 0 else nI (mst s (k - 1)).2) (nI k) (sR t 9 0 5 f) = _
    unfold b_X8_most_24 f_X8_most_49 f_X8_most_62
    rw [if_neg c1, hm, o_bd_some]
    simp only [b1, o_bd_some, nI_1]
    refine ⟨(nI a, nI (mst s k).1, nI (mst s k).2, nI (k + 1), sR t 9 0 5 g), ⟨g, ?_, b2⟩, ?_⟩
    · rw [if_neg (by omega), if_neg (by omega), Nat.add_sub_cancel]
    · by_cases e0 : k = 0
      · subst e0
        have ng : ¬ nI (inM (IT lowF s 0)) ≤ -4 := by
          intro z
          rw [Int32.le_iff_toInt_le, nI_toInt (by omega), show (-4 : Int32).toInt = -4 from rfl] at z
          omega
        simp only [if_pos, if_neg ng]
        rfl
      · obtain ⟨j, rfl⟩ : ∃ j, k = j + 1 := ⟨k - 1, by omega⟩
        have l1 := (mst_le hs j).1
        have c2 : nI (inM (IT lowF s (j + 1))) ≤ nI (mst s j).1 ↔ inM (IT lowF s (j + 1)) ≤ (mst s j).1 := nIle (by omega) (by omega)
        simp only [if_neg e0, Nat.add_sub_cancel, c2]
        rw [mst]
        by_cases e : inM (IT lowF s (j + 1)) ≤ (mst s j).1
        · rw [if_pos e, if_neg (show ¬ (mst s j).1 < inM (IT lowF s (j + 1)) by omega)]
          simp only [if_pos e]
        · rw [if_neg e, if_pos (show (mst s j).1 < inM (IT lowF s (j + 1)) by omega)]
          simp only [if_neg e]
theorem op_most (N : Nat) (hN : 300 ≤ N) : Op_most N Rel := by
  intro u v h a0
  obtain ⟨⟨⟨s, w1, w2, w3, w4⟩, hU⟩, -, -, -, h17, h19⟩ := id h
  unfold f_X7_most f_X8_most
  have hA := p_out (a := a0) (lo := 0) (hi := 1) (l := 0) (h := 1) u rfl rfl
  have hB := p_in (a := a0) (lo := 0) (hi := 1) (l := 0) (h := 1) v rfl rfl
  by_cases h0 : inR a0 0 1
  · rw [hA.1 h0, hB.1 h0, o_bd_some, o_bd_some]
    simp only [if_neg one_ne, ite_true]
    obtain ⟨a, rfl, -, ha, ha2⟩ := inR_nat h0 (by omega)
    obtain ⟨f, e1, e2⟩ := p_asideR hN w1 h17 w4
    obtain ⟨g, e3⟩ := p_most24 (N := N) (a := a) (t := sR v 9 0 5 f) (s := s) hN (by omega) w1 (by omega) (by rw [sR_at]; exact e2) (HT_low h19)
    rw [sR_sR] at e3
    obtain ⟨t1, b1, b2, b3, b4⟩ := p_start w1 w3
    have hm : f_X1_howManyIn N t1 = some (nI (inM s), t1) := p_howMany hN w1 b4
    obtain ⟨t2, d1, d2, d3, d4⟩ := p_most20 (N := N) (t := sI (sI t1 3 4 0 1 (nI (inM s))) 3 4 0 2 0) (s := s) hN w1 (by omega) b4 rfl rfl
    unfold f_X1_seekMost
    rw [b1, o_bd_some, hm, o_bd_some]
    simp only [o_nm]
    rw [d1, o_bd_some, e1, o_bd_some, e3]
    have hf : FrC u t2 := (((FrC.of (by unfold scr; omega) b2 b3).tr (FrC.sI (by unfold scr; omega))).tr (FrC.sI (by unfold scr; omega))).tr d2
    rcases (show a = 0 ∨ a = 1 by omega) with rfl | rfl
    · exact ⟨nI (mst s 100).1, t2, _, by
        show some (t2.1 3 4 0 1, t2) = _
        rw [d3], rfl, h.quiet hf QR.side⟩
    · exact ⟨nI (mst s 100).2, t2, _, by
        show some (t2.1 3 4 0 2, t2) = _
        rw [d4], rfl, h.quiet hf QR.side⟩
  · rw [hA.2 h0, hB.2 h0, o_bd_some, o_bd_some]
    exact ⟨-1, u, v, rfl, rfl, h⟩
