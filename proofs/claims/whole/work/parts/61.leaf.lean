/-! leaves: checks of arguments -/
def inR (x : Int32) (l h : Int) : Prop := l ≤ x.toInt ∧ x.toInt ≤ h
theorem p_out {a lo hi : Int32} {l h : Int} (t : Mm) (hl : lo.toInt = l) (hh : hi.toInt = h) : (inR a l h → f_X7_isOutside a lo hi t = some (0, t)) ∧ (¬ inR a l h → f_X7_isOutside a lo hi t = some (1, t)) := by
  unfold f_X7_isOutside f_X7_isOutside_10
  simp only [Int32.lt_iff_toInt_lt, Int32.le_iff_toInt_le, hl, hh]
  constructor
  · intro hr
    rw [if_neg (by have := hr.1; omega), if_pos hr.2]
  · intro hr
    by_cases h1 : a.toInt < l
    · rw [if_pos h1]
    · rw [if_neg h1, if_neg (fun q => hr ⟨by omega, q⟩)]
theorem lgc_lt (x y : Int64) : lg_cmp x y < 0 ↔ x.toInt < y.toInt := by
  have h := lg_cmp_ge x y
  rw [← Int32.not_le, h, Int64.le_iff_toInt_le]
  omega
theorem lgc_gt (x y : Int64) : 0 < lg_cmp x y ↔ y.toInt < x.toInt := by
  unfold lg_cmp
  simp only [gt_iff_lt, Int64.lt_iff_toInt_lt]
  by_cases h1 : y.toInt < x.toInt
  · simp [h1]
  · rw [if_neg h1]
    simp only [h1, iff_false]
    split <;> decide
theorem p_in {a : Int32} {lo hi : Int64} {l h : Int} (t : Mm) (hl : lo.toInt = l) (hh : hi.toInt = h) : (inR a l h → f_X8_in a.toInt64 lo hi t = some (1, t)) ∧ (¬ inR a l h → f_X8_in a.toInt64 lo hi t = some (0, t)) := by
  unfold f_X8_in
  have ha : a.toInt64.toInt = a.toInt := Int32.toInt_toInt64 a
  simp only [lgc_lt, lgc_gt, ha, hl, hh]
  constructor
  · intro hr
    rw [if_neg (by have := hr.1; omega), if_neg (by have := hr.2; omega)]
  · intro hr
    by_cases h1 : a.toInt < l
    · rw [if_pos h1]
    · rw [if_neg h1, if_pos (by
        rcases Int.lt_or_le h a.toInt with q | q
        · exact q
        · exact absurd ⟨by omega, q⟩ hr)]
theorem inR_nat {a : Int32} {l h : Int} (hr : inR a l h) (h0 : 0 ≤ l) : ∃ k : Nat, a = nI k ∧ l ≤ k ∧ (k : Int) ≤ h ∧ k < 2147483648 := by
  have h1 := hr.1
  have hlt : a.toInt < 2147483648 := by have := a.toInt_lt; simpa using this
  refine ⟨a.toInt.toNat, ?_, by omega, by have := hr.2; omega, by omega⟩
  apply Int32.toInt_inj.mp
  rw [nI_toInt (by omega)]
  omega
theorem nI_inR {k : Nat} (hk : k < 2147483648) {l h : Int} : inR (nI k) l h ↔ l ≤ k ∧ (k : Int) ≤ h := by
  unfold inR
  rw [nI_toInt (by omega)]
theorem inb_nI {k n : Nat} (h : k < n) (hn : n < 2147483648) : o_inb (nI k) n = true := by
  have h1 : ¬ nI k < 0 := nI_pos (by omega)
  simp [o_inb, h1, nI_clamp (show k < 2 ^ 31 by omega), h]
theorem cl_nI {k : Nat} (hk : k < 2147483648) : (nI k).toNatClampNeg = k := nI_clamp (by omega)
theorem lit_nI (k : Nat) : (OfNat.ofNat k : Int32) = nI k := rfl
theorem nIle {a b : Nat} (ha : a < 2147483648) (hb : b < 2147483648) : nI a ≤ nI b ↔ a ≤ b := nI_leI (by omega) (by omega)
theorem nIlt {a b : Nat} (ha : a < 2147483648) (hb : b < 2147483648) : nI a < nI b ↔ a < b := nI_ltI (by omega) (by omega)
theorem nIeq {a b : Nat} (ha : a < 2147483648) (hb : b < 2147483648) : nI a = nI b ↔ a = b := nI_eq (by omega) (by omega)
/-- has: a question, a crosser -/
theorem p_hasQ {t : Mm} {i q : Nat} {a : Int32} (hq : t.1 0 i 0 0 = nI q) (h8 : q ≤ 8) : (inR a 0 ((q : Int) - 1) → f_X0_hasQuestion i a t = some (1, t)) ∧ (¬ inR a 0 ((q : Int) - 1) → f_X0_hasQuestion i a t = some (0, t)) := by
  unfold f_X0_hasQuestion
  have e0 : (0 : Int32).toInt = 0 := rfl
  have eq := nI_toInt (n := q) (by omega)
  simp only [hq, Int32.lt_iff_toInt_lt, Int32.le_iff_toInt_le, eq, e0]
  constructor
  · intro hr
    have h1 := hr.1; have h2 := hr.2
    rw [if_neg (by omega), if_neg (by omega)]
  · intro hr
    by_cases h1 : a.toInt < 0
    · rw [if_pos h1]
    · rw [if_neg h1, if_pos (by
        rcases Int.lt_or_le a.toInt q with z | z
        · exact absurd ⟨by omega, by omega⟩ hr
        · exact z)]
theorem p_hasC {t : Mm} {i c : Nat} {a : Int32} (hq : t.1 0 i 0 1 = nI c) (h8 : c ≤ 5) : (inR a 0 ((c : Int) - 1) → f_X0_hasCrosser i a t = some (1, t)) ∧ (¬ inR a 0 ((c : Int) - 1) → f_X0_hasCrosser i a t = some (0, t)) := by
  unfold f_X0_hasCrosser
  have e0 : (0 : Int32).toInt = 0 := rfl
  have eq := nI_toInt (n := c) (by omega)
  simp only [hq, Int32.lt_iff_toInt_lt, Int32.le_iff_toInt_le, eq, e0]
  constructor
  · intro hr
    have h1 := hr.1; have h2 := hr.2
    rw [if_neg (by omega), if_neg (by omega)]
  · intro hr
    by_cases h1 : a.toInt < 0
    · rw [if_pos h1]
    · rw [if_neg h1, if_pos (by
        rcases Int.lt_or_le a.toInt c with z | z
        · exact absurd ⟨by omega, by omega⟩ hr
        · exact z)]
theorem nI_m1 {q : Nat} (h : q ≤ 8) : ((nI q - 1).toInt64).toInt = (q : Int) - 1 := by
  rw [Int32.toInt_toInt64, show (1 : Int32) = nI 1 from rfl, pk_sub_toInt (by omega) (by omega)]
  rfl
theorem p_isQ {t : Mm} {q : Nat} {a : Int32} (hq : t.1 9 0 0 0 = nI q) (h8 : q ≤ 8) : (inR a 0 ((q : Int) - 1) → f_X8_isQuestion a t = some (1, t)) ∧ (¬ inR a 0 ((q : Int) - 1) → f_X8_isQuestion a t = some (0, t)) := by
  unfold f_X8_isQuestion
  rw [hq]
  have h := p_in (a := a) (lo := 0) (hi := (nI q - 1).toInt64) (l := 0) (h := (q : Int) - 1) t rfl (nI_m1 h8)
  constructor
  · intro hr
    rw [h.1 hr, o_bd_some]
    rfl
  · intro hr
    rw [h.2 hr, o_bd_some]
    rfl
theorem p_isC {t : Mm} {q : Nat} {a : Int32} (hq : t.1 9 0 0 1 = nI q) (h8 : q ≤ 5) : (inR a 0 ((q : Int) - 1) → f_X8_isCrosser a t = some (1, t)) ∧ (¬ inR a 0 ((q : Int) - 1) → f_X8_isCrosser a t = some (0, t)) := by
  unfold f_X8_isCrosser
  rw [hq]
  have h := p_in (a := a) (lo := 0) (hi := (nI q - 1).toInt64) (l := 0) (h := (q : Int) - 1) t rfl (nI_m1 (by omega))
  constructor
  · intro hr
    rw [h.1 hr, o_bd_some]
    rfl
  · intro hr
    rw [h.2 hr, o_bd_some]
    rfl
theorem p_isSh {t : Mm} {a : Int32} : (inR a 0 3 → f_X8_isSheet a t = some (1, t) ∧ f_X8_isLane a t = some (1, t)) ∧ (¬ inR a 0 3 → f_X8_isSheet a t = some (0, t) ∧ f_X8_isLane a t = some (0, t)) := by
  unfold f_X8_isSheet f_X8_isLane
  have h := p_in (a := a) (lo := 0) (hi := 3) (l := 0) (h := 3) t rfl rfl
  constructor
  · intro hr
    rw [h.1 hr]
    exact ⟨rfl, rfl⟩
  · intro hr
    rw [h.2 hr]
    exact ⟨rfl, rfl⟩
theorem p_noSh {t : Mm} {a : Int32} : (inR a 0 3 → f_X7_isNoSheet a t = some (0, t) ∧ f_X7_isNoLane a t = some (0, t)) ∧ (¬ inR a 0 3 → f_X7_isNoSheet a t = some (1, t) ∧ f_X7_isNoLane a t = some (1, t)) := by
  unfold f_X7_isNoSheet f_X7_isNoLane
  have h := p_out (a := a) (lo := 0) (hi := 3) (l := 0) (h := 3) t rfl rfl
  constructor
  · intro hr
    rw [h.1 hr]
    exact ⟨rfl, rfl⟩
  · intro hr
    rw [h.2 hr]
    exact ⟨rfl, rfl⟩
/-! keeping the relation -/
theorem UR_congr {P P' : Nat → Nat → Nat → Int32} {nx kn q c un : Int32} {tp kd bf : Nat → Int32} (h : UR P nx kn q c tp kd bf un) (hP : ∀ j, j < 8 → P' j = P j) : UR P' nx kn q c tp kd bf un := by
  obtain ⟨n, x, ps, h1, h2, h3, h4, h5, h6⟩ := h
  refine ⟨n, x, ps, h1, h2, h3, h4, h5, fun j hj => ?_⟩
  obtain ⟨g1, g2, g3, g4⟩ := h6 j hj
  exact ⟨g1, g2, by rw [hP _ (Nat.mod_lt _ (by decide))]; exact g3, g4⟩
theorem UR_none {P : Nat → Nat → Nat → Int32} {nx kn q c un q' c' : Int32} {tp kd bf tp' kd' bf' : Nat → Int32} (h : UR P nx kn q c tp kd bf un) (P' : Nat → Nat → Nat → Int32) : UR P' nx 0 q' c' tp' kd' bf' 0 := by
  obtain ⟨n, x, ps, h1, h2, h3, h4, h5, h6⟩ := h
  exact ⟨0, x, ps, by omega, h2, h3, rfl, rfl, fun j hj => absurd hj (Nat.not_lt_zero j)⟩
/-- what of the class's memory Rel reads apart from the story -/
def KC (u u' : Mm) : Prop := (∀ i, 9 ≤ i → i < 18 → u'.1 0 i = u.1 0 i) ∧ u'.1 1 1 = u.1 1 1 ∧ u'.1 2 = u.1 2 ∧ u'.2 = u.2 ∧ u'.1 3 0 = u.1 3 0 ∧ u'.1 3 1 = u.1 3 1 ∧ u'.1 3 2 = u.1 3 2
def KR (v v' : Mm) : Prop := (v'.1 9 0 9 = v.1 9 0 9 ∧ v'.1 9 0 10 = v.1 9 0 10 ∧ v'.1 9 0 11 = v.1 9 0 11 ∧ v'.1 9 0 13 = v.1 9 0 13 ∧ v'.1 9 0 14 = v.1 9 0 14 ∧ v'.1 9 0 16 = v.1 9 0 16) ∧ v'.2 = v.2 ∧ v'.1 9 0 0 8 = v.1 9 0 0 8 ∧ v'.1 9 0 0 15 = v.1 9 0 0 15 ∧ v'.1 9 0 0 17 = v.1 9 0 0 17 ∧ v'.1 9 0 0 19 = v.1 9 0 0 19
theorem ImR_keep {u v u' v' : Mm} (h : ImR u v) (hC : ∀ i, 9 ≤ i → i < 18 → u'.1 0 i = u.1 0 i) (h1 : u'.1 1 1 = u.1 1 1) (h9 : v'.1 9 0 9 = v.1 9 0 9) (h10 : v'.1 9 0 10 = v.1 9 0 10) (h11 : v'.1 9 0 11 = v.1 9 0 11) : ImR u' v' := by
  unfold ImR at h ⊢
  rw [h1, h9, h10, h11]
  obtain ⟨⟨s, a1, a2, a3, a4⟩, h2⟩ := h
  exact ⟨⟨s, a1, a2, by rw [hC 9 (by omega) (by omega)]; exact a3, a4⟩, UR_congr h2 (fun j hj => hC _ (by omega) (by omega))⟩
theorem Rel.now {u v u' v' : Mm} (h : Rel u v) (hN : NowR u' v') (hC : KC u u') (hR : KR v v') : Rel u' v' := by
  obtain ⟨c1, c2, c3, c4, c5, c6, c7⟩ := hC
  obtain ⟨⟨r9, r10, r11, r13, r14, r16⟩, r2, r8, r15, r17, r19⟩ := hR
  obtain ⟨-, h2, h3, h4, h5, h6⟩ := h
  refine ⟨hN, ?_, ?_, ?_, by rw [r17]; exact h5, by rw [r19]; exact h6⟩
  · rw [c5, r8]
    rcases h2 with h2 | ⟨a, b, h2⟩
    · exact Or.inl h2
    · exact Or.inr ⟨a, b, ImR_keep h2 c1 c2 r9 r10 r11⟩
  · unfold ShR at h3 ⊢
    rw [c3, c4, r13, r14, r2]; exact h3
  · unfold TpR at h4 ⊢
    rw [c6, c7, r15, r16]; exact h4
