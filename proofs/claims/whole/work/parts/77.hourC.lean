/-! an hour of the class's Ford -/
theorem nI_setor {s : Sx} {w c : Nat} : nI (setN s w c) ||| nI (2 ^ c) = nI (setN s w c + 2 ^ c) := by
  rw [nI_or]
  have h := Nat.two_pow_add_eq_or_of_lt (setN_lt s w c) 1
  rw [Nat.mul_one] at h
  rw [Nat.or_comm, ← h, Nat.add_comm]
theorem p_those {N i w : Nat} {t : Mm} {s : Sx} (hN : 300 ≤ N) (hs : wfS s) (hw : w ≤ 2) (hF : FR (t.1 0 i) s) : f_X0_thoseWho N i (nI w) t = some (nI (setN s w (s 0 1)), t) := by
  have h5 := hs.2.1
  have e1 : t.1 0 i 0 1 = nI (s 0 1) := hF.1.2.1
  refine lp_up (body := fun k x => b_X0_thoseWho_4 N i k x.1 x.2.1 x.2.2.1 x.2.2.2) (fun o => o = some (nI (setN s w (s 0 1)), t)) (fun k x => x = (nI w, nI (setN s w k), nI k, t)) (s 0 1) (fun K x hx => ?_) (fun K k x hk hx => ?_) N 0 (nI w, 0, 0, t) (by omega) (by omega) rfl
  · subst hx
    show b_X0_thoseWho_4 N i K (nI w) (nI (setN s w (s 0 1))) (nI (s 0 1)) t = _
    unfold b_X0_thoseWho_4
    rw [e1, if_pos Int32.le_rfl]
  · subst hx
    right
    refine ⟨(nI w, nI (setN s w (k + 1)), nI (k + 1), t), rfl, ?_⟩
    show b_X0_thoseWho_4 N i K (nI w) (nI (setN s w k)) (nI k) t = _
    unfold b_X0_thoseWho_4 f_X0_thoseWho_28
    have c1 : ¬ nI (s 0 1) ≤ nI k := fun z => absurd ((nIle (by omega) (by omega)).mp z) (by omega)
    have i1 : o_inb (nI k) 5 = true := inb_nI (by omega) (by omega)
    obtain ⟨u3, u4, u5, u6, u7⟩ := hF.2.2 k hk
    have f6 := (hs.2.2.2.2.2 k hk).2.2.2.1
    have c6 : nI (s 6 k) = nI w ↔ s 6 k = w := nIeq (by omega) (by omega)
    simp only [e1, if_neg c1, if_pos i1, cl_nI (show k < 2147483648 by omega), u6, o_nm, nI_1, nI_shl1 (show k < 31 by omega), nI_setor]
    rw [setN, at1]
    by_cases e : s 6 k = w
    · rw [if_pos (c6.mpr e), if_pos e, Nat.mul_one]
    · rw [if_neg (fun z => e (c6.mp z)), if_neg e, Nat.mul_zero]
      rfl
theorem bitc_all : ∀ m, m < 32 → (let x_1 := ((nI m) - ((((nI m).toUInt32 >>> ((1 : Int32).toUInt32 &&& Int32.toUInt32 31)).toInt32) &&& 1431655765)); let x_3 := ((x_1 &&& 858993459) + (((x_1.toUInt32 >>> ((2 : Int32).toUInt32 &&& Int32.toUInt32 31)).toInt32) &&& 858993459)); let x_5 := ((x_3 + ((x_3.toUInt32 >>> ((4 : Int32).toUInt32 &&& Int32.toUInt32 31)).toInt32)) &&& 252645135); let x_7 := (x_5 + ((x_5.toUInt32 >>> ((8 : Int32).toUInt32 &&& Int32.toUInt32 31)).toInt32)); let x_9 := (x_7 + ((x_7.toUInt32 >>> ((16 : Int32).toUInt32 &&& Int32.toUInt32 31)).toInt32)); x_9 &&& 63) = nI (pc5 m) := by decide +kernel
theorem p_bitc {m : Nat} (hm : m < 32) (t : Mm) : f_J6_bitCount_0f7a4 (nI m) t = some (nI (pc5 m), t) := by
  have h := bitc_all m hm
  unfold f_J6_bitCount_0f7a4
  simp only [o_nm]
  simp only [] at h
  rw [h]
theorem p_among {i o c q h : Nat} {t : Mm} {s : Sx} (hs : wfS s) (hF : FR (t.1 0 i) s) (hc : c < s 0 1) (hq : q < s 0 0) (hh : h < 1000000) : f_X0_hoursAmong i (nI o) (nI c) (nI q) (nI h) t = some (nI (hrs s o c q h), t) := by
  have h5 := hs.2.1
  have h8 := hs.1
  obtain ⟨u3, u4, u5, u6, u7⟩ := hF.2.2 c hc
  obtain ⟨u1, u2⟩ := hF.2.1 q hq
  obtain ⟨f3, f4, -⟩ := hs.2.2.2.2.2 c hc
  obtain ⟨g1, g2, g3⟩ := hs.2.2.2.2.1 q hq
  have i1 : o_inb (nI c) 5 = true := inb_nI (by omega) (by omega)
  have i2 : o_inb (nI q) 8 = true := inb_nI (by omega) (by omega)
  unfold f_X0_hoursAmong
  simp only [if_pos i1, if_pos i2, cl_nI (show c < 2147483648 by omega), cl_nI (show q < 2147483648 by omega), u1, u2, u4]
  rw [p_isIn (by omega) (by omega), o_bd_some]
  have em : nI h - nI h / 2 * 2 = nI (h % 2) := pk_rem (d := 2) (by omega) (by omega) (by omega)
  have e48 : ∀ pl sc : Nat, 1 ≤ pl → pl ≤ 9 → f_X0_hoursAmong_48 i (nI o) (nI c) (nI h) (nI pl) (nI sc) t = some (nI (if s 3 c = 0 then pl else if s 3 c = 1 then sc else if s 3 c = 2 then (if 2 < pl then 2 else pl) else if s 3 c = 3 then sc + o else if h % 2 = 0 then 1 else (if 2 < pl then 2 else pl)), t) := by
    intro pl sc p1 p2
    unfold f_X0_hoursAmong_48
    simp only [o_nm, if_pos i1, cl_nI (show c < 2147483648 by omega), u3, em]
    have hpl : pl = 1 ∨ pl = 2 ∨ 2 < pl := by omega
    have e2 : (2 : Int32) < nI pl ↔ 2 < pl := nIlt (a := 2) (by omega) (by omega)
    have eh : nI (h % 2) = 0 ↔ h % 2 = 0 := nIeq (b := 0) (by omega) (by omega)
    simp only [e2, eh]
    rcases (show s 3 c = 0 ∨ s 3 c = 1 ∨ s 3 c = 2 ∨ s 3 c = 3 ∨ s 3 c = 4 by omega) with e | e | e | e | e <;> rw [e]
    · rfl
    · rfl
    · simp only [if_neg (show ¬ nI 2 = 0 by decide), if_neg (show ¬ nI 2 = 1 by decide), if_pos (show nI 2 = 2 from rfl), if_neg (show ¬ 2 = 0 by decide), if_neg (show ¬ 2 = 1 by decide), if_pos (show 2 = 2 from rfl)]
      by_cases z : 2 < pl
      · rw [if_pos z, if_pos z]; rfl
      · rw [if_neg z, if_neg z]; rfl
    · simp only [if_neg (show ¬ nI 3 = 0 by decide), if_neg (show ¬ nI 3 = 1 by decide), if_neg (show ¬ nI 3 = 2 by decide), if_pos (show nI 3 = 3 from rfl), if_neg (show ¬ 3 = 0 by decide), if_neg (show ¬ 3 = 1 by decide), if_neg (show ¬ 3 = 2 by decide), if_pos (show 3 = 3 from rfl), nI_add]
      rfl
    · simp only [if_neg (show ¬ nI 4 = 0 by decide), if_neg (show ¬ nI 4 = 1 by decide), if_neg (show ¬ nI 4 = 2 by decide), if_neg (show ¬ nI 4 = 3 by decide), if_pos (show nI 4 = 4 from rfl), if_neg (show ¬ 4 = 0 by decide), if_neg (show ¬ 4 = 1 by decide), if_neg (show ¬ 4 = 2 by decide), if_neg (show ¬ 4 = 3 by decide)]
      by_cases z : h % 2 = 0
      · rw [if_pos z, if_pos z]
        rcases hpl with rfl | rfl | g
        · rfl
        · rfl
        · rw [if_pos g]; rfl
      · rw [if_neg z, if_neg z]
        by_cases g : 2 < pl
        · rw [if_pos g, if_pos g]; rfl
        · rw [if_neg g, if_neg g]
  unfold hrs f_X0_hoursAmong_32
  simp only []
  rcases bit01 (m := s 4 c) (k := s 1 q) with e | e
  · rw [e]
    simp only [if_pos (show nI 0 = 0 from rfl), ite_true, u2]
    rw [show (2 : Int32) * nI (s 2 q) = nI (2 * s 2 q) from pk_mul 2 _, e48 _ _ g2 g3]
  · rw [e]
    simp only [if_neg (show ¬ nI 1 = 0 by decide), if_neg (show ¬ 1 = 0 by decide)]
    exact e48 1 1 (by omega) (by omega)
theorem p_first {N i : Nat} {t : Mm} {s : Sx} (hN : 300 ≤ N) (hs : wfS s) (hF : FR (t.1 0 i) s) : f_X0_firstNotAsked N i t = some (qI (s 0 0) (lowQ s), t) := by
  have h8 := hs.1
  have ha := asked_lt hs
  have e0 : t.1 0 i 0 0 = nI (s 0 0) := hF.1.1
  have e2 : t.1 0 i 0 2 = nI (s 0 2) := hF.1.2.2.1
  refine lp_up (body := fun k x => b_X0_firstNotAsked_2 N i k x.1 x.2) (fun o => o = some (qI (s 0 0) (lowQ s), t)) (fun k x => x = (nI k, t) ∧ lowQ s = lqr (s 0 2) (s 0 0) (s 0 0 - k)) (s 0 0) (fun K x hx => ?_) (fun K k x hk hx => ?_) N 0 (0, t) (by omega) (by omega) ⟨rfl, rfl⟩
  · obtain ⟨rfl, hx⟩ := hx
    show b_X0_firstNotAsked_2 N i K (nI (s 0 0)) t = _
    unfold b_X0_firstNotAsked_2
    rw [Nat.sub_self] at hx
    rw [e0, if_pos Int32.le_rfl, hx]
    unfold lqr qI
    rw [if_neg (by omega)]
  · obtain ⟨rfl, hx⟩ := hx
    show (b_X0_firstNotAsked_2 N i K (nI k) t = _) ∨ ∃ x', _ ∧ b_X0_firstNotAsked_2 N i K (nI k) t = _
    have c1 : ¬ nI (s 0 0) ≤ nI k := fun z => absurd ((nIle (by omega) (by omega)).mp z) (by omega)
    unfold b_X0_firstNotAsked_2 f_X0_isAsked
    rw [e0, e2, if_neg c1, p_isIn (by omega) (by omega), o_bd_some]
    rw [show s 0 0 - k = (s 0 0 - (k + 1)) + 1 by omega, lqr, show s 0 0 - 1 - (s 0 0 - (k + 1)) = k by omega] at hx
    rcases bit01 (m := s 0 2) (k := k) with e | e
    · left
      rw [e, if_pos rfl] at hx
      rw [e, hx]
      unfold qI
      rw [if_pos hk]
      rfl
    · right
      rw [e, if_neg (by decide)] at hx
      refine ⟨(nI (k + 1), t), ⟨rfl, hx⟩, ?_⟩
      rw [e]
      show K (nI k + 1, t) = _
      rw [nI_1]
theorem p_letIn {N i c : Nat} {t : Mm} {s : Sx} (hN : 300 ≤ N) (hs : wfS s) (hh : s 0 3 ≤ 20000) (hF : FR (t.1 0 i) s) (hc : c < s 0 1) (h6 : s 6 c = 0) : ∃ t' : Mm, f_X0_letIn N i (nI c) t = some t' ∧ (∀ a b, ¬ (a = 0 ∧ b = i) → t'.1 a b = t.1 a b) ∧ t'.2 = t.2 ∧ FR (t'.1 0 i) (LI s c (lowQ s)) := by
  have h5 := hs.2.1
  have h8 := hs.1
  have i1 : o_inb (nI c) 5 = true := inb_nI (by omega) (by omega)
  unfold f_X0_letIn LI
  rw [p_first hN hs hF, o_bd_some]
  by_cases hq : lowQ s < s 0 0
  · have eq : qI (s 0 0) (lowQ s) = nI (lowQ s) := if_pos hq
    have ne : ¬ nI (lowQ s) = -4 := by
      intro z
      have : (nI (lowQ s)).toInt = (-4 : Int32).toInt := by rw [z]
      rw [nI_toInt (by omega), show (-4 : Int32).toInt = -4 from rfl] at this
      omega
    rw [if_pos hq]
    simp only [eq, if_neg ne]
    have e3 : t.1 0 i 0 3 = nI (s 0 3) := hF.1.2.2.2.1
    have e2 : t.1 0 i 0 2 = nI (s 0 2) := hF.1.2.2.1
    have hlt : setN s 1 (s 0 1) < 32 := by
      have h1 := setN_lt s 1 (s 0 1)
      have h2 : 2 ^ s 0 1 ≤ 2 ^ 5 := Nat.pow_le_pow_right (by decide) h5
      omega
    rw [show (1 : Int32) = nI 1 from rfl, p_those hN hs (by omega) hF, o_bd_some]
    simp only []
    rw [p_bitc hlt, o_bd_some, pc_set h5, ← oth_eq (show s 6 c ≠ 1 by omega) _ (by omega)]
    simp only [e3]
    rw [p_among hs hF hc hq (by omega), o_bd_some]
    simp only [if_pos i1, cl_nI (show c < 2147483648 by omega), o_nm, nI_add, show nI 1 <<< (nI (lowQ s) &&& 31) = nI (2 ^ lowQ s) from nI_shl1 (by omega)]
    refine ⟨_, rfl, fun a b h => ?_, rfl, ?_⟩
    · rw [sI_nums h, sI_nums h, sI_nums h]
    · simp only [sI_v2]
      have ea : v2 (v2 (t.1 0 i) 7 c (nI (s 0 3 + hrs s (othN s c (s 0 1)) c (lowQ s) (s 0 3)))) 6 c (nI 1) 0 2 = nI (s 0 2) := e2
      rw [ea, nI_or]
      refine FR_set (FR_set (FR_set hF (by unfold okS; omega) (fun z => by omega)) (Or.inr (Or.inr (Or.inr (Or.inr (Or.inl ⟨rfl, hc⟩))))) (fun _ _ => ?_)) (by unfold okS; omega) (fun z => by omega)
      simp [v2, u2]
  · have eq : qI (s 0 0) (lowQ s) = -4 := if_neg hq
    rw [if_neg hq]
    simp only [eq, if_pos i1, o_nm, cl_nI (show c < 2147483648 by omega), ite_true]
    refine ⟨_, rfl, fun a b h => sI_nums h, rfl, ?_⟩
    rw [sI_v2]
    exact FR_set (x := 2) hF (Or.inr (Or.inr (Or.inr (Or.inr (Or.inl ⟨rfl, hc⟩))))) (fun _ z => by omega)
abbrev lowF : Sx → Nat → Nat := fun s _ => lowQ s
theorem p_pass55 {N i : Nat} {t : Mm} {s : Sx} (hN : 300 ≤ N) (h5 : s 0 1 ≤ 5) (hh : s 0 3 ≤ 20001) (h7 : ∀ k, k < s 0 1 → s 6 k ≤ 2 ∧ (s 6 k = 1 → s 7 k ≤ 30000)) (hF : FR (t.1 0 i) s) : ∃ t' : Mm, f_X0_passHour_55 N i 0 t = some t' ∧ (∀ a b, ¬ (a = 0 ∧ b = i) → t'.1 a b = t.1 a b) ∧ t'.2 = t.2 ∧ FR (t'.1 0 i) (OV s (s 0 1)) := by
  refine lp_up (body := fun k x => b_X0_passHour_55 N i k x.1 x.2) (fun o => ∃ t' : Mm, o = some t' ∧ (∀ a b, ¬ (a = 0 ∧ b = i) → t'.1 a b = t.1 a b) ∧ t'.2 = t.2 ∧ FR (t'.1 0 i) (OV s (s 0 1))) (fun k x => x.1 = nI k ∧ (∀ a b, ¬ (a = 0 ∧ b = i) → x.2.1 a b = t.1 a b) ∧ x.2.2 = t.2 ∧ FR (x.2.1 0 i) (OV s k)) (s 0 1) (fun K x hx => ?_) (fun K k x hk hx => ?_) N 0 (0, t) (by omega) (by omega) ⟨rfl, fun _ _ _ => rfl, rfl, by rw [OV_0]; exact hF⟩
  · obtain ⟨x1, t1⟩ := x
    obtain ⟨rfl, a1, a2, a3⟩ := hx
    have a1 : ∀ a b, ¬ (a = 0 ∧ b = i) → t1.1 a b = t.1 a b := a1
    have a2 : t1.2 = t.2 := a2
    have a3 : FR (t1.1 0 i) _ := a3
    show ∃ t', b_X0_passHour_55 N i K (nI (s 0 1)) t1 = some t' ∧ _
    unfold b_X0_passHour_55
    have e1 : t1.1 0 i 0 1 = nI (s 0 1) := a3.1.2.1
    rw [e1, if_pos Int32.le_rfl]
    exact ⟨t1, rfl, a1, a2, a3⟩
  · obtain ⟨x1, t1⟩ := x
    obtain ⟨rfl, a1, a2, a3⟩ := hx
    have a1 : ∀ a b, ¬ (a = 0 ∧ b = i) → t1.1 a b = t.1 a b := a1
    have a2 : t1.2 = t.2 := a2
    have a3 : FR (t1.1 0 i) _ := a3
    right
    show ∃ x', _ ∧ b_X0_passHour_55 N i K (nI k) t1 = _
    unfold b_X0_passHour_55 f_X0_passHour_93
    have e1 : t1.1 0 i 0 1 = nI (s 0 1) := a3.1.2.1
    have e3 : t1.1 0 i 0 3 = nI (s 0 3) := a3.1.2.2.2.1
    have c1 : ¬ nI (s 0 1) ≤ nI k := fun z => absurd ((nIle (by omega) (by omega)).mp z) (by omega)
    have i1 : o_inb (nI k) 5 = true := inb_nI (by omega) (by omega)
    have o6 : OV s k 6 k = s 6 k := if_neg (by omega)
    obtain ⟨u3, u4, u5, u6, u7⟩ := a3.2.2 k hk
    rw [o6] at u6 u7
    have u7 : s 6 k = 1 → t1.1 0 i 7 k = nI (s 7 k) := u7
    have hb := h7 k hk
    have c6 : nI (s 6 k) = 1 ↔ s 6 k = 1 := nIeq (b := 1) (by omega) (by omega)
    simp only [e1, e3, if_neg c1, if_pos i1, cl_nI (show k < 2147483648 by omega), u6, o_nm, nI_1]
    by_cases e : s 6 k = 1
    · rw [if_pos (c6.mpr e), u7 e]
      have c7 : nI (s 0 3) < nI (s 7 k) ↔ s 0 3 < s 7 k := nIlt (by omega) (by have := hb.2 e; omega)
      by_cases g : s 0 3 < s 7 k
      · rw [if_pos (c7.mpr g)]
        exact ⟨(nI (k + 1), t1), ⟨rfl, a1, a2, by rw [OV_n (by omega)]; exact a3⟩, rfl⟩
      · rw [if_neg (fun z => g (c7.mp z))]
        refine ⟨(nI (k + 1), sI t1 0 i 6 k 2), ⟨rfl, fun a b h => by rw [sI_nums h]; exact a1 a b h, a2, ?_⟩, rfl⟩
        rw [OV_y ⟨e, by omega⟩]
        show FR ((sI t1 0 i 6 k (nI 2)).1 0 i) _
        rw [sI_v2]
        exact FR_set (x := 2) a3 (Or.inr (Or.inr (Or.inr (Or.inr (Or.inl ⟨rfl, hk⟩))))) (fun _ z => by omega)
    · rw [if_neg (fun z => e (c6.mp z))]
      exact ⟨(nI (k + 1), t1), ⟨rfl, a1, a2, by rw [OV_n (by omega)]; exact a3⟩, rfl⟩
theorem p_pass {N i : Nat} {t : Mm} {s : Sx} (hN : 300 ≤ N) (hs : wfS s) (hh : s 0 3 ≤ 20000) (hF : FR (t.1 0 i) s) : ∃ t' : Mm, f_X0_passHour N i t = some t' ∧ (∀ a b, ¬ (a = 0 ∧ b = i) → t'.1 a b = t.1 a b) ∧ t'.2 = t.2 ∧ FR (t'.1 0 i) (PH lowF s) := by
  have h5 := hs.2.1
  refine lp_up (body := fun k x => b_X0_passHour_2 N i k x.1 x.2) (fun o => ∃ t' : Mm, o = some t' ∧ (∀ a b, ¬ (a = 0 ∧ b = i) → t'.1 a b = t.1 a b) ∧ t'.2 = t.2 ∧ FR (t'.1 0 i) (PH lowF s)) (fun k x => x.1 = nI k ∧ (∀ a b, ¬ (a = 0 ∧ b = i) → x.2.1 a b = t.1 a b) ∧ x.2.2 = t.2 ∧ FR (x.2.1 0 i) (CM lowF s k)) (s 0 1) (fun K x hx => ?_) (fun K k x hk hx => ?_) N 0 (0, t) (by omega) (by omega) ⟨rfl, fun _ _ _ => rfl, rfl, hF⟩
  · obtain ⟨x1, t1⟩ := x
    obtain ⟨rfl, a1, a2, a3⟩ := hx
    have a1 : ∀ a b, ¬ (a = 0 ∧ b = i) → t1.1 a b = t.1 a b := a1
    have a2 : t1.2 = t.2 := a2
    have a3 : FR (t1.1 0 i) _ := a3
    show ∃ t', b_X0_passHour_2 N i K (nI (s 0 1)) t1 = some t' ∧ _
    unfold b_X0_passHour_2
    have k1 := CM_keep (f := lowF) (s := s) (r := 0) (k := 1) (Or.inl (by unfold fixd; omega)) (s 0 1)
    have k3 := CM_keep (f := lowF) (s := s) (r := 0) (k := 3) (Or.inr ⟨rfl, rfl⟩) (s 0 1)
    have hw := wf_CM (f := lowF) hs (s 0 1) (Nat.le_refl _)
    have e1 : t1.1 0 i 0 1 = nI (s 0 1) := by rw [← k1]; exact a3.1.2.1
    have e3 : t1.1 0 i 0 3 = nI (s 0 3) := by rw [← k3]; exact a3.1.2.2.2.1
    rw [e1, if_pos Int32.le_rfl, e3, nI_1]
    simp only [o_nm]
    have q1 : u2 (CM lowF s (s 0 1)) 0 3 (s 0 3 + 1) 0 1 = s 0 1 := k1
    have q3 : u2 (CM lowF s (s 0 1)) 0 3 (s 0 3 + 1) 0 3 = s 0 3 + 1 := rfl
    obtain ⟨t2, b1, b2, b3, b4⟩ := p_pass55 (N := N) (i := i) (t := sI t1 0 i 0 3 (nI (s 0 3 + 1))) (s := u2 (CM lowF s (s 0 1)) 0 3 (s 0 3 + 1)) hN (by rw [q1]; exact h5) (by rw [q3]; omega) (fun k hk => by
      rw [q1] at hk
      show CM lowF s (s 0 1) 6 k ≤ 2 ∧ (CM lowF s (s 0 1) 6 k = 1 → CM lowF s (s 0 1) 7 k ≤ 30000)
      obtain ⟨-, -, -, g6, g7⟩ := hw.2.2.2.2.2 k (by rw [k1]; exact hk)
      rw [k3] at g7
      exact ⟨g6, fun z => by have := g7 z; omega⟩) (by rw [sI_v2]; exact FR_set a3 (by unfold okS; omega) (fun z => by omega))
    rw [q1] at b4
    exact ⟨t2, b1, fun a b h => by rw [b2 a b h, sI_nums h]; exact a1 a b h, by rw [b3]; exact a2, b4⟩
  · obtain ⟨x1, t1⟩ := x
    obtain ⟨rfl, a1, a2, a3⟩ := hx
    have a1 : ∀ a b, ¬ (a = 0 ∧ b = i) → t1.1 a b = t.1 a b := a1
    have a2 : t1.2 = t.2 := a2
    have a3 : FR (t1.1 0 i) _ := a3
    right
    show ∃ x', _ ∧ b_X0_passHour_2 N i K (nI k) t1 = _
    unfold b_X0_passHour_2 f_X0_passHour_37
    have k1 := CM_keep (f := lowF) (s := s) (r := 0) (k := 1) (Or.inl (by unfold fixd; omega)) k
    have k3 := CM_keep (f := lowF) (s := s) (r := 0) (k := 3) (Or.inr ⟨rfl, rfl⟩) k
    have hw := wf_CM (f := lowF) hs k (by omega)
    have e1 : t1.1 0 i 0 1 = nI (s 0 1) := by rw [← k1]; exact a3.1.2.1
    have e3 : t1.1 0 i 0 3 = nI (CM lowF s k 0 3) := a3.1.2.2.2.1
    have c1 : ¬ nI (s 0 1) ≤ nI k := fun z => absurd ((nIle (by omega) (by omega)).mp z) (by omega)
    have i1 : o_inb (nI k) 5 = true := inb_nI (by omega) (by omega)
    obtain ⟨u3, u4, u5, u6, u7⟩ := a3.2.2 k (by rw [k1]; exact hk)
    obtain ⟨f3, f4, f5, f6, f7⟩ := hw.2.2.2.2.2 k (by rw [k1]; exact hk)
    have c6 : nI (CM lowF s k 6 k) = 0 ↔ CM lowF s k 6 k = 0 := nIeq (b := 0) (by omega) (by omega)
    have c5 : nI (CM lowF s k 0 3) < nI (CM lowF s k 5 k) ↔ CM lowF s k 0 3 < CM lowF s k 5 k := nIlt (by omega) (by omega)
    simp only [e1, e3, if_neg c1, if_pos i1, cl_nI (show k < 2147483648 by omega), u5, u6, o_nm, nI_1]
    rw [CM]
    by_cases e : CM lowF s k 6 k = 0
    · rw [if_pos (c6.mpr e)]
      by_cases g : CM lowF s k 0 3 < CM lowF s k 5 k
      · rw [if_pos (c5.mpr g), if_neg (by omega)]
        exact ⟨(nI (k + 1), t1), ⟨rfl, a1, a2, a3⟩, rfl⟩
      · rw [if_neg (fun z => g (c5.mp z)), if_pos ⟨e, by omega⟩]
        obtain ⟨t2, b1, b2, b3, b4⟩ := p_letIn (N := N) (i := i) (c := k) hN hw (by omega) a3 (by rw [k1]; exact hk) e
        rw [b1, o_bd_some]
        exact ⟨(nI (k + 1), t2), ⟨rfl, fun a b h => by rw [b2 a b h]; exact a1 a b h, by rw [b3]; exact a2, b4⟩, rfl⟩
    · rw [if_neg (fun z => e (c6.mp z)), if_neg (fun z => e z.1)]
      exact ⟨(nI (k + 1), t1), ⟨rfl, a1, a2, a3⟩, rfl⟩
