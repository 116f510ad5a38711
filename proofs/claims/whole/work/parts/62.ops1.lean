/-! setters of a ford -/
def v2 (v : Nat → Nat → Int32) (r k : Nat) (x : Int32) : Nat → Nat → Int32 := fun r' k' => if r' = r ∧ k' = k then x else v r' k'
theorem sI_v2 {t : Mm} {a b c j : Nat} {x : Int32} : (sI t a b c j x).1 a b = v2 (t.1 a b) c j x := by
  funext c' j'
  by_cases h : c' = c
  · subst h
    rw [sI_at]
    simp [upd, v2]
  · rw [sI_off (by simp [h])]
    simp [v2, h]
def okS (s : Sx) (r k : Nat) : Prop := (r = 0 ∧ (k = 2 ∨ k = 3 ∨ k = 4)) ∨ (r = 2 ∧ k < 8) ∨ (r = 4 ∧ k < 5) ∨ (r = 5 ∧ k < 5) ∨ (r = 6 ∧ k < s 0 1) ∨ (r = 7 ∧ k < 5)
theorem u2_q {s : Sx} {r k x : Nat} (h : okS s r k) : u2 s r k x 0 0 = s 0 0 ∧ u2 s r k x 0 1 = s 0 1 := by
  unfold okS at h
  constructor
  · exact if_neg (by omega)
  · exact if_neg (by omega)
theorem pt_v2 {v : Nat → Nat → Int32} {s : Sx} {r k x r' k' : Nat} (h : v r' k' = nI (s r' k')) : v2 v r k (nI x) r' k' = nI (u2 s r k x r' k') := by
  unfold v2 u2
  split
  · rfl
  · exact h
theorem FR_set {v : Nat → Nat → Int32} {s : Sx} {r k x : Nat} (h : FR v s) (hk : okS s r k) (h7 : r = 6 → x = 1 → v 7 k = nI (s 7 k)) : FR (v2 v r k (nI x)) (u2 s r k x) := by
  obtain ⟨⟨a, b, c, d, e⟩, f, g⟩ := h
  refine ⟨⟨pt_v2 a, pt_v2 b, pt_v2 c, pt_v2 d, pt_v2 e⟩, fun j hj => ?_, fun j hj => ?_⟩
  · rw [(u2_q hk).1] at hj
    exact ⟨pt_v2 (f j hj).1, pt_v2 (f j hj).2⟩
  · rw [(u2_q hk).2] at hj
    obtain ⟨g3, g4, g5, g6, g7⟩ := g j hj
    refine ⟨pt_v2 g3, pt_v2 g4, pt_v2 g5, pt_v2 g6, fun h1 => ?_⟩
    unfold u2 at h1
    split at h1
    · rename_i hc
      obtain ⟨rfl, rfl⟩ := hc
      exact pt_v2 (h7 rfl h1)
    · exact pt_v2 (g7 h1)
def rp (r k : Nat) : Nat := match r with
  | 0 => match k with
    | 2 => 0
    | 3 => 29
    | _ => 30
  | 2 => 1 + k
  | 4 => 9 + k
  | 5 => 14 + k
  | 6 => 19 + k
  | _ => 24 + k
theorem pt_u {w : Nat → Int32} {s : Sx} {p p' r k x r' k' : Nat} (h : w p' = nI (s r' k')) (he : p' = p ↔ (r' = r ∧ k' = k)) : upd w p (nI x) p' = nI (u2 s r k x r' k') := by
  unfold upd u2
  by_cases hp : p' = p
  · rw [if_pos hp, if_pos (he.mp hp)]
  · rw [if_neg hp, if_neg (fun z => hp (he.mpr z))]
    exact h
theorem RR_set {q c : Int32} {tp kd w : Nat → Int32} {s : Sx} {r k x : Nat} (h : RR q c tp kd w s) (hq : s 0 0 ≤ 8) (hc : s 0 1 ≤ 5) (hk : okS s r k) (h7 : r = 6 → x = 1 → w (24 + k) = nI (s 7 k)) : RR q c tp kd (upd w (rp r k) (nI x)) (u2 s r k x) := by
  obtain ⟨⟨a1, a2, a3, a4, a5⟩, f, g, z⟩ := h
  have hk' := hk
  unfold okS at hk'
  have hrp : (r = 0 ∧ k = 2 ∧ rp r k = 0) ∨ (r = 0 ∧ k = 3 ∧ rp r k = 29) ∨ (r = 0 ∧ k = 4 ∧ rp r k = 30) ∨ (r = 2 ∧ k < 8 ∧ rp r k = 1 + k) ∨ (r = 4 ∧ k < 5 ∧ rp r k = 9 + k) ∨ (r = 5 ∧ k < 5 ∧ rp r k = 14 + k) ∨ (r = 6 ∧ k < s 0 1 ∧ rp r k = 19 + k) ∨ (r = 7 ∧ k < 5 ∧ rp r k = 24 + k) := by
    rcases hk' with ⟨rfl, rfl | rfl | rfl⟩ | ⟨rfl, h⟩ | ⟨rfl, h⟩ | ⟨rfl, h⟩ | ⟨rfl, h⟩ | ⟨rfl, h⟩ <;> simp [rp, *]
  generalize rp r k = p at hrp
  have hs1 : ∀ k', k' = 0 ∨ k' = 1 → u2 s r k x 0 k' = s 0 k' := fun k' hk' => if_neg (by omega)
  have hs3 : ∀ r' k', r' = 1 ∨ r' = 3 → u2 s r k x r' k' = s r' k' := fun r' k' hr' => if_neg (by omega)
  refine ⟨⟨by rw [hs1 0 (by omega)]; exact a1, by rw [hs1 1 (by omega)]; exact a2, pt_u a3 (by omega), pt_u a4 (by omega), pt_u a5 (by omega)⟩, fun j hj => ?_, fun j hj => ?_, fun j hj h5 => ?_⟩
  · rw [hs1 0 (by omega)] at hj
    rw [hs3 1 j (by omega)]
    exact ⟨(f j hj).1, pt_u (f j hj).2 (by omega)⟩
  · rw [hs1 1 (by omega)] at hj
    obtain ⟨g3, g4, g5, g6, g7⟩ := g j hj
    rw [hs3 3 j (by omega)]
    refine ⟨g3, pt_u g4 (by omega), pt_u g5 (by omega), pt_u g6 (by omega), fun h1 => ?_⟩
    unfold u2 at h1
    split at h1
    · rename_i hc
      obtain ⟨rfl, rfl⟩ := hc
      exact pt_u (h7 rfl h1) (by omega)
    · exact pt_u (g7 h1) (by omega)
  · rw [hs1 1 (by omega)] at hj
    rw [upd_off (by omega)]
    exact z j hj h5
theorem wf_set {s : Sx} {r k x : Nat} (h : wfS s) (hr : r = 2 ∨ r = 4 ∨ r = 5) (h2 : r = 2 → 1 ≤ x ∧ x ≤ 9) (h4 : r = 4 → x < 256) (h5 : r = 5 → x ≤ 40) : wfS (u2 s r k x) := by
  obtain ⟨a, b, c, d, f, g⟩ := h
  have h0 : ∀ k', u2 s r k x 0 k' = s 0 k' := fun k' => if_neg (by omega)
  unfold wfS
  simp only [h0]
  refine ⟨a, b, c, d, fun j hj => ?_, fun j hj => ?_⟩
  · have := f j hj
    unfold u2
    refine ⟨by rw [if_neg (by omega)]; exact this.1, ?_⟩
    split
    · rename_i hc; exact h2 hc.1.symm
    · exact this.2
  · obtain ⟨g3, g4, g5, g6, g7⟩ := g j hj
    unfold u2
    refine ⟨by rw [if_neg (by omega)]; exact g3, ?_, ?_, by rw [if_neg (by omega)]; exact g6, fun h1 => ?_⟩
    · split
      · rename_i hc; exact h4 hc.1.symm
      · exact g4
    · split
      · rename_i hc; exact h5 hc.1.symm
      · exact g5
    · rw [if_neg (by omega)] at h1 ⊢
      exact g7 h1
theorem wf_asked {s : Sx} {x : Nat} (h : wfS s) (hx : x < 2 ^ s 0 0) : wfS (u2 s 0 2 x) := by
  obtain ⟨a, b, c, d, f, g⟩ := h
  unfold wfS u2
  simpa using ⟨a, b, hx, d, f, g⟩
theorem wf_draw {s : Sx} {x : Nat} (h : wfS s) (hx : x < 2147483648) : wfS (u2 s 0 4 x) := by
  obtain ⟨a, b, c, d, f, g⟩ := h
  unfold wfS u2
  simpa using ⟨a, b, c, hx, f, g⟩
theorem op_seed (N : Nat) : Op_seed N Rel := by
  intro u v h a0
  unfold f_X7_seed f_X8_seed
  by_cases ha : 0 ≤ a0
  · simp only [if_pos ha]
    obtain ⟨⟨⟨s, w1, w2, w3, w4⟩, hU⟩, -⟩ := id h
    have e4 : u.1 0 0 0 4 = nI (s 0 4) := w3.1.2.2.2.2
    have e5 : v.1 9 0 4 30 = nI (s 0 4) := w4.1.2.2.2.2
    obtain ⟨d, hd, -, -, hd2⟩ := inR_nat (a := a0) (l := 0) (h := 2147483648) ⟨by rw [Int32.le_iff_toInt_le] at ha; exact ha, by have := a0.toInt_lt; omega⟩ (by omega)
    refine ⟨u.1 0 0 0 4, sI u 0 0 0 4 a0, sI v 9 0 4 30 a0, rfl, ?_, ?_⟩
    · rw [if_pos (by decide)]
      show (if o_inb 30 31 = true then some (v.1 9 0 4 30, sI v 9 0 4 30 a0) else none) = _
      rw [if_pos (by decide), e4, e5]
    · refine h.now ⟨⟨u2 s 0 4 d, wf_draw w1 hd2, w2, ?_, ?_⟩, ?_⟩ ?_ ?_
      · rw [sI_v2, hd]
        exact FR_set w3 (Or.inl ⟨rfl, by omega⟩) (fun h => by omega)
      · rw [sI_at, hd]
        exact RR_set (r := 0) (k := 4) w4 w1.1 w1.2.1 (Or.inl ⟨rfl, by omega⟩) (fun h => by omega)
      · exact UR_congr hU (fun j hj => by funext r k; exact congrFun (sI_off (by omega)) k)
      · exact ⟨fun i h1 h2 => by funext r k; exact congrFun (sI_off (by omega)) k, rfl, rfl, rfl, rfl, rfl, rfl⟩
      · exact ⟨⟨rfl, rfl, rfl, rfl, rfl, rfl⟩, rfl, rfl, rfl, rfl, rfl⟩
  · simp only [if_neg ha]
    exact ⟨-1, u, v, rfl, rfl, h⟩
