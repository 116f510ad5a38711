theorem RR_read {q c : Int32} {tp kd w w' : Nat → Int32} {s : Sx} (h : RR q c tp kd w s) (hq : s 0 0 ≤ 8) (hc : s 0 1 ≤ 5) (hw : ∀ k, k < 31 → w' k = w k) : RR q c tp kd w' s := by
  obtain ⟨⟨a1, a2, a3, a4, a5⟩, f, g, z⟩ := h
  refine ⟨⟨a1, a2, by rw [hw 0 (by omega)]; exact a3, by rw [hw 29 (by omega)]; exact a4, by rw [hw 30 (by omega)]; exact a5⟩, fun k hk => ?_, fun k hk => ?_, fun k hk h5 => ?_⟩
  · rw [hw (1 + k) (by omega)]
    exact f k hk
  · rw [hw (9 + k) (by omega), hw (14 + k) (by omega), hw (19 + k) (by omega), hw (24 + k) (by omega)]
    exact g k hk
  · rw [hw (19 + k) (by omega)]
    exact z k hk h5
theorem ntB_new {bf w : Nat → Int32} {n k : Nat} (hn : n ≤ 8) (hk : k < 31) : ntB bf w n (31 * (if n < 8 then n else 7) + k) = w k := by
  unfold ntB
  by_cases h : n < 8
  · rw [if_pos h, if_pos h]
    unfold flR
    rw [if_pos (by omega)]
    congr 1; omega
  · rw [if_neg h, if_neg h]
    unfold flR
    rw [if_pos (by omega), show 31 * 7 + k - 31 * 7 = k by omega]
theorem ntB_old {bf w : Nat → Int32} {n j k : Nat} (hn : n < 8) (hj : j < n) (hk : k < 31) : ntB bf w n (31 * j + k) = bf (31 * j + k) := by
  unfold ntB
  rw [if_pos hn]
  unfold flR
  rw [if_neg (by omega)]
theorem ntB_old8 {bf w : Nat → Int32} {n j k : Nat} (hn : ¬ n < 8) (hj : j < 7) (hk : k < 31) : ntB bf w n (31 * j + k) = bf (31 * (j + 1) + k) := by
  unfold ntB
  rw [if_neg hn]
  unfold flR shR8
  rw [if_neg (by omega), if_pos (by omega)]
  congr 1; omega
theorem UR_push {P P' : Nat → Nat → Nat → Int32} {q c : Int32} {tp kd bf w : Nat → Int32} {s : Sx} {n x : Nat} {ps : Nat → Sx} (h1 : n ≤ 8) (h2 : x < 8) (h6 : ∀ j, j < n → wfS (ps j) ∧ ps j 0 3 ≤ 9999 ∧ FR (P ((x + 8 - n + j) % 8)) (ps j) ∧ RR q c tp kd (fun k => bf (31 * j + k)) (ps j)) (hs : wfS s) (hh : s 0 3 ≤ 9999) (hF : FR (P' x) s) (hR : RR q c tp kd w s) (hP : ∀ j, j < 8 → j ≠ x → P' j = P j) : UR P' (nI ((x + 1) % 8)) (nI (if n < 8 then n + 1 else 8)) q c tp kd (ntB bf w n) (nI (if n < 8 then n + 1 else 8)) := by
  by_cases h : n < 8
  · rw [if_pos h]
    refine ⟨n + 1, (x + 1) % 8, fun j => if j = n then s else ps j, by omega, by omega, rfl, rfl, rfl, fun j hj => ?_⟩
    by_cases e : j = n
    · subst e
      simp only [if_pos]
      refine ⟨hs, hh, ?_, RR_read hR hs.1 hs.2.1 (fun k hk => ?_)⟩
      · rw [show ((x + 1) % 8 + 8 - (j + 1) + j) % 8 = x by omega]
        exact hF
      · have := ntB_new (bf := bf) (w := w) (n := j) (k := k) h1 hk
        rw [if_pos h] at this
        exact this
    · simp only [if_neg e]
      obtain ⟨g1, g2, g3, g4⟩ := h6 j (by omega)
      refine ⟨g1, g2, ?_, RR_read g4 g1.1 g1.2.1 (fun k hk => ntB_old h (by omega) hk)⟩
      rw [show ((x + 1) % 8 + 8 - (n + 1) + j) % 8 = (x + 8 - n + j) % 8 by omega, hP _ (Nat.mod_lt _ (by decide)) (by omega)]
      exact g3
  · rw [if_neg h]
    have hn : n = 8 := by omega
    refine ⟨8, (x + 1) % 8, fun j => if j = 7 then s else ps (j + 1), by omega, by omega, rfl, rfl, rfl, fun j hj => ?_⟩
    by_cases e : j = 7
    · subst e
      simp only [if_pos]
      refine ⟨hs, hh, ?_, RR_read hR hs.1 hs.2.1 (fun k hk => ?_)⟩
      · rw [show ((x + 1) % 8 + 8 - 8 + 7) % 8 = x by omega]
        exact hF
      · have := ntB_new (bf := bf) (w := w) (n := n) (k := k) h1 hk
        rw [if_neg h] at this
        exact this
    · simp only [if_neg e]
      obtain ⟨g1, g2, g3, g4⟩ := h6 (j + 1) (by omega)
      refine ⟨g1, g2, ?_, RR_read g4 g1.1 g1.2.1 (fun k hk => ntB_old8 h (by omega) hk)⟩
      rw [show ((x + 1) % 8 + 8 - 8 + j) % 8 = (x + 8 - n + (j + 1)) % 8 by omega, hP _ (Nat.mod_lt _ (by decide)) (by omega)]
      exact g3
/-- both remember -/
theorem p_push {N : Nat} {u v : Mm} {s : Sx} (hN : 300 ≤ N) (h1 : wfS s) (h2 : s 0 3 ≤ 9999) (h3 : FR (u.1 0 0) s) (h4 : RR (v.1 9 0 0 0) (v.1 9 0 0 1) (v.1 9 0 2) (v.1 9 0 3) (v.1 9 0 4) s) (hU : UR (fun j => u.1 0 (0 + 1 + j)) (u.1 1 0 0 2) (u.1 1 0 0 3) (v.1 9 0 0 0) (v.1 9 0 0 1) (v.1 9 0 2) (v.1 9 0 3) (v.1 9 0 6) (v.1 9 0 0 7)) : ∃ u1 v1 : Mm, f_X4_remember 0 u = some u1 ∧ f_X8_note N v = some v1 ∧ u1.1 0 0 = u.1 0 0 ∧ v1.1 9 0 4 = v.1 9 0 4 ∧ (v1.1 9 0 0 0 = v.1 9 0 0 0 ∧ v1.1 9 0 0 1 = v.1 9 0 0 1 ∧ v1.1 9 0 2 = v.1 9 0 2 ∧ v1.1 9 0 3 = v.1 9 0 3) ∧ UR (fun j => u1.1 0 (0 + 1 + j)) (u1.1 1 0 0 2) (u1.1 1 0 0 3) (v1.1 9 0 0 0) (v1.1 9 0 0 1) (v1.1 9 0 2) (v1.1 9 0 3) (v1.1 9 0 6) (v1.1 9 0 0 7) ∧ KC u u1 ∧ KR v v1 ∧ (∀ i, 9 ≤ i → u1.1 0 i = u.1 0 i) ∧ u1.1 3 = u.1 3 ∧ v1.1 9 0 5 = v.1 9 0 5 ∧ (∀ j, j ≠ 7 → v1.1 9 0 0 j = v.1 9 0 0 j) := by
  obtain ⟨n, x, ps, a1, a2, a3, a4, a5, a6⟩ := hU
  obtain ⟨u1, b1, b2, b3, b4, b5, b6⟩ := p_remember a3 a2 a4 a1
  refine ⟨u1, _, b1, p_note hN a1 a5, b2 0 0 (by omega) (by omega), rfl, ⟨rfl, rfl, rfl, rfl⟩, ?_, ⟨fun i h1 h2 => b2 0 i (by omega) (by omega), b2 1 1 (by omega) (by omega), ?_, b3, b2 3 0 (by omega) (by omega), b2 3 1 (by omega) (by omega), b2 3 2 (by omega) (by omega)⟩, ⟨⟨rfl, rfl, rfl, rfl, rfl, rfl⟩, rfl, rfl, rfl, rfl, rfl⟩, fun i hi => b2 0 i (by omega) (by omega), ?_, rfl, fun j hj => ?_⟩
  · rw [b4, b5]
    refine UR_push a1 a2 a6 h1 h2 ?_ h4 (fun j hj hne => b2 0 (0 + 1 + j) (by omega) (by omega))
    have := b6 s h1.1 h1.2.1 h3
    rw [show 1 + x = 0 + 1 + x by omega] at this
    exact this
  · funext b; exact b2 2 b (by omega) (by omega)
  · funext b; exact b2 3 b (by omega) (by omega)
  · rw [sI_at, upd_off hj]
    rfl
/-- a change of one place of the ford, remembered -/
theorem p_change {N : Nat} {u v : Mm} {s : Sx} {r k x : Nat} (hN : 300 ≤ N) (h : Rel u v) (h1 : wfS s) (h2 : s 0 3 ≤ 9999) (h3 : FR (u.1 0 0) s) (h4 : RR (v.1 9 0 0 0) (v.1 9 0 0 1) (v.1 9 0 2) (v.1 9 0 3) (v.1 9 0 4) s) (hr : okS s r k) (hr2 : r ≠ 6) (hr3 : ¬ (r = 0 ∧ k = 3)) (hw : wfS (u2 s r k x)) : ∃ u1 v1 : Mm, f_X4_remember 0 u = some u1 ∧ f_X8_note N v = some v1 ∧ u1.1 0 0 = u.1 0 0 ∧ v1.1 9 0 4 = v.1 9 0 4 ∧ Rel (sI u1 0 0 r k (nI x)) (sI v1 9 0 4 (rp r k) (nI x)) := by
  obtain ⟨u1, v1, b1, b2, b3, b4, ⟨c1, c2, c3, c4⟩, b5, b6, b7, b8, b9, b10, b11⟩ := p_push hN h1 h2 h3 h4 h.1.2
  refine ⟨u1, v1, b1, b2, b3, b4, h.now ⟨⟨u2 s r k x, hw, ?_, ?_, ?_⟩, ?_⟩ ?_ ?_⟩
  · rw [show u2 s r k x 0 3 = s 0 3 from if_neg (by omega)]; exact h2
  · rw [sI_v2, b3]
    exact FR_set h3 hr (fun e => absurd e hr2)
  · rw [sI_at, b4]
    show RR (v1.1 9 0 0 0) (v1.1 9 0 0 1) (v1.1 9 0 2) (v1.1 9 0 3) _ _
    rw [c1, c2, c3, c4]
    exact RR_set h4 h1.1 h1.2.1 hr (fun e => absurd e hr2)
  · exact UR_congr b5 (fun j hj => sI_Ford (by omega))
  · obtain ⟨d1, d2, d3, d4, d5, d6, d7⟩ := b6
    exact ⟨fun i h1 h2 => by rw [sI_Ford (by omega)]; exact d1 i h1 h2, d2, d3, d4, d5, d6, d7⟩
  · exact b7
