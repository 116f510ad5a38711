/-! BEST: the class's answer -/
theorem p_seek35 {N m a : Nat} {t : Mm} {s : Sx} {o : Nat → Nat} (hN : 300 ≤ N) (hs : wfS s) (hH : s 0 3 ≤ 9999) (hF0 : FR (t.1 0 0) s) (hO : Ord s o m (s 0 1)) (ha : a < 32 ∧ ∀ c, c < 5 → (a / 2 ^ c % 2 = 1 ↔ mem s c)) (hC : TC s o m a t) (hB : BB t (102, 32768)) : ∃ (t' : Mm) (b' : Nat × Nat), f_X6_seekBest_35 N (9 * 0) (nI (s 0 3)) 0 t = some t' ∧ FrC t t' ∧ t'.1 3 5 0 3 = nI a ∧ BB t' b' ∧ TB s o 0 (fun _ => s 0 0) (102, 32768) b' := by
  have h5 := hs.2.1
  have h8 := hs.1
  refine lp_up (body := fun k x => b_X6_seekBest_35 N (9 * 0) k x.1 x.2.1 x.2.2) (fun r => ∃ (t' : Mm) (b' : Nat × Nat), r = some t' ∧ FrC t t' ∧ t'.1 3 5 0 3 = nI a ∧ BB t' b' ∧ TB s o 0 (fun _ => s 0 0) (102, 32768) b') (fun k x => ∃ t1 : Mm, x = (nI (lt0 s k), nI k, t1) ∧ FrC t t1 ∧ FR (t1.1 0 0) s ∧ TC s o m a t1 ∧ BB t1 (102, 32768) ∧ ∀ c, c < k → t1.1 3 7 0 c = nI (if s 6 c = 1 then s 7 c else 0)) (s 0 1) (fun K x hx => ?_) (fun K k x hk hx => ?_) N 0 (nI (s 0 3), 0, t) (by omega) (by omega) ⟨t, rfl, FrC.rfl' t, hF0, hC, hB, fun c hc => absurd hc (Nat.not_lt_zero c)⟩
  · obtain ⟨t1, rfl, a1, a2, a3, a4, a5⟩ := hx
    show ∃ t' b', b_X6_seekBest_35 N (9 * 0) K (nI (lt0 s (s 0 1))) (nI (s 0 1)) t1 = some t' ∧ _
    unfold b_X6_seekBest_35 f_X6_tell
    have e1 : t1.1 0 (9 * 0) 0 1 = nI (s 0 1) := a2.1.2.1
    have e2 : t1.1 0 (9 * 0) 0 2 = nI (s 0 2) := a2.1.2.2.1
    rw [e1, if_pos Int32.le_rfl, e2]
    have hI : TI s o (fun _ => s 0 0) 0 (s 0 2) 0 := by
      refine ⟨⟨asked_lt hs, fun q hq => ⟨fun z => Or.inl z, ?_⟩⟩, ⟨fun _ => 0, rfl, fun c hc => (by decide : (0 : Nat) < 8), fun j hj => absurd hj (Nat.not_lt_zero j), fun c _ => rfl⟩, fun c _ => rfl, fun j hj => absurd hj (Nat.not_lt_zero j), fun j k hj => absurd hj (Nat.not_lt_zero j)⟩
      rintro (z | ⟨j, hj, -⟩)
      · exact z
      · exact absurd hj (Nat.not_lt_zero j)
    obtain ⟨t2, b2, g1, g2, g3, g4, g5, g6⟩ := p_tell hN hs hH hO ha m 0 8 (fun _ => s 0 0) (s 0 2) 0 (102, 32768) t1 (by omega) (by have := hO.1; omega) a3 a5 a4 hI
    have g1 : o_lp (fun k x => b_X6_tell N k x.1 x.2.1 x.2.2.1 x.2.2.2.1 x.2.2.2.2) 8 (0, nI (s 0 2), nI (lt0 s (s 0 1)), 0, t1) = some t2 := g1
    rw [g1, o_bd_some]
    exact ⟨t2, b2, rfl, a1.tr g2, g3.2.2.1, g5, g6⟩
  · obtain ⟨t1, rfl, a1, a2, a3, a4, a5⟩ := hx
    right
    show ∃ x', _ ∧ b_X6_seekBest_35 N (9 * 0) K (nI (lt0 s k)) (nI k) t1 = _
    unfold b_X6_seekBest_35 f_X6_seekBest_68
    have e1 : t1.1 0 (9 * 0) 0 1 = nI (s 0 1) := a2.1.2.1
    have c1 : ¬ nI (s 0 1) ≤ nI k := fun z => absurd ((nIle (by omega) (by omega)).mp z) (by omega)
    have i1 : o_inb (nI k) 5 = true := inb_nI (by omega) (by omega)
    obtain ⟨u3, u4, u5, u6, u7⟩ := a2.2.2 k hk
    have u6 : t1.1 0 (9 * 0) 6 k = nI (s 6 k) := u6
    have hw := (hs.2.2.2.2.2 k hk).2.2.2
    have c6 : nI (s 6 k) = 1 ↔ s 6 k = 1 := nIeq (b := 1) (by omega) (by omega)
    have hl0 := lt0_p (s := s) k
    have hlb : lt0 s k ≤ s 0 3 + 70 := by
      rcases hl0.2.2 with z | ⟨c, z1, z2, z3⟩
      · omega
      · have := (hs.2.2.2.2.2 c (by omega)).2.2.2.2 z2
        omega
    have fin : ∀ X : Nat, X = (if s 6 k = 1 then s 7 k else 0) → X ≤ s 0 3 + 70 → ∃ x', (∃ t1' : Mm, x' = (nI (lt0 s (k + 1)), nI (k + 1), t1') ∧ FrC t t1' ∧ FR (t1'.1 0 0) s ∧ TC s o m a t1' ∧ BB t1' (102, 32768) ∧ ∀ c, c < k + 1 → t1'.1 3 7 0 c = nI (if s 6 c = 1 then s 7 c else 0)) ∧ K ((if nI (lt0 s k) < (sI t1 3 7 0 k (nI X)).1 3 7 0 k then (sI t1 3 7 0 k (nI X)).1 3 7 0 k else nI (lt0 s k)), nI (k + 1), sI t1 3 7 0 k (nI X)) = K x' := by
      intro X hX hX2
      have er : (sI t1 3 7 0 k (nI X)).1 3 7 0 k = nI X := by
        rw [sI_at, upd_at]
      have cl : nI (lt0 s k) < nI X ↔ lt0 s k < X := nIlt (by omega) (by omega)
      have ei : (if nI (lt0 s k) < nI X then nI X else nI (lt0 s k)) = nI (lt0 s (k + 1)) := by
        rw [lt0, ← hX]
        by_cases z : lt0 s k < X
        · rw [if_pos z, if_pos (cl.mpr z)]
        · rw [if_neg z, if_neg (fun y => z (cl.mp y))]
      rw [er, ei]
      refine ⟨_, ⟨sI t1 3 7 0 k (nI X), rfl, a1.tr (FrC.sI (by unfold scr; omega)), a2, a3, a4, fun c hc => ?_⟩, rfl⟩
      rw [sI_at]
      by_cases z : c = k
      · rw [z, upd_at, hX]
      · rw [upd_off z]
        exact a5 c (by omega)
    simp only [e1, if_neg c1, if_pos i1, cl_nI (show k < 2147483648 by omega), u6, c6, o_nm, nI_1]
    by_cases z : s 6 k = 1
    · have e7 : t1.1 0 (9 * 0) 7 k = nI (s 7 k) := u7 z
      rw [if_pos z, e7]
      have := hw.2 z
      exact fin (s 7 k) (if_pos z).symm (by omega)
    · rw [if_neg z]
      exact fin 0 (if_neg z).symm (by omega)
theorem p_seek {N : Nat} {u : Mm} {s : Sx} (hN : 300 ≤ N) (hs : wfS s) (hH : s 0 3 ≤ 9999) (hF : FR (u.1 0 0) s) : ∃ (t' : Mm) (a : Nat) (f : Nat → Nat), f_X6_seekBest N (9 * 0) u = some t' ∧ FrC u t' ∧ t'.1 3 5 0 3 = nI a ∧ (a < 32 ∧ ∀ c, c < 5 → (a / 2 ^ c % 2 = 1 ↔ mem s c)) ∧ BB t' (vl s f) ∧ Vt s f ∧ ∀ f', Vt s f' → lxl (vl s f) (vl s f') := by
  obtain ⟨t1, a1, a2, a3, a4⟩ := p_takeFrom (t := u) (i := 19) (o := 9 * 0) (by omega)
  have F1 : FR (t1.1 0 19) s := a4 s hs.1 hs.2.1 hF
  obtain ⟨t2, a, b1, b2, b3, b4, b5⟩ := p_choose hN hs F1
  have F2 : FR (t2.1 0 19) s := by rw [b2 0 19 (by omega)]; exact F1
  obtain ⟨t3, o, m, d1, d2, d3, d4, d5⟩ := p_order hN hs hH F2 b4
  unfold f_X6_seekBest
  rw [a1, o_bd_some, b1, o_bd_some, d1, o_bd_some]
  simp only [o_nm]
  have F0 : FR (t3.1 0 0) s := by
    rw [d2 0 0 (by omega) (by omega), b2 0 0 (by omega), a2 0 0 (by omega)]
    exact hF
  have e3 : (sI (sI t3 3 5 0 5 102) 3 5 0 6 32768).1 0 (9 * 0) 0 3 = nI (s 0 3) := F0.1.2.2.2.1
  rw [e3]
  have hC : TC s o m a (sI (sI t3 3 5 0 5 102) 3 5 0 6 32768) := ⟨d4.1, d4.2.1, d4.2.2.1, d4.2.2.2⟩
  obtain ⟨t4, b', g1, g2, g3, g4, g5, g6, g7⟩ := p_seek35 (t := sI (sI t3 3 5 0 5 102) 3 5 0 6 32768) hN hs hH F0 d5 b5 hC ⟨⟨rfl, rfl⟩, by decide, by decide⟩
  rw [g1]
  have fr : FrC u (sI (sI t3 3 5 0 5 102) 3 5 0 6 32768) := by
    have q1 : FrC u t1 := FrC.of (by unfold scr; omega) a2 a3
    have q2 : FrC t1 t2 := FrC.of (by unfold scr; omega) b2 b3
    have q3 : FrC t2 t3 := ⟨fun x y h => d2 x y (fun z => h (by unfold scr; omega)) (fun z => h (by unfold scr; omega)), d3⟩
    exact ((q1.tr q2).tr q3).tr ((FrC.sI (by unfold scr; omega)).tr (FrC.sI (by unfold scr; omega)))
  obtain ⟨f0, hf0⟩ := Vt_ex (s := s) hs.2.1
  rcases g6 with g6 | ⟨f, v1, v2, v3⟩
  · exfalso
    have h1 := g7 f0 hf0 (fun j hj => absurd hj (Nat.not_lt_zero j))
    have h2 : (vl s f0).1 ≤ 101 := htl_le
    rw [g6] at h1
    rcases h1 with h1 | ⟨h1, -⟩
    · have h1 : 102 < (vl s f0).1 := h1
      omega
    · have h1 : 102 = (vl s f0).1 := h1
      omega
  · subst v3
    exact ⟨t4, a, f, rfl, fr.tr g2, g3, b5, g4, v1, fun f' w => g7 f' w (fun j hj => absurd hj (Nat.not_lt_zero j))⟩
theorem shr_k : ∀ c, c < 5 → (((3 * (4 - nI c)) &&& 31).toBitVec.smod 32).toNat = 3 * (4 - c) := by decide +kernel
theorem p_told {a c : Nat} {t : Mm} {s : Sx} {f : Nat → Nat} (h8 : s 0 0 ≤ 8) (hc : c < 5) (ha : t.1 3 5 0 3 = nI a) (hb : a < 32 ∧ ∀ c, c < 5 → (a / 2 ^ c % 2 = 1 ↔ mem s c)) (hB : BB t (vl s f)) (hV : Vt s f) : f_X6_toldTo (nI c) t = some (qI (s 0 0) (f c), t) := by
  unfold f_X6_toldTo f_X6_shiftOf
  rw [ha, p_isIn (by omega) (by omega), o_bd_some]
  have hab := hb.2 c hc
  simp only []
  rcases bit01 (m := a) (k := c) with e | e
  · have nm : ¬ mem s c := fun z => by
      have := hab.mpr z
      omega
    rw [e, hV.2.2 c nm]
    simp only [show nI 0 = 0 from rfl, ite_true]
    unfold qI
    rw [if_neg (Nat.lt_irrefl _)]
  · have hm := hab.mp e
    have hq := (hV.1 c hm).1
    rw [e]
    simp only [if_neg (show ¬ nI 1 = 0 by decide), o_bd_some]
    have e6 : t.1 3 5 0 6 = nI (pkF s f 5) := hB.1.2
    have hp := hB.2.2
    have hp : pkF s f 5 ≤ 32768 := hp
    rw [e6, pk_shrN (by omega) _ (3 * (4 - c)) (shr_k c hc)]
    have hlt : pkF s f 5 / 2 ^ (3 * (4 - c)) ≤ pkF s f 5 := Nat.div_le_self _ _
    rw [pk_andN (by omega) 3 (by decide)]
    rw [show (2 : Nat) ^ 3 = 8 from rfl, ← pkF_5, pk5_dig (fun c _ => dgF_lt h8 c) hc]
    unfold dgF qI
    rw [if_pos hq, if_pos hq]
