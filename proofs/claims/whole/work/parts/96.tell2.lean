/-! BEST: the class's tellings, turn by turn -/
theorem capN_mono {x y : Nat} (h : x ≤ y) : capN x ≤ capN y := by
  unfold capN
  split <;> split <;> omega
theorem capN_le (x : Nat) : capN x ≤ 101 := by
  unfold capN
  split <;> omega
theorem TI_all {s : Sx} {o f : Nat → Nat} {m used tel : Nat} (hO : Ord s o m (s 0 1)) (h5 : s 0 1 ≤ 5) (h : TI s o f m used tel) : Vt s f ∧ tel = pkF s f 5 := by
  obtain ⟨-, ⟨D, d1, d2, d3, d4⟩, h3, h4, h6⟩ := h
  refine ⟨⟨fun c hc => ?_, fun c c' hc hc' hne => ?_, h3⟩, ?_⟩
  · obtain ⟨j, hj, e⟩ := hO.2.2.2 c hc.1 hc.2.1
    have := h4 j hj (by rw [e]; exact hc)
    rw [e] at this
    exact this
  · obtain ⟨j, hj, e⟩ := hO.2.2.2 c hc.1 hc.2.1
    obtain ⟨k, hk, e'⟩ := hO.2.2.2 c' hc'.1 hc'.2.1
    have := h6 j k hj hk (fun z => hne (by rw [← e, ← e', z])) (by rw [e]; exact hc) (by rw [e']; exact hc')
    rw [e, e'] at this
    exact this
  · have hD : ∀ c, D c = dgF s f c := by
      intro c
      by_cases z : ∃ j, j < m ∧ o j = c
      · obtain ⟨j, hj, e⟩ := z
        have := d3 j hj
        rw [e] at this
        exact this
      · rw [d4 c (fun j hj y => z ⟨j, hj, y⟩)]
        have : ¬ mem s c := fun y => z (hO.2.2.2 c y.1 y.2.1)
        unfold dgF
        rw [if_neg (by have := h3 c this; omega)]
    rw [d1, ← pkF_5]
    unfold pk5
    rw [hD, hD, hD, hD, hD]
theorem Vt_eq {s : Sx} {o f f' : Nat → Nat} {m : Nat} (hO : Ord s o m (s 0 1)) (h : Vt s f) (h' : Vt s f') (ha : ∀ j, j < m → f' (o j) = f (o j)) : f' = f := by
  funext c
  by_cases z : mem s c
  · obtain ⟨j, hj, e⟩ := hO.2.2.2 c z.1 z.2.1
    rw [← e]
    exact ha j hj
  · rw [h.2.2 c z, h'.2.2 c z]
theorem p_tell {N m a : Nat} {s : Sx} {o : Nat → Nat} (hN : 300 ≤ N) (hs : wfS s) (hH : s 0 3 ≤ 9999) (hO : Ord s o m (s 0 1)) (ha : a < 32 ∧ ∀ c, c < 5 → (a / 2 ^ c % 2 = 1 ↔ mem s c)) : ∀ (d i n : Nat) (f : Nat → Nat) (used tel : Nat) (b : Nat × Nat) (t : Mm), i + d = m → d < n → TC s o m a t → TL s f o i t → BB t b → TI s o f i used tel → TR s o m a i f t b (o_lp (fun k x => b_X6_tell N k x.1 x.2.1 x.2.2.1 x.2.2.2.1 x.2.2.2.2) n (nI i, nI used, nI (ltO s f o i), nI tel, t))
  | d, i, 0, f, used, tel, b, t, _, hn, _, _, _, _ => absurd hn (Nat.not_lt_zero d)
  | d, i, n + 1, f, used, tel, b, t, hd, hn, hC, hL, hB, hI => by
    have h8 := hs.1
    have h5 := hs.2.1
    have hm5 := hO.1
    have hl := ltO_b (f := f) hs hO (show i ≤ m by omega)
    obtain ⟨⟨e5, e6⟩, bb1, bb2⟩ := id hB
    have e3 : t.1 0 19 0 3 = nI (s 0 3) := hC.1.1.2.2.2.1
    have em : t.1 3 5 0 2 = nI m := hC.2.1
    have ex : (if (101 : Int32) < nI (ltO s f o i) - nI (s 0 3) then 101 else nI (ltO s f o i) - nI (s 0 3)) = nI (capN (ltO s f o i - s 0 3)) := by
      rw [pk_sub hl.1]
      have c : (101 : Int32) < nI (ltO s f o i - s 0 3) ↔ 101 < ltO s f o i - s 0 3 := nIlt (a := 101) (by omega) (by omega)
      unfold capN
      by_cases z : 101 < ltO s f o i - s 0 3
      · rw [if_pos (c.mpr z), if_pos z]
        rfl
      · rw [if_neg (fun y => z (c.mp y)), if_neg z]
    have hcap := capN_le (ltO s f o i - s 0 3)
    have c1 : nI (capN (ltO s f o i - s 0 3)) ≤ nI b.1 ↔ capN (ltO s f o i - s 0 3) ≤ b.1 := nIle (by omega) (by omega)
    have c2 : nI m ≤ nI i ↔ m ≤ i := nIle (by omega) (by omega)
    have hrec : ∀ (f' : Nat → Nat) (used' tel' : Nat) (b' : Nat × Nat) (t' : Mm), i < m → TC s o m a t' → TL s f' o (i + 1) t' → BB t' b' → TI s o f' (i + 1) used' tel' → TR s o m a (i + 1) f' t' b' (o_lp (fun k x => b_X6_tell N k x.1 x.2.1 x.2.2.1 x.2.2.2.1 x.2.2.2.2) n (nI (i + 1), nI used', nI (ltO s f' o (i + 1)), nI tel', t')) := fun f' used' tel' b' t' hi q1 q2 q3 q4 => p_tell hN hs hH hO ha (d - 1) (i + 1) n f' used' tel' b' t' (by omega) (by omega) q1 q2 q3 q4
    show TR s o m a i f t b (b_X6_tell N (o_lp (fun k x => b_X6_tell N k x.1 x.2.1 x.2.2.1 x.2.2.2.1 x.2.2.2.2) n) (nI i) (nI used) (nI (ltO s f o i)) (nI tel) t)
    generalize o_lp (fun k x => b_X6_tell N k x.1 x.2.1 x.2.2.1 x.2.2.2.1 x.2.2.2.2) n = kR at hrec ⊢
    unfold b_X6_tell f_X6_tell_39
    simp only [o_nm, e3, ex, e5, c1, em, c2]
    by_cases z1 : capN (ltO s f o i - s 0 3) ≤ b.1
    · rw [if_pos z1]
      by_cases z2 : m ≤ i
      · rw [if_pos z2]
        have him : i = m := by omega
        subst him
        obtain ⟨v1, v2⟩ := TI_all hO h5 hI
        have hvl : vl s f = (capN (ltO s f o i - s 0 3), tel) := by
          unfold vl
          rw [last_O hs hO, v2]
        have htel : tel ≤ 32768 := by
          have := pk5_lt (D := dgF s f) (fun c _ => dgF_lt h8 c)
          rw [v2, ← pkF_5]
          omega
        obtain ⟨t', b', k1, k2, k3, k4, k5, k6, k7, k8⟩ := p_keep (x := capN (ltO s f o i - s 0 3)) (y := tel) hB (by omega) htel
        rw [k1, o_bd_some]
        refine ⟨t', b', rfl, FrC.of (by unfold scr; omega) k2 k3, ⟨by rw [k2 0 19 (by omega)]; exact hC.1, by rw [k4 2 (by omega)]; exact hC.2.1, by rw [k4 3 (by omega)]; exact hC.2.2.1, by rw [k2 3 6 (by omega)]; exact hC.2.2.2⟩, fun c hc => by rw [k2 3 7 (by omega)]; exact hL c hc, k5, k6, ?_, fun f' w1 w2 => ?_⟩
        · rcases k8 with k8 | k8
          · exact Or.inl k8
          · exact Or.inr ⟨f, v1, fun _ _ => rfl, by rw [k8, hvl]⟩
        · rw [Vt_eq hO v1 w1 w2, hvl]
          exact k7
      · have him : i < m := by omega
        have i5 : o_inb (nI i) 5 = true := inb_nI (by omega) (by omega)
        have l5 : nI i < 5 := (nIlt (b := 5) (by omega) (by omega)).mpr (by omega)
        have hoi := hO.2.1 i him
        have eo : t.1 3 6 0 i = nI (o i) := hC.2.2.2 i him
        have hcb := cmg_b hs hoi.1
        rw [if_neg z2, if_pos l5, if_pos i5, cl_nI (by omega), eo, p_coming hs hH hC.1 hoi.1, o_bd_some]
        simp only []
        rw [hC.2.2.1, p_isIn (by omega) (by omega), o_bd_some]
        simp only []
        have hab := ha.2 (o i) (by omega)
        rcases bit01 (m := a) (k := o i) with e | e
        · have nm : ¬ mem s (o i) := fun z => by
            have := hab.mpr z
            omega
          have hq : ¬ f (o i) < s 0 0 := by
            have := hI.2.2.1 _ nm
            omega
          rw [e]
          simp only [show nI 0 = 0 from rfl, ite_true, nI_1]
          have cl : nI (ltO s f o i) < nI (cmg s (o i) + 1) ↔ ltO s f o i < cmg s (o i) + 1 := nIlt (by omega) (by omega)
          have tn : tlO s f o (i + 1) = tlO s f o i := by
            rw [tlO, if_neg hq]
          have ln : ltO s f o (i + 1) = if ltO s f o i < cmg s (o i) + 1 then cmg s (o i) + 1 else ltO s f o i := by
            have el : ltE s f o i = cmg s (o i) + 1 := by
              unfold ltE
              rw [if_neg hq]
            rw [ltO, el]
          have ei : (if nI (ltO s f o i) < nI (cmg s (o i) + 1) then nI (cmg s (o i) + 1) else nI (ltO s f o i)) = nI (ltO s f o (i + 1)) := by
            rw [ln]
            by_cases z : ltO s f o i < cmg s (o i) + 1
            · rw [if_pos z, if_pos (cl.mpr z)]
            · rw [if_neg z, if_neg (fun y => z (cl.mp y))]
          rw [ei]
          have hI' : TI s o f (i + 1) used tel := by
            obtain ⟨⟨u1, u2⟩, ⟨D, d1, d2, d3, d4⟩, h3, h4, h6⟩ := hI
            refine ⟨⟨u1, fun q hq => ?_⟩, ⟨D, d1, d2, fun j hj => ?_, fun c hc => d4 c (fun j hj => hc j (by omega))⟩, h3, fun j hj mj => ?_, fun j k hj hk hjk mj mk => ?_⟩
            · rw [u2 q hq]
              constructor
              · rintro (z | ⟨j, z3, z4⟩)
                · exact Or.inl z
                · exact Or.inr ⟨j, by omega, z4⟩
              · rintro (z | ⟨j, z3, z4⟩)
                · exact Or.inl z
                · by_cases y : j = i
                  · rw [y] at z4
                    exact absurd z4.1 nm
                  · exact Or.inr ⟨j, by omega, z4⟩
            · by_cases y : j = i
              · rw [y, d4 (o i) (fun k hk w => by have := hO.inj (show k < m by omega) him w; omega)]
                unfold dgF
                rw [if_neg hq]
              · exact d3 j (by omega)
            · by_cases y : j = i
              · rw [y] at mj
                exact absurd mj nm
              · exact h4 j (by omega) mj
            · by_cases y : j = i
              · rw [y] at mj
                exact absurd mj nm
              · by_cases y2 : k = i
                · rw [y2] at mk
                  exact absurd mk nm
                · exact h6 j k (by omega) (by omega) hjk mj mk
          obtain ⟨t2, b2, g1, g2, g3, g4, g5, g6, g7, g8⟩ := hrec f used tel b t him hC (fun c hc => by rw [tn]; exact hL c hc) hB hI'
          rw [g1, o_bd_some]
          refine ⟨t2, b2, rfl, g2, g3, fun c hc => by rw [← tn]; exact g4 c hc, g5, g6, ?_, fun f' w1 w2 => g8 f' w1 (fun j hj => ?_)⟩
          · rcases g7 with g7 | ⟨f', w1, w2, w3⟩
            · exact Or.inl g7
            · exact Or.inr ⟨f', w1, fun j hj => w2 j (by omega), w3⟩
          · by_cases y : j = i
            · rw [y, w1.2.2 _ nm, hI.2.2.1 _ nm]
            · exact w2 j (by omega)
        · have hm : mem s (o i) := hab.mp e
          rw [e]
          simp only [if_neg (show ¬ nI 1 = 0 by decide)]
          rw [p_inAt (T := tlO s f o i) hN hs hC.1 (fun c hc => ⟨hL c hc, by have := tlO_b (f := f) hs hO i (by omega) c hc; omega⟩) (by omega), o_bd_some]
          exact p_tell106 hN hs hH hO him hm hI hC hL hB (fun q t1 b1 q1 q2 q3 q4 q5 => hrec (updN f (o i) q) (used ||| 2 ^ q) (tel ||| q * 2 ^ (3 * (4 - o i))) b1 t1 him q3 q4 q5 (TI_next hs hO him q1 hm q2 hI))
    · rw [if_neg z1]
      refine ⟨t, b, rfl, FrC.rfl' t, hC, hL, hB, lxl.rf b, Or.inl rfl, fun f' w1 w2 => ?_⟩
      have h1 := ltO_mono (s := s) (f := f') (o := o) (i := i) (m - i)
      rw [show i + (m - i) = m by omega, ltO_cg i w2] at h1
      have h2 := capN_mono (show ltO s f o i - s 0 3 ≤ ltO s f' o m - s 0 3 by omega)
      left
      show b.1 < lastV s f'
      rw [last_O hs hO]
      omega
