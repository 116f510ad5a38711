/-! seen -/
theorem lgc_eq (x y : Int64) : lg_cmp x y = 0 ↔ x = y := by
  constructor
  · intro h
    have h1 := lgc_lt x y
    have h2 := lgc_gt x y
    rw [h] at h1 h2
    have n : ¬ (0 : Int32) < 0 := by decide
    have n1 : ¬ x.toInt < y.toInt := fun z => n (h1.mpr z)
    have n2 : ¬ y.toInt < x.toInt := fun z => n (h2.mpr z)
    exact Int64.toInt_inj.mp (by omega)
  · intro h
    subst h
    have h1 := lgc_lt x x
    have h2 := lgc_gt x x
    have n1 : ¬ lg_cmp x x < 0 := fun z => absurd (h1.mp z) (by omega)
    have n2 : ¬ 0 < lg_cmp x x := fun z => absurd (h2.mp z) (by omega)
    exact Int32.le_antisymm (Int32.not_lt.mp n2) (Int32.not_lt.mp n1)
theorem p_check {u v : Mm} (h : Rel u v) {j : Nat} (hj : j < 4) (a1 i n : Int32) : ∃ r, f_X3_refusal j a1 i n u = some (r, u) ∧ f_X8_lacks (nI j) a1 i n v = some (r, v) ∧ (r = 0 → ∃ k m z l : Nat, i = nI k ∧ n = nI m ∧ k + m ≤ z ∧ z ≤ 24 ∧ l < 4 ∧ u.1 2 j 0 1 = nI z ∧ u.1 2 j 0 0 = nI l ∧ ∀ q, q < z → u.2 j q = v.2 0 (24 * j + q)) := by
  obtain ⟨e1, e2, e3⟩ := h.2.2.1 j hj
  rcases e3 with e3 | ⟨z, l, z1, z2, z3, z4, z5⟩
  · exact ⟨-11, p_missing e3, p_lacks0 hj (e2.symm.trans e3), fun z => absurd z (by decide)⟩
  · refine ⟨_, p_refusal z3 z4 z1, p_lacks hj (e2.symm.trans z3) (e1.symm.trans z4) z1, fun hr => ?_⟩
    by_cases c0 : a1 = nI l
    · rw [if_pos c0] at hr
      by_cases c1 : i < 0
      · rw [if_pos c1] at hr
        exact absurd hr (by decide)
      · rw [if_neg c1] at hr
        by_cases c2 : n < 0
        · rw [if_pos c2] at hr
          exact absurd hr (by decide)
        · rw [if_neg c2] at hr
          by_cases c3 : nI z - n < i
          · rw [if_pos c3] at hr
            exact absurd hr (by decide)
          · have hsp := mt (span_iff z1 c1 c2).mpr c3
            have e0 : (0 : Int32).toInt = 0 := rfl
            rw [Int32.lt_iff_toInt_lt, e0] at c1 c2
            obtain ⟨k, rfl, -, hk, hk2⟩ := inR_nat (a := i) (l := 0) (h := (z : Int)) ⟨by omega, by omega⟩ (by omega)
            obtain ⟨m, rfl, -, hm, hm2⟩ := inR_nat (a := n) (l := 0) (h := (z : Int)) ⟨by omega, by omega⟩ (by omega)
            rw [nI_toInt (by omega), nI_toInt (by omega)] at hsp
            exact ⟨k, m, z, l, rfl, rfl, by omega, z1, z2, z3, z4, z5⟩
    · rw [if_neg c0] at hr
      exact absurd hr (by decide)
def fitK (it : Nat → Int64) (s : Sx) : Nat → Bool
  | 0 => true
  | h + 1 => fitK it s h && decide (it h = (nI (inM (IT lowF s (h + 1)))).toInt64)
theorem fitK_f {it : Nat → Int64} {s : Sx} {k : Nat} (h : fitK it s k = false) : ∀ d, fitK it s (k + d) = false
  | 0 => h
  | d + 1 => by
    show (fitK it s (k + d) && _) = false
    rw [fitK_f h d]
    rfl
def bI (b : Bool) : Int32 := if b then 1 else 0
theorem p_fits {N j k m : Nat} {t : Mm} {s : Sx} {it : Nat → Int64} (hN : 300 ≤ N) (hs : wfS s) (hh : s 0 3 ≤ 19000) (hF : FR (t.1 0 18) s) (hkm : k + m ≤ 24) (hit : ∀ h, h < m → t.2 j (k + h) = it h) : ∃ t' : Mm, f_X1_fits N j (nI k) (nI m) t = some (bI (fitK it s m), t') ∧ (∀ a b, ¬ (a = 0 ∧ b = 18) → t'.1 a b = t.1 a b) ∧ t'.2 = t.2 := by
  refine lp_up (body := fun k x => b_X1_fits_3 N j k x.1 x.2.1 x.2.2.1 x.2.2.2) (fun o => ∃ t' : Mm, o = some (bI (fitK it s m), t') ∧ (∀ a b, ¬ (a = 0 ∧ b = 18) → t'.1 a b = t.1 a b) ∧ t'.2 = t.2) (fun q x => ∃ t1 : Mm, x = (nI k, nI m, nI q, t1) ∧ (∀ a b, ¬ (a = 0 ∧ b = 18) → t1.1 a b = t.1 a b) ∧ t1.2 = t.2 ∧ FR (t1.1 0 18) (IT lowF s q) ∧ fitK it s q = true) m (fun K x hx => ?_) (fun K q x hq hx => ?_) N 0 (nI k, nI m, 0, t) (by omega) (by omega) ⟨t, rfl, fun _ _ _ => rfl, rfl, hF, rfl⟩
  · obtain ⟨t1, rfl, a1, a2, a3, a4⟩ := hx
    refine ⟨t1, ?_, a1, a2⟩
    show b_X1_fits_3 N j K (nI k) (nI m) (nI m) t1 = _
    unfold b_X1_fits_3
    rw [if_pos Int32.le_rfl, a4]
    rfl
  · obtain ⟨t1, rfl, a1, a2, a3, a4⟩ := hx
    have c1 : ¬ nI m ≤ nI q := fun z => absurd ((nIle (by omega) (by omega)).mp z) (by omega)
    obtain ⟨t2, b1, b2, b3, b4⟩ := p_pass (N := N) (i := 18) hN (wf_IT (f := lowF) hs q) (by rw [IT_hour]; omega) a3
    have hw := wf_IT (f := lowF) hs (q + 1)
    have hm : f_X1_howManyIn N t2 = some (nI (inM (IT lowF s (q + 1))), t2) := p_howMany hN hw b4
    have i1 : o_inb (nI k + nI q) 24 = true := by rw [nI_add]; exact inb_nI (by omega) (by omega)
    have l1 : (nI k + nI q).toNatClampNeg = k + q := by rw [nI_add, cl_nI (by omega)]
    have e2 : t2.2 j (k + q) = it q := by rw [b3, a2]; exact hit q hq
    have hf : ∀ a b, ¬ (a = 0 ∧ b = 18) → t2.1 a b = t.1 a b := fun a b z => (b2 a b z).trans (a1 a b z)
    show (∃ t', b_X1_fits_3 N j K (nI k) (nI m) (nI q) t1 = _ ∧ _) ∨ ∃ x', _ ∧ b_X1_fits_3 N j K (nI k) (nI m) (nI q) t1 = _
    unfold b_X1_fits_3
    simp only [if_neg c1, b1, o_bd_some, if_pos i1, hm, l1, e2, lgc_eq, nI_1]
    by_cases e : it q = (nI (inM (IT lowF s (q + 1)))).toInt64
    · right
      rw [if_pos e]
      exact ⟨_, ⟨t2, rfl, hf, b3.trans a2, b4, by
        show (fitK it s q && decide _) = true
        rw [a4, decide_eq_true e]
        rfl⟩, rfl⟩
    · left
      rw [if_neg e]
      refine ⟨t2, ?_, hf, b3.trans a2⟩
      have : fitK it s (q + 1) = false := by
        show (fitK it s q && decide _) = false
        rw [decide_eq_false e, Bool.and_false]
      have h2 := fitK_f this (m - (q + 1))
      rw [show q + 1 + (m - (q + 1)) = m by omega] at h2
      rw [h2]
      rfl
theorem p_isSeen {N j k m : Nat} {t : Mm} {s : Sx} {it : Nat → Int64} (hN : 300 ≤ N) (hj : j < 4) (hs : wfS s) (hh : s 0 3 ≤ 19000) (hR : SD t (t.1 9 0 5) s) (hT : HT t (s 0 0) lowF) (hkm : k + m ≤ 24) (hit : ∀ h, h < m → t.2 0 (24 * j + (k + h)) = it h) : ∃ f, f_X8_isSeen N (nI j) (nI k) (nI m) t = some (bI (fitK it s m), sR t 9 0 5 f) := by
  refine lp_up (body := fun k x => b_X8_isSeen_6 N k x.1 x.2.1 x.2.2.1 x.2.2.2.1 x.2.2.2.2.1 x.2.2.2.2.2) (fun o => ∃ f, o = some (bI (fitK it s m), sR t 9 0 5 f)) (fun q x => ∃ f, x = (nI j, nI k, nI m, bI (fitK it s q), nI q, sR t 9 0 5 f) ∧ SD t f (IT lowF s q)) m (fun K x hx => ?_) (fun K q x hq hx => ?_) N 0 (nI j, nI k, nI m, 1, 0, t) (by omega) (by omega) ⟨t.1 9 0 5, by rw [sR_self]; rfl, hR⟩
  · obtain ⟨f, rfl, a1⟩ := hx
    refine ⟨f, ?_⟩
    show b_X8_isSeen_6 N K (nI j) (nI k) (nI m) (bI (fitK it s m)) (nI m) _ = _
    unfold b_X8_isSeen_6
    rw [if_pos Int32.le_rfl]
    cases fitK it s m <;> rfl
  · obtain ⟨f, rfl, a1⟩ := hx
    right
    have c1 : ¬ nI m ≤ nI q := fun z => absurd ((nIle (by omega) (by omega)).mp z) (by omega)
    obtain ⟨g, b1, b2⟩ := p_goHour (N := N) (t := sR t 9 0 5 f) (s := IT lowF s q) (fq := lowF) hN (wf_IT (f := lowF) hs q) (by rw [IT_hour]; omega) (by rw [sR_at]; exact a1) (by rw [IT_keep (by unfold fixd; omega)]; exact hT)
    rw [sR_sR] at b1
    have hw := wf_IT (f := lowF) hs (q + 1)
    have hm : f_X8_inMany N (sR t 9 0 5 g) = some (nI (inM (IT lowF s (q + 1))), sR t 9 0 5 g) := p_inMany hN hw (by rw [sR_at]; exact b2)
    have e24 : (24 : Int32) * nI j + nI k + nI q = nI (24 * j + k + q) := by rw [show (24 : Int32) = nI 24 from rfl, pk_mul, nI_add, nI_add]
    have i1 : o_inb (nI (24 * j + k + q)) 96 = true := inb_nI (by omega) (by omega)
    have e2 : (sR t 9 0 5 g).2 0 (24 * j + k + q) = it q := by rw [Nat.add_assoc]; exact hit q hq
    show ∃ x', _ ∧ b_X8_isSeen_6 N K (nI j) (nI k) (nI m) (bI (fitK it s q)) (nI q) (sR t 9 0 5 f) = _
    unfold b_X8_isSeen_6 f_X8_isSeen_48 f_X8_isSeen_49
    simp only [if_neg c1, b1, o_bd_some, e24, if_pos i1, hm, cl_nI (show 24 * j + k + q < 2147483648 by omega), e2, lgc_eq, nI_1]
    refine ⟨_, ⟨g, rfl, b2⟩, ?_⟩
    have hk : fitK it s (q + 1) = (fitK it s q && decide (it q = (nI (inM (IT lowF s (q + 1)))).toInt64)) := rfl
    rw [hk]
    cases fitK it s q with
    | false => rfl
    | true =>
      rw [if_neg (show ¬ bI true = 0 by decide)]
      by_cases e : it q = (nI (inM (IT lowF s (q + 1)))).toInt64
      · rw [if_pos e, decide_eq_true e]
        rfl
      · rw [if_neg e, decide_eq_false e]
        rfl
/-- a set by a test -/
def msk (b : Nat → Bool) : Nat → Nat
  | 0 => 0
  | k + 1 => if b k then msk b k + 2 ^ k else msk b k
theorem msk_lt (b : Nat → Bool) : ∀ n, msk b n < 2 ^ n
  | 0 => by simp [msk]
  | n + 1 => by
    have h := msk_lt b n
    rw [msk, Nat.pow_succ]
    split <;> omega
theorem msk_or {b : Nat → Bool} {k : Nat} : nI (msk b k) ||| nI (2 ^ k) = nI (msk b k + 2 ^ k) := by
  rw [nI_or]
  have h := Nat.two_pow_add_eq_or_of_lt (msk_lt b k) 1
  rw [Nat.mul_one] at h
  rw [Nat.or_comm, ← h, Nat.add_comm]
theorem FR_kind {v : Nat → Nat → Int32} {s : Sx} {c x : Nat} (h : FR v s) : FR (v2 v 3 c (nI x)) (u2 s 3 c x) := by
  obtain ⟨⟨a, b, c', d, e⟩, f, g⟩ := h
  refine ⟨⟨pt_v2 a, pt_v2 b, pt_v2 c', pt_v2 d, pt_v2 e⟩, fun j hj => ?_, fun j hj => ?_⟩
  · exact ⟨pt_v2 (f j hj).1, pt_v2 (f j hj).2⟩
  · obtain ⟨g3, g4, g5, g6, g7⟩ := g j hj
    exact ⟨pt_v2 g3, pt_v2 g4, pt_v2 g5, pt_v2 g6, fun h1 => pt_v2 (g7 h1)⟩
theorem wf_kind {s : Sx} {c x : Nat} (h : wfS s) (hx : x < 5) : wfS (u2 s 3 c x) := by
  obtain ⟨a, b, c', d, f, g⟩ := h
  refine ⟨a, b, c', d, f, fun k hk => ?_⟩
  obtain ⟨g3, g4⟩ := g k hk
  refine ⟨?_, g4⟩
  unfold u2
  split
  · exact hx
  · exact g3
theorem p_kindsC {N j k m c : Nat} {t : Mm} {s : Sx} {it : Nat → Int64} (hN : 300 ≤ N) (hs : wfS s) (hh : s 0 3 ≤ 9999) (hF : FR (t.1 0 0) s) (hc : c < s 0 1) (hkm : k + m ≤ 24) (hit : ∀ h, h < m → t.2 j (k + h) = it h) : ∃ t' : Mm, f_X1_kindsThatFit N (9 * 0) j (nI c) (nI k) (nI m) t = some (nI (msk (fun x => fitK it (u2 s 3 c x) m) 5), t') ∧ FrC t t' := by
  have h5 := hs.2.1
  have ic : o_inb (nI c) 5 = true := inb_nI (by omega) (by omega)
  refine lp_up (body := fun k x => b_X1_kindsThatFit_6 N (9 * 0) j k x.1 x.2.1 x.2.2.1 x.2.2.2.1 x.2.2.2.2.1 x.2.2.2.2.2) (fun o => ∃ t' : Mm, o = some (nI (msk (fun x => fitK it (u2 s 3 c x) m) 5), t') ∧ FrC t t') (fun q x => ∃ t1 : Mm, x = (nI c, nI k, nI m, nI (msk (fun x => fitK it (u2 s 3 c x) m) q), nI q, t1) ∧ FrC t t1) 5 (fun K x hx => ?_) (fun K q x hq hx => ?_) N 0 (nI c, nI k, nI m, 0, 0, t) (by omega) (by omega) ⟨t, rfl, FrC.rfl' t⟩
  · obtain ⟨t1, rfl, a1⟩ := hx
    exact ⟨t1, rfl, a1⟩
  · obtain ⟨t1, rfl, a1⟩ := hx
    right
    have f1 := a1.ford hF
    have c1 : ¬ (5 : Int32) ≤ nI q := fun z => absurd ((nIle (a := 5) (by omega) (by omega)).mp z) (by omega)
    obtain ⟨t2, b1, b2, b3, b4⟩ := p_start hs f1
    have f3 : FR ((sI t2 0 18 3 c (nI q)).1 0 18) (u2 s 3 c q) := by
      rw [sI_v2]
      exact FR_kind b4
    obtain ⟨t3, d1, d2, d3⟩ := p_fits (N := N) (j := j) (k := k) (m := m) (t := sI t2 0 18 3 c (nI q)) (it := it) hN (wf_kind hs hq) (show s 0 3 ≤ 19000 by omega) f3 hkm (fun h hh => by
      show t2.2 j (k + h) = it h
      rw [b3, a1.2]
      exact hit h hh)
    have fr : FrC t1 t3 := ((FrC.of (by unfold scr; omega) b2 b3).tr (FrC.sI (by unfold scr; omega))).tr (FrC.of (by unfold scr; omega) d2 d3)
    show ∃ x', _ ∧ b_X1_kindsThatFit_6 N (9 * 0) j K (nI c) (nI k) (nI m) (nI (msk (fun x => fitK it (u2 s 3 c x) m) q)) (nI q) t1 = _
    unfold b_X1_kindsThatFit_6 f_X1_kindsThatFit_49
    simp only [if_neg c1, b1, o_bd_some, if_pos ic, cl_nI (show c < 2147483648 by omega), o_nm, d1, nI_1, nI_shl1 (show q < 31 by omega), msk_or]
    refine ⟨_, ⟨t3, rfl, a1.tr fr⟩, ?_⟩
    rw [msk]
    cases fitK it (u2 s 3 c q) m <;> rfl
/-- the reference's memory while another kind is tried -/
def mkO (v : Mm) (c k : Nat) (f : Nat → Int32) : Mm := sR (sI (sI v 9 0 0 17 (nI c)) 9 0 0 18 (nI k)) 9 0 5 f
theorem p_kindsR {N j k m c : Nat} {v : Mm} {s : Sx} {it : Nat → Int64} (hN : 300 ≤ N) (hj : j < 4) (hs : wfS s) (hh : s 0 3 ≤ 9999) (h19 : v.1 9 0 0 19 = 0) (h17 : v.1 9 0 0 17 = -4) (hR : RR (v.1 9 0 0 0) (v.1 9 0 0 1) (v.1 9 0 2) (v.1 9 0 3) (v.1 9 0 4) s) (hc : c < s 0 1) (hkm : k + m ≤ 24) (hit : ∀ h, h < m → v.2 0 (24 * j + (k + h)) = it h) : ∃ v' : Mm, f_X8_seenKinds N (nI c) (nI j) (nI k) (nI m) v = some (nI (msk (fun x => fitK it (u2 s 3 c x) m) 5), v') ∧ QR v v' := by
  have h8 := hs.1
  have h5 := hs.2.1
  unfold f_X8_seenKinds
  refine lp_up (body := fun k x => b_X8_seenKinds_13 N k x.1 x.2.1 x.2.2.1 x.2.2.2.1 x.2.2.2.2) (fun o => ∃ v' : Mm, o = some (nI (msk (fun x => fitK it (u2 s 3 c x) m) 5), v') ∧ QR v v') (fun q x => ∃ f, x = (nI j, nI k, nI m, nI (msk (fun x => fitK it (u2 s 3 c x) m) q), mkO v c q f)) 5 (fun K x hx => ?_) (fun K q x hq hx => ?_) N 0 (nI j, nI k, nI m, 0, sI (sI v 9 0 0 17 (nI c)) 9 0 0 18 0) (by omega) (by omega) ⟨v.1 9 0 5, ?_⟩
  · obtain ⟨f, rfl⟩ := hx
    refine ⟨sI (mkO v c 5 f) 9 0 0 17 (-4), rfl, ⟨fun r h0 h1 h2 h3 => ?_, rfl, fun q h0 h1 => ?_⟩⟩
    · rw [sI_off (by omega)]
      unfold mkO
      rw [sR_off (by omega), sI_off (by omega), sI_off (by omega)]
    · rw [sI_at]
      by_cases e : q = 17
      · subst e
        rw [upd_at, h17]
      · rw [upd_off e]
        show (sI (sI v 9 0 0 17 (nI c)) 9 0 0 18 (nI 5)).1 9 0 0 q = _
        rw [sI_at, upd_off h0, sI_at, upd_off e]
  · obtain ⟨f, rfl⟩ := hx
    right
    have c1 : ¬ (5 : Int32) ≤ nI q := fun z => absurd ((nIle (a := 5) (by omega) (by omega)).mp z) (by omega)
    have e18 : ∀ g, (mkO v c q g).1 9 0 0 18 = nI q := fun g => rfl
    have e17 : ∀ g, (mkO v c q g).1 9 0 0 17 = nI c := fun g => rfl
    have ha := p_aside (N := N) hN (mkO v c q f)
    obtain ⟨G, hG, hGk⟩ : ∃ G, cpl ((mkO v c q f).1 9 0 5) ((mkO v c q f).1 9 0 4) 0 0 0 31 = G ∧ ∀ k, k < 31 → G k = v.1 9 0 4 k := ⟨_, rfl, fun k hk => cpl_in0 hk⟩
    rw [hG] at ha
    have hS : SD (mkO v c q G) ((mkO v c q G).1 9 0 5) (u2 s 3 c q) := by
      have r1 : RR (v.1 9 0 0 0) (v.1 9 0 0 1) (v.1 9 0 2) (v.1 9 0 3) G s := RR_read hR h8 h5 hGk
      obtain ⟨a, b, d, e⟩ := r1
      have e5 : (mkO v c q G).1 9 0 5 = G := sR_at
      rw [e5]
      refine ⟨a, b, fun k' hk' => ?_, e⟩
      obtain ⟨d3, d4⟩ := d k' hk'
      have hk' : k' < s 0 1 := hk'
      refine ⟨?_, d4⟩
      show (if nI k' = nI c then nI q else v.1 9 0 3 k') = nI (u2 s 3 c q 3 k')
      have ck : nI k' = nI c ↔ k' = c := nIeq (by omega) (by omega)
      unfold u2
      by_cases z : k' = c
      · rw [if_pos (ck.mpr z), if_pos ⟨rfl, z⟩]
      · rw [if_neg (fun y => z (ck.mp y)), if_neg (fun y => z y.2)]
        exact d3
    obtain ⟨g, b1⟩ := p_isSeen (N := N) (j := j) (k := k) (m := m) (t := mkO v c q G) (s := u2 s 3 c q) (it := it) hN hj (wf_kind hs hq) (show s 0 3 ≤ 19000 by omega) hS (HT_low h19) hkm hit
    have eM : sR (mkO v c q G) 9 0 5 g = mkO v c q g := sR_sR
    have eN : sI (mkO v c q g) 9 0 0 18 (nI q + 1) = mkO v c (q + 1) g := by
      unfold mkO
      rw [← sR_sI_comm (by decide), sI_sI, nI_1]
    rw [eM] at b1
    show ∃ x', _ ∧ b_X8_seenKinds_13 N K (nI j) (nI k) (nI m) (nI (msk (fun x => fitK it (u2 s 3 c x) m) q)) (mkO v c q f) = _
    have eA : sR (mkO v c q f) 9 0 5 G = mkO v c q G := sR_sR
    rw [eA] at ha
    unfold b_X8_seenKinds_13 f_X8_seenKinds_48
    simp only [e18, if_neg c1, ha, o_bd_some, b1, o_nm, eN, nI_shl1 (show q < 31 by omega), msk_or]
    refine ⟨_, ⟨g, rfl⟩, ?_⟩
    rw [msk]
    cases fitK it (u2 s 3 c q) m with
    | true => rfl
    | false =>
      rw [if_pos (show bI false = 0 from rfl), show (0 : Int32) = nI 0 from rfl, nI_or, Nat.or_zero]
      rfl
  · show _ = (nI j, nI k, nI m, nI 0, mkO v c 0 (v.1 9 0 5))
    unfold mkO
    have : sR (sI (sI v 9 0 0 17 (nI c)) 9 0 0 18 (nI 0)) 9 0 5 (v.1 9 0 5) = sI (sI v 9 0 0 17 (nI c)) 9 0 0 18 (nI 0) := sR_self (t := sI (sI v 9 0 0 17 (nI c)) 9 0 0 18 (nI 0)) (a := 9) (b := 0) (c := 5)
    rw [this]
    rfl
/-! which knowledge fits -/
def cntF (b : Nat → Bool) : Nat → Nat
  | 0 => 0
  | k + 1 => if b k then cntF b k + 1 else cntF b k
def leaF (b : Nat → Bool) : Nat → Option Nat
  | 0 => none
  | k + 1 => match leaF b k with
    | some x => some x
    | none => if b k then some k else none
def cntD (b : Nat → Bool) : Nat → Nat
  | 0 => 0
  | k + 1 => if b (255 - k) then cntD b k + 1 else cntD b k
def leaD (b : Nat → Bool) : Nat → Option Nat
  | 0 => none
  | k + 1 => if b (255 - k) then some (255 - k) else leaD b k
def lW : Option Nat → Int32
  | none => -4
  | some x => nI x
theorem cnt_eq {b : Nat → Bool} : ∀ k, k ≤ 256 → cntF b k + cntD b (256 - k) = cntD b 256
  | 0, _ => by simp [cntF]
  | k + 1, hk => by
    have ih := cnt_eq (b := b) k (by omega)
    rw [show 256 - k = (256 - (k + 1)) + 1 by omega, cntD, show 255 - (256 - (k + 1)) = k by omega] at ih
    rw [cntF]
    split at ih
    · rename_i e
      rw [if_pos e]; omega
    · rename_i e
      rw [if_neg e]; omega
theorem lea_eq {b : Nat → Bool} : ∀ k, k ≤ 256 → (match leaF b k with | some x => some x | none => leaD b (256 - k)) = leaD b 256
  | 0, _ => rfl
  | k + 1, hk => by
    have ih := lea_eq (b := b) k (by omega)
    rw [show 256 - k = (256 - (k + 1)) + 1 by omega, leaD, show 255 - (256 - (k + 1)) = k by omega] at ih
    rw [leaF]
    cases hl : leaF b k with
    | some x =>
      rw [hl] at ih
      exact ih
    | none =>
      rw [hl] at ih
      cases hb : b k with
      | true =>
        rw [hb] at ih
        exact ih
      | false =>
        rw [hb] at ih
        exact ih
theorem lea_lt {b : Nat → Bool} : ∀ k x, leaF b k = some x → x < k
  | 0, x, h => by cases h
  | k + 1, x, h => by
    rw [leaF] at h
    cases hl : leaF b k with
    | some y =>
      rw [hl] at h
      cases h
      have := lea_lt k _ hl
      omega
    | none =>
      rw [hl] at h
      cases hb : b k with
      | true =>
        rw [hb] at h
        cases h
        omega
      | false =>
        rw [hb] at h
        cases h
theorem p_knowC {N j k m c : Nat} {t : Mm} {s : Sx} {it : Nat → Int64} (hN : 300 ≤ N) (hs : wfS s) (hh : s 0 3 ≤ 9999) (hF : FR (t.1 0 0) s) (hc : c < s 0 1) (hkm : k + m ≤ 24) (hit : ∀ h, h < m → t.2 j (k + h) = it h) : ∃ t' : Mm, f_X1_seekKnowledge N (9 * 0) j (nI c) (nI k) (nI m) t = some t' ∧ FrC t t' ∧ t'.1 3 4 0 1 = lW (leaF (fun x => fitK it (u2 s 4 c x) m) 256) ∧ t'.1 3 4 0 3 = nI (cntF (fun x => fitK it (u2 s 4 c x) m) 256) := by
  have h5 := hs.2.1
  have ic : o_inb (nI c) 5 = true := inb_nI (by omega) (by omega)
  have hf0 : FrC t (sI (sI t 3 4 0 1 (-4)) 3 4 0 3 0) := (FrC.sI (by unfold scr; omega)).tr (FrC.sI (by unfold scr; omega))
  unfold f_X1_seekKnowledge
  generalize hb : (fun x => fitK it (u2 s 4 c x) m) = b
  have hbx : ∀ x, fitK it (u2 s 4 c x) m = b x := fun x => by rw [← hb]
  refine lp_up (body := fun k x => b_X1_seekKnowledge_14 N (9 * 0) j k x.1 x.2.1 x.2.2.1 x.2.2.2.1 x.2.2.2.2) (fun o => ∃ t' : Mm, o = some t' ∧ FrC t t' ∧ t'.1 3 4 0 1 = lW (leaF b 256) ∧ t'.1 3 4 0 3 = nI (cntF b 256)) (fun q x => ∃ t1 : Mm, x = (nI c, nI k, nI m, nI q, t1) ∧ FrC t t1 ∧ t1.1 3 4 0 1 = lW (leaF b q) ∧ t1.1 3 4 0 3 = nI (cntF b q)) 256 (fun K x hx => ?_) (fun K q x hq hx => ?_) N 0 (nI c, nI k, nI m, 0, sI (sI t 3 4 0 1 (-4)) 3 4 0 3 0) (by omega) (by omega) ⟨_, rfl, hf0, rfl, rfl⟩
  · obtain ⟨t1, rfl, a1, a2, a3⟩ := hx
    exact ⟨t1, rfl, a1, a2, a3⟩
  · obtain ⟨t1, rfl, a1, a2, a3⟩ := hx
    right
    have f1 := a1.ford hF
    have c1 : ¬ (255 : Int32) < nI q := fun z => absurd ((nIlt (a := 255) (by omega) (by omega)).mp z) (by omega)
    obtain ⟨t2, b1, b2, b3, b4⟩ := p_start hs f1
    have f3 : FR ((sI t2 0 18 4 c (nI q)).1 0 18) (u2 s 4 c q) := by
      rw [sI_v2]
      exact FR_set b4 (by unfold okS; omega) (fun z => by omega)
    obtain ⟨t3, d1, d2, d3⟩ := p_fits (N := N) (j := j) (k := k) (m := m) (t := sI t2 0 18 4 c (nI q)) (s := u2 s 4 c q) (it := it) hN (wf_set hs (by omega) (by omega) (by omega) (by omega)) (show s 0 3 ≤ 19000 by omega) f3 hkm (fun h hh => by
      show t2.2 j (k + h) = it h
      rw [b3, a1.2]
      exact hit h hh)
    rw [hbx] at d1
    have fr : FrC t1 t3 := ((FrC.of (by unfold scr; omega) b2 b3).tr (FrC.sI (by unfold scr; omega))).tr (FrC.of (by unfold scr; omega) d2 d3)
    have e34 : t3.1 3 4 = t1.1 3 4 := by rw [d2 3 4 (by omega), sI_nums (by omega), b2 3 4 (by omega)]
    show ∃ x', _ ∧ b_X1_seekKnowledge_14 N (9 * 0) j K (nI c) (nI k) (nI m) (nI q) t1 = _
    unfold b_X1_seekKnowledge_14 f_X1_seekKnowledge_69 f_X1_seekKnowledge_82
    simp only [if_neg c1, b1, o_bd_some, if_pos ic, cl_nI (show c < 2147483648 by omega), o_nm, d1, nI_1, e34, a2]
    have a2' : t3.1 3 4 0 1 = lW (leaF b q) := by rw [e34]; exact a2
    have a3' : t3.1 3 4 0 3 = nI (cntF b q) := by rw [e34]; exact a3
    rw [leaF, cntF]
    cases hbq : b q with
    | false =>
      refine ⟨_, ⟨t3, rfl, a1.tr fr, ?_, a3'⟩, rfl⟩
      rw [a2']
      cases leaF b q <;> rfl
    | true =>
      rw [if_neg (show ¬ bI true = 0 by decide)]
      have hf : ∀ x y, FrC t (sI (sI t3 3 4 0 1 x) 3 4 0 3 y) := fun x y => ((a1.tr fr).tr (FrC.sI (by unfold scr; omega))).tr (FrC.sI (by unfold scr; omega))
      have hs3 : ∀ x, (sI t3 3 4 0 1 x).1 3 4 0 3 + 1 = nI (cntF b q + 1) := fun x => by
        show t3.1 3 4 0 3 + 1 = _
        rw [a3', nI_1]
      simp only [hs3]
      cases hl : leaF b q with
      | none =>
        rw [if_pos (show lW none = -4 from rfl)]
        exact ⟨_, ⟨sI (sI t3 3 4 0 1 (nI q)) 3 4 0 3 (nI (cntF b q + 1)), rfl, hf _ _, rfl, rfl⟩, rfl⟩
      | some x =>
        have hx := lea_lt q x hl
        rw [if_neg (show ¬ lW (some x) = -4 from ne4 (by omega))]
        exact ⟨_, ⟨sI (sI t3 3 4 0 1 (nI x)) 3 4 0 3 (nI (cntF b q + 1)), rfl, hf _ _, rfl, rfl⟩, rfl⟩
theorem p_knowR {N j k m c a : Nat} {v : Mm} {s : Sx} {it : Nat → Int64} (hN : 300 ≤ N) (hj : j < 4) (ha : a = 1 ∨ a = 2) (hs : wfS s) (hh : s 0 3 ≤ 9999) (h19 : v.1 9 0 0 19 = 0) (h17 : v.1 9 0 0 17 = -4) (hR : RR (v.1 9 0 0 0) (v.1 9 0 0 1) (v.1 9 0 2) (v.1 9 0 3) (v.1 9 0 4) s) (hc : c < s 0 1) (hkm : k + m ≤ 24) (hit : ∀ h, h < m → v.2 0 (24 * j + (k + h)) = it h) : ∃ f, f_X8_seen_98 N (nI c) (nI j) (nI k) (nI m) (nI a) 0 (-4) 255 v = some (if a = 1 then nI (cntD (fun x => fitK it (u2 s 4 c x) m) 256) else lW (leaD (fun x => fitK it (u2 s 4 c x) m) 256), sR v 9 0 5 f) := by
  have h8 := hs.1
  have h5 := hs.2.1
  obtain ⟨i9, l9⟩ := lit19 (k := c) (by omega) 9 (by omega)
  have i9 : o_inb (9 + nI c) 31 = true := i9
  have l9 : ((9 : Int32) + nI c).toNatClampNeg = 9 + c := l9
  generalize hb : (fun x => fitK it (u2 s 4 c x) m) = b
  have hbx : ∀ x, fitK it (u2 s 4 c x) m = b x := fun x => by rw [← hb]
  refine lp_up (body := fun k x => b_X8_seen_98 N k x.1 x.2.1 x.2.2.1 x.2.2.2.1 x.2.2.2.2.1 x.2.2.2.2.2.1 x.2.2.2.2.2.2.1 x.2.2.2.2.2.2.2.1 x.2.2.2.2.2.2.2.2) (fun o => ∃ f, o = some (if a = 1 then nI (cntD b 256) else lW (leaD b 256), sR v 9 0 5 f)) (fun q x => ∃ f, x = (nI c, nI j, nI k, nI m, nI a, nI (cntD b q), lW (leaD b q), (if q < 256 then nI (255 - q) else -1), sR v 9 0 5 f)) 256 (fun K x hx => ?_) (fun K q x hq hx => ?_) N 0 (nI c, nI j, nI k, nI m, nI a, 0, -4, 255, v) (by omega) (by omega) ⟨v.1 9 0 5, by rw [sR_self]; rfl⟩
  · obtain ⟨f, rfl⟩ := hx
    refine ⟨f, ?_⟩
    show b_X8_seen_98 N K (nI c) (nI j) (nI k) (nI m) (nI a) (nI (cntD b 256)) (lW (leaD b 256)) (-1) (sR v 9 0 5 f) = _
    unfold b_X8_seen_98
    rw [if_pos (by decide)]
    rcases ha with rfl | rfl <;> rfl
  · obtain ⟨f, rfl⟩ := hx
    right
    rw [if_pos hq]
    have c1 : ¬ nI (255 - q) < 0 := nI_pos (by omega)
    obtain ⟨g, b1, b2⟩ := p_asideR (N := N) (v := sR v 9 0 5 f) hN hs h17 hR
    rw [sR_sR] at b1
    have b2 : SD v g s := b2
    have b3 : SD v (upd g (9 + c) (nI (255 - q))) (u2 s 4 c (255 - q)) := RR_set (r := 4) (k := c) b2 h8 h5 (by unfold okS; omega) (fun z => by omega)
    obtain ⟨w, d1⟩ := p_isSeen (N := N) (j := j) (k := k) (m := m) (t := sR v 9 0 5 (upd g (9 + c) (nI (255 - q)))) (s := u2 s 4 c (255 - q)) (it := it) hN hj (wf_set hs (by omega) (by omega) (by omega) (by omega)) (show s 0 3 ≤ 19000 by omega) (by rw [sR_at]; exact b3) (HT_low h19) hkm hit
    rw [sR_sR, hbx] at d1
    have em : nI (255 - q) + -1 = if q + 1 < 256 then nI (255 - (q + 1)) else -1 := by
      by_cases g : q + 1 < 256
      · rw [if_pos g, show 255 - q = (255 - (q + 1)) + 1 by omega, pk_m1]
      · rw [if_neg g, show 255 - q = 0 by omega]
        rfl
    show ∃ x', _ ∧ b_X8_seen_98 N K (nI c) (nI j) (nI k) (nI m) (nI a) (nI (cntD b q)) (lW (leaD b q)) (nI (255 - q)) (sR v 9 0 5 f) = _
    unfold b_X8_seen_98 f_X8_seen_141 f_X8_seen_156
    simp only [if_neg c1, b1, o_bd_some, if_pos i9, l9, o_nm, sI_sR, d1, em]
    refine ⟨_, ⟨w, rfl⟩, ?_⟩
    rw [cntD, leaD]
    cases hbq : b (255 - q) with
    | false =>
      rw [if_pos (show bI false = 0 from rfl), if_pos (show bI false = 0 from rfl), show (0 : Int32) = nI 0 from rfl, nI_add]
      rfl
    | true =>
      rw [if_neg (show ¬ bI true = 0 by decide), if_neg (show ¬ bI true = 0 by decide), nI_1]
      rfl
theorem op_seen (N : Nat) (hN : 300 ≤ N) : Op_seen N Rel := by
  intro u v h a0 a1 a2 a3 a4 a5
  obtain ⟨⟨⟨s, w1, w2, w3, w4⟩, hU⟩, -, -, -, h17, h19⟩ := id h
  have eq : u.1 0 0 0 1 = nI (s 0 1) := w3.1.2.1
  have eq' : v.1 9 0 0 1 = nI (s 0 1) := w4.1.2.1
  unfold f_X7_seen f_X8_seen
  have hA := p_hasC (t := u) (i := 9 * 0) (a := a0) eq w1.2.1
  have hB := p_isC (t := v) (a := a0) eq' w1.2.1
  by_cases h0 : inR a0 0 ((s 0 1 : Int) - 1)
  · rw [hA.1 h0, hB.1 h0, o_bd_some, o_bd_some]
    simp only [if_neg one_ne]
    by_cases h1 : inR a1 0 3
    · rw [(p_noSh.1 h1).1, (p_isSh.1 h1).1, o_bd_some, o_bd_some]
      simp only [if_neg one_ne, ite_true]
      by_cases h2 : inR a2 0 3
      · rw [(p_noSh.1 h2).2, (p_isSh.1 h2).2, o_bd_some, o_bd_some]
        simp only [if_neg one_ne, ite_true]
        have hC := p_out (a := a4) (lo := 1) (hi := 8) (l := 1) (h := 8) u rfl rfl
        have hD := p_in (a := a4) (lo := 1) (hi := 8) (l := 1) (h := 8) v rfl rfl
        by_cases h4 : inR a4 1 8
        · rw [hC.1 h4, hD.1 h4, o_bd_some, o_bd_some]
          simp only [if_neg one_ne, ite_true]
          have hE := p_out (a := a5) (lo := 0) (hi := 2) (l := 0) (h := 2) u rfl rfl
          have hG := p_in (a := a5) (lo := 0) (hi := 2) (l := 0) (h := 2) v rfl rfl
          by_cases h5 : inR a5 0 2
          · rw [hE.1 h5, hG.1 h5, o_bd_some, o_bd_some]
            simp only [if_neg one_ne, ite_true]
            obtain ⟨c, rfl, -, hc, hc2⟩ := inR_nat h0 (by omega)
            obtain ⟨j, rfl, -, hj, hj2⟩ := inR_nat h1 (by omega)
            have hc : c < s 0 1 := by omega
            have i1 : o_inb (nI j) 4 = true := inb_nI (by omega) (by omega)
            rw [if_pos i1, cl_nI hj2]
            obtain ⟨r, b1, b2, b3⟩ := p_check h (show j < 4 by omega) a2 a3 a4
            rw [b1, b2, o_bd_some, o_bd_some]
            by_cases er : r = 0
            · obtain ⟨k, m, z, l, rfl, rfl, e1, e2, e3, e4, e5, e6⟩ := b3 er
              simp only [if_pos er]
              obtain ⟨a, rfl, -, ha, ha2⟩ := inR_nat h5 (by omega)
              have hiC : ∀ q, q < m → u.2 j (k + q) = (fun q => u.2 j (k + q)) q := fun q _ => rfl
              have hiR : ∀ q, q < m → v.2 0 (24 * j + (k + q)) = (fun q => u.2 j (k + q)) q := fun q hq => (e6 (k + q) (by omega)).symm
              rcases (show a = 0 ∨ a = 1 ∨ a = 2 by omega) with rfl | rfl | rfl
              · obtain ⟨t1, d1, d2⟩ := p_kindsC (N := N) (j := j) (k := k) (m := m) hN w1 w2 w3 hc (by omega) hiC
                obtain ⟨v1, g1, g2⟩ := p_kindsR (N := N) (j := j) (k := k) (m := m) hN (by omega) w1 w2 h19 h17 w4 hc (by omega) hiR
                rw [if_pos (show nI 0 = 0 from rfl), if_pos (show nI 0 = 0 from rfl), d1, g1, o_bd_some, o_bd_some]
                exact ⟨_, t1, v1, rfl, rfl, h.quiet d2 g2⟩
              · obtain ⟨t1, d1, d2, d3, d4⟩ := p_knowC (N := N) (j := j) (k := k) (m := m) hN w1 w2 w3 hc (by omega) hiC
                obtain ⟨f, g1⟩ := p_knowR (N := N) (j := j) (k := k) (m := m) (a := 1) hN (by omega) (by omega) w1 w2 h19 h17 w4 hc (by omega) hiR
                rw [if_neg (show ¬ nI 1 = 0 by decide), if_neg (show ¬ nI 1 = 0 by decide), d1, g1, o_bd_some]
                refine ⟨_, t1, sR v 9 0 5 f, rfl, ?_, h.quiet d2 QR.side⟩
                have := cnt_eq (b := fun x => fitK (fun q => u.2 j (k + q)) (u2 s 4 c x) m) 256 (by omega)
                rw [d4, ← this]
                rfl
              · obtain ⟨t1, d1, d2, d3, d4⟩ := p_knowC (N := N) (j := j) (k := k) (m := m) hN w1 w2 w3 hc (by omega) hiC
                obtain ⟨f, g1⟩ := p_knowR (N := N) (j := j) (k := k) (m := m) (a := 2) hN (by omega) (by omega) w1 w2 h19 h17 w4 hc (by omega) hiR
                rw [if_neg (show ¬ nI 2 = 0 by decide), if_neg (show ¬ nI 2 = 0 by decide), d1, g1, o_bd_some]
                refine ⟨_, t1, sR v 9 0 5 f, rfl, ?_, h.quiet d2 QR.side⟩
                have := lea_eq (b := fun x => fitK (fun q => u.2 j (k + q)) (u2 s 4 c x) m) 256 (by omega)
                rw [d3, ← this, if_neg (by decide)]
                cases leaF (fun x => fitK (fun q => u.2 j (k + q)) (u2 s 4 c x) m) 256 <;> rfl
            · simp only [if_neg er]
              exact ⟨r, u, v, rfl, rfl, h⟩
          · rw [hE.2 h5, hG.2 h5, o_bd_some, o_bd_some]
            exact ⟨-1, u, v, rfl, rfl, h⟩
        · rw [hC.2 h4, hD.2 h4, o_bd_some, o_bd_some]
          exact ⟨-1, u, v, rfl, rfl, h⟩
      · rw [(p_noSh.2 h2).2, (p_isSh.2 h2).2, o_bd_some, o_bd_some]
        exact ⟨-1, u, v, rfl, rfl, h⟩
    · rw [(p_noSh.2 h1).1, (p_isSh.2 h1).1, o_bd_some, o_bd_some]
      exact ⟨-1, u, v, rfl, rfl, h⟩
  · rw [hA.2 h0, hB.2 h0, o_bd_some, o_bd_some]
    exact ⟨-1, u, v, rfl, rfl, h⟩
