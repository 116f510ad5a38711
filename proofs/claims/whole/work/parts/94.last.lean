/-! BEST: the hour of the last, by the order in which they come -/
def endE (s : Sx) (f o : Nat → Nat) (m c : Nat) : Nat := if s 6 c = 0 then (if f c < s 0 0 then tlO s f o m c else cmg s c + 1) else (if s 6 c = 1 then s 7 c else 0)
theorem tlO_m {s : Sx} {f o : Nat → Nat} {m n j i : Nat} (hO : Ord s o m n) (hj : j < i) (hi : i ≤ m) : tlO s f o i (o j) = tlO s f o (j + 1) (o j) := by
  have := tlO_on (f := f) hO (show j < m by omega) (i - (j + 1)) (by omega)
  rw [show j + 1 + (i - (j + 1)) = i by omega] at this
  exact this
theorem num_cnt {s : Sx} {f o : Nat → Nat} {m i : Nat} (h5 : s 0 1 ≤ 5) (hO : Ord s o m (s 0 1)) (hi : i < m) : ∀ n, n ≤ s 0 1 → numI (tlO s f o i) (cmg s (o i)) n = cntA s f (endE s f o m) (o i) n
  | 0, _ => rfl
  | n + 1, hn => by
    rw [numI, cntA, num_cnt h5 hO hi n (by omega)]
    have hoi := hO.2.1 i hi
    have key : (cmg s (o i) < tlO s f o i n) ↔ (act s f n ∧ ahd s n (o i) ∧ cmg s (o i) < endE s f o m n) := by
      by_cases z : s 6 n = 0
      · obtain ⟨j, hj, e⟩ := hO.2.2.2 n (by omega) z
        rcases Nat.lt_or_ge j i with g | g
        · have h1 := hO.2.2.1 j i g hi
          have t1 := tlO_m (f := f) hO g (show i ≤ m by omega)
          have t2 := tlO_m (f := f) hO hj (Nat.le_refl m)
          rw [e] at h1 t1 t2
          unfold ky2 at h1
          by_cases q : f n < s 0 0
          · have e1 : endE s f o m n = tlO s f o i n := by
              unfold endE
              rw [if_pos z, if_pos q, t2, t1]
            rw [e1]
            exact ⟨fun y => ⟨Or.inr ⟨z, q⟩, by unfold ahd; omega, y⟩, fun y => y.2.2⟩
          · have e1 : tlO s f o i n = 0 := by
              rw [t1, tlO, e, if_neg q, tlO_off j (fun k hk y => by have := hO.inj (show k < m by omega) hj (y.trans e.symm); omega), if_neg (by omega)]
            rw [e1]
            exact ⟨fun y => absurd y (by omega), fun y => by have := y.1; unfold act at this; omega⟩
        · have e1 : tlO s f o i n = 0 := by
            rw [tlO_off i (fun k hk y => by have := hO.inj (show k < m by omega) hj (y.trans e.symm); omega), if_neg (by omega)]
          rw [e1]
          refine ⟨fun y => absurd y (by omega), fun y => ?_⟩
          have y2 := y.2.1
          unfold ahd at y2
          rcases Nat.lt_or_ge i j with g2 | g2
          · have h1 := hO.2.2.1 i j g2 hj
            rw [e] at h1
            unfold ky2 at h1
            omega
          · have : j = i := by omega
            rw [this] at e
            rw [e] at y2
            omega
      · have e1 : tlO s f o i n = if s 6 n = 1 then s 7 n else 0 := tlO_off i (fun k hk y => z (by rw [← y]; exact (hO.2.1 k (by omega)).2))
        have e2 : endE s f o m n = if s 6 n = 1 then s 7 n else 0 := by
          unfold endE
          rw [if_neg z]
        rw [e1, e2]
        by_cases g : s 6 n = 1
        · rw [if_pos g]
          exact ⟨fun y => ⟨Or.inl g, Or.inl z, y⟩, fun y => y.2.2⟩
        · rw [if_neg g]
          exact ⟨fun y => absurd y (by omega), fun y => by have := y.1; unfold act at this; omega⟩
    by_cases g : cmg s (o i) < tlO s f o i n
    · rw [if_pos g, if_pos (key.mp g)]
    · rw [if_neg g, if_neg (fun y => g (key.mpr y))]
theorem sched_O {s : Sx} {f o : Nat → Nat} {m : Nat} (h5 : s 0 1 ≤ 5) (hO : Ord s o m (s 0 1)) : Sched s f (endE s f o m) := by
  intro c hc
  refine ⟨fun z => ?_, fun z => ?_, fun z q => ?_, fun z q => ?_⟩
  · unfold endE
    rw [if_neg (by omega), if_neg (by omega)]
    omega
  · unfold endE
    rw [if_neg (by omega), if_pos z]
  · obtain ⟨i, hi, e⟩ := hO.2.2.2 c hc z
    subst e
    have e1 : endE s f o m (o i) = tlO s f o m (o i) := by
      unfold endE
      rw [if_pos z, if_pos q]
    rw [e1, tlO_m hO hi (Nat.le_refl m), tlO, if_pos q, updN_at]
    unfold tlV
    rw [num_cnt h5 hO hi (s 0 1) (Nat.le_refl _)]
  · unfold endE
    rw [if_pos z, if_neg q]
theorem ltE_end {s : Sx} {f o : Nat → Nat} {m i : Nat} (hO : Ord s o m (s 0 1)) (hi : i < m) : ltE s f o i = endE s f o m (o i) := by
  have hoi := hO.2.1 i hi
  unfold ltE endE
  rw [if_pos hoi.2, tlO_m hO hi (Nat.le_refl m)]
theorem lt0_p {s : Sx} : ∀ n, s 0 3 ≤ lt0 s n ∧ (∀ c, c < n → (if s 6 c = 1 then s 7 c else 0) ≤ lt0 s n) ∧ (lt0 s n = s 0 3 ∨ ∃ c, c < n ∧ s 6 c = 1 ∧ s 7 c = lt0 s n)
  | 0 => ⟨Nat.le_refl _, fun c hc => absurd hc (Nat.not_lt_zero c), Or.inl rfl⟩
  | n + 1 => by
    obtain ⟨h1, h2, h3⟩ := lt0_p (s := s) n
    rw [lt0]
    by_cases e : lt0 s n < (if s 6 n = 1 then s 7 n else 0)
    · simp only [if_pos e]
      refine ⟨by omega, fun c hc => ?_, Or.inr ⟨n, by omega, ?_⟩⟩
      · by_cases z : c = n
        · rw [z]; exact Nat.le_refl _
        · have := h2 c (by omega)
          omega
      · by_cases z : s 6 n = 1
        · rw [if_pos z]
          exact ⟨z, rfl⟩
        · rw [if_neg z] at e
          omega
    · simp only [if_neg e]
      refine ⟨h1, fun c hc => ?_, ?_⟩
      · by_cases z : c = n
        · rw [z]; omega
        · exact h2 c (by omega)
      · rcases h3 with h3 | ⟨c, h3, h4⟩
        · exact Or.inl h3
        · exact Or.inr ⟨c, by omega, h4⟩
theorem ltO_p {s : Sx} {f o : Nat → Nat} {m : Nat} (hO : Ord s o m (s 0 1)) : ∀ i, i ≤ m → s 0 3 ≤ ltO s f o i ∧ (∀ c, c < s 0 1 → (if s 6 c = 1 then s 7 c else 0) ≤ ltO s f o i) ∧ (∀ j, j < i → endE s f o m (o j) ≤ ltO s f o i) ∧ (ltO s f o i = s 0 3 ∨ ∃ c, c < s 0 1 ∧ endE s f o m c = ltO s f o i)
  | 0, _ => by
    obtain ⟨h1, h2, h3⟩ := lt0_p (s := s) (s 0 1)
    refine ⟨h1, h2, fun j hj => absurd hj (Nat.not_lt_zero j), ?_⟩
    rcases h3 with h3 | ⟨c, h3, h4, h5⟩
    · exact Or.inl h3
    · refine Or.inr ⟨c, h3, ?_⟩
      unfold endE
      rw [if_neg (by omega), if_pos h4]
      exact h5
  | i + 1, hi => by
    obtain ⟨h1, h2, h3, h4⟩ := ltO_p (f := f) hO i (by omega)
    have e := ltE_end (f := f) hO (show i < m by omega)
    rw [ltO, e]
    by_cases z : ltO s f o i < endE s f o m (o i)
    · simp only [if_pos z]
      refine ⟨by omega, fun c hc => by have := h2 c hc; omega, fun j hj => ?_, Or.inr ⟨o i, (hO.2.1 i (by omega)).1, rfl⟩⟩
      by_cases y : j = i
      · rw [y]; exact Nat.le_refl _
      · have := h3 j (by omega)
        omega
    · simp only [if_neg z]
      refine ⟨h1, h2, fun j hj => ?_, h4⟩
      by_cases y : j = i
      · rw [y]; omega
      · exact h3 j (by omega)
/-- the hour of the last -/
def lastV (s : Sx) (f : Nat → Nat) : Nat := htl (fun _ c => f c) allO s
def capN (x : Nat) : Nat := if 101 < x then 101 else x
theorem last_O {s : Sx} {f o : Nat → Nat} {m : Nat} (hs : wfS s) (hO : Ord s o m (s 0 1)) : lastV s f = capN (ltO s f o m - s 0 3) := by
  obtain ⟨h1, h2, h3, h4⟩ := ltO_p (f := f) hO m (Nat.le_refl m)
  refine htl_told hs (sched_O hs.2.1 hO) (fun c hc => ?_) h4
  by_cases z : s 6 c = 0
  · obtain ⟨j, hj, e⟩ := hO.2.2.2 c hc z
    rw [← e]
    exact h3 j hj
  · have := h2 c hc
    unfold endE
    rw [if_neg z]
    exact this
theorem cmg_b {s : Sx} {c : Nat} (hs : wfS s) (hc : c < s 0 1) : cmg s c ≤ s 0 3 + 40 := by
  have := (hs.2.2.2.2.2 c hc).2.2.1
  have := cmg_ge s c
  omega
theorem tlV_b {s : Sx} {T : Nat → Nat} {c q : Nat} (hs : wfS s) (hc : c < s 0 1) (hq : q < s 0 0) : tlV s T c q ≤ s 0 3 + 70 := by
  have hb := hs.2.2.2.2.1 q hq
  have hb2 := hrs_b (s := s) (o := numI T (cmg s c) (s 0 1)) (c := c) (q := q) (h := cmg s c) hb.2.1 hb.2.2
  have h1 := numI_le T (cmg s c) (s 0 1)
  have h2 := cmg_b hs hc
  have h5 := hs.2.1
  unfold tlV
  omega
theorem tlO_b {s : Sx} {f o : Nat → Nat} {m : Nat} (hs : wfS s) (hO : Ord s o m (s 0 1)) : ∀ i, i ≤ m → ∀ c, c < s 0 1 → tlO s f o i c ≤ s 0 3 + 70
  | 0, _, c, hc => by
    show (if s 6 c = 1 then s 7 c else 0) ≤ _
    split
    · rename_i z
      have := (hs.2.2.2.2.2 c hc).2.2.2.2 z
      omega
    · omega
  | i + 1, hi, c, hc => by
    have ih := tlO_b (f := f) hs hO i (by omega)
    rw [tlO]
    split
    · rename_i q
      by_cases e : c = o i
      · rw [e, updN_at]
        exact tlV_b hs (hO.2.1 i (by omega)).1 q
      · rw [updN_off e]
        exact ih c hc
    · exact ih c hc
theorem ltO_b {s : Sx} {f o : Nat → Nat} {m i : Nat} (hs : wfS s) (hO : Ord s o m (s 0 1)) (hi : i ≤ m) : s 0 3 ≤ ltO s f o i ∧ ltO s f o i ≤ s 0 3 + 70 := by
  obtain ⟨h1, -, -, h4⟩ := ltO_p (f := f) hO i hi
  refine ⟨h1, ?_⟩
  rcases h4 with h4 | ⟨c, hc, h4⟩
  · omega
  · have hb := tlO_b (f := f) hs hO m (Nat.le_refl m) c hc
    have hc2 := cmg_b hs hc
    rw [← h4]
    unfold endE
    split
    · split <;> omega
    · split
      · rename_i z
        have := (hs.2.2.2.2.2 c hc).2.2.2.2 z
        omega
      · omega
/-! tellings as numbers -/
def pk5 (D : Nat → Nat) : Nat := D 0 * 4096 + D 1 * 512 + D 2 * 64 + D 3 * 8 + D 4
theorem or_dig {hi lo q i : Nat} (hlo : lo < 2 ^ i) (hq : q < 8) : (2 ^ (i + 3) * hi + lo) ||| (2 ^ i * q) = 2 ^ (i + 3) * hi + (2 ^ i * q + lo) := by
  have hm : 2 ^ i * q ≤ 2 ^ i * 7 := Nat.mul_le_mul_left _ (by omega)
  have hp : 2 ^ (i + 3) = 2 ^ i * 8 := Nat.pow_add 2 i 3
  have h1 : 2 ^ i * q + lo < 2 ^ (i + 3) := by omega
  have e1 : 2 ^ (i + 3) * hi + lo = 2 ^ (i + 3) * hi ||| lo := Nat.two_pow_add_eq_or_of_lt (by omega) hi
  have e2 : 2 ^ i * q + lo = 2 ^ i * q ||| lo := Nat.two_pow_add_eq_or_of_lt hlo q
  have e3 : 2 ^ (i + 3) * hi + (2 ^ i * q + lo) = 2 ^ (i + 3) * hi ||| (2 ^ i * q + lo) := Nat.two_pow_add_eq_or_of_lt h1 hi
  rw [e3, e2, e1, Nat.or_assoc, Nat.or_comm lo]
theorem pk5_or {D : Nat → Nat} {c q : Nat} (hD : ∀ c, c < 5 → D c < 8) (hc : c < 5) (h0 : D c = 0) (hq : q < 8) : pk5 D ||| q * 2 ^ (3 * (4 - c)) = pk5 (updN D c q) := by
  have d0 := hD 0 (by omega)
  have d1 := hD 1 (by omega)
  have d2 := hD 2 (by omega)
  have d3 := hD 3 (by omega)
  have d4 := hD 4 (by omega)
  rcases (show c = 0 ∨ c = 1 ∨ c = 2 ∨ c = 3 ∨ c = 4 by omega) with rfl | rfl | rfl | rfl | rfl
  · have h := or_dig (hi := 0) (lo := D 1 * 512 + D 2 * 64 + D 3 * 8 + D 4) (q := q) (i := 12) (by omega) hq
    have e1 : pk5 D = 2 ^ (12 + 3) * 0 + (D 1 * 512 + D 2 * 64 + D 3 * 8 + D 4) := by
      unfold pk5
      omega
    rw [e1, show q * 2 ^ (3 * (4 - 0)) = 2 ^ 12 * q by omega, h]
    simp [pk5, updN]
    omega
  · have h := or_dig (hi := D 0) (lo := D 2 * 64 + D 3 * 8 + D 4) (q := q) (i := 9) (by omega) hq
    have e1 : pk5 D = 2 ^ (9 + 3) * D 0 + (D 2 * 64 + D 3 * 8 + D 4) := by
      unfold pk5
      omega
    rw [e1, show q * 2 ^ (3 * (4 - 1)) = 2 ^ 9 * q by omega, h]
    simp [pk5, updN]
    omega
  · have h := or_dig (hi := D 0 * 8 + D 1) (lo := D 3 * 8 + D 4) (q := q) (i := 6) (by omega) hq
    have e1 : pk5 D = 2 ^ (6 + 3) * (D 0 * 8 + D 1) + (D 3 * 8 + D 4) := by
      unfold pk5
      omega
    rw [e1, show q * 2 ^ (3 * (4 - 2)) = 2 ^ 6 * q by omega, h]
    simp [pk5, updN]
    omega
  · have h := or_dig (hi := D 0 * 64 + D 1 * 8 + D 2) (lo := D 4) (q := q) (i := 3) (by omega) hq
    have e1 : pk5 D = 2 ^ (3 + 3) * (D 0 * 64 + D 1 * 8 + D 2) + D 4 := by
      unfold pk5
      omega
    rw [e1, show q * 2 ^ (3 * (4 - 3)) = 2 ^ 3 * q by omega, h]
    simp [pk5, updN]
    omega
  · have h := or_dig (hi := D 0 * 512 + D 1 * 64 + D 2 * 8 + D 3) (lo := 0) (q := q) (i := 0) (by omega) hq
    have e1 : pk5 D = 2 ^ (0 + 3) * (D 0 * 512 + D 1 * 64 + D 2 * 8 + D 3) + 0 := by
      unfold pk5
      omega
    rw [e1, show q * 2 ^ (3 * (4 - 4)) = 2 ^ 0 * q by omega, h]
    simp [pk5, updN]
    omega
theorem pk5_dig {D : Nat → Nat} {c : Nat} (hD : ∀ c, c < 5 → D c < 8) (hc : c < 5) : pk5 D / 2 ^ (3 * (4 - c)) % 8 = D c := by
  have d0 := hD 0 (by omega)
  have d1 := hD 1 (by omega)
  have d2 := hD 2 (by omega)
  have d3 := hD 3 (by omega)
  have d4 := hD 4 (by omega)
  unfold pk5
  rcases (show c = 0 ∨ c = 1 ∨ c = 2 ∨ c = 3 ∨ c = 4 by omega) with rfl | rfl | rfl | rfl | rfl
  · show _ / 4096 % 8 = _
    omega
  · show _ / 512 % 8 = _
    omega
  · show _ / 64 % 8 = _
    omega
  · show _ / 8 % 8 = _
    omega
  · show _ / 1 % 8 = _
    omega
theorem pk5_lt {D : Nat → Nat} (hD : ∀ c, c < 5 → D c < 8) : pk5 D < 32768 := by
  have d0 := hD 0 (by omega)
  have d1 := hD 1 (by omega)
  have d2 := hD 2 (by omega)
  have d3 := hD 3 (by omega)
  have d4 := hD 4 (by omega)
  unfold pk5
  omega
def dgF (s : Sx) (f : Nat → Nat) : Nat → Nat := fun c => if f c < s 0 0 then f c else 0
theorem dgF_lt {s : Sx} {f : Nat → Nat} (h8 : s 0 0 ≤ 8) (c : Nat) : dgF s f c < 8 := by
  unfold dgF
  split <;> omega
def cdF (s : Sx) (f : Nat → Nat) : Nat → Nat
  | 0 => 0
  | c + 1 => if f c < s 0 0 then s 0 0 * cdF s f c + f c else cdF s f c
def pkF (s : Sx) (f : Nat → Nat) : Nat → Nat
  | 0 => 0
  | c + 1 => 8 * pkF s f c + dgF s f c
theorem pkF_5 (s : Sx) (f : Nat → Nat) : pk5 (dgF s f) = pkF s f 5 := by
  simp only [pk5, pkF]
  omega
theorem mul_cmp {Q x y d d' : Nat} (h : d < Q) (h' : d' < Q) : (Q * x + d < Q * y + d' ↔ x < y ∨ (x = y ∧ d < d')) ∧ (Q * x + d = Q * y + d' ↔ x = y ∧ d = d') := by
  rcases Nat.lt_trichotomy x y with z | z | z
  · have h1 : Q * (x + 1) ≤ Q * y := Nat.mul_le_mul_left _ z
    rw [Nat.mul_add, Nat.mul_one] at h1
    omega
  · subst z
    omega
  · have h1 : Q * (y + 1) ≤ Q * x := Nat.mul_le_mul_left _ z
    rw [Nat.mul_add, Nat.mul_one] at h1
    omega
theorem ord_eq {s : Sx} {f f' : Nat → Nat} (h8 : s 0 0 ≤ 8) (h : ∀ c, f c < s 0 0 ↔ f' c < s 0 0) : ∀ k, (pkF s f k < pkF s f' k ↔ cdF s f k < cdF s f' k) ∧ (pkF s f k = pkF s f' k ↔ cdF s f k = cdF s f' k)
  | 0 => ⟨Iff.rfl, Iff.rfl⟩
  | c + 1 => by
    obtain ⟨i1, i2⟩ := ord_eq h8 h c
    rw [pkF, pkF, cdF, cdF]
    unfold dgF
    by_cases e : f c < s 0 0
    · have e' := (h c).mp e
      rw [if_pos e, if_pos e', if_pos e, if_pos e']
      have m1 := mul_cmp (Q := s 0 0) (x := cdF s f c) (y := cdF s f' c) e e'
      have m2 := mul_cmp (Q := 8) (x := pkF s f c) (y := pkF s f' c) (d := f c) (d' := f' c) (by omega) (by omega)
      rw [m1.1, m1.2, m2.1, m2.2, i1, i2]
      exact ⟨Iff.rfl, Iff.rfl⟩
    · have e' : ¬ f' c < s 0 0 := fun z => e ((h c).mpr z)
      rw [if_neg e, if_neg e', if_neg e, if_neg e']
      omega
theorem pkF_dig {s : Sx} {f f' : Nat → Nat} {c : Nat} (h8 : s 0 0 ≤ 8) (h : pkF s f 5 = pkF s f' 5) (hc : c < 5) : dgF s f c = dgF s f' c := by
  rw [← pkF_5, ← pkF_5] at h
  rw [← pk5_dig (D := dgF s f) (fun c _ => dgF_lt h8 c) hc, h, pk5_dig (fun c _ => dgF_lt h8 c) hc]
