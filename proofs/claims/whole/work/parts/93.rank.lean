/-! BEST: who is asked, and that all may be -/
theorem or_bit (m k c : Nat) : (m ||| 2 ^ k) / 2 ^ c % 2 = if c = k then 1 else m / 2 ^ c % 2 := by
  rw [← Nat.toNat_testBit, ← Nat.toNat_testBit, Nat.testBit_or, Nat.testBit_two_pow]
  by_cases e : c = k
  · simp [e]
  · have e' : ¬ k = c := fun z => e z.symm
    simp [e, e']
def kyD (s : Sx) (d : Nat) : Nat := 8 * s 5 d + d
def rkN (s : Sx) (c : Nat) : Nat → Nat
  | 0 => 0
  | n + 1 => rkN s c n + (if s 6 n = 0 ∧ kyD s n < kyD s c then 1 else 0)
def frN (A : Nat) : Nat → Nat
  | 0 => 0
  | n + 1 => frN A n + (if A / 2 ^ n % 2 = 0 then 1 else 0)
def rank (s : Sx) (c : Nat) : Nat := rkN s c (s 0 1)
def left (s : Sx) : Nat := frN (s 0 2) (s 0 0)
/-- who is asked -/
abbrev mem (s : Sx) (c : Nat) : Prop := c < s 0 1 ∧ s 6 c = 0 ∧ rank s c < left s
theorem frN_le (A : Nat) : ∀ n, frN A n ≤ n
  | 0 => Nat.le_refl _
  | n + 1 => by
    have := frN_le A n
    rw [frN]
    split <;> omega
theorem rkN_le (s : Sx) (c : Nat) : ∀ n, rkN s c n ≤ n
  | 0 => Nat.le_refl _
  | n + 1 => by
    have := rkN_le s c n
    rw [rkN]
    split <;> omega
theorem rk_lt {s : Sx} {c c' : Nat} (h : kyD s c < kyD s c') (h0 : s 6 c = 0) : ∀ n, rkN s c n + (if c < n then 1 else 0) ≤ rkN s c' n
  | 0 => by simp [rkN]
  | n + 1 => by
    have ih := rk_lt h h0 n
    rw [rkN, rkN]
    by_cases e : c = n
    · subst e
      rw [if_neg (by omega)] at ih
      rw [if_neg (by omega), if_pos (by omega), if_pos ⟨h0, h⟩]
      omega
    · have e2 : (if c < n + 1 then 1 else 0) = (if c < n then 1 else 0) := by
        by_cases g : c < n
        · rw [if_pos g, if_pos (by omega)]
        · rw [if_neg g, if_neg (by omega)]
      rw [e2]
      by_cases g : s 6 n = 0 ∧ kyD s n < kyD s c
      · rw [if_pos g, if_pos (show s 6 n = 0 ∧ kyD s n < kyD s c' from ⟨g.1, by omega⟩)]
        omega
      · rw [if_neg g]
        omega
theorem rank_lt {s : Sx} {c c' : Nat} (h : kyD s c < kyD s c') (h0 : s 6 c = 0) (hc : c < s 0 1) : rank s c < rank s c' := by
  have := rk_lt h h0 (s 0 1)
  rw [if_pos hc] at this
  unfold rank
  omega
theorem kyD_ne {s : Sx} {c c' : Nat} (hc : c < 8) (hc' : c' < 8) (h : c ≠ c') : kyD s c ≠ kyD s c' := by
  unfold kyD
  omega
theorem rank_ne {s : Sx} {c c' : Nat} (h5 : s 0 1 ≤ 5) (hc : c < s 0 1) (hc' : c' < s 0 1) (h0 : s 6 c = 0) (h0' : s 6 c' = 0) (h : c ≠ c') : rank s c ≠ rank s c' := by
  have := kyD_ne (s := s) (show c < 8 by omega) (show c' < 8 by omega) h
  rcases Nat.lt_or_gt_of_ne this with z | z
  · have := rank_lt z h0 hc
    omega
  · have := rank_lt z h0' hc'
    omega
theorem rk_pos {s : Sx} {w : Nat} : ∀ n, 0 < rkN s w n → ∃ d, d < n ∧ s 6 d = 0 ∧ kyD s d < kyD s w
  | 0, h => absurd h (by simp [rkN])
  | n + 1, h => by
    by_cases g : s 6 n = 0 ∧ kyD s n < kyD s w
    · exact ⟨n, by omega, g⟩
    · rw [rkN, if_neg g] at h
      obtain ⟨d, h1, h2⟩ := rk_pos n h
      exact ⟨d, by omega, h2⟩
theorem ex_max {k : Nat → Nat} {P : Nat → Prop} : ∀ n, (∃ d, d < n ∧ P d) → ∃ d, d < n ∧ P d ∧ ∀ e, e < n → P e → k e ≤ k d
  | 0, ⟨d, h, _⟩ => absurd h (Nat.not_lt_zero d)
  | n + 1, h => by
    by_cases g : ∃ d, d < n ∧ P d
    · obtain ⟨d, h1, h2, h3⟩ := ex_max (k := k) n g
      by_cases p : P n ∧ k d < k n
      · refine ⟨n, by omega, p.1, fun e he pe => ?_⟩
        by_cases z : e = n
        · rw [z]; exact Nat.le_refl _
        · have := h3 e (by omega) pe
          omega
      · refine ⟨d, by omega, h2, fun e he pe => ?_⟩
        by_cases z : e = n
        · subst z
          exact Nat.not_lt.mp (fun y => p ⟨pe, y⟩)
        · exact h3 e (by omega) pe
    · obtain ⟨d, h1, h2⟩ := h
      have hd : d = n := by
        rcases Nat.lt_or_ge d n with z | z
        · exact absurd ⟨d, z, h2⟩ g
        · omega
      subst hd
      refine ⟨d, by omega, h2, fun e he pe => ?_⟩
      by_cases z : e = d
      · rw [z]; exact Nat.le_refl _
      · exact absurd ⟨e, by omega, pe⟩ g
theorem rk_pred {s : Sx} {w d : Nat} (hd : d < 8) (h0 : s 6 d = 0) (hk : kyD s d < kyD s w) (hm : ∀ e, e < s 0 1 → s 6 e = 0 ∧ kyD s e < kyD s w → kyD s e ≤ kyD s d) (h5 : s 0 1 ≤ 5) : ∀ n, n ≤ s 0 1 → rkN s w n = rkN s d n + (if d < n then 1 else 0)
  | 0, _ => by simp [rkN]
  | n + 1, hn => by
    rw [rkN, rkN, rk_pred hd h0 hk hm h5 n (by omega)]
    by_cases e : d = n
    · subst e
      rw [if_neg (by omega), if_pos ⟨h0, hk⟩, if_neg (by omega), if_pos (by omega)]
    · have e2 : (if d < n + 1 then 1 else 0) = (if d < n then 1 else 0) := by
        by_cases g : d < n
        · rw [if_pos g, if_pos (by omega)]
        · rw [if_neg g, if_neg (by omega)]
      rw [e2]
      have hne := kyD_ne (s := s) (show n < 8 by omega) hd (fun z => e z.symm)
      by_cases g : s 6 n = 0 ∧ kyD s n < kyD s w
      · have := hm n (by omega) g
        rw [if_pos g, if_pos (show s 6 n = 0 ∧ kyD s n < kyD s d from ⟨g.1, by omega⟩)]
        omega
      · rw [if_neg g, if_neg (show ¬ (s 6 n = 0 ∧ kyD s n < kyD s d) from fun z => g ⟨z.1, by omega⟩)]
        omega
theorem rank_pred {s : Sx} {w : Nat} (h5 : s 0 1 ≤ 5) (h : 0 < rank s w) : ∃ d, d < s 0 1 ∧ s 6 d = 0 ∧ kyD s d < kyD s w ∧ rank s w = rank s d + 1 := by
  obtain ⟨d, h1, h2, h3⟩ := ex_max (k := kyD s) (P := fun d => s 6 d = 0 ∧ kyD s d < kyD s w) (s 0 1) (rk_pos (s 0 1) h)
  refine ⟨d, h1, h2.1, h2.2, ?_⟩
  have := rk_pred (s := s) (w := w) (d := d) (by omega) h2.1 h2.2 h3 h5 (s 0 1) (Nat.le_refl _)
  rw [if_pos h1] at this
  exact this
theorem nth_free {A : Nat} : ∀ n r, r < frN A n → ∃ q, q < n ∧ A / 2 ^ q % 2 = 0 ∧ frN A q = r
  | 0, r, h => absurd h (Nat.not_lt_zero r)
  | n + 1, r, h => by
    by_cases g : r < frN A n
    · obtain ⟨q, h1, h2⟩ := nth_free n r g
      exact ⟨q, by omega, h2⟩
    · rw [frN] at h
      by_cases e : A / 2 ^ n % 2 = 0
      · rw [if_pos e] at h
        exact ⟨n, by omega, e, by omega⟩
      · rw [if_neg e] at h
        omega
/-- a telling -/
def Vt (s : Sx) (f : Nat → Nat) : Prop := (∀ c, mem s c → f c < s 0 0 ∧ s 0 2 / 2 ^ f c % 2 = 0) ∧ (∀ c c', mem s c → mem s c' → c ≠ c' → f c ≠ f c') ∧ ∀ c, ¬ mem s c → f c = s 0 0
theorem Vt_mem {s : Sx} {f : Nat → Nat} (h : Vt s f) (c : Nat) : mem s c ↔ f c < s 0 0 := by
  constructor
  · intro z
    exact (h.1 c z).1
  · intro z
    by_cases e : mem s c
    · exact e
    · have := h.2.2 c e
      omega
theorem Vt_ex {s : Sx} (h5 : s 0 1 ≤ 5) : ∃ f, Vt s f := by
  have h : ∀ c, ∃ q, (mem s c → q < s 0 0 ∧ s 0 2 / 2 ^ q % 2 = 0 ∧ frN (s 0 2) q = rank s c) ∧ (¬ mem s c → q = s 0 0) := by
    intro c
    by_cases e : mem s c
    · obtain ⟨q, hq⟩ := nth_free (A := s 0 2) (s 0 0) (rank s c) e.2.2
      exact ⟨q, fun _ => hq, fun z => absurd e z⟩
    · exact ⟨s 0 0, fun z => absurd z e, fun _ => rfl⟩
  refine ⟨fun c => Classical.choose (h c), fun c hc => ?_, fun c c' hc hc' hne => ?_, fun c hc => (Classical.choose_spec (h c)).2 hc⟩
  · have := (Classical.choose_spec (h c)).1 hc
    exact ⟨this.1, this.2.1⟩
  · have h1 := (Classical.choose_spec (h c)).1 hc
    have h2 := (Classical.choose_spec (h c')).1 hc'
    intro z
    have z : Classical.choose (h c) = Classical.choose (h c') := z
    rw [z, h2.2.2] at h1
    exact rank_ne h5 hc.1 hc'.1 hc.2.1 hc'.2.1 hne h1.2.2.symm
/-! the order in which they come -/
def ky2 (s : Sx) (c : Nat) : Nat := 8 * cmg s c + c
/-- those who are to come, of the first n, in their order -/
def Ord (s : Sx) (o : Nat → Nat) (m n : Nat) : Prop := m ≤ n ∧ (∀ i, i < m → o i < n ∧ s 6 (o i) = 0) ∧ (∀ i j, i < j → j < m → ky2 s (o i) < ky2 s (o j)) ∧ ∀ d, d < n → s 6 d = 0 → ∃ i, i < m ∧ o i = d
theorem Ord.inj {s : Sx} {o : Nat → Nat} {m n i j : Nat} (h : Ord s o m n) (hi : i < m) (hj : j < m) (e : o i = o j) : i = j := by
  rcases Nat.lt_trichotomy i j with z | z | z
  · have := h.2.2.1 i j z hj
    rw [e] at this
    omega
  · exact z
  · have := h.2.2.1 j i z hi
    rw [e] at this
    omega
def updN (f : Nat → Nat) (k x : Nat) : Nat → Nat := fun j => if j = k then x else f j
theorem updN_at {f : Nat → Nat} {k x : Nat} : updN f k x k = x := if_pos rfl
theorem updN_off {f : Nat → Nat} {k x j : Nat} (h : j ≠ k) : updN f k x j = f j := if_neg h
def numI (T : Nat → Nat) (h : Nat) : Nat → Nat
  | 0 => 0
  | n + 1 => numI T h n + (if h < T n then 1 else 0)
theorem numI_le (T : Nat → Nat) (h : Nat) : ∀ n, numI T h n ≤ n
  | 0 => Nat.le_refl _
  | n + 1 => by
    have := numI_le T h n
    rw [numI]
    split <;> omega
theorem numI_cg {T T' : Nat → Nat} {h : Nat} : ∀ n, (∀ c, c < n → T c = T' c) → numI T h n = numI T' h n
  | 0, _ => rfl
  | n + 1, hT => by
    rw [numI, numI, numI_cg n (fun c hc => hT c (by omega)), hT n (by omega)]
/-- till when c is in, who is asked f c when so many are in -/
def tlV (s : Sx) (T : Nat → Nat) (c q : Nat) : Nat := cmg s c + hrs s (numI T (cmg s c) (s 0 1)) c q (cmg s c)
def tlO (s : Sx) (f o : Nat → Nat) : Nat → (Nat → Nat)
  | 0 => fun c => if s 6 c = 1 then s 7 c else 0
  | i + 1 => if f (o i) < s 0 0 then updN (tlO s f o i) (o i) (tlV s (tlO s f o i) (o i) (f (o i))) else tlO s f o i
def lt0 (s : Sx) : Nat → Nat
  | 0 => s 0 3
  | n + 1 => if lt0 s n < (if s 6 n = 1 then s 7 n else 0) then (if s 6 n = 1 then s 7 n else 0) else lt0 s n
def ltE (s : Sx) (f o : Nat → Nat) (i : Nat) : Nat := if f (o i) < s 0 0 then tlO s f o (i + 1) (o i) else cmg s (o i) + 1
def ltO (s : Sx) (f o : Nat → Nat) : Nat → Nat
  | 0 => lt0 s (s 0 1)
  | i + 1 => if ltO s f o i < ltE s f o i then ltE s f o i else ltO s f o i
theorem tlO_cg {s : Sx} {f f' o : Nat → Nat} : ∀ i, (∀ j, j < i → f (o j) = f' (o j)) → tlO s f o i = tlO s f' o i
  | 0, _ => rfl
  | i + 1, h => by
    rw [tlO, tlO, tlO_cg i (fun j hj => h j (by omega)), h i (by omega)]
theorem ltO_cg {s : Sx} {f f' o : Nat → Nat} : ∀ i, (∀ j, j < i → f (o j) = f' (o j)) → ltO s f o i = ltO s f' o i
  | 0, _ => rfl
  | i + 1, h => by
    have e := tlO_cg (s := s) (i + 1) h
    rw [ltO, ltO, ltO_cg i (fun j hj => h j (by omega))]
    unfold ltE
    rw [e, h i (by omega)]
theorem ltO_mono {s : Sx} {f o : Nat → Nat} {i : Nat} : ∀ d, ltO s f o i ≤ ltO s f o (i + d)
  | 0 => Nat.le_refl _
  | d + 1 => by
    have := ltO_mono (s := s) (f := f) (o := o) (i := i) d
    rw [← Nat.add_assoc, ltO]
    split <;> omega
theorem tlO_off {s : Sx} {f o : Nat → Nat} {d : Nat} : ∀ i, (∀ j, j < i → o j ≠ d) → tlO s f o i d = if s 6 d = 1 then s 7 d else 0
  | 0, _ => rfl
  | i + 1, h => by
    rw [tlO]
    split
    · rw [updN_off (fun z => h i (by omega) z.symm)]
      exact tlO_off i (fun j hj => h j (by omega))
    · exact tlO_off i (fun j hj => h j (by omega))
theorem tlO_on {s : Sx} {f o : Nat → Nat} {m n j : Nat} (hO : Ord s o m n) (hj : j < m) : ∀ d, j + 1 + d ≤ m → tlO s f o (j + 1 + d) (o j) = tlO s f o (j + 1) (o j)
  | 0, _ => rfl
  | d + 1, h => by
    rw [← Nat.add_assoc, tlO]
    split
    · rw [updN_off (fun z => by have := hO.inj hj (by omega) z; omega)]
      exact tlO_on hO hj d (by omega)
    · exact tlO_on hO hj d (by omega)
