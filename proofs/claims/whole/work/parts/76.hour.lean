/-! an hour of a ford -/
theorem lp_up {σ ρ : Type} {body : (σ → Option ρ) → σ → Option ρ} (P : Option ρ → Prop) (I : Nat → σ → Prop) (n : Nat) (hend : ∀ K x, I n x → P (body K x)) (hstep : ∀ K k x, k < n → I k x → P (body K x) ∨ ∃ x', I (k + 1) x' ∧ body K x = K x') : ∀ (m k : Nat) (x : σ), k ≤ n → n - k < m → I k x → P (o_lp body m x)
  | 0, k, x, h1, h2, _ => absurd h2 (by omega)
  | m + 1, k, x, h1, h2, hI => by
    show P (body (o_lp body m) x)
    by_cases h : k = n
    · subst h; exact hend _ x hI
    · rcases hstep (o_lp body m) k x (by omega) hI with h | ⟨x', hx, e⟩
      · exact h
      · rw [e]; exact lp_up P I n hend hstep m (k + 1) x' (by omega) (by omega) hx
def at1 (s : Sx) (w k : Nat) : Nat := if s 6 k = w then 1 else 0
theorem at1_le (s : Sx) (w k : Nat) : at1 s w k ≤ 1 := by
  unfold at1
  split <;> omega
def setN (s : Sx) (w : Nat) : Nat → Nat
  | 0 => 0
  | n + 1 => setN s w n + 2 ^ n * at1 s w n
theorem setN_lt (s : Sx) (w : Nat) : ∀ n, setN s w n < 2 ^ n
  | 0 => by simp [setN]
  | n + 1 => by
    have h := setN_lt s w n
    have h1 := at1_le s w n
    have h2 : 2 ^ n * at1 s w n ≤ 2 ^ n * 1 := Nat.mul_le_mul_left _ h1
    rw [setN, Nat.pow_succ]
    omega
def othN (s : Sx) (c : Nat) : Nat → Nat
  | 0 => 0
  | n + 1 => othN s c n + (if n = c then 0 else at1 s 1 n)
theorem othN_le (s : Sx) (c : Nat) : ∀ n, othN s c n + (if c < n then 1 else 0) ≤ n
  | 0 => by simp [othN]
  | n + 1 => by
    have h := othN_le s c n
    have h1 := at1_le s 1 n
    rw [othN]
    by_cases e : n = c
    · subst e
      rw [if_neg (by omega)] at h
      rw [if_pos rfl, if_pos (by omega)]
      omega
    · rw [if_neg e]
      by_cases g : c < n
      · rw [if_pos g] at h
        rw [if_pos (by omega)]
        omega
      · rw [if_neg g] at h
        rw [if_neg (by omega)]
        omega
theorem oth_eq {s : Sx} {c : Nat} (h : s 6 c ≠ 1) : ∀ n, n ≤ 9 → othN s c n = othN s 9 n
  | 0, _ => rfl
  | n + 1, hn => by
    rw [othN, othN, oth_eq h n (by omega), if_neg (show ¬ n = 9 by omega)]
    split
    · rename_i e
      subst e
      unfold at1
      rw [if_neg h]
    · rfl
def pc5 (m : Nat) : Nat := m % 2 + m / 2 % 2 + m / 4 % 2 + m / 8 % 2 + m / 16 % 2
theorem pc_set {s : Sx} {n : Nat} (hn : n ≤ 5) : pc5 (setN s 1 n) = othN s 9 n := by
  have h0 := at1_le s 1 0
  have h1 := at1_le s 1 1
  have h2 := at1_le s 1 2
  have h3 := at1_le s 1 3
  have h4 := at1_le s 1 4
  rcases (show n = 0 ∨ n = 1 ∨ n = 2 ∨ n = 3 ∨ n = 4 ∨ n = 5 by omega) with rfl | rfl | rfl | rfl | rfl | rfl <;> simp [setN, othN, pc5] <;> omega
def hrs (s : Sx) (o c q h : Nat) : Nat :=
  let pl := if s 4 c / 2 ^ s 1 q % 2 = 0 then s 2 q else 1
  let sc := if s 4 c / 2 ^ s 1 q % 2 = 0 then 2 * s 2 q else 1
  if s 3 c = 0 then pl else if s 3 c = 1 then sc else if s 3 c = 2 then (if 2 < pl then 2 else pl) else if s 3 c = 3 then sc + o else if h % 2 = 0 then 1 else (if 2 < pl then 2 else pl)
theorem hrs_b {s : Sx} {o c q h : Nat} (h2 : 1 ≤ s 2 q) (h9 : s 2 q ≤ 9) : 1 ≤ hrs s o c q h ∧ hrs s o c q h ≤ 18 + o := by
  unfold hrs
  simp only []
  repeat' split
  all_goals omega
/-- the least question that is not asked, or how many there are -/
def lqr (m Q : Nat) : Nat → Nat
  | 0 => Q
  | j + 1 => if m / 2 ^ (Q - 1 - j) % 2 = 0 then Q - 1 - j else lqr m Q j
def lowQ (s : Sx) : Nat := lqr (s 0 2) (s 0 0) (s 0 0)
def qI (Q q : Nat) : Int32 := if q < Q then nI q else -4
def LI (s : Sx) (c q : Nat) : Sx := if q < s 0 0 then u2 (u2 (u2 s 7 c (s 0 3 + hrs s (othN s c (s 0 1)) c q (s 0 3))) 6 c 1) 0 2 (s 0 2 ||| 2 ^ q) else u2 s 6 c 2
def CM (f : Sx → Nat → Nat) (s : Sx) : Nat → Sx
  | 0 => s
  | c + 1 => if (CM f s c) 6 c = 0 ∧ (CM f s c) 5 c ≤ (CM f s c) 0 3 then LI (CM f s c) c (f (CM f s c) c) else CM f s c
def OV (s : Sx) (n : Nat) : Sx := fun r k => if r = 6 ∧ k < n ∧ s 6 k = 1 ∧ s 7 k ≤ s 0 3 then 2 else s r k
def PH (f : Sx → Nat → Nat) (s : Sx) : Sx := OV (u2 (CM f s (s 0 1)) 0 3 (s 0 3 + 1)) (s 0 1)
def IT (f : Sx → Nat → Nat) (s : Sx) : Nat → Sx
  | 0 => s
  | n + 1 => PH f (IT f s n)
theorem u2_comm {s : Sx} {r k x r' k' x' : Nat} (h : ¬ (r = r' ∧ k = k')) : u2 (u2 s r k x) r' k' x' = u2 (u2 s r' k' x') r k x := by
  funext a b
  unfold u2
  by_cases h1 : a = r ∧ b = k
  · by_cases h2 : a = r' ∧ b = k'
    · omega
    · rw [if_neg h2, if_pos h1, if_pos h1]
  · by_cases h2 : a = r' ∧ b = k'
    · rw [if_pos h2, if_neg h1, if_pos h2]
    · rw [if_neg h2, if_neg h1, if_neg h1, if_neg h2]
/-- what an hour leaves as it is -/
def fixd (r k : Nat) : Prop := (r = 0 ∧ k ≠ 2 ∧ k ≠ 3) ∨ r = 1 ∨ r = 2 ∨ r = 3 ∨ r = 4 ∨ r = 5
theorem LI_keep {s : Sx} {c q r k : Nat} (h : fixd r k ∨ (r = 0 ∧ k = 3)) : LI s c q r k = s r k := by
  unfold fixd at h
  unfold LI
  split
  · unfold u2
    rw [if_neg (by omega), if_neg (by omega), if_neg (by omega)]
  · unfold u2
    rw [if_neg (by omega)]
theorem CM_keep {f : Sx → Nat → Nat} {s : Sx} {r k : Nat} (h : fixd r k ∨ (r = 0 ∧ k = 3)) : ∀ n, CM f s n r k = s r k
  | 0 => rfl
  | n + 1 => by
    rw [CM]
    split
    · rw [LI_keep h, CM_keep h n]
    · exact CM_keep h n
theorem PH_keep {f : Sx → Nat → Nat} {s : Sx} {r k : Nat} (h : fixd r k) : PH f s r k = s r k := by
  unfold PH OV
  unfold fixd at h
  rw [if_neg (by omega)]
  unfold u2
  rw [if_neg (by omega)]
  exact CM_keep (Or.inl h) _
theorem PH_hour {f : Sx → Nat → Nat} {s : Sx} : PH f s 0 3 = s 0 3 + 1 := by
  unfold PH OV u2
  simp
theorem IT_keep {f : Sx → Nat → Nat} {s : Sx} {r k : Nat} (h : fixd r k) : ∀ n, IT f s n r k = s r k
  | 0 => rfl
  | n + 1 => by rw [IT, PH_keep h, IT_keep h n]
theorem IT_hour {f : Sx → Nat → Nat} {s : Sx} : ∀ n, IT f s n 0 3 = s 0 3 + n
  | 0 => rfl
  | n + 1 => by rw [IT, PH_hour, IT_hour n]; omega
theorem wf_LI {s : Sx} {c q : Nat} (h : wfS s) (hc : c < s 0 1) (h0 : s 6 c = 0) : wfS (LI s c q) := by
  have k00 := LI_keep (s := s) (c := c) (q := q) (r := 0) (k := 0) (Or.inl (by unfold fixd; omega))
  have k01 := LI_keep (s := s) (c := c) (q := q) (r := 0) (k := 1) (Or.inl (by unfold fixd; omega))
  have k03 := LI_keep (s := s) (c := c) (q := q) (r := 0) (k := 3) (Or.inr ⟨rfl, rfl⟩)
  have k04 := LI_keep (s := s) (c := c) (q := q) (r := 0) (k := 4) (Or.inl (by unfold fixd; omega))
  obtain ⟨a1, a2, a3, a4, a5, a6⟩ := h
  unfold wfS
  rw [k00, k01, k03, k04]
  refine ⟨a1, a2, ?_, a4, fun k hk => ?_, fun k hk => ?_⟩
  · unfold LI
    split
    · rename_i hq
      show (s 0 2 ||| 2 ^ q) < _
      exact Nat.or_lt_two_pow a3 (Nat.pow_lt_pow_right (by decide) hq)
    · exact a3
  · rw [LI_keep (r := 1) (k := k) (Or.inl (by unfold fixd; omega)), LI_keep (r := 2) (k := k) (Or.inl (by unfold fixd; omega))]
    exact a5 k hk
  · rw [LI_keep (r := 3) (k := k) (Or.inl (by unfold fixd; omega)), LI_keep (r := 4) (k := k) (Or.inl (by unfold fixd; omega)), LI_keep (r := 5) (k := k) (Or.inl (by unfold fixd; omega))]
    obtain ⟨b3, b4, b5, b6, b7⟩ := a6 k hk
    refine ⟨b3, b4, b5, ?_⟩
    by_cases e : k = c
    · subst e
      unfold LI
      split
      · rename_i hq
        have hb := hrs_b (s := s) (o := othN s k (s 0 1)) (c := k) (q := q) (h := s 0 3) (a5 q hq).2.1 (a5 q hq).2.2
        have ho := othN_le s k (s 0 1)
        rw [if_pos hc] at ho
        simp only [u2]
        simp
        omega
      · simp only [u2]
        simp
    · unfold LI
      split
      · simp only [u2]
        simp [e]
        exact ⟨b6, b7⟩
      · simp only [u2]
        simp [e]
        exact ⟨b6, b7⟩
theorem wf_CM {f : Sx → Nat → Nat} {s : Sx} (h : wfS s) : ∀ n, n ≤ s 0 1 → wfS (CM f s n)
  | 0, _ => h
  | n + 1, hn => by
    rw [CM]
    have ih := wf_CM (f := f) h n (by omega)
    split
    · rename_i e
      exact wf_LI ih (by rw [CM_keep (Or.inl (by unfold fixd; omega))]; omega) e.1
    · exact ih
theorem wf_PH {f : Sx → Nat → Nat} {s : Sx} (h : wfS s) : wfS (PH f s) := by
  have hC := wf_CM (f := f) h (s 0 1) (Nat.le_refl _)
  have e0 := CM_keep (f := f) (s := s) (r := 0) (k := 0) (Or.inl (by unfold fixd; omega)) (s 0 1)
  have e1 := CM_keep (f := f) (s := s) (r := 0) (k := 1) (Or.inl (by unfold fixd; omega)) (s 0 1)
  have e3 := CM_keep (f := f) (s := s) (r := 0) (k := 3) (Or.inr ⟨rfl, rfl⟩) (s 0 1)
  unfold PH
  generalize CM f s (s 0 1) = t at *
  rw [← e3, ← e1]
  obtain ⟨a1, a2, a3, a4, a5, a6⟩ := hC
  refine ⟨a1, a2, a3, a4, fun k hk => a5 k hk, fun k hk => ?_⟩
  have hk : k < t 0 1 := hk
  obtain ⟨b3, b4, b5, b6, b7⟩ := a6 k hk
  refine ⟨b3, b4, b5, ?_⟩
  unfold OV u2
  simp [hk]
  split
  · simp
  · rename_i hn
    refine ⟨b6, fun e => ?_⟩
    have := b7 e
    have h3 : ¬ t 7 k ≤ t 0 3 + 1 := fun z => hn ⟨e, z⟩
    omega
theorem wf_IT {f : Sx → Nat → Nat} {s : Sx} (h : wfS s) : ∀ n, wfS (IT f s n)
  | 0 => h
  | n + 1 => wf_PH (wf_IT h n)
theorem OV_0 {s : Sx} : OV s 0 = s := by
  funext r k
  unfold OV
  rw [if_neg (by omega)]
theorem OV_y {s : Sx} {c : Nat} (h : s 6 c = 1 ∧ s 7 c ≤ s 0 3) : OV s (c + 1) = u2 (OV s c) 6 c 2 := by
  funext r k
  unfold OV u2
  by_cases e : r = 6 ∧ k = c
  · obtain ⟨rfl, rfl⟩ := e
    rw [if_pos ⟨rfl, by omega, h.1, h.2⟩, if_pos ⟨rfl, rfl⟩]
  · rw [if_neg e]
    show (if r = 6 ∧ k < c + 1 ∧ s 6 k = 1 ∧ s 7 k ≤ s 0 3 then 2 else s r k) = (if r = 6 ∧ k < c ∧ s 6 k = 1 ∧ s 7 k ≤ s 0 3 then 2 else s r k)
    by_cases g : r = 6 ∧ k < c ∧ s 6 k = 1 ∧ s 7 k ≤ s 0 3
    · rw [if_pos g, if_pos ⟨g.1, by omega, g.2.2⟩]
    · rw [if_neg g, if_neg (fun z => g ⟨z.1, by omega, z.2.2⟩)]
theorem OV_n {s : Sx} {c : Nat} (h : ¬ (s 6 c = 1 ∧ s 7 c ≤ s 0 3)) : OV s (c + 1) = OV s c := by
  funext r k
  unfold OV
  by_cases g : r = 6 ∧ k < c ∧ s 6 k = 1 ∧ s 7 k ≤ s 0 3
  · rw [if_pos g, if_pos ⟨g.1, by omega, g.2.2⟩]
  · rw [if_neg g, if_neg (fun z => g ⟨z.1, by
      rcases Nat.lt_or_ge k c with q | q
      · exact q
      · exact absurd (show k = c by omega) (fun e => h (e ▸ z.2.2)), z.2.2⟩)]
