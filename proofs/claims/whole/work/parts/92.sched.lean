/-! BEST: when each is over, if each is told what he is asked -/
def cmg (s : Sx) (c : Nat) : Nat := if s 0 3 < s 5 c then s 5 c else s 0 3
theorem cmg_ge (s : Sx) (c : Nat) : s 0 3 ≤ cmg s c ∧ s 5 c ≤ cmg s c ∧ (cmg s c = s 5 c ∨ cmg s c = s 0 3) := by
  unfold cmg
  split <;> omega
abbrev act (s : Sx) (f : Nat → Nat) (c : Nat) : Prop := s 6 c = 1 ∨ (s 6 c = 0 ∧ f c < s 0 0)
/-- d comes ahead of c -/
abbrev ahd (s : Sx) (d c : Nat) : Prop := s 6 d ≠ 0 ∨ cmg s d < cmg s c ∨ (cmg s d = cmg s c ∧ d < c)
def cntA (s : Sx) (f E : Nat → Nat) (c : Nat) : Nat → Nat
  | 0 => 0
  | n + 1 => cntA s f E c n + (if act s f n ∧ ahd s n c ∧ cmg s c < E n then 1 else 0)
def Sched (s : Sx) (f E : Nat → Nat) : Prop := ∀ c, c < s 0 1 → (s 6 c = 2 → E c ≤ s 0 3) ∧ (s 6 c = 1 → E c = s 7 c) ∧ (s 6 c = 0 → f c < s 0 0 → E c = cmg s c + hrs s (cntA s f E c (s 0 1)) c (f c) (cmg s c)) ∧ (s 6 c = 0 → ¬ f c < s 0 0 → E c = cmg s c + 1)
def mid (s : Sx) (f E : Nat → Nat) (T k c : Nat) : Nat := if s 6 c = 0 ∧ (T < cmg s c ∨ (T = cmg s c ∧ k ≤ c)) then 0 else if act s f c ∧ T < E c then 1 else 2
theorem mid_0 {s : Sx} {f E : Nat → Nat} {T k c : Nat} : mid s f E T k c = 0 ↔ s 6 c = 0 ∧ (T < cmg s c ∨ (T = cmg s c ∧ k ≤ c)) := by
  unfold mid
  split
  · rename_i h
    exact ⟨fun _ => h, fun _ => rfl⟩
  · rename_i h
    split
    · exact ⟨fun z => absurd z (by decide), fun z => absurd z h⟩
    · exact ⟨fun z => absurd z (by decide), fun z => absurd z h⟩
theorem mid_1 {s : Sx} {f E : Nat → Nat} {T k c : Nat} : mid s f E T k c = 1 ↔ ¬ (s 6 c = 0 ∧ (T < cmg s c ∨ (T = cmg s c ∧ k ≤ c))) ∧ act s f c ∧ T < E c := by
  unfold mid
  split
  · rename_i h
    exact ⟨fun z => absurd z (by decide), fun z => absurd h z.1⟩
  · rename_i h
    split
    · rename_i h2
      exact ⟨fun _ => ⟨h, h2⟩, fun _ => rfl⟩
    · rename_i h2
      exact ⟨fun z => absurd z (by decide), fun z => absurd z.2 h2⟩
theorem mid_2 {s : Sx} {f E : Nat → Nat} {T k c : Nat} : mid s f E T k c = 2 ↔ ¬ (s 6 c = 0 ∧ (T < cmg s c ∨ (T = cmg s c ∧ k ≤ c))) ∧ ¬ (act s f c ∧ T < E c) := by
  unfold mid
  split
  · rename_i h
    exact ⟨fun z => absurd z (by decide), fun z => absurd h z.1⟩
  · rename_i h
    split
    · rename_i h2
      exact ⟨fun z => absurd z (by decide), fun z => absurd h2 z.2⟩
    · rename_i h2
      exact ⟨fun _ => ⟨h, h2⟩, fun _ => rfl⟩
theorem mid_le (s : Sx) (f E : Nat → Nat) (T k c : Nat) : mid s f E T k c ≤ 2 := by
  unfold mid
  repeat' split
  all_goals omega
theorem hrs_cg {s y : Sx} {o c q h : Nat} (h1 : y 1 q = s 1 q) (h2 : y 2 q = s 2 q) (h3 : y 3 c = s 3 c) (h4 : y 4 c = s 4 c) : hrs y o c q h = hrs s o c q h := by
  unfold hrs
  rw [h1, h2, h3, h4]
theorem oth_mid {s y : Sx} {f E : Nat → Nat} {T k : Nat} (h0 : s 6 k = 0) (hT : T = cmg s k) (hy : ∀ c, c < s 0 1 → y 6 c = mid s f E T k c) : ∀ n, n ≤ s 0 1 → othN y k n = cntA s f E k n
  | 0, _ => rfl
  | n + 1, hn => by
    rw [othN, cntA, oth_mid h0 hT hy n (by omega)]
    by_cases e : n = k
    · rw [if_pos e, if_neg (by subst e; intro z; have := z.2.1; unfold ahd at this; omega)]
    · rw [if_neg e]
      unfold at1
      rw [hy n (by omega)]
      by_cases g : act s f n ∧ ahd s n k ∧ cmg s k < E n
      · rw [if_pos g, if_pos (mid_1.mpr ⟨by have := g.2.1; unfold ahd at this; omega, g.1, by omega⟩)]
      · rw [if_neg g, if_neg (fun z => g (by
          have z := mid_1.mp z
          refine ⟨z.2.1, ?_, by omega⟩
          have := z.1
          unfold ahd
          omega))]
theorem LI_6 {y : Sx} {k q c : Nat} (h : c ≠ k) : LI y k q 6 c = y 6 c ∧ LI y k q 7 c = y 7 c := by
  unfold LI
  split
  · simp [u2, h]
  · simp [u2, h]
theorem mid_CM {s x : Sx} {f E : Nat → Nat} {T : Nat} (hs : wfS s) (hE : Sched s f E) (hT : s 0 3 ≤ T) (hk : ∀ r k, fixd r k → x r k = s r k) (h3 : x 0 3 = T) (h6 : ∀ c, c < s 0 1 → x 6 c = mid s f E T 0 c ∧ (x 6 c = 1 → x 7 c = E c)) : ∀ k, k ≤ s 0 1 → ∀ c, c < s 0 1 → CM (fun _ c => f c) x k 6 c = mid s f E T k c ∧ (CM (fun _ c => f c) x k 6 c = 1 → CM (fun _ c => f c) x k 7 c = E c)
  | 0, _ => h6
  | k + 1, hk1 => by
    have ih := mid_CM hs hE hT hk h3 h6 k (by omega)
    have kp : ∀ r j, fixd r j → CM (fun _ c => f c) x k r j = s r j := fun r j h => (CM_keep (Or.inl h) k).trans (hk r j h)
    have y3 : CM (fun _ c => f c) x k 0 3 = T := (CM_keep (Or.inr ⟨rfl, rfl⟩) k).trans h3
    have y5 := kp 5 k (by unfold fixd; omega)
    have y00 := kp 0 0 (by unfold fixd; omega)
    have y01 := kp 0 1 (by unfold fixd; omega)
    have cg := cmg_ge s k
    have ihk := (ih k (by omega)).1
    rw [CM]
    generalize CM (fun _ c => f c) x k = y at *
    have cond : (y 6 k = 0 ∧ y 5 k ≤ y 0 3) ↔ (s 6 k = 0 ∧ T = cmg s k) := by
      rw [ihk, mid_0, y5, y3]
      omega
    by_cases e : s 6 k = 0 ∧ T = cmg s k
    · rw [if_pos (cond.mpr e)]
      have ho := oth_mid (f := f) (E := E) e.1 e.2 (fun c hc => (ih c hc).1) (s 0 1) (Nat.le_refl _)
      obtain ⟨-, -, e3, e4⟩ := hE k (by omega)
      intro c hc
      by_cases ec : c = k
      · subst ec
        by_cases q : f c < s 0 0
        · have hb := hs.2.2.2.2.1 (f c) q
          have e3 := e3 e.1 q
          have hh : hrs y (othN y c (y 0 1)) c (f c) (y 0 3) = hrs s (cntA s f E c (s 0 1)) c (f c) (cmg s c) := by
            rw [y01, ho, y3, ← e.2]
            exact hrs_cg (kp 1 _ (by unfold fixd; omega)) (kp 2 _ (by unfold fixd; omega)) (kp 3 _ (by unfold fixd; omega)) (kp 4 _ (by unfold fixd; omega))
          have hb2 := hrs_b (s := s) (o := cntA s f E c (s 0 1)) (c := c) (q := f c) (h := cmg s c) hb.2.1 hb.2.2
          have l6 : LI y c (f c) 6 c = 1 := by
            unfold LI
            rw [if_pos (by rw [y00]; exact q)]
            simp [u2]
          have l7 : LI y c (f c) 7 c = E c := by
            unfold LI
            rw [if_pos (by rw [y00]; exact q), hh, y3, e3, ← e.2]
            simp [u2]
          rw [l6, l7]
          refine ⟨(mid_1.mpr ⟨by omega, Or.inr ⟨e.1, q⟩, by omega⟩).symm, fun _ => rfl⟩
        · have l6 : LI y c (f c) 6 c = 2 := by
            unfold LI
            rw [if_neg (by rw [y00]; exact q)]
            simp [u2]
          rw [l6]
          refine ⟨(mid_2.mpr ⟨by omega, fun z => ?_⟩).symm, fun z => absurd z (by decide)⟩
          have := z.1
          unfold act at this
          omega
      · rw [(LI_6 ec).1, (LI_6 ec).2]
        obtain ⟨g1, g2⟩ := ih c hc
        refine ⟨?_, g2⟩
        rw [g1]
        unfold mid
        have : (k + 1 ≤ c) = (k ≤ c) := propext (by omega)
        simp only [this]
    · rw [if_neg (fun z => e (cond.mp z))]
      intro c hc
      obtain ⟨g1, g2⟩ := ih c hc
      refine ⟨?_, g2⟩
      rw [g1]
      unfold mid
      have : (s 6 c = 0 ∧ (T < cmg s c ∨ (T = cmg s c ∧ k + 1 ≤ c))) = (s 6 c = 0 ∧ (T < cmg s c ∨ (T = cmg s c ∧ k ≤ c))) := propext (by
        by_cases ec : c = k
        · subst ec
          omega
        · omega)
      simp only [this]
theorem mid_IT {s : Sx} {f E : Nat → Nat} (hs : wfS s) (hE : Sched s f E) : ∀ n c, c < s 0 1 → IT (fun _ c => f c) s n 6 c = mid s f E (s 0 3 + n) 0 c ∧ (IT (fun _ c => f c) s n 6 c = 1 → IT (fun _ c => f c) s n 7 c = E c)
  | 0, c, hc => by
    show s 6 c = mid s f E (s 0 3) 0 c ∧ (s 6 c = 1 → s 7 c = E c)
    have hw := hs.2.2.2.2.2 c hc
    obtain ⟨e2, e1, e3, e4⟩ := hE c hc
    have cg := cmg_ge s c
    refine ⟨?_, fun z => (e1 z).symm⟩
    rcases (show s 6 c = 0 ∨ s 6 c = 1 ∨ s 6 c = 2 by omega) with z | z | z
    · rw [z]
      exact (mid_0.mpr ⟨z, by omega⟩).symm
    · rw [z]
      have := hw.2.2.2.2 z
      have := e1 z
      exact (mid_1.mpr ⟨by omega, Or.inl z, by omega⟩).symm
    · rw [z]
      exact (mid_2.mpr ⟨by omega, fun y => by have := y.1; unfold act at this; omega⟩).symm
  | n + 1, c, hc => by
    have ih := mid_IT hs hE n
    have kp : ∀ r j, fixd r j → IT (fun _ c => f c) s n r j = s r j := fun r j h => IT_keep h n
    have x3 := IT_hour (f := fun _ c => f c) (s := s) n
    have x1 := kp 0 1 (by unfold fixd; omega)
    rw [IT]
    generalize IT (fun _ c => f c) s n = x at *
    obtain ⟨g1, g2⟩ := mid_CM hs hE (Nat.le_add_right _ _) kp x3 ih (s 0 1) (Nat.le_refl _) c hc
    have hp : PH (fun _ c => f c) x 6 c = if CM (fun _ c => f c) x (s 0 1) 6 c = 1 ∧ CM (fun _ c => f c) x (s 0 1) 7 c ≤ s 0 3 + n + 1 then 2 else CM (fun _ c => f c) x (s 0 1) 6 c := by
      unfold PH OV
      rw [x1, x3]
      simp [u2, hc]
    have hp7 : PH (fun _ c => f c) x 7 c = CM (fun _ c => f c) x (s 0 1) 7 c := by
      unfold PH OV
      rw [x1, x3]
      simp [u2]
    rw [hp, hp7]
    generalize CM (fun _ c => f c) x (s 0 1) 6 c = a at *
    generalize CM (fun _ c => f c) x (s 0 1) 7 c = b at *
    by_cases e : a = 1 ∧ b ≤ s 0 3 + n + 1
    · rw [if_pos e]
      have := g2 e.1
      rw [e.1] at g1
      have g1 := mid_1.mp g1.symm
      refine ⟨(mid_2.mpr ⟨by omega, fun z => by have := z.2; omega⟩).symm, fun z => absurd z (by decide)⟩
    · rw [if_neg e]
      refine ⟨?_, g2⟩
      have hl := mid_le s f E (s 0 3 + n) (s 0 1) c
      rcases (show a = 0 ∨ a = 1 ∨ a = 2 by omega) with z | z | z
      · rw [z] at g1 ⊢
        have g1 := mid_0.mp g1.symm
        exact (mid_0.mpr ⟨g1.1, by omega⟩).symm
      · have := g2 z
        rw [z] at g1 ⊢
        have g1 := mid_1.mp g1.symm
        exact (mid_1.mpr ⟨by omega, g1.2.1, by omega⟩).symm
      · rw [z] at g1 ⊢
        have g1 := mid_2.mp g1.symm
        exact (mid_2.mpr ⟨by omega, fun y => g1.2 ⟨y.1, by omega⟩⟩).symm
theorem over_IT {s : Sx} {f E : Nat → Nat} {n c : Nat} (hs : wfS s) (hE : Sched s f E) (hc : c < s 0 1) : IT (fun _ c => f c) s n 6 c = 2 ↔ E c ≤ s 0 3 + n := by
  rw [(mid_IT hs hE n c hc).1, mid_2]
  have hw := hs.2.2.2.2.2 c hc
  obtain ⟨e2, e1, e3, e4⟩ := hE c hc
  have cg := cmg_ge s c
  unfold act
  rcases (show s 6 c = 0 ∨ s 6 c = 1 ∨ s 6 c = 2 by omega) with z | z | z
  · by_cases q : f c < s 0 0
    · have hb := hs.2.2.2.2.1 (f c) q
      have hb2 := hrs_b (s := s) (o := cntA s f E c (s 0 1)) (c := c) (q := f c) (h := cmg s c) hb.2.1 hb.2.2
      have := e3 z q
      omega
    · have := e4 z q
      omega
  · omega
  · have := e2 z
    omega
theorem setN_full {s : Sx} {w : Nat} : ∀ n, setN s w n = 2 ^ n - 1 ↔ ∀ k, k < n → s 6 k = w
  | 0 => ⟨fun _ k hk => absurd hk (Nat.not_lt_zero k), fun _ => rfl⟩
  | n + 1 => by
    have ih := setN_full (s := s) (w := w) n
    have hl := setN_lt s w n
    have hp := Nat.two_pow_pos n
    rw [setN, Nat.pow_succ]
    unfold at1
    constructor
    · intro h
      by_cases e : s 6 n = w
      · rw [if_pos e] at h
        have h2 := ih.mp (by omega)
        intro k hk
        by_cases e2 : k = n
        · rw [e2]; exact e
        · exact h2 k (by omega)
      · rw [if_neg e] at h
        omega
    · intro h
      rw [if_pos (h n (by omega))]
      have := ih.mpr (fun k hk => h k (by omega))
      omega
theorem hl_min {f : Sx → Nat → Nat} {p : Sx → Bool} {s : Sx} {m : Nat} (h : ∀ n, p (IT f s n) = true ↔ m ≤ n) : ∀ j, j ≤ 101 → 101 - j ≤ m → hl f p s j = if 101 < m then 101 else m
  | 0, _, hj => by
    rw [hl]
    split <;> omega
  | j + 1, h1, hj => by
    rw [hl]
    by_cases e : p (IT f s (101 - (j + 1))) = true
    · rw [if_pos e]
      have := (h _).mp e
      rw [if_neg (by omega)]
      omega
    · rw [if_neg e]
      have : ¬ m ≤ 101 - (j + 1) := fun z => e ((h _).mpr z)
      exact hl_min h j (by omega) (by omega)
theorem htl_told {s : Sx} {f E : Nat → Nat} {L : Nat} (hs : wfS s) (hE : Sched s f E) (h1 : ∀ c, c < s 0 1 → E c ≤ L) (h2 : L = s 0 3 ∨ ∃ c, c < s 0 1 ∧ E c = L) : htl (fun _ c => f c) allO s = if 101 < L - s 0 3 then 101 else L - s 0 3 := by
  refine hl_min (fun n => ?_) 101 (Nat.le_refl _) (by omega)
  rw [allO_iff, IT_keep (by unfold fixd; omega), setN_full]
  constructor
  · intro h
    rcases h2 with h2 | ⟨c, hc, h2⟩
    · omega
    · have := (over_IT hs hE hc).mp (h c hc)
      omega
  · intro h c hc
    have := h1 c hc
    exact (over_IT hs hE hc).mpr (by omega)
