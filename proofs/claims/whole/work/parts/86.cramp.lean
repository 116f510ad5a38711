/-! cramp: how many ways, counted in two ways -/
def sm (f : Nat → Nat) : Nat → Nat
  | 0 => 0
  | n + 1 => sm f n + f n
theorem sm_add {f : Nat → Nat} {a : Nat} : ∀ b, sm f (a + b) = sm f a + sm (fun i => f (a + i)) b
  | 0 => rfl
  | b + 1 => by
    show sm f (a + b) + f (a + b) = sm f a + (sm (fun i => f (a + i)) b + f (a + b))
    rw [sm_add b, Nat.add_assoc]
theorem sm_congr {f g : Nat → Nat} : ∀ n, (∀ i, i < n → f i = g i) → sm f n = sm g n
  | 0, _ => rfl
  | n + 1, h => by
    rw [sm, sm, sm_congr n (fun i hi => h i (by omega)), h n (by omega)]
theorem sm_mul {f : Nat → Nat} {a : Nat} : ∀ n, sm (fun i => a * f i) n = a * sm f n
  | 0 => rfl
  | n + 1 => by
    rw [sm, sm_mul n, sm, Nat.mul_add]
theorem sm_two {f g : Nat → Nat} : ∀ n, sm (fun i => f i + g i) n = sm f n + sm g n
  | 0 => rfl
  | n + 1 => by
    rw [sm, sm_two n, sm, sm]
    omega
def tyS (s : Sx) (k : Nat) : Nat := if s 6 k = 1 then (if s 7 k ≤ s 0 3 + 1 then 1 else 2) else 0
def tyN (y : Nat → Nat) (w : Nat) : Nat → Nat
  | 0 => 0
  | n + 1 => tyN y w n + (if y n = w then 1 else 0)
def wt (y c b : Nat) : Nat := if y = 0 then (if b = 0 then 1 else 0) else (if b = 0 then 10 - c else c)
def mt (y b : Nat) : Nat := if y = 0 then 0 else if y = 2 then 1 else b
def chN (y : Nat → Nat) (c set : Nat) : Nat → Nat
  | 0 => 1
  | k + 1 => chN y c set k * wt (y k) c (set / 2 ^ k % 2)
def maN (y : Nat → Nat) (set : Nat) : Nat → Nat
  | 0 => 0
  | k + 1 => maN y set k + mt (y k) (set / 2 ^ k % 2)
theorem bit_hi {n k i : Nat} (h : k < n) : (2 ^ n + i) / 2 ^ k % 2 = i / 2 ^ k % 2 := by
  obtain ⟨d, rfl⟩ : ∃ d, n = k + 1 + d := ⟨n - k - 1, by omega⟩
  rw [show 2 ^ (k + 1 + d) + i = i + 2 ^ k * (2 * 2 ^ d) by rw [Nat.pow_add, Nat.pow_succ, Nat.mul_assoc, Nat.add_comm], Nat.add_mul_div_left _ _ (Nat.two_pow_pos k), Nat.add_mul_mod_self_left]
theorem ch_hi {y : Nat → Nat} {c n i : Nat} : ∀ k, k ≤ n → chN y c (2 ^ n + i) k = chN y c i k
  | 0, _ => rfl
  | k + 1, h => by rw [chN, chN, ch_hi k (by omega), bit_hi (by omega)]
theorem ma_hi {y : Nat → Nat} {n i : Nat} : ∀ k, k ≤ n → maN y (2 ^ n + i) k = maN y i k
  | 0, _ => rfl
  | k + 1, h => by rw [maN, maN, ma_hi k (by omega), bit_hi (by omega)]
def Bw (m c : Nat) : Nat → Nat → Nat
  | 0, x => if m ≤ x then 1 else 0
  | u + 1, x => (10 - c) * Bw m c u x + c * Bw m c u (x + 1)
theorem bit_lo {n i : Nat} (h : i < 2 ^ n) : i / 2 ^ n % 2 = 0 := by rw [Nat.div_eq_of_lt h]
theorem bit_top {n i : Nat} (h : i < 2 ^ n) : (2 ^ n + i) / 2 ^ n % 2 = 1 := by
  rw [Nat.add_div_left _ (Nat.two_pow_pos n), Nat.div_eq_of_lt h]
theorem cr_sum {y : Nat → Nat} {m c : Nat} (hc : c ≤ 10) : ∀ n x, (∀ k, k < n → y k ≤ 2) → sm (fun set => if m ≤ x + maN y set n then chN y c set n else 0) (2 ^ n) = 10 ^ tyN y 2 n * Bw m c (tyN y 1 n) (x + tyN y 2 n)
  | 0, x, _ => by
    show sm _ 1 = _
    by_cases h : m ≤ x <;> simp [sm, maN, chN, tyN, Bw, h]
  | n + 1, x, hy => by
    have ih := fun x => cr_sum (y := y) (m := m) hc n x (fun k hk => hy k (by omega))
    have hyn := hy n (by omega)
    rw [Nat.pow_succ, Nat.mul_two, sm_add]
    have e1 : sm (fun set => if m ≤ x + maN y set (n + 1) then chN y c set (n + 1) else 0) (2 ^ n) = wt (y n) c 0 * sm (fun set => if m ≤ x + mt (y n) 0 + maN y set n then chN y c set n else 0) (2 ^ n) := by
      rw [← sm_mul]
      refine sm_congr _ (fun i hi => ?_)
      rw [maN, chN, bit_lo hi, show x + (maN y i n + mt (y n) 0) = x + mt (y n) 0 + maN y i n by omega]
      split
      · rw [Nat.mul_comm]
      · rw [Nat.mul_zero]
    have e2 : sm (fun i => (fun set => if m ≤ x + maN y set (n + 1) then chN y c set (n + 1) else 0) (2 ^ n + i)) (2 ^ n) = wt (y n) c 1 * sm (fun set => if m ≤ x + mt (y n) 1 + maN y set n then chN y c set n else 0) (2 ^ n) := by
      rw [← sm_mul]
      refine sm_congr _ (fun i hi => ?_)
      show (if m ≤ x + maN y (2 ^ n + i) (n + 1) then chN y c (2 ^ n + i) (n + 1) else 0) = _
      rw [maN, chN, ch_hi n (Nat.le_refl n), ma_hi n (Nat.le_refl n), bit_top hi, show x + (maN y i n + mt (y n) 1) = x + mt (y n) 1 + maN y i n by omega]
      split
      · rw [Nat.mul_comm]
      · rw [Nat.mul_zero]
    rw [e1, e2, ih, ih, tyN, tyN]
    rcases (show y n = 0 ∨ y n = 1 ∨ y n = 2 by omega) with e | e | e <;> rw [e]
    · simp [wt, mt]
    · simp only [wt, mt]
      simp
      rw [Bw, show x + 1 + tyN y 2 n = x + tyN y 2 n + 1 by omega, Nat.mul_add]
      rw [Nat.mul_left_comm, Nat.mul_left_comm c]
    · simp only [wt, mt]
      simp
      rw [← Nat.add_mul, show 10 - c + c = 10 by omega, Nat.pow_succ, show x + 1 + tyN y 2 n = x + (tyN y 2 n + 1) by omega]
      rw [Nat.mul_comm (10 ^ tyN y 2 n) 10, Nat.mul_assoc]
theorem Bw_0 {c : Nat} (hc : c ≤ 10) : ∀ u x, Bw 0 c u x = 10 ^ u
  | 0, x => by simp [Bw]
  | u + 1, x => by
    rw [Bw, Bw_0 hc u, Bw_0 hc u, ← Nat.add_mul, show 10 - c + c = 10 by omega, Nat.pow_succ, Nat.mul_comm]
/-! Euclid -/
theorem lp_gcd {σ ρ : Type} {body : (σ → Option ρ) → σ → Option ρ} (P : Option ρ → Prop) (S : Nat → Nat → Nat → σ → Prop) (g : Nat) (hend : ∀ K r x, S r g 0 x → P (body K x)) (hstep : ∀ K r a b x, 0 < b → r < 900 → S r a b x → ∃ x', S (r + 1) b (a % b) x' ∧ body K x = K x') : ∀ (j m r a b : Nat) (x : σ), b < 2 ^ j → 2 * j < m → r + 2 * j < 900 → Nat.gcd a b = g → S r a b x → P (o_lp body m x)
  | 0, m, r, a, b, x, hb, hm, hr, hg, hS => by
    have hb0 : b = 0 := by simpa using hb
    subst hb0
    obtain ⟨m, rfl⟩ : ∃ k, m = k + 1 := ⟨m - 1, by omega⟩
    rw [Nat.gcd_zero_right] at hg
    subst hg
    exact hend _ r x hS
  | j + 1, m, r, a, b, x, hb, hm, hr, hg, hS => by
    obtain ⟨m, rfl⟩ : ∃ k, m = k + 2 := ⟨m - 2, by omega⟩
    show P (body (o_lp body (m + 1)) x)
    rcases Nat.eq_zero_or_pos b with h0 | h0
    · subst h0
      rw [Nat.gcd_zero_right] at hg
      subst hg
      exact hend _ r x hS
    · obtain ⟨x1, s1, e1⟩ := hstep (o_lp body (m + 1)) r a b x h0 (by omega) hS
      rw [e1]
      show P (body (o_lp body m) x1)
      have hg1 : Nat.gcd b (a % b) = g := by
        rw [← hg, Nat.gcd_comm a b, Nat.gcd_rec b a, Nat.gcd_comm]
      rcases Nat.eq_zero_or_pos (a % b) with h1 | h1
      · rw [h1, Nat.gcd_zero_right] at hg1
        rw [h1, hg1] at s1
        exact hend _ _ x1 s1
      · obtain ⟨x2, s2, e2⟩ := hstep (o_lp body m) (r + 1) b (a % b) x1 h1 (by omega) s1
        rw [e2]
        have hlt : a % b < b := Nat.mod_lt _ h0
        have hg2 : Nat.gcd (a % b) (b % (a % b)) = g := by
          rw [← hg1, Nat.gcd_comm b (a % b), Nat.gcd_rec (a % b) b, Nat.gcd_comm]
        have hhalf : 2 * (b % (a % b)) ≤ b := by
          have h3 : b % (a % b) < a % b := Nat.mod_lt _ h1
          have h4 := Nat.div_add_mod b (a % b)
          have h5 : 1 ≤ b / (a % b) := Nat.div_pos (Nat.le_of_lt hlt) h1
          have h6 : a % b * 1 ≤ a % b * (b / (a % b)) := Nat.mul_le_mul_left _ h5
          omega
        exact lp_gcd P S g hend hstep j m (r + 1 + 1) (a % b) (b % (a % b)) x2 (by rw [Nat.pow_succ] at hb; omega) (by omega) (by omega) hg2 s2
theorem p_divC {N a b : Nat} {t : Mm} (hN : 300 ≤ N) (ha : a < 2000000) (hb0 : 0 < b) (hb : b < 131072) : f_X7_greatestDivisor N (nI a) (nI b) t = some (nI (Nat.gcd a b), t) := by
  have hg0 : 0 < Nat.gcd a b := Nat.gcd_pos_of_pos_right a hb0
  have hgb : Nat.gcd a b ≤ b := Nat.gcd_le_right a hb0
  refine lp_gcd (body := fun k x => b_X7_greatestDivisor_2 N k x.1 x.2.1 x.2.2.1 x.2.2.2) (fun o => o = some (nI (Nat.gcd a b), t)) (fun r a b x => x = (nI a, nI b, nI r, t) ∧ r < 950 ∧ a < 2000000 ∧ b < 2000000) (Nat.gcd a b) (fun K r x hS => ?_) (fun K r a' b' x h0 hr hS => ?_) 17 N 0 a b _ hb (by omega) (by omega) rfl ⟨rfl, by omega, ha, by omega⟩
  · obtain ⟨rfl, hr, -, -⟩ := hS
    show b_X7_greatestDivisor_2 N K (nI (Nat.gcd a b)) (nI 0) (nI r) t = _
    unfold b_X7_greatestDivisor_2 f_X7_greatestDivisor_27
    have c1 : ¬ (1000 : Int32) ≤ nI r := fun z => absurd ((nIle (a := 1000) (by omega) (by omega)).mp z) (by omega)
    have c2 : (1 : Int32) ≤ nI (Nat.gcd a b) := (nIle (a := 1) (by omega) (by omega)).mpr (by omega)
    rw [if_neg c1, if_pos (show nI 0 = 0 from rfl), if_pos c2]
  · obtain ⟨rfl, hr', ha', hb'⟩ := hS
    refine ⟨_, ⟨rfl, by omega, hb', Nat.lt_of_lt_of_le (Nat.mod_lt _ h0) (by omega)⟩, ?_⟩
    show b_X7_greatestDivisor_2 N K (nI a') (nI b') (nI r) t = _
    unfold b_X7_greatestDivisor_2
    have c1 : ¬ (1000 : Int32) ≤ nI r := fun z => absurd ((nIle (a := 1000) (by omega) (by omega)).mp z) (by omega)
    have c2 : ¬ nI b' = 0 := fun z => absurd ((nIeq (b := 0) (by omega) (by omega)).mp z) (by omega)
    rw [if_neg c1, if_neg c2, if_pos c2, pk_rem (by omega) h0 (by omega), nI_1]
theorem p_divR {N a b w : Nat} {t : Mm} (hN : 300 ≤ N) (hw : w < 2) (ha : a < 2000000) (hb0 : 0 < b) (hb : b < 131072) : f_X8_cramp_232 N (nI w) (nI a) (nI b) (nI a) (nI b) t = some (nI ((if w = 0 then a else b) / Nat.gcd a b), t) := by
  have hg0 : 0 < Nat.gcd a b := Nat.gcd_pos_of_pos_right a hb0
  have hgb : Nat.gcd a b ≤ b := Nat.gcd_le_right a hb0
  refine lp_gcd (body := fun k x => b_X8_cramp_232 N k x.1 x.2.1 x.2.2.1 x.2.2.2.1 x.2.2.2.2.1 x.2.2.2.2.2) (fun o => o = some (nI ((if w = 0 then a else b) / Nat.gcd a b), t)) (fun r a' b' x => x = (nI w, nI a, nI b, nI a', nI b', t) ∧ a' < 2000000 ∧ b' < 2000000) (Nat.gcd a b) (fun K r x hS => ?_) (fun K r a' b' x h0 hr hS => ?_) 17 N 0 a b _ hb (by omega) (by omega) rfl ⟨rfl, ha, by omega⟩
  · obtain ⟨rfl, -, -⟩ := hS
    show b_X8_cramp_232 N K (nI w) (nI a) (nI b) (nI (Nat.gcd a b)) (nI 0) t = _
    unfold b_X8_cramp_232
    have c2 : ¬ nI (Nat.gcd a b) = 0 := fun z => absurd ((nIeq (b := 0) (by omega) (by omega)).mp z) (by omega)
    rw [if_pos (show nI 0 = 0 from rfl), if_pos c2, if_pos c2, pk_div (by omega) hg0 (by omega), pk_div (by omega) hg0 (by omega)]
    rcases (show w = 0 ∨ w = 1 by omega) with rfl | rfl <;> rfl
  · obtain ⟨rfl, ha', hb'⟩ := hS
    refine ⟨_, ⟨rfl, hb', Nat.lt_of_lt_of_le (Nat.mod_lt _ h0) (by omega)⟩, ?_⟩
    show b_X8_cramp_232 N K (nI w) (nI a) (nI b) (nI a') (nI b') t = _
    unfold b_X8_cramp_232
    have c2 : ¬ nI b' = 0 := fun z => absurd ((nIeq (b := 0) (by omega) (by omega)).mp z) (by omega)
    rw [if_neg c2, if_pos c2, pk_rem (by omega) h0 (by omega)]
/-! the class's way -/
theorem p_power {N b e : Nat} {t : Mm} (hN : 300 ≤ N) (he : e ≤ 5) : f_X7_power N (nI b) (nI e) t = some (nI (b ^ e), t) := by
  refine lp_up (body := fun k x => b_X7_power_4 N k x.1 x.2.1 x.2.2.1 x.2.2.2.1 x.2.2.2.2) (fun o => o = some (nI (b ^ e), t)) (fun k x => x = (nI b, nI e, nI (b ^ k), nI k, t)) e (fun K x hx => ?_) (fun K k x hk hx => ?_) N 0 (nI b, nI e, 1, 0, t) (by omega) (by omega) rfl
  · subst hx
    show b_X7_power_4 N K (nI b) (nI e) (nI (b ^ e)) (nI e) t = _
    unfold b_X7_power_4
    rw [if_pos Int32.le_rfl]
  · subst hx
    right
    refine ⟨_, rfl, ?_⟩
    show b_X7_power_4 N K (nI b) (nI e) (nI (b ^ k)) (nI k) t = _
    unfold b_X7_power_4
    have c1 : ¬ nI e ≤ nI k := fun z => absurd ((nIle (by omega) (by omega)).mp z) (by omega)
    rw [if_neg c1, pk_mul, nI_1, Nat.pow_succ]
def chz (u : Nat) : Nat → Nat
  | 0 => 1
  | k + 1 => chz u k * (u - k) / (k + 1)
def wyN (m u c x : Nat) : Nat → Nat
  | 0 => 0
  | k + 1 => if m ≤ x + k then wyN m u c x k + chz u k * c ^ k * (10 - c) ^ (u - k) else wyN m u c x k
theorem chz_lt : ∀ u, u < 6 → ∀ k, k < 7 → chz u k ≤ 10 := by decide +kernel
theorem wy_eq : ∀ u, u < 6 → ∀ m, m < 6 → ∀ c, c < 11 → ∀ x, x < 6 → wyN m u c x (u + 1) = Bw m c u x := by decide +kernel
theorem wy_lt : ∀ u, u < 6 → ∀ m, m < 6 → ∀ c, c < 11 → ∀ x, x < 6 → wyN m u c x (u + 1) ≤ 100000 := by decide +kernel
theorem p_ways {N m u c x : Nat} {t : Mm} (hN : 300 ≤ N) (hu : u ≤ 5) (hm : m ≤ 5) (hc : c ≤ 10) (hx : x ≤ 5) : f_X7_waysOfAtLeast N (nI m - nI x) (nI u) (nI c) t = some (nI (Bw m c u x), t) := by
  rw [← wy_eq u (by omega) m (by omega) c (by omega) x (by omega)]
  refine lp_up (body := fun k x => b_X7_waysOfAtLeast_8 N k x.1 x.2.1 x.2.2.1 x.2.2.2.1 x.2.2.2.2.1 x.2.2.2.2.2.1 x.2.2.2.2.2.2) (fun o => o = some (nI (wyN m u c x (u + 1)), t)) (fun k y => y = (nI m - nI x, nI u, nI c, nI (wyN m u c x k), nI (chz u k), nI k, t)) (u + 1) (fun K y hy => ?_) (fun K k y hk hy => ?_) N 0 (nI m - nI x, nI u, nI c, 0, 1, 0, t) (by omega) (by omega) rfl
  · subst hy
    show b_X7_waysOfAtLeast_8 N K (nI m - nI x) (nI u) (nI c) (nI (wyN m u c x (u + 1))) (nI (chz u (u + 1))) (nI (u + 1)) t = _
    unfold b_X7_waysOfAtLeast_8
    rw [if_pos ((nIlt (by omega) (by omega)).mpr (by omega))]
  · subst hy
    right
    refine ⟨_, rfl, ?_⟩
    show b_X7_waysOfAtLeast_8 N K (nI m - nI x) (nI u) (nI c) (nI (wyN m u c x k)) (nI (chz u k)) (nI k) t = _
    unfold b_X7_waysOfAtLeast_8 f_X7_waysOfAtLeast_44
    have c1 : ¬ nI u < nI k := fun z => absurd ((nIlt (by omega) (by omega)).mp z) (by omega)
    have c2 : nI k < nI m - nI x ↔ ¬ m ≤ x + k := by
      rw [Int32.lt_iff_toInt_lt, pk_sub_toInt (by omega) (by omega), nI_toInt (by omega)]
      omega
    have c3 : ¬ nI (k + 1) = 0 := fun z => absurd ((nIeq (b := 0) (by omega) (by omega)).mp z) (by omega)
    have hch := chz_lt u (by omega) k (by omega)
    have e1 : nI (chz u k) * (nI u - nI k) / nI (k + 1) = nI (chz u (k + 1)) := by
      rw [pk_sub (by omega), pk_mul, pk_div (by
        have h1 : chz u k * (u - k) ≤ 10 * 5 := Nat.mul_le_mul hch (by omega)
        omega) (by omega) (by omega)]
      rfl
    have e10 : (10 : Int32) - nI c = nI (10 - c) := pk_sub (a := 10) (by omega)
    have eu : nI u - nI k = nI (u - k) := pk_sub (by omega)
    simp only [if_neg c1, c2, nI_1, if_pos c3, o_nm, e1, p_power (N := N) (b := c) (e := k) hN (by omega), o_bd_some, e10]
    rw [eu, p_power hN (by omega), o_bd_some, wyN]
    by_cases g : m ≤ x + k
    · rw [if_neg (fun z => z g), if_pos g]
      simp only []
      rw [pk_mul, pk_mul, nI_add]
    · rw [if_pos g, if_neg g]
theorem ty_in {s : Sx} : ∀ n, n ≤ 9 → tyN (tyS s) 1 n + tyN (tyS s) 2 n = othN s 9 n
  | 0, _ => rfl
  | n + 1, h => by
    have ih := ty_in (s := s) n (by omega)
    rw [tyN, tyN, othN, if_neg (show ¬ n = 9 by omega)]
    unfold at1
    have : tyS s n = if s 6 n = 1 then (if s 7 n ≤ s 0 3 + 1 then 1 else 2) else 0 := rfl
    rw [this]
    by_cases e : s 6 n = 1
    · rw [if_pos e, if_pos e]
      split <;> simp <;> omega
    · rw [if_neg e, if_neg e]
      simp
      omega
theorem ty_le {y : Nat → Nat} {w : Nat} : ∀ n, tyN y w n ≤ n
  | 0 => Nat.le_refl 0
  | n + 1 => by
    have := ty_le (y := y) (w := w) n
    rw [tyN]
    split <;> omega
theorem p_leave {N i : Nat} {t : Mm} {s : Sx} (hN : 300 ≤ N) (hs : wfS s) (hh : s 0 3 ≤ 20000) (hF : FR (t.1 0 i) s) : f_X0_howManyLeaveNext N i t = some (nI (tyN (tyS s) 1 (s 0 1)), t) := by
  have h5 := hs.2.1
  have e1 : t.1 0 i 0 1 = nI (s 0 1) := hF.1.2.1
  have e3 : t.1 0 i 0 3 = nI (s 0 3) := hF.1.2.2.2.1
  refine lp_up (body := fun k x => b_X0_howManyLeaveNext_4 N i k x.1 x.2.1 x.2.2) (fun o => o = some (nI (tyN (tyS s) 1 (s 0 1)), t)) (fun k x => x = (nI (tyN (tyS s) 1 k), nI k, t)) (s 0 1) (fun K x hx => ?_) (fun K k x hk hx => ?_) N 0 (0, 0, t) (by omega) (by omega) rfl
  · subst hx
    show b_X0_howManyLeaveNext_4 N i K (nI (tyN (tyS s) 1 (s 0 1))) (nI (s 0 1)) t = _
    unfold b_X0_howManyLeaveNext_4
    rw [e1, if_pos Int32.le_rfl]
  · subst hx
    right
    refine ⟨_, rfl, ?_⟩
    show b_X0_howManyLeaveNext_4 N i K (nI (tyN (tyS s) 1 k)) (nI k) t = _
    unfold b_X0_howManyLeaveNext_4 f_X0_howManyLeaveNext_40
    have c1 : ¬ nI (s 0 1) ≤ nI k := fun z => absurd ((nIle (by omega) (by omega)).mp z) (by omega)
    have i1 : o_inb (nI k) 5 = true := inb_nI (by omega) (by omega)
    obtain ⟨u3, u4, u5, u6, u7⟩ := hF.2.2 k hk
    obtain ⟨f3, f4, f5, f6, f7⟩ := hs.2.2.2.2.2 k hk
    have c6 : nI (s 6 k) = 1 ↔ s 6 k = 1 := nIeq (b := 1) (by omega) (by omega)
    simp only [e1, e3, if_neg c1, if_pos i1, cl_nI (show k < 2147483648 by omega), u6, nI_1]
    have hty : tyS s k = if s 6 k = 1 then (if s 7 k ≤ s 0 3 + 1 then 1 else 2) else 0 := rfl
    rw [tyN, hty]
    by_cases e : s 6 k = 1
    · rw [if_pos (c6.mpr e), u7 e, if_pos e]
      have c7 : nI (s 0 3 + 1) < nI (s 7 k) ↔ s 0 3 + 1 < s 7 k := nIlt (by omega) (by have := f7 e; omega)
      by_cases g : s 0 3 + 1 < s 7 k
      · rw [if_pos (c7.mpr g), if_neg (show ¬ s 7 k ≤ s 0 3 + 1 by omega)]
        rfl
      · rw [if_neg (fun z => g (c7.mp z)), if_pos (show s 7 k ≤ s 0 3 + 1 by omega)]
        rfl
    · rw [if_neg (fun z => e (c6.mp z)), if_neg e]
      rfl
theorem p_crampC {N m c w : Nat} {t : Mm} {s : Sx} (hN : 300 ≤ N) (hm : m ≤ 5) (hc : c ≤ 10) (hw : w < 2) (hs : wfS s) (hh : s 0 3 ≤ 20000) (hF : FR (t.1 0 0) s) : f_X7_cramp N (nI m) (nI c) (nI w) t = some (nI ((if w = 0 then Bw m c (tyN (tyS s) 1 (s 0 1)) (tyN (tyS s) 2 (s 0 1)) else 10 ^ tyN (tyS s) 1 (s 0 1)) / Nat.gcd (Bw m c (tyN (tyS s) 1 (s 0 1)) (tyN (tyS s) 2 (s 0 1))) (10 ^ tyN (tyS s) 1 (s 0 1))), t) := by
  have h5 := hs.2.1
  have hA := (p_out (a := nI m) (lo := 0) (hi := 5) (l := 0) (h := 5) t rfl rfl).1 ((nI_inR (by omega)).mpr (by omega))
  have hB := (p_out (a := nI c) (lo := 0) (hi := 10) (l := 0) (h := 10) t rfl rfl).1 ((nI_inR (by omega)).mpr (by omega))
  have hC := (p_out (a := nI w) (lo := 0) (hi := 1) (l := 0) (h := 1) t rfl rfl).1 ((nI_inR (by omega)).mpr (by omega))
  have ht1 : f_X0_thoseWho N (9 * 0) 1 t = _ := p_those (N := N) (i := 9 * 0) (w := 1) (t := t) (s := s) hN hs (by omega) hF
  have hty := ty_in (s := s) (s 0 1) (by omega)
  have l1 := ty_le (y := tyS s) (w := 1) (s 0 1)
  have l2 := ty_le (y := tyS s) (w := 2) (s 0 1)
  unfold f_X7_cramp f_X7_cramp_102
  rw [hA, o_bd_some]
  simp only [ite_true]
  rw [hB, o_bd_some]
  simp only [ite_true]
  rw [hC, o_bd_some]
  simp only [ite_true]
  rw [p_leave (i := 9 * 0) hN hs hh hF, o_bd_some]
  simp only []
  rw [ht1, o_bd_some]
  simp only []
  rw [p_bitc (set_lt5 h5), o_bd_some, pc_set h5, ← hty]
  simp only []
  generalize tyN (tyS s) 1 (s 0 1) = U at *
  generalize tyN (tyS s) 2 (s 0 1) = V at *
  rw [pk_sub (show U ≤ U + V by omega), Nat.add_sub_cancel_left, p_ways hN (by omega) hm hc (by omega), o_bd_some]
  simp only []
  have p10 : f_X7_power N 10 (nI U) t = some (nI (10 ^ U), t) := p_power (b := 10) hN (by omega)
  rw [p10, o_bd_some]
  simp only []
  have hBl : Bw m c U V ≤ 100000 := by
    rw [← wy_eq U (by omega) m (by omega) c (by omega) V (by omega)]
    exact wy_lt U (by omega) m (by omega) c (by omega) V (by omega)
  have hpl : 10 ^ U ≤ 10 ^ 5 := Nat.pow_le_pow_right (by decide) (by omega)
  have hpp : 0 < 10 ^ U := Nat.pow_pos (by decide)
  have hg0 : 0 < Nat.gcd (Bw m c U V) (10 ^ U) := Nat.gcd_pos_of_pos_right _ hpp
  have hgb : Nat.gcd (Bw m c U V) (10 ^ U) ≤ 10 ^ U := Nat.gcd_le_right _ hpp
  rw [p_divC hN (by omega) hpp (by omega), o_bd_some]
  have c2 : ¬ nI (Nat.gcd (Bw m c U V) (10 ^ U)) = 0 := fun z => absurd ((nIeq (b := 0) (by omega) (by omega)).mp z) (by omega)
  simp only [if_pos c2]
  rw [pk_div (by omega) hg0 (by omega), pk_div (by omega) hg0 (by omega)]
  rcases (show w = 0 ∨ w = 1 by omega) with rfl | rfl <;> rfl
/-! the reference's way -/
theorem p_cr65 {N m c w A B set : Nat} {v : Mm} {s : Sx} (hN : 300 ≤ N) (hm : m ≤ 5) (hc : c ≤ 10) (hset : set < 32) (hs : wfS s) (hh : s 0 3 ≤ 9999) (hR : RR (v.1 9 0 0 0) (v.1 9 0 0 1) (v.1 9 0 2) (v.1 9 0 3) (v.1 9 0 4) s) (K8 : Int32 × Int32 × Int32 × Int32 × Int32 × Int32 × Mm → Option (Int32 × Mm)) : f_X8_cramp_65 N K8 (nI m) (nI c) (nI w) (nI A) (nI B) (nI set) 1 0 0 v = K8 (nI m, nI c, nI w, nI (A + (if m ≤ maN (tyS s) set (s 0 1) then chN (tyS s) c set (s 0 1) else 0)), nI (B + chN (tyS s) c set (s 0 1)), nI (set + 1), v) := by
  have h5 := hs.2.1
  have e1 : v.1 9 0 0 1 = nI (s 0 1) := hR.1.2.1
  have e29 : v.1 9 0 4 (Int32.toNatClampNeg 29) = nI (s 0 3) := hR.1.2.2.2.1
  have i29 : o_inb 29 31 = true := by decide
  refine lp_up (body := fun k x => b_X8_cramp_65 N K8 k x.1 x.2.1 x.2.2.1 x.2.2.2.1 x.2.2.2.2.1 x.2.2.2.2.2.1 x.2.2.2.2.2.2.1 x.2.2.2.2.2.2.2.1 x.2.2.2.2.2.2.2.2.1 x.2.2.2.2.2.2.2.2.2) (fun o => o = K8 (nI m, nI c, nI w, nI (A + (if m ≤ maN (tyS s) set (s 0 1) then chN (tyS s) c set (s 0 1) else 0)), nI (B + chN (tyS s) c set (s 0 1)), nI (set + 1), v)) (fun k x => x = (nI m, nI c, nI w, nI A, nI B, nI set, nI (chN (tyS s) c set k), nI (maN (tyS s) set k), nI k, v) ∧ maN (tyS s) set k ≤ k) (s 0 1) (fun K x hx => ?_) (fun K k x hk hx => ?_) N 0 (nI m, nI c, nI w, nI A, nI B, nI set, 1, 0, 0, v) (by omega) (by omega) ⟨rfl, Nat.le_refl 0⟩
  · obtain ⟨rfl, hma⟩ := hx
    show b_X8_cramp_65 N K8 K (nI m) (nI c) (nI w) (nI A) (nI B) (nI set) (nI (chN (tyS s) c set (s 0 1))) (nI (maN (tyS s) set (s 0 1))) (nI (s 0 1)) v = _
    unfold b_X8_cramp_65 f_X8_cramp_215
    have c2 : nI (maN (tyS s) set (s 0 1)) < nI m ↔ maN (tyS s) set (s 0 1) < m := nIlt (by omega) (by omega)
    rw [e1, if_pos Int32.le_rfl]
    simp only [c2, nI_add, nI_1]
    by_cases g : maN (tyS s) set (s 0 1) < m
    · rw [if_pos g, if_neg (by omega)]
      show K8 (_, _, _, nI A + nI 0, _, _, v) = _
      rw [nI_add]
    · rw [if_neg g, if_pos (by omega)]
  · obtain ⟨rfl, hma⟩ := hx
    right
    have c1 : ¬ nI (s 0 1) ≤ nI k := fun z => absurd ((nIle (by omega) (by omega)).mp z) (by omega)
    obtain ⟨i19, l19⟩ := lit19 (k := k) (by omega) 19 (by omega)
    have i19 : o_inb (19 + nI k) 31 = true := i19
    have l19 : ((19 : Int32) + nI k).toNatClampNeg = 19 + k := l19
    obtain ⟨i24, l24⟩ := lit19 (k := k) (by omega) 24 (by omega)
    have i24 : o_inb (24 + nI k) 31 = true := i24
    have l24 : ((24 : Int32) + nI k).toNatClampNeg = 24 + k := l24
    obtain ⟨u3, u4, u5, u6, u7⟩ := hR.2.2.1 k hk
    obtain ⟨f3, f4, f5, f6, f7⟩ := hs.2.2.2.2.2 k hk
    have c6 : nI (s 6 k) = 1 ↔ s 6 k = 1 := nIeq (b := 1) (by omega) (by omega)
    have hty : tyS s k = if s 6 k = 1 then (if s 7 k ≤ s 0 3 + 1 then 1 else 2) else 0 := rfl
    have e10 : (10 : Int32) - nI c = nI (10 - c) := pk_sub (a := 10) (by omega)
    refine ⟨_, ⟨rfl, ?_⟩, ?_⟩
    · rw [maN]
      have : mt (tyS s k) (set / 2 ^ k % 2) ≤ 1 := by
        unfold mt
        repeat' split
        all_goals omega
      omega
    · show b_X8_cramp_65 N K8 K (nI m) (nI c) (nI w) (nI A) (nI B) (nI set) (nI (chN (tyS s) c set k)) (nI (maN (tyS s) set k)) (nI k) v = _
      unfold b_X8_cramp_65 f_X8_cramp_93 f_X8_cramp_137 f_X8_cramp_167 f_X8_cramp_184 f_X8_cramp_185
      simp only [e1, if_neg c1, if_pos i19, l19, u6, c6, if_pos i24, l24, e29, if_pos i29, nI_1, e10]
      rw [p_has (by omega) (by omega), o_bd_some, chN, maN, hty]
      have hz : ∀ x y : Nat, nI x + (0 : Int32) = nI x := fun x y => nI_add x 0
      by_cases e : s 6 k = 1
      · rw [if_pos e, if_pos e, u7 e]
        have h7 := f7 e
        have c7 : ∀ d : Nat, d ≤ 1 → (nI (s 7 k + d) ≤ nI (s 0 3 + 1) ↔ s 7 k + d ≤ s 0 3 + 1) := fun d hd => nIle (by omega) (by omega)
        have c70 : nI (s 7 k) ≤ nI (s 0 3 + 1) ↔ s 7 k ≤ s 0 3 + 1 := c7 0 (by omega)
        have c71 : nI (s 7 k + 1) ≤ nI (s 0 3 + 1) ↔ s 7 k + 1 ≤ s 0 3 + 1 := c7 1 (by omega)
        rcases bit01 (m := set) (k := k) with b | b
        · rw [b]
          simp only [if_pos (show nI 0 = 0 from rfl), if_neg one_ne, e29, nI_1, c70, pk_mul, hz _ 0]
          by_cases g : s 7 k ≤ s 0 3 + 1
          · rw [if_pos g, if_pos g]
            rfl
          · rw [if_neg g, if_neg g]
            rfl
        · rw [b]
          simp only [if_neg (show ¬ nI 1 = 0 by decide), if_neg one_ne, e29, nI_1, c71, pk_mul]
          rw [if_neg (show ¬ s 7 k + 1 ≤ s 0 3 + 1 by omega)]
          by_cases g : s 7 k ≤ s 0 3 + 1
          · rw [if_pos g]
            rfl
          · rw [if_neg g]
            rfl
      · rw [if_neg e, if_neg e]
        rcases bit01 (m := set) (k := k) with b | b
        · rw [b]
          simp only [if_pos (show nI 0 = 0 from rfl), ite_true, show (1 : Int32) = nI 1 from rfl, pk_mul]
          rw [hz _ 0]
          rfl
        · rw [b]
          simp only [if_neg (show ¬ nI 1 = 0 by decide), ite_true]
          rw [hz _ 0, show (0 : Int32) = nI 0 from rfl, pk_mul]
          rfl
theorem p_cr45 {N m c w : Nat} {v : Mm} {s : Sx} (hN : 300 ≤ N) (hm : m ≤ 5) (hc : c ≤ 10) (hw : w < 2) (hs : wfS s) (hh : s 0 3 ≤ 9999) (hR : RR (v.1 9 0 0 0) (v.1 9 0 0 1) (v.1 9 0 2) (v.1 9 0 3) (v.1 9 0 4) s) : f_X8_cramp_45 N (nI m) (nI c) (nI w) 0 0 0 v = f_X8_cramp_232 N (nI w) (nI (sm (fun set => if m ≤ maN (tyS s) set (s 0 1) then chN (tyS s) c set (s 0 1) else 0) (2 ^ s 0 1))) (nI (sm (fun set => chN (tyS s) c set (s 0 1)) (2 ^ s 0 1))) (nI (sm (fun set => if m ≤ maN (tyS s) set (s 0 1) then chN (tyS s) c set (s 0 1) else 0) (2 ^ s 0 1))) (nI (sm (fun set => chN (tyS s) c set (s 0 1)) (2 ^ s 0 1))) v := by
  have h5 := hs.2.1
  have e1 : v.1 9 0 0 1 = nI (s 0 1) := hR.1.2.1
  have h32 : 2 ^ s 0 1 ≤ 2 ^ 5 := Nat.pow_le_pow_right (by decide) h5
  generalize hF : (fun set => if m ≤ maN (tyS s) set (s 0 1) then chN (tyS s) c set (s 0 1) else 0) = F
  generalize hG : (fun set => chN (tyS s) c set (s 0 1)) = G
  refine lp_up (body := fun k x => b_X8_cramp_45 N k x.1 x.2.1 x.2.2.1 x.2.2.2.1 x.2.2.2.2.1 x.2.2.2.2.2.1 x.2.2.2.2.2.2) (fun o => o = f_X8_cramp_232 N (nI w) (nI (sm F (2 ^ s 0 1))) (nI (sm G (2 ^ s 0 1))) (nI (sm F (2 ^ s 0 1))) (nI (sm G (2 ^ s 0 1))) v) (fun k x => x = (nI m, nI c, nI w, nI (sm F k), nI (sm G k), nI k, v)) (2 ^ s 0 1) (fun K x hx => ?_) (fun K k x hk hx => ?_) N 0 (nI m, nI c, nI w, 0, 0, 0, v) (Nat.zero_le _) (by omega) rfl
  · subst hx
    show b_X8_cramp_45 N K (nI m) (nI c) (nI w) (nI (sm F (2 ^ s 0 1))) (nI (sm G (2 ^ s 0 1))) (nI (2 ^ s 0 1)) v = _
    unfold b_X8_cramp_45
    rw [e1, nI_shl1 (by omega), if_pos Int32.le_rfl]
  · subst hx
    right
    refine ⟨_, rfl, ?_⟩
    show b_X8_cramp_45 N K (nI m) (nI c) (nI w) (nI (sm F k)) (nI (sm G k)) (nI k) v = _
    unfold b_X8_cramp_45
    have c1 : ¬ nI (2 ^ s 0 1) ≤ nI k := fun z => absurd ((nIle (by omega) (by omega)).mp z) (by omega)
    rw [e1, nI_shl1 (by omega), if_neg c1, p_cr65 hN hm hc (by omega) hs hh hR, sm, sm, ← hF, ← hG]
theorem op_cramp (N : Nat) (hN : 300 ≤ N) : Op_cramp N Rel := by
  intro u v h a0 a1 a2
  obtain ⟨⟨⟨s, w1, w2, w3, w4⟩, hU⟩, -, -, -, h17, h19⟩ := id h
  by_cases h0 : inR a0 0 5
  · by_cases h1 : inR a1 0 10
    · by_cases h2 : inR a2 0 1
      · obtain ⟨m, rfl, -, hm, hm2⟩ := inR_nat h0 (by omega)
        obtain ⟨c, rfl, -, hc, hc2⟩ := inR_nat h1 (by omega)
        obtain ⟨w, rfl, -, hw, hw2⟩ := inR_nat h2 (by omega)
        rw [p_crampC hN (show m ≤ 5 by omega) (show c ≤ 10 by omega) (show w < 2 by omega) w1 (by omega) w3]
        refine ⟨_, u, v, rfl, ?_, h⟩
        unfold f_X8_cramp
        have hB0 := p_in (a := nI m) (lo := 0) (hi := 5) (l := 0) (h := 5) v rfl rfl
        have hB1 := p_in (a := nI c) (lo := 0) (hi := 10) (l := 0) (h := 10) v rfl rfl
        have hB2 := p_in (a := nI w) (lo := 0) (hi := 1) (l := 0) (h := 1) v rfl rfl
        rw [hB0.1 h0, o_bd_some]
        simp only [if_neg one_ne]
        rw [hB1.1 h1, o_bd_some]
        simp only [if_neg one_ne]
        rw [hB2.1 h2, o_bd_some]
        simp only [if_neg one_ne]
        rw [p_cr45 hN (by omega) (by omega) (by omega) w1 w2 w4]
        have hy : ∀ k, k < s 0 1 → tyS s k ≤ 2 := fun k _ => by
          unfold tyS
          repeat' split
          all_goals omega
        have hA := cr_sum (y := tyS s) (m := m) (c := c) (by omega) (s 0 1) 0 hy
        have hBb := cr_sum (y := tyS s) (m := 0) (c := c) (by omega) (s 0 1) 0 hy
        simp only [Nat.zero_add, Nat.zero_le, ite_true] at hA hBb
        rw [hA, hBb, Bw_0 (by omega)]
        have l1 := ty_le (y := tyS s) (w := 1) (s 0 1)
        have l2 := ty_le (y := tyS s) (w := 2) (s 0 1)
        have hty := ty_in (s := s) (s 0 1) (by have := w1.2.1; omega)
        have hot := othN_le s 9 (s 0 1)
        have h5 := w1.2.1
        generalize tyN (tyS s) 1 (s 0 1) = U at *
        generalize tyN (tyS s) 2 (s 0 1) = V at *
        have hBl : Bw m c U V ≤ 10 ^ U := by
          have : ∀ u, u < 6 → ∀ m, m < 6 → ∀ c, c < 11 → ∀ x, x < 6 → Bw m c u x ≤ 10 ^ u := by decide +kernel
          exact this U (by omega) m (by omega) c (by omega) V (by omega)
        have hp : 10 ^ V * 10 ^ U ≤ 10 ^ 5 := by
          rw [← Nat.pow_add]
          exact Nat.pow_le_pow_right (by decide) (by omega)
        have hq : 10 ^ V * Bw m c U V ≤ 10 ^ V * 10 ^ U := Nat.mul_le_mul_left _ hBl
        have hpV : 0 < 10 ^ V := Nat.pow_pos (by decide)
        have hpp : 0 < 10 ^ V * 10 ^ U := Nat.mul_pos hpV (Nat.pow_pos (by decide))
        rw [p_divR hN (by omega) (by omega) hpp (by omega), Nat.gcd_mul_left]
        rcases (show w = 0 ∨ w = 1 by omega) with rfl | rfl
        · rw [if_pos rfl, if_pos rfl, Nat.mul_div_mul_left _ _ hpV]
        · rw [if_neg (by decide), if_neg (by decide), Nat.mul_div_mul_left _ _ hpV]
      · unfold f_X7_cramp f_X8_cramp
        rw [(p_out (a := a0) (lo := 0) (hi := 5) (l := 0) (h := 5) u rfl rfl).1 h0, (p_in (a := a0) (lo := 0) (hi := 5) (l := 0) (h := 5) v rfl rfl).1 h0, o_bd_some, o_bd_some]
        simp only [if_neg one_ne, ite_true]
        rw [(p_out (a := a1) (lo := 0) (hi := 10) (l := 0) (h := 10) u rfl rfl).1 h1, (p_in (a := a1) (lo := 0) (hi := 10) (l := 0) (h := 10) v rfl rfl).1 h1, o_bd_some, o_bd_some]
        simp only [if_neg one_ne, ite_true]
        rw [(p_out (a := a2) (lo := 0) (hi := 1) (l := 0) (h := 1) u rfl rfl).2 h2, (p_in (a := a2) (lo := 0) (hi := 1) (l := 0) (h := 1) v rfl rfl).2 h2, o_bd_some, o_bd_some]
        exact ⟨-1, u, v, rfl, rfl, h⟩
    · unfold f_X7_cramp f_X8_cramp
      rw [(p_out (a := a0) (lo := 0) (hi := 5) (l := 0) (h := 5) u rfl rfl).1 h0, (p_in (a := a0) (lo := 0) (hi := 5) (l := 0) (h := 5) v rfl rfl).1 h0, o_bd_some, o_bd_some]
      simp only [if_neg one_ne, ite_true]
      rw [(p_out (a := a1) (lo := 0) (hi := 10) (l := 0) (h := 10) u rfl rfl).2 h1, (p_in (a := a1) (lo := 0) (hi := 10) (l := 0) (h := 10) v rfl rfl).2 h1, o_bd_some, o_bd_some]
      exact ⟨-1, u, v, rfl, rfl, h⟩
  · unfold f_X7_cramp f_X8_cramp
    rw [(p_out (a := a0) (lo := 0) (hi := 5) (l := 0) (h := 5) u rfl rfl).2 h0, (p_in (a := a0) (lo := 0) (hi := 5) (l := 0) (h := 5) v rfl rfl).2 h0, o_bd_some, o_bd_some]
    exact ⟨-1, u, v, rfl, rfl, h⟩
