/-! reading a ford: what is read -/
def lt' (n : Nat) (ch : Nat → Nat) (q : Nat) : Nat := if q < n then ch q else 0
def skf (n : Nat) (ch : Nat → Nat) : Nat → Nat → Nat
  | 0, p => p
  | m + 1, p => if lt' n ch p = 32 then skf n ch m (p + 1) else p
def sk (n : Nat) (ch : Nat → Nat) (p : Nat) : Nat := skf n ch 91 p
def okT (n : Nat) (ch : Nat → Nat) : Prop := n ≤ 90 ∧ ∀ k, k < n → 32 ≤ ch k ∧ ch k ≤ 126
theorem lt_n {n : Nat} {ch : Nat → Nat} {q : Nat} (h : lt' n ch q ≠ 0) : q < n := by
  unfold lt' at h
  rcases Nat.lt_or_ge q n with z | z
  · exact z
  · rw [if_neg (by omega)] at h
    exact absurd rfl h
theorem lt_le {n : Nat} {ch : Nat → Nat} (hT : okT n ch) (q : Nat) : lt' n ch q ≤ 126 := by
  unfold lt'
  split
  · rename_i h
    exact (hT.2 q h).2
  · omega
theorem ltz {n : Nat} {ch : Nat → Nat} (hT : okT n ch) {q : Nat} (h : lt' n ch q = 0) : n ≤ q := by
  rcases Nat.lt_or_ge q n with z | z
  · unfold lt' at h
    rw [if_pos z] at h
    have := (hT.2 q z).1
    omega
  · exact z
theorem skf_le {n : Nat} {ch : Nat → Nat} : ∀ m p, p ≤ n → skf n ch m p ≤ n
  | 0, p, h => h
  | m + 1, p, h => by
    rw [skf]
    split
    · rename_i e
      have := lt_n (n := n) (ch := ch) (q := p) (by rw [e]; decide)
      exact skf_le m (p + 1) (by omega)
    · exact h
theorem sk_le {n : Nat} {ch : Nat → Nat} {p : Nat} (h : p ≤ n) : sk n ch p ≤ n := skf_le 91 p h
theorem skf_nb {n : Nat} {ch : Nat → Nat} : ∀ m p, n < p + m → lt' n ch (skf n ch m p) ≠ 32
  | 0, p, h => by
    show lt' n ch p ≠ 32
    unfold lt'
    rw [if_neg (by omega)]
    decide
  | m + 1, p, h => by
    rw [skf]
    split
    · exact skf_nb m (p + 1) (by omega)
    · rename_i e
      exact e
theorem sk_nb {n : Nat} {ch : Nat → Nat} (hT : okT n ch) (p : Nat) : lt' n ch (sk n ch p) ≠ 32 := skf_nb 91 p (by have := hT.1; omega)
theorem sk_id {n : Nat} {ch : Nat → Nat} {p : Nat} (h : lt' n ch p ≠ 32) : sk n ch p = p := if_neg h
theorem sk_sk {n : Nat} {ch : Nat → Nat} (hT : okT n ch) (p : Nat) : sk n ch (sk n ch p) = sk n ch p := sk_id (sk_nb hT p)
def isT (L : Nat) : Prop := 97 ≤ L ∧ L ≤ 104
def isTd (L : Nat) : Decidable (isT L) := inferInstanceAs (Decidable (97 ≤ L ∧ L ≤ 104))
abbrev Rs : Type := Nat ⊕ (Nat × Sx)
def adQ (s : Sx) (T H a : Nat) : Sx := fun r k => if r = 0 ∧ k = 0 then s 0 0 + 1 else if r = 0 ∧ k = 2 then (if a = 1 then s 0 2 ||| 2 ^ s 0 0 else s 0 2) else if r = 1 ∧ k = s 0 0 then T else if r = 2 ∧ k = s 0 0 then H else s r k
def adC (s : Sx) (K W C : Nat) : Sx := fun r k => if r = 0 ∧ k = 1 then s 0 1 + 1 else if r = 3 ∧ k = s 0 1 then K else if r = 4 ∧ k = s 0 1 then W else if r = 5 ∧ k = s 0 1 then C else s r k
def WX (s : Sx) : Prop := s 0 0 ≤ 8 ∧ s 0 1 ≤ 5 ∧ s 0 2 < 2 ^ s 0 0 ∧ (∀ k, k < s 0 0 → s 1 k < 8 ∧ 1 ≤ s 2 k ∧ s 2 k ≤ 9) ∧ ∀ k, k < s 0 1 → s 3 k < 5 ∧ s 4 k < 256 ∧ s 5 k ≤ 40
def FX (v : Nat → Nat → Int32) (s : Sx) : Prop := (v 0 0 = nI (s 0 0) ∧ v 0 1 = nI (s 0 1) ∧ v 0 2 = nI (s 0 2) ∧ v 0 3 = 0) ∧ (∀ k, k < s 0 0 → v 1 k = nI (s 1 k) ∧ v 2 k = nI (s 2 k)) ∧ ∀ k, k < s 0 1 → v 3 k = nI (s 3 k) ∧ v 4 k = nI (s 4 k) ∧ v 5 k = nI (s 5 k) ∧ v 6 k = 0
def RX (q c : Int32) (tp kd w : Nat → Int32) (s : Sx) : Prop := (q = nI (s 0 0) ∧ c = nI (s 0 1) ∧ w 0 = nI (s 0 2) ∧ w 29 = 0) ∧ (∀ k, k < s 0 0 → tp k = nI (s 1 k) ∧ w (1 + k) = nI (s 2 k)) ∧ (∀ k, k < s 0 1 → kd k = nI (s 3 k) ∧ w (9 + k) = nI (s 4 k) ∧ w (14 + k) = nI (s 5 k)) ∧ ∀ k, k < 5 → w (19 + k) = 0
theorem adQ_1 {s : Sx} {T H a k : Nat} : adQ s T H a 1 k = if k = s 0 0 then T else s 1 k := by simp [adQ]
theorem adQ_2 {s : Sx} {T H a k : Nat} : adQ s T H a 2 k = if k = s 0 0 then H else s 2 k := by simp [adQ]
theorem adC_3 {s : Sx} {K W C k : Nat} : adC s K W C 3 k = if k = s 0 1 then K else s 3 k := by simp [adC]
theorem adC_4 {s : Sx} {K W C k : Nat} : adC s K W C 4 k = if k = s 0 1 then W else s 4 k := by simp [adC]
theorem adC_5 {s : Sx} {K W C k : Nat} : adC s K W C 5 k = if k = s 0 1 then C else s 5 k := by simp [adC]
theorem WX_Q {s : Sx} {T H a : Nat} (h : WX s) (h8 : s 0 0 < 8) (hT : T < 8) (hH : 1 ≤ H ∧ H ≤ 9) : WX (adQ s T H a) := by
  obtain ⟨a1, a2, a3, a4, a5⟩ := h
  refine ⟨by show s 0 0 + 1 ≤ 8; omega, a2, ?_, fun k hk => ?_, fun k hk => a5 k hk⟩
  · show (if a = 1 then s 0 2 ||| 2 ^ s 0 0 else s 0 2) < 2 ^ (s 0 0 + 1)
    have hp : 2 ^ s 0 0 < 2 ^ (s 0 0 + 1) := Nat.pow_lt_pow_right (by decide) (by omega)
    split
    · exact Nat.or_lt_two_pow (by omega) hp
    · omega
  · have hk : k < s 0 0 + 1 := hk
    rw [adQ_1, adQ_2]
    by_cases e : k = s 0 0
    · simp only [if_pos e]
      exact ⟨hT, hH⟩
    · simp only [if_neg e]
      exact a4 k (by omega)
theorem WX_C {s : Sx} {K W C : Nat} (h : WX s) (h5 : s 0 1 < 5) (hK : K < 5) (hW : W < 256) (hC : C ≤ 40) : WX (adC s K W C) := by
  obtain ⟨a1, a2, a3, a4, a5⟩ := h
  refine ⟨a1, by show s 0 1 + 1 ≤ 5; omega, a3, fun k hk => a4 k hk, fun k hk => ?_⟩
  have hk : k < s 0 1 + 1 := hk
  rw [adC_3, adC_4, adC_5]
  by_cases e : k = s 0 1
  · simp only [if_pos e]
    exact ⟨hK, hW, hC⟩
  · simp only [if_neg e]
    exact a5 k (by omega)
theorem FX_rd {v w : Nat → Nat → Int32} {s : Sx} (h : FX v s) (e : w = v) : FX w s := by rw [e]; exact h
/-! the class's reader -/
def TP (u : Mm) (n : Nat) (ch : Nat → Nat) : Prop := okT n ch ∧ u.1 3 1 0 1 = nI n ∧ ∀ k, k < n → u.1 3 2 0 k = nI (ch k)
theorem TP.mv {u t : Mm} {n : Nat} {ch : Nat → Nat} (h : TP u n ch) (h1 : t.1 3 1 = u.1 3 1) (h2 : t.1 3 2 = u.1 3 2) : TP t n ch := by
  unfold TP
  rw [h1, h2]
  exact h
def f33 (t t' : Mm) : Prop := (∀ a b, ¬ (a = 3 ∧ b = 3) → t'.1 a b = t.1 a b) ∧ t'.2 = t.2
theorem f33.tr {t t' t'' : Mm} (h : f33 t t') (h' : f33 t' t'') : f33 t t'' := ⟨fun a b z => (h'.1 a b z).trans (h.1 a b z), h'.2.trans h.2⟩
theorem f33.rfl' (t : Mm) : f33 t t := ⟨fun _ _ _ => rfl, rfl⟩
theorem f33.sI (t : Mm) (j : Nat) (x : Int32) : f33 t (sI t 3 3 0 j x) := ⟨fun _ _ h => sI_nums h, rfl⟩
theorem f33.TP {t t' : Mm} {n : Nat} {ch : Nat → Nat} (h : f33 t t') (hT : TP t n ch) : TP t' n ch := hT.mv (h.1 3 1 (by omega)) (h.1 3 2 (by omega))
theorem char_ok {L : Nat} (h : L ≤ 126) : ((nI L).toUInt32 % 65536).toInt32 = nI L := by
  have : ∀ L, L < 127 → ((nI L).toUInt32 % 65536).toInt32 = nI L := by decide +kernel
  exact this L (by omega)
theorem c_here {t : Mm} {n p : Nat} {ch : Nat → Nat} (hT : TP t n ch) (hp : p ≤ n) (h : t.1 3 3 0 2 = nI p) : f_X2_letterHere t = some (nI (lt' n ch p), t) := by
  obtain ⟨⟨h90, hc⟩, h1, h2⟩ := hT
  unfold f_X2_letterHere
  have n0 : ¬ nI p < 0 := nI_pos (by omega)
  have z0 : ((0 : Int32).toUInt32 % 65536).toInt32 = 0 := by decide
  rw [h, if_neg n0, h1]
  have c : nI n ≤ nI p ↔ n ≤ p := nIle (by omega) (by omega)
  unfold lt'
  by_cases e : n ≤ p
  · rw [if_pos (c.mpr e), if_pos z0, if_neg (by omega)]
    rfl
  · have i1 : o_inb (nI p) 90 = true := inb_nI (by omega) (by omega)
    rw [if_neg (fun z => e (c.mp z)), if_pos i1, cl_nI (by omega), h2 p (by omega), char_ok (hc p (by omega)).2, if_pos rfl, if_pos (by omega)]
theorem c_next {N : Nat} {t : Mm} {n p : Nat} {ch : Nat → Nat} (hN : 300 ≤ N) (hT : TP t n ch) (hp : p ≤ n) (h : t.1 3 3 0 2 = nI p) : ∃ t', f_X2_nextLetter N t = some (nI (lt' n ch (sk n ch p)), t') ∧ f33 t t' ∧ t'.1 3 3 0 2 = nI (sk n ch p) := by
  have h90 := hT.1.1
  have h33 : ∀ (t1 : Mm) (q : Nat), TP t1 n ch → q ≤ n → t1.1 3 3 0 2 = nI q → f_X2_nextLetter_33 N t1 = some (nI (lt' n ch q), t1) := by
    intro t1 q a1 a2 a3
    unfold f_X2_nextLetter_33
    rw [c_here a1 a2 a3, o_bd_some]
    simp only [char_ok (lt_le hT.1 q), ite_true]
  refine lp_up (body := fun k x => b_X2_nextLetter_2 N k x.1 x.2) (fun o => ∃ t', o = some (nI (lt' n ch (sk n ch p)), t') ∧ f33 t t' ∧ t'.1 3 3 0 2 = nI (sk n ch p)) (fun k x => ∃ t1, x = (nI k, t1) ∧ f33 t t1 ∧ t1.1 3 3 0 2 = nI (p + k) ∧ p + k ≤ n ∧ sk n ch p = skf n ch (91 - k) (p + k)) 90 (fun K x hx => ?_) (fun K k x hk hx => ?_) N 0 (0, t) (by omega) (by omega) ⟨t, rfl, f33.rfl' t, h, hp, rfl⟩
  · obtain ⟨t1, rfl, a1, a2, a3, a4⟩ := hx
    have e : lt' n ch (p + 90) ≠ 32 := by
      unfold lt'
      rw [if_neg (by omega)]
      decide
    have a5 : sk n ch p = p + 90 := by
      rw [a4]
      exact if_neg e
    refine ⟨t1, ?_, a1, by rw [a5]; exact a2⟩
    show b_X2_nextLetter_2 N K (nI 90) t1 = _
    unfold b_X2_nextLetter_2
    rw [if_pos (by decide), h33 t1 (p + 90) (a1.TP hT) a3 a2, a5]
  · obtain ⟨t1, rfl, a1, a2, a3, a4⟩ := hx
    have c1 : ¬ (90 : Int32) ≤ nI k := fun z => absurd ((nIle (a := 90) (by omega) (by omega)).mp z) (by omega)
    have hl := lt_le hT.1 (p + k)
    have c32 : nI (lt' n ch (p + k)) = 32 ↔ lt' n ch (p + k) = 32 := nIeq (b := 32) (by omega) (by omega)
    rw [show 91 - k = (91 - (k + 1)) + 1 by omega, skf] at a4
    show (∃ t', b_X2_nextLetter_2 N K (nI k) t1 = _ ∧ _) ∨ ∃ x', _ ∧ b_X2_nextLetter_2 N K (nI k) t1 = _
    unfold b_X2_nextLetter_2
    rw [if_neg c1, c_here (a1.TP hT) a3 a2, o_bd_some]
    simp only [c32, a2, nI_1, o_nm]
    by_cases e : lt' n ch (p + k) = 32
    · right
      rw [if_pos e] at a4
      rw [if_pos e]
      have hlt := lt_n (n := n) (ch := ch) (q := p + k) (by omega)
      exact ⟨_, ⟨sI t1 3 3 0 2 (nI (p + k + 1)), rfl, a1.tr (f33.sI _ _ _), rfl, by omega, a4⟩, rfl⟩
    · left
      rw [if_neg e] at a4
      rw [if_neg e, h33 t1 (p + k) (a1.TP hT) a3 a2]
      exact ⟨t1, by rw [a4], a1, by rw [a4]; exact a2⟩
theorem c_acc {N x : Nat} {t : Mm} {n p : Nat} {ch : Nat → Nat} (hN : 300 ≤ N) (hx : 0 < x ∧ x ≤ 126) (hT : TP t n ch) (hp : p ≤ n) (h : t.1 3 3 0 2 = nI p) : ∃ t', f_X2_accepts N (nI x) t = some (if lt' n ch (sk n ch p) = x then 1 else 0, t') ∧ f33 t t' ∧ t'.1 3 3 0 2 = nI (if lt' n ch (sk n ch p) = x then sk n ch p + 1 else sk n ch p) := by
  obtain ⟨t1, b1, b2, b3⟩ := c_next hN hT hp h
  have hl := lt_le hT.1 (sk n ch p)
  have c : nI (lt' n ch (sk n ch p)) = nI x ↔ lt' n ch (sk n ch p) = x := nIeq (by omega) (by omega)
  unfold f_X2_accepts
  rw [b1, o_bd_some]
  simp only [c]
  by_cases e : lt' n ch (sk n ch p) = x
  · simp only [if_pos e, b3, nI_1, o_nm]
    exact ⟨_, rfl, b2.tr (f33.sI _ _ _), rfl⟩
  · simp only [if_neg e]
    exact ⟨t1, rfl, b2, b3⟩
theorem c_topic {L : Nat} (hL : L ≤ 126) (t : Mm) : f_X2_topicOf (nI L) t = some (if 97 ≤ L ∧ L ≤ 104 then nI (L - 97) else -4, t) := by
  unfold f_X2_topicOf
  have c1 : nI L < 97 ↔ L < 97 := nIlt (b := 97) (by omega) (by omega)
  have c2 : (104 : Int32) < nI L ↔ 104 < L := nIlt (a := 104) (by omega) (by omega)
  simp only [c1, c2]
  by_cases e1 : L < 97
  · rw [if_pos e1, if_neg (by omega)]
  · rw [if_neg e1]
    by_cases e2 : 104 < L
    · rw [if_pos e2, if_neg (by omega)]
    · rw [if_neg e2, if_pos (by omega), show (97 : Int32) = nI 97 from rfl, pk_sub (by omega)]
theorem c_digit {L : Nat} (hL : L ≤ 126) (t : Mm) : f_X2_digitOf (nI L) t = some (if 48 ≤ L ∧ L ≤ 57 then nI (L - 48) else -4, t) := by
  unfold f_X2_digitOf
  have c1 : nI L < 48 ↔ L < 48 := nIlt (b := 48) (by omega) (by omega)
  have c2 : (57 : Int32) < nI L ↔ 57 < L := nIlt (a := 57) (by omega) (by omega)
  simp only [c1, c2]
  by_cases e1 : L < 48
  · rw [if_pos e1, if_neg (by omega)]
  · rw [if_neg e1]
    by_cases e2 : 57 < L
    · rw [if_pos e2, if_neg (by omega)]
    · rw [if_neg e2, if_pos (by omega), show (48 : Int32) = nI 48 from rfl, pk_sub (by omega)]
/-- the kind by its letter, or five -/
def kdL (L : Nat) : Nat := if L = 112 then 0 else if L = 115 then 1 else if L = 114 then 2 else if L = 100 then 3 else if L = 103 then 4 else 5
def kdf (L : Nat) : Nat → Nat
  | 0 => 5
  | j + 1 => if psB (5 - (j + 1)) = nI L then 5 - (j + 1) else kdf L j
theorem kdf_eq : ∀ L, L < 127 → kdf L 5 = kdL L := by decide +kernel
theorem i8_ok : ∀ L, L < 127 → (nI L).toInt8.toInt32 = nI L := by decide +kernel
theorem c_kind {N L : Nat} (hN : 300 ≤ N) (hL : L ≤ 126) (t : Mm) : f_X2_kindOf N (nI L) t = some (if kdL L < 5 then nI (kdL L) else -4, t) := by
  have hi : f_J1_indexOfChar_4cfef_7 N 5 (nI L) 0 t = some (if kdf L 5 < 5 then nI (kdf L 5) else -1, t) := by
    obtain ⟨Z, hZ⟩ : ∃ Z, kdf L 5 = Z := ⟨_, rfl⟩
    rw [hZ]
    refine lp_up (body := fun k x => b_J1_indexOfChar_4cfef_7 N k x.1 x.2.1 x.2.2.1 x.2.2.2) (fun o => o = some (if Z < 5 then nI Z else -1, t)) (fun k x => x = (5, nI L, nI k, t) ∧ Z = kdf L (5 - k)) 5 (fun K x hx => ?_) (fun K k x hk hx => ?_) N 0 (5, nI L, 0, t) (by omega) (by omega) ⟨rfl, hZ.symm⟩
    · obtain ⟨rfl, a⟩ := hx
      show b_J1_indexOfChar_4cfef_7 N K 5 (nI L) (nI 5) t = _
      unfold b_J1_indexOfChar_4cfef_7
      rw [if_pos (by decide), a]
      rfl
    · obtain ⟨rfl, a⟩ := hx
      show (b_J1_indexOfChar_4cfef_7 N K 5 (nI L) (nI k) t = _) ∨ ∃ x', _ ∧ b_J1_indexOfChar_4cfef_7 N K 5 (nI L) (nI k) t = _
      unfold b_J1_indexOfChar_4cfef_7
      have c1 : ¬ (5 : Int32) ≤ nI k := fun z => absurd ((nIle (a := 5) (by omega) (by omega)).mp z) (by omega)
      have i1 : o_inb (nI k) 5 = true := inb_nI (by omega) (by omega)
      rw [show 5 - k = (5 - (k + 1)) + 1 by omega, kdf, show 5 - (5 - (k + 1) + 1) = k by omega] at a
      rw [if_neg c1, if_pos i1, cl_nI (by omega)]
      by_cases e : psB k = nI L
      · left
        rw [if_pos e] at a
        rw [if_pos e, a, if_pos hk]
      · right
        rw [if_neg e] at a
        rw [if_neg e, nI_1]
        exact ⟨_, ⟨rfl, a⟩, rfl⟩
  have hc : f_J1_canEncode_9a6ad (nI L) t = some (1, t) := by
    unfold f_J1_canEncode_9a6ad
    have c : ¬ (255 : Int32) < nI L := fun z => absurd ((nIlt (a := 255) (by omega) (by omega)).mp z) (by omega)
    rw [if_neg (nI_pos (by omega)), if_neg c]
  have h1 : f_J1_indexOf_4cfef N (nI L) 0 5 t = some (if kdf L 5 < 5 then nI (kdf L 5) else -1, t) := by
    unfold f_J1_indexOf_4cfef f_J1_indexOfChar_4cfef
    rw [hc, o_bd_some]
    simp only [if_neg one_ne, o_nm, if_neg (show ¬ (0 : Int32) < 0 by decide), if_neg (show ¬ (5 : Int32) < 5 by decide), if_pos (show (0 : Int32) < 5 by decide), i8_ok L (by omega), hi, o_bd_some]
  have h2 : f_J0_indexOf_0f7a4 N (nI L) t = some (if kdf L 5 < 5 then nI (kdf L 5) else -1, t) := by
    unfold f_J0_indexOf_0f7a4 f_J0_indexOf_7cf53 f_J0_isLatin1_aae02 f_J0_length_8abf5 f_J0_coder_7d493
    simp only [if_neg one_ne, ite_true, o_bd_some]
    have e5 : (5 : Int32) >>> ((0 : Int32) &&& 31) = 5 := by decide
    rw [e5, h1]
    rfl
  unfold f_X2_kindOf
  rw [h2, o_bd_some, kdf_eq L (by omega)]
  by_cases e : kdL L < 5
  · simp only [if_pos e, if_pos (show (0 : Int32) ≤ nI (kdL L) from nI_pos' (by omega))]
  · simp only [if_neg e, if_neg (show ¬ (0 : Int32) ≤ -1 by decide)]
