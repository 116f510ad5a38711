theorem two_dig (a b : Nat) : (10 : Int32) * nI a + nI b = nI (10 * a + b) := by
  rw [show (10 : Int32) = nI 10 from rfl, pk_mul, nI_add]
theorem c_63 {N a b : Nat} {t : Mm} (ha : a < 1000) : (a ≤ 40 → f_X2_readComing_63 N (nI a) (nI b) t = some (nI a, t)) ∧ (40 < a → f_X2_readComing_63 N (nI a) (nI b) t = some (-4, sI t 3 3 0 2 (nI b))) := by
  unfold f_X2_readComing_63
  have c40 : nI a ≤ 40 ↔ a ≤ 40 := nIle (b := 40) (by omega) (by omega)
  simp only [c40, o_nm]
  exact ⟨fun h => if_pos h, fun h => if_neg (by omega)⟩
theorem c_digP {L : Nat} (hL : 48 ≤ L ∧ L ≤ 57) (t : Mm) : f_X2_digitOf (nI L) t = some (nI (L - 48), t) := by
  rw [c_digit (by omega), if_pos hL]
theorem c_digN {L : Nat} (h : L ≤ 126) (hL : ¬ (48 ≤ L ∧ L ≤ 57)) (t : Mm) : f_X2_digitOf (nI L) t = some (-4, t) := by
  rw [c_digit h, if_neg hL]
def cmK (N A P : Nat) (x : Int32 × Mm) : Option (Int32 × Mm) := if x.1 = (-4) then (f_X2_readComing_63 N (nI A) (nI P) x.2) else (f_X2_readComing_63 N ((10 * nI A) + x.1) (nI P) (sI x.2 3 3 0 2 ((x.2.1 3 3 0 2) + 1)))
theorem c_cmP {N P A B : Nat} {t : Mm} (h : t.1 3 3 0 2 = nI (P + 1)) (hB : B ≤ 9) : cmK N A P (nI B, t) = f_X2_readComing_63 N (nI (10 * A + B)) (nI P) (sI t 3 3 0 2 (nI (P + 2))) := by
  unfold cmK
  rw [if_neg (ne4 (show B < 1000000 by omega)), two_dig, h, nI_1, add11]
theorem c_cmN {N P A : Nat} {t : Mm} : cmK N A P (-4, t) = f_X2_readComing_63 N (nI A) (nI P) t := by
  unfold cmK
  rw [if_pos rfl]
theorem c_cmE {N n p P L2 : Nat} {ch : Nat → Nat} {t t1 : Mm} {r : Int32} (b1 : f_X2_nextLetter N t = some (nI (lt' n ch P), t1)) (b3 : t1.1 3 3 0 2 = nI P) (e1 : 48 ≤ lt' n ch P ∧ lt' n ch P ≤ 57) (h1 : f_X2_letterHere (sI t1 3 3 0 2 (nI (P + 1))) = some (nI L2, sI t1 3 3 0 2 (nI (P + 1)))) (h2 : f_X2_digitOf (nI L2) (sI t1 3 3 0 2 (nI (P + 1))) = some (r, sI t1 3 3 0 2 (nI (P + 1)))) : f_X2_readComing N t = cmK N (lt' n ch P - 48) P (r, sI t1 3 3 0 2 (nI (P + 1))) := by
  unfold f_X2_readComing
  rw [b1, o_bd_some]
  simp only []
  rw [c_digP e1, o_bd_some]
  simp only []
  rw [if_neg (ne4 (show lt' n ch P - 48 < 1000000 by omega))]
  simp only [o_nm, b3, nI_1]
  rw [h1, o_bd_some]
  simp only []
  rw [h2, o_bd_some]
  rfl
theorem c_coming {N n p : Nat} {ch : Nat → Nat} {t : Mm} (hN : 300 ≤ N) (hT : TP t n ch) (hp : p ≤ n) (h : t.1 3 3 0 2 = nI p) : (∀ b, cmF n ch p = .inl b → ∃ t', f_X2_readComing N t = some (-4, t') ∧ f33 t t' ∧ t'.1 3 3 0 2 = nI b ∧ b ≤ n) ∧ ∀ x, cmF n ch p = .inr x → ∃ t', f_X2_readComing N t = some (nI x.2, t') ∧ f33 t t' ∧ t'.1 3 3 0 2 = nI x.1 ∧ x.1 ≤ n ∧ x.2 ≤ 40 := by
  obtain ⟨t1, b1, b2, b3⟩ := c_next hN hT hp h
  have hl := lt_le hT.1 (sk n ch p)
  have hle := sk_le (ch := ch) hp
  have h90 := hT.1.1
  unfold cmF lk
  generalize sk n ch p = P at b1 b3 hl hle ⊢
  by_cases e1 : 48 ≤ lt' n ch P ∧ lt' n ch P ≤ 57
  · have hlt : P < n := lt_n (ch := ch) (by omega)
    have hA : lt' n ch P - 48 ≤ 9 := by omega
    have hf : f33 t (sI t1 3 3 0 2 (nI (P + 1))) := b2.tr (f33.sI _ _ _)
    have hT2 : TP (sI t1 3 3 0 2 (nI (P + 1))) n ch := hf.TP hT
    have h2 : (sI t1 3 3 0 2 (nI (P + 1))).1 3 3 0 2 = nI (P + 1) := by rw [sI_at, upd_at]
    have hl2 := lt_le hT.1 (P + 1)
    have hh := c_here hT2 hlt h2
    have hE := fun r => c_cmE (N := N) (p := p) (r := r) b1 b3 e1 hh
    rw [if_pos e1]
    generalize lt' n ch P - 48 = A at hA hE ⊢
    generalize sI t1 3 3 0 2 (nI (P + 1)) = t2 at *
    by_cases e2 : 48 ≤ lt' n ch (P + 1) ∧ lt' n ch (P + 1) ≤ 57
    · have hlt2 : P + 1 < n := lt_n (ch := ch) (by omega)
      have hB : lt' n ch (P + 1) - 48 ≤ 9 := by omega
      have g1 := (hE _ (c_digP e2 _)).trans (c_cmP h2 hB)
      rw [if_pos e2]
      generalize lt' n ch (P + 1) - 48 = B at hB g1 ⊢
      have h63 := c_63 (N := N) (a := 10 * A + B) (b := P) (t := sI t2 3 3 0 2 (nI (P + 2))) (by omega)
      by_cases e3 : 10 * A + B ≤ 40
      · rw [if_pos e3]
        have g2 := g1.trans (h63.1 e3)
        constructor
        · intro b hb
          cases hb
        · intro x hx
          have hx := Sum.inr.inj hx
          subst hx
          exact ⟨_, g2, hf.tr (f33.sI _ _ _), by rw [sI_at, upd_at], hlt2, e3⟩
      · rw [if_neg e3]
        have g2 := g1.trans (h63.2 (by omega))
        constructor
        · intro b hb
          have hb := Sum.inl.inj hb
          subst hb
          exact ⟨_, g2, (hf.tr (f33.sI _ _ _)).tr (f33.sI _ _ _), by rw [sI_at, upd_at], hle⟩
        · intro x hx
          cases hx
    · have g1 := (hE _ (c_digN hl2 e2 _)).trans c_cmN
      have h63 := c_63 (N := N) (a := A) (b := P) (t := t2) (by omega)
      have g2 := g1.trans (h63.1 (by omega))
      rw [if_neg e2]
      constructor
      · intro b hb
        cases hb
      · intro x hx
        have hx := Sum.inr.inj hx
        subst hx
        exact ⟨_, g2, hf, h2, hlt, by show A ≤ 40; omega⟩
  · rw [if_neg e1]
    have g2 : f_X2_readComing N t = some (-4, t1) := by
      unfold f_X2_readComing
      rw [b1, o_bd_some]
      simp only []
      rw [c_digN hl e1, o_bd_some]
      simp only [ite_true]
    constructor
    · intro b hb
      have hb := Sum.inl.inj hb
      subst hb
      exact ⟨t1, g2, b2, b3, hle⟩
    · intro x hx
      cases hx
