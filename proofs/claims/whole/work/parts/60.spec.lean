/-! THE PURE PART: what a ford is, and how both memories tell it -/
/-- a ford as a table of numbers: row 0: questions, crossers, asked (a mask), hour, draw; rows 1..7: topic, hard, kind, knows, comes, where, till -/
abbrev Sx : Type := Nat → Nat → Nat
def u2 (s : Sx) (r k x : Nat) : Sx := fun r' k' => if r' = r ∧ k' = k then x else s r' k'
def wfS (s : Sx) : Prop := s 0 0 ≤ 8 ∧ s 0 1 ≤ 5 ∧ s 0 2 < 2 ^ s 0 0 ∧ s 0 4 < 2147483648 ∧ (∀ k, k < s 0 0 → s 1 k < 8 ∧ 1 ≤ s 2 k ∧ s 2 k ≤ 9) ∧ ∀ k, k < s 0 1 → s 3 k < 5 ∧ s 4 k < 256 ∧ s 5 k ≤ 40 ∧ s 6 k ≤ 2 ∧ (s 6 k = 1 → s 0 3 < s 7 k ∧ s 7 k ≤ s 0 3 + 22)
/-- the class's Ford -/
def FR (v : Nat → Nat → Int32) (s : Sx) : Prop := (v 0 0 = nI (s 0 0) ∧ v 0 1 = nI (s 0 1) ∧ v 0 2 = nI (s 0 2) ∧ v 0 3 = nI (s 0 3) ∧ v 0 4 = nI (s 0 4)) ∧ (∀ k, k < s 0 0 → v 1 k = nI (s 1 k) ∧ v 2 k = nI (s 2 k)) ∧ ∀ k, k < s 0 1 → v 3 k = nI (s 3 k) ∧ v 4 k = nI (s 4 k) ∧ v 5 k = nI (s 5 k) ∧ v 6 k = nI (s 6 k) ∧ (s 6 k = 1 → v 7 k = nI (s 7 k))
/-- the reference's row, with the numbers of questions and crossers, the topics and the kinds -/
def RR (q c : Int32) (tp kd w : Nat → Int32) (s : Sx) : Prop := (q = nI (s 0 0) ∧ c = nI (s 0 1) ∧ w 0 = nI (s 0 2) ∧ w 29 = nI (s 0 3) ∧ w 30 = nI (s 0 4)) ∧ (∀ k, k < s 0 0 → tp k = nI (s 1 k) ∧ w (1 + k) = nI (s 2 k)) ∧ (∀ k, k < s 0 1 → kd k = nI (s 3 k) ∧ w (9 + k) = nI (s 4 k) ∧ w (14 + k) = nI (s 5 k) ∧ w (19 + k) = nI (s 6 k) ∧ (s 6 k = 1 → w (24 + k) = nI (s 7 k))) ∧ ∀ k, s 0 1 ≤ k → k < 5 → w (19 + k) = 0
/-- what may be undone: a ring of eight here, a row of rows there -/
def UR (P : Nat → Nat → Nat → Int32) (nx kn q c : Int32) (tp kd bf : Nat → Int32) (un : Int32) : Prop := ∃ (n x : Nat) (ps : Nat → Sx), n ≤ 8 ∧ x < 8 ∧ nx = nI x ∧ kn = nI n ∧ un = nI n ∧ ∀ j, j < n → wfS (ps j) ∧ ps j 0 3 ≤ 9999 ∧ FR (P ((x + 8 - n + j) % 8)) (ps j) ∧ RR q c tp kd (fun k => bf (31 * j + k)) (ps j)
def SR (F : Nat → Nat → Nat → Int32) (o : Nat) (nx kn q c : Int32) (tp kd w bf : Nat → Int32) (un : Int32) : Prop := (∃ s : Sx, wfS s ∧ s 0 3 ≤ 9999 ∧ FR (F o) s ∧ RR q c tp kd w s) ∧ UR (fun j => F (o + 1 + j)) nx kn q c tp kd bf un
def NowR (u v : Mm) : Prop := SR (u.1 0) 0 (u.1 1 0 0 2) (u.1 1 0 0 3) (v.1 9 0 0 0) (v.1 9 0 0 1) (v.1 9 0 2) (v.1 9 0 3) (v.1 9 0 4) (v.1 9 0 6) (v.1 9 0 0 7)
def ImR (u v : Mm) : Prop := SR (u.1 0) 9 (u.1 1 1 0 2) (u.1 1 1 0 3) (v.1 9 0 9 0) (v.1 9 0 9 1) (fun k => v.1 9 0 9 (3 + k)) (fun k => v.1 9 0 9 (11 + k)) (v.1 9 0 10) (v.1 9 0 11) (v.1 9 0 9 2)
/-- sheets: lane, size, items -/
def ShR (u v : Mm) : Prop := ∀ j, j < 4 → u.1 2 j 0 0 = v.1 9 0 13 j ∧ u.1 2 j 0 1 = v.1 9 0 14 j ∧ (u.1 2 j 0 1 = -1 ∨ ∃ z l : Nat, z ≤ 24 ∧ l < 4 ∧ u.1 2 j 0 1 = nI z ∧ u.1 2 j 0 0 = nI l ∧ ∀ k, k < z → u.2 j k = v.2 0 (24 * j + k))
/-- the tape -/
def TpR (u v : Mm) : Prop := ∃ (n : Nat) (ch : Nat → Nat), n ≤ 90 ∧ u.1 3 1 0 1 = nI n ∧ v.1 9 0 0 15 = nI n ∧ ∀ k, k < n → 32 ≤ ch k ∧ ch k ≤ 126 ∧ u.1 3 2 0 k = nI (ch k) ∧ v.1 9 0 16 k = nI (ch k)
def Rel (u v : Mm) : Prop := NowR u v ∧ ((u.1 3 0 0 2 = 0 ∧ v.1 9 0 0 8 = 0) ∨ (u.1 3 0 0 2 = 1 ∧ v.1 9 0 0 8 = 1 ∧ ImR u v)) ∧ ShR u v ∧ TpR u v ∧ v.1 9 0 0 17 = -4 ∧ v.1 9 0 0 19 = 0
/-! reading the memories -/
theorem sR_at {t : Mm} {a b c : Nat} {f : Nat → Int32} : (sR t a b c f).1 a b c = f := by simp [sR]
theorem sR_off {t : Mm} {a b c a' b' c' : Nat} {f : Nat → Int32} (h : ¬ (a' = a ∧ b' = b ∧ c' = c)) : (sR t a b c f).1 a' b' c' = t.1 a' b' c' := by simp [sR, h]
theorem sI_at {t : Mm} {a b c j : Nat} {x : Int32} : (sI t a b c j x).1 a b c = upd (t.1 a b c) j x := sR_at
theorem sI_off {t : Mm} {a b c a' b' c' j : Nat} {x : Int32} (h : ¬ (a' = a ∧ b' = b ∧ c' = c)) : (sI t a b c j x).1 a' b' c' = t.1 a' b' c' := sR_off h
theorem upd_at {f : Nat → Int32} {k : Nat} {x : Int32} : upd f k x k = x := if_pos rfl
theorem upd_off {f : Nat → Int32} {k j : Nat} {x : Int32} (h : j ≠ k) : upd f k x j = f j := if_neg h
theorem rel_start : Rel t0C t0R := by
  have hw : wfS (fun r k => if r = 0 ∧ k = 4 then 1 else 0) := by
    refine ⟨by simp, by simp, by simp, by simp, fun k hk => ?_, fun k hk => ?_⟩
    · simp at hk
    · simp at hk
  refine ⟨⟨⟨fun r k => if r = 0 ∧ k = 4 then 1 else 0, hw, by simp, ⟨⟨rfl, rfl, rfl, rfl, rfl⟩, fun k hk => ?_, fun k hk => ?_⟩, ⟨rfl, rfl, rfl, rfl, rfl⟩, fun k hk => ?_, fun k hk => ?_, fun k _ hk => ?_⟩, 0, 0, fun _ => fun _ _ => 0, by decide, by decide, rfl, rfl, rfl, fun j hj => absurd hj (Nat.not_lt_zero j)⟩, Or.inl ⟨rfl, rfl⟩, fun j hj => ?_, ⟨0, fun _ => 0, by decide, rfl, rfl, fun k hk => absurd hk (Nat.not_lt_zero k)⟩, rfl, rfl⟩
  · simp at hk
  · simp at hk
  · simp at hk
  · simp at hk
  · rcases (show k = 0 ∨ k = 1 ∨ k = 2 ∨ k = 3 ∨ k = 4 by omega) with rfl | rfl | rfl | rfl | rfl <;> rfl
  · rcases (show j = 0 ∨ j = 1 ∨ j = 2 ∨ j = 3 by omega) with rfl | rfl | rfl | rfl <;> exact ⟨rfl, rfl, Or.inl rfl⟩
