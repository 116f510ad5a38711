/-! the memory that class and reference are told in, and the rows of the kit over it -/
/-- a partial computation's pieces -/
def o_nm {α β : Type} (x : α) (k : α → β) : β := k x
def o_bd {α β : Type} (x : Option α) (k : α → Option β) : Option β := match x with
  | none => none
  | some a => k a
theorem o_bd_some {α β : Type} {a : α} {k : α → Option β} : o_bd (some a) k = k a := rfl
theorem o_bd_none {α β : Type} {k : α → Option β} : o_bd (none : Option α) k = none := rfl
theorem o_bd_inv {α β : Type} {x : Option α} {k : α → Option β} {y : β} (h : o_bd x k = some y) : ∃ a, x = some a ∧ k a = some y := by
  cases x with
  | none => cases h
  | some a => exact ⟨a, rfl, h⟩
theorem o_nm_inv {α β : Type} {x : α} {k : α → Option β} {y : β} (h : o_nm x k = some y) : ∃ a, a = x ∧ k a = some y := ⟨x, rfl, h⟩
theorem o_gd_inv {β : Type} {c : Prop} [Decidable c] {a : Option β} {y : β} (h : (if c then a else none) = some y) : c ∧ a = some y := by
  by_cases hc : c
  · rw [if_pos hc] at h; exact ⟨hc, h⟩
  · rw [if_neg hc] at h; cases h
theorem o_pos {β : Type} {c : Prop} [Decidable c] {a b y : β} (hc : c) (h : (if c then a else b) = y) : a = y := by rwa [if_pos hc] at h
theorem o_neg {β : Type} {c : Prop} [Decidable c] {a b y : β} (hc : ¬ c) (h : (if c then a else b) = y) : b = y := by rwa [if_neg hc] at h
theorem o_ret {α : Type} {x y : α} (h : some x = some y) : y = x := (Option.some.inj h).symm
/-- in range -/
def o_in (i : Int32) (n : Nat) : Prop := ¬ (i < 0) ∧ i.toNatClampNeg < n
def o_in_dec (i : Int32) (n : Nat) : Decidable (o_in i n) := inferInstanceAs (Decidable (¬ (i < 0) ∧ i.toNatClampNeg < n))
abbrev o_inb (i : Int32) (n : Nat) : Bool := !(decide (i < 0)) && decide (i.toNatClampNeg < n)
theorem o_inb_in {i : Int32} {n : Nat} (h : o_inb i n = true) : vp_in i n := by
  simp only [o_inb, Bool.and_eq_true, Bool.not_eq_true', decide_eq_false_iff_not, decide_eq_true_eq] at h
  intro q
  rcases q with q | q
  · exact h.1 q
  · exact absurd h.2 (Nat.not_lt.mpr q)
/-- keys of cells: kind, number, row -/
abbrev Ky : Type := Nat × Nat × Nat
/-- the memory: ints by kind, number, row, place; longs by number, place -/
abbrev Mm : Type := (Nat → Nat → Nat → Nat → Int32) × (Nat → Nat → Int64)
def sR (t : Mm) (a b c : Nat) (f : Nat → Int32) : Mm := (fun a' b' c' => if a' = a ∧ b' = b ∧ c' = c then f else t.1 a' b' c', t.2)
def sI (t : Mm) (a b c j : Nat) (x : Int32) : Mm := sR t a b c (upd (t.1 a b c) j x)
def sL (t : Mm) (b : Nat) (f : Nat → Int64) : Mm := (t.1, fun b' => if b' = b then f else t.2 b')
def sJ (t : Mm) (b j : Nat) (x : Int64) : Mm := sL t b (vp_updL (t.2 b) j x)
/-- where things lie: class numbers and slots, array classes, addresses -/
abbrev Ly : Type := va_G × (Nat → ClassId) × (Ky → Nat)
/-- a shape: the cell of each key, by its row of ints and its longs; and the keys -/
abbrev Sh : Type := (Ly → Nat → Nat → Nat → (Nat → Int32) → (Nat → Int64) → va_E) × List Ky
def x_ct (sh : Sh) (g : Ly) (t : Mm) (k : Ky) : va_E := sh.1 g k.1 k.2.1 k.2.2 (t.1 k.1 k.2.1 k.2.2) (t.2 k.2.1)
def x_ws (sh : Sh) (g : Ly) (t : Mm) : va_W := sh.2.map (fun k => (g.2.2 k, x_ct sh g t k))
def XP (sh : Sh) (g : Ly) (t : Mm) (H : Heap) : Prop := va_P g.1 vwCl (x_ws sh g t) H
/-- the addresses are apart -/
def XD (sh : Sh) (g : Ly) : Prop := ∀ k k' : Ky, k ∈ sh.2 → k' ∈ sh.2 → g.2.2 k = g.2.2 k' → k = k'
def XA (sh : Sh) (g : Ly) : Nat → Prop := fun q => ∃ k ∈ sh.2, g.2.2 k = q
theorem x_at {sh : Sh} {g : Ly} {t : Mm} {k : Ky} (h : k ∈ sh.2) : ∃ q : Nat, sh.2[q]? = some k ∧ (x_ws sh g t)[q]? = some (g.2.2 k, x_ct sh g t k) := by
  obtain ⟨q, hq⟩ := List.getElem?_of_mem h
  exact ⟨q, hq, by simp [x_ws, hq]⟩
theorem x_D {sh : Sh} {g : Ly} {t : Mm} (hn : sh.2.Nodup) (hD : XD sh g) : va_D (XA sh g) (x_ws sh g t) := by
  refine ⟨fun i j p q hi hj hpq => ?_, fun k q hk => ?_⟩
  · simp only [x_ws, List.getElem?_map, Option.map_eq_some_iff] at hi hj
    obtain ⟨a, ha, rfl⟩ := hi
    obtain ⟨b, hb, rfl⟩ := hj
    have e := hD a b (List.mem_of_getElem? ha) (List.mem_of_getElem? hb) hpq
    subst e
    have hl := (List.getElem?_eq_some_iff.mp ha).1
    exact (List.getElem?_inj hl hn).mp (ha.trans hb.symm)
  · simp only [x_ws, List.getElem?_map, Option.map_eq_some_iff] at hk
    obtain ⟨a, ha, rfl⟩ := hk
    exact ⟨a, List.mem_of_getElem? ha, rfl⟩
theorem x_set {sh : Sh} {g : Ly} {t t' : Mm} {k : Ky} {e : va_E} {q : Nat} (hn : sh.2.Nodup) (hq : sh.2[q]? = some k) (he : x_ct sh g t' k = e) (ho : ∀ k' : Ky, k' ≠ k → x_ct sh g t' k' = x_ct sh g t k') : (x_ws sh g t).set q (g.2.2 k, e) = x_ws sh g t' := by
  apply List.ext_getElem?
  intro n
  have hl := (List.getElem?_eq_some_iff.mp hq).1
  by_cases h : n = q
  · subst h
    rw [List.getElem?_set_self (by simp [x_ws]; exact hl)]
    simp [x_ws, hq, he]
  · rw [List.getElem?_set_ne (Ne.symm h)]
    simp only [x_ws, List.getElem?_map]
    cases hk : sh.2[n]? with
    | none => rfl
    | some k' =>
      have hne : k' ≠ k := fun z => h (by
        subst z
        exact ((List.getElem?_inj hl hn).mp (hq.trans hk.symm)).symm)
      simp [ho k' hne]
theorem x_ct_sR {sh : Sh} {g : Ly} {t : Mm} {a b c : Nat} {f : Nat → Int32} : x_ct sh g (sR t a b c f) (a, b, c) = sh.1 g a b c f (t.2 b) := by simp [x_ct, sR]
theorem x_ct_sR_ne {sh : Sh} {g : Ly} {t : Mm} {a b c : Nat} {f : Nat → Int32} {k : Ky} (h : k ≠ (a, b, c)) : x_ct sh g (sR t a b c f) k = x_ct sh g t k := by
  obtain ⟨x, y, z⟩ := k
  have h1 : ¬ (x = a ∧ y = b ∧ z = c) := fun ⟨h1, h2, h3⟩ => h (by rw [h1, h2, h3])
  simp [x_ct, sR, h1]
