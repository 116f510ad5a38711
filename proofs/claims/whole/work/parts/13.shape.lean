/-! the shape of the class's world (shC) and of the reference's (shR) -/
def cellC (g : Ly) (a b c : Nat) (f : Nat → Int32) (h : Nat → Int64) : va_E := match a with
  | 0 => match c with
    | 0 => .inr (0, [.int (f 0), .int (f 1), .int (f 2), .int (f 3), .int (f 4), .ref (g.2.2 (0, b, 1)), .ref (g.2.2 (0, b, 2)), .ref (g.2.2 (0, b, 3)), .ref (g.2.2 (0, b, 4)), .ref (g.2.2 (0, b, 5)), .ref (g.2.2 (0, b, 6)), .ref (g.2.2 (0, b, 7))])
    | 1 => .inl (g.2.1 0, 8, .inl f)
    | 2 => .inl (g.2.1 0, 8, .inl f)
    | _ => .inl (g.2.1 0, 5, .inl f)
  | 1 => match c with
    | 0 => .inr (4, [.ref (g.2.2 (0, (9 * b), 0)), .ref (g.2.2 (1, b, 1)), .int (f 2), .int (f 3)])
    | _ => .inl (g.2.1 3, 8, .inr (.inr (.inr (.inr (fun j => some (g.2.2 (0, (9 * b + 1 + j), 0)))))))
  | 2 => match c with
    | 0 => .inr (3, [.int (f 0), .int (f 1), .ref (g.2.2 (2, b, 1))])
    | 1 => .inl (g.2.1 2, 24, .inr (.inl h))
    | _ => .inr (3, [])
  | _ => match b with
    | 0 => .inr (7, [.ref (g.2.2 (1, 0, 0)), .ref (g.2.2 (1, 1, 0)), .int (f 2), .ref (g.2.2 (3, 1, 0)), .ref (g.2.2 (3, 3, 0)), .ref (g.2.2 (3, 4, 0)), .ref (g.2.2 (3, 5, 0)), .ref (g.2.2 (3, 8, 0))])
    | 1 => .inr (5, [.ref (g.2.2 (3, 2, 0)), .int (f 1)])
    | 2 => .inl (g.2.1 1, 90, .inl f)
    | 3 => .inr (2, [.ref (g.2.2 (3, 1, 0)), .ref (g.2.2 (0, 20, 0)), .int (f 2)])
    | 4 => .inr (1, [.ref (g.2.2 (0, 18, 0)), .int (f 1), .int (f 2), .int (f 3)])
    | 5 => .inr (6, [.ref (g.2.2 (0, 19, 0)), .ref (g.2.2 (3, 6, 0)), .int (f 2), .int (f 3), .ref (g.2.2 (3, 7, 0)), .int (f 5), .int (f 6)])
    | 6 => .inl (g.2.1 0, 5, .inl f)
    | 7 => .inl (g.2.1 0, 5, .inl f)
    | _ => .inl (g.2.1 4, 4, .inr (.inr (.inr (.inr (fun j => some (g.2.2 (2, j, 0)))))))
def kyC : List Ky := (List.range 168).map (fun n => (0, n / 8, n % 8)) ++ ((List.range 4).map (fun n => (1, n / 2, n % 2)) ++ ((List.range 8).map (fun n => (2, n / 2, n % 2)) ++ (List.range 9).map (fun n => (3, n, 0))))
def shC : Sh := (cellC, kyC)
theorem kyC_nodup : kyC.Nodup := by decide +kernel
theorem kyF {i r : Nat} (hi : i < 21) (hr : r < 8) : (0, i, r) ∈ shC.2 := by
  refine List.mem_append_left _ (List.mem_map.mpr ⟨8 * i + r, List.mem_range.mpr (by omega), ?_⟩)
  have h1 : (8 * i + r) / 8 = i := by omega
  have h2 : (8 * i + r) % 8 = r := by omega
  rw [h1, h2]
theorem kyS {w r : Nat} (hi : w < 2) (hr : r < 2) : (1, w, r) ∈ shC.2 := by
  refine List.mem_append_right _ (List.mem_append_left _ (List.mem_map.mpr ⟨2 * w + r, List.mem_range.mpr (by omega), ?_⟩))
  have h1 : (2 * w + r) / 2 = w := by omega
  have h2 : (2 * w + r) % 2 = r := by omega
  rw [h1, h2]
theorem kyH {j r : Nat} (hi : j < 4) (hr : r < 2) : (2, j, r) ∈ shC.2 := by
  refine List.mem_append_right _ (List.mem_append_right _ (List.mem_append_left _ (List.mem_map.mpr ⟨2 * j + r, List.mem_range.mpr (by omega), ?_⟩)))
  have h1 : (2 * j + r) / 2 = j := by omega
  have h2 : (2 * j + r) % 2 = r := by omega
  rw [h1, h2]
theorem kyO {n : Nat} (hi : n < 9) : (3, n, 0) ∈ shC.2 := List.mem_append_right _ (List.mem_append_right _ (List.mem_append_right _ (List.mem_map.mpr ⟨n, List.mem_range.mpr hi, rfl⟩)))
theorem hLC : ∀ (g : Ly) (a' b' k' : Nat) (f' : Nat → Int32) (h h' : Nat → Int64), ¬ (a' = 2 ∧ k' = 1) → shC.1 g a' b' k' f' h = shC.1 g a' b' k' f' h' := by
  intro g a b k f h h' hn
  show cellC g a b k f h = cellC g a b k f h'
  unfold cellC
  split
  · rfl
  · rfl
  · split
    · rfl
    · exact absurd ⟨rfl, rfl⟩ hn
    · rfl
  · rfl
/-- the reference: its one object, and its rows by the number of their field -/
def lenR : Nat → Nat
  | 2 => 8
  | 3 => 5
  | 4 => 31
  | 5 => 31
  | 6 => 248
  | 9 => 16
  | 10 => 31
  | 11 => 248
  | 13 => 4
  | 14 => 4
  | 16 => 90
  | 20 => 5
  | 25 => 8
  | 26 => 5
  | 27 => 31
  | _ => 5
def cellR9 (g : Ly) (c : Nat) (f : Nat → Int32) (h : Nat → Int64) : va_E := match c with
  | 0 => .inr (8, [.int (f 0), .int (f 1), .ref (g.2.2 (9, 0, 2)), .ref (g.2.2 (9, 0, 3)), .ref (g.2.2 (9, 0, 4)), .ref (g.2.2 (9, 0, 5)), .ref (g.2.2 (9, 0, 6)), .int (f 7), .int (f 8), .ref (g.2.2 (9, 0, 9)), .ref (g.2.2 (9, 0, 10)), .ref (g.2.2 (9, 0, 11)), .ref (g.2.2 (9, 0, 12)), .ref (g.2.2 (9, 0, 13)), .ref (g.2.2 (9, 0, 14)), .int (f 15), .ref (g.2.2 (9, 0, 16)), .int (f 17), .int (f 18), .int (f 19), .ref (g.2.2 (9, 0, 20)), .int (f 21), .int (f 22), .int (f 23), .int (f 24), .ref (g.2.2 (9, 0, 25)), .ref (g.2.2 (9, 0, 26)), .ref (g.2.2 (9, 0, 27)), .int (f 28), .int (f 29), .ref (g.2.2 (9, 0, 30))])
  | 12 => .inl (g.2.1 2, 96, .inr (.inl h))
  | k => .inl (g.2.1 0, lenR k, .inl f)
def cellR (g : Ly) (a _ c : Nat) (f : Nat → Int32) (h : Nat → Int64) : va_E := match a with
  | 9 => cellR9 g c f h
  | _ => .inr (8, [])
def rowsR : List Nat := [0, 2, 3, 4, 5, 6, 9, 10, 11, 12, 13, 14, 16, 20, 25, 26, 27, 30]
def kyR : List Ky := rowsR.map (fun r => (9, 0, r))
def shR : Sh := (cellR, kyR)
theorem kyR_nodup : kyR.Nodup := by decide +kernel
theorem kyM {r : Nat} (hr : r ∈ rowsR) : (9, 0, r) ∈ shR.2 := List.mem_map.mpr ⟨r, hr, rfl⟩
theorem hLR : ∀ (g : Ly) (a' b' k' : Nat) (f' : Nat → Int32) (h h' : Nat → Int64), ¬ (a' = 9 ∧ k' = 12) → shR.1 g a' b' k' f' h = shR.1 g a' b' k' f' h' := by
  intro g a b k f h h' hn
  show cellR g a b k f h = cellR g a b k f h'
  unfold cellR
  split
  · unfold cellR9
    split
    · rfl
    · exact absurd ⟨rfl, rfl⟩ hn
    · rfl
  · rfl
theorem o_nm_to {α β : Type} {v x : α} {k : α → Option β} {y : β} (e : x = v) (h : o_nm v k = some y) : k x = some y := by
  subst e
  exact h
theorem o_inb_lt {i : Int32} {n : Nat} (h : o_inb i n = true) : i.toNatClampNeg < n := by
  simp only [o_inb, Bool.and_eq_true, Bool.not_eq_true', decide_eq_false_iff_not, decide_eq_true_eq] at h
  exact h.2
theorem x_narC {x : Int32} (h : (x.toUInt32 % 65536).toInt32 = x) : narrow .char (.int x) = .int x := by
  have := pk_nc x
  rwa [h] at this
theorem x_narZ {x : Int32} (h : x = 0 ∨ x = 1) : narrow .boolean (.int x) = .int x := by
  rcases h with rfl | rfl <;> rfl
theorem x_ne {x : Int32} {n : Int} {k : Int32} (h : ¬ x = k) (hk : k.toInt = n) : x.toInt ≠ n := fun z => h (Int32.toInt_inj.mp (z.trans hk.symm))
theorem x_lk2 {x : Int32} {o1 o2 d : Int} (h1 : ¬ x = 0) (h2 : ¬ x = 1) : Op.lookupswitch.offset [(0, o1), (1, o2)] d x.toInt = d := by
  rw [lv_osw (k := 0) h1 (by decide), lv_osw (k := 1) h2 (by decide)]
  rfl
section XT
variable {p : Program} {l : Launch} {e : Env} {d : Nat} {s : State} {m : MethodId} {args : Array Value} {below : List Frame} {meth : Method} {c : Code} {H : Heap} {locs : List Loc} {Q : State → Prop}
variable {cc : ByteArray} {nL pc : Nat} {ls : Array Slot} {rest : List Value} {cw : Cond} {own : String} {ret : Option FieldType} {sh : Sh} {g : Ly} {t : Mm} {index : Nat}
theorem x_alenJ {a b k n : Nat} (X : XC p m meth c cc nL s args cw own ret sh g) (hP : XP sh g t H) (hk : (a, b, k) ∈ sh.2) (hc : ∀ f h, sh.1 g a b k f h = .inl (g.2.1 2, n, .inr (.inl h))) (hdg : decode cc pc = .ok (.arraylength, 1))
    (kk : W p l e (rmv d) s m args below meth c H locs 0 0 Q (F0 m (pc + 1) ls (.int (Int32.ofNat n) :: rest))) : W p l e (rmv d) s m args below meth c H locs 0 0 Q (F0 m pc ls (.ref (g.2.2 (a, b, k)) :: rest)) := by
  obtain ⟨q, -, hq⟩ := x_at (g := g) (t := t) hk
  rw [show x_ct sh g t (a, b, k) = .inl (g.2.1 2, n, .inr (.inl (t.2 b))) from hc _ _] at hq
  exact va_alen (D := g.1) X.1.1 X.1.2.1 X.2.2.2.1.1 hP q 2 hq (ty := .long) rfl rfl hdg kk
end XT
