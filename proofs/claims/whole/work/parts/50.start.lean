/-! the world behind the two constructors -/
def posF (i r : Nat) : Nat := if i < 18 then 74 * (i / 9) + (if i % 9 = 0 then 2 else 3 + 8 * (i % 9)) + r else if i = 18 then 161 + r else if i = 19 then 170 + r else 152 + r
def pos3 : Nat → Nat
  | 0 => 0
  | 1 => 149
  | 2 => 150
  | 3 => 151
  | 4 => 160
  | 5 => 169
  | 6 => 178
  | 7 => 179
  | _ => 180
def posR : Nat → Nat
  | 0 => 189
  | 2 => 190
  | 3 => 191
  | 4 => 192
  | 5 => 193
  | 6 => 194
  | 9 => 195
  | 10 => 196
  | 11 => 197
  | 12 => 198
  | 13 => 199
  | 14 => 200
  | 16 => 201
  | 20 => 202
  | 25 => 203
  | 26 => 204
  | 27 => 205
  | _ => 206
def posK (k : Ky) : Nat := match k.1 with
  | 0 => posF k.2.1 k.2.2
  | 1 => 74 * k.2.1 + (if k.2.2 = 0 then 1 else 10)
  | 2 => 181 + 2 * k.2.1 + k.2.2
  | 3 => pos3 k.2.1
  | _ => posR k.2.2
def adL (sz a0 a1 : Nat) (k : Ky) : Nat := if k.1 = 7 then (if k.2.2 = 0 then a0 else a1) else sz + posK k
def t0C : Mm := (fun a _ c j => match a, c, j with
  | 0, 0, 4 => 1
  | 2, 0, 1 => -1
  | _, _, _ => 0, fun _ _ => 0)
def t0R : Mm := (fun _ _ c j => match c with
  | 0 => if j = 17 then -4 else 0
  | 4 => upd (fun _ => 0) 30 1 j
  | 14 => upd (upd (upd (upd (fun _ => 0) 0 (-1)) 1 (-1)) 2 (-1)) 3 (-1) j
  | _ => 0, fun _ _ => 0)
theorem ad_ne7 {sz a0 a1 : Nat} {k : Ky} (h : k.1 ≠ 7) : adL sz a0 a1 k = sz + posK k := if_neg h
theorem posC_inj : ∀ k ∈ kyC, ∀ k' ∈ kyC, posK k = posK k' → k = k' := by decide +kernel
theorem posR_inj : ∀ k ∈ kyR, ∀ k' ∈ kyR, posK k = posK k' → k = k' := by decide +kernel
theorem posC_lt : ∀ k ∈ kyC, posK k < 189 ∧ k.1 ≠ 7 := by decide +kernel
theorem posR_lt : ∀ k ∈ kyR, 189 ≤ posK k ∧ posK k < 207 ∧ k.1 ≠ 7 := by decide +kernel
theorem XD_C (D : va_G) (cA : Nat → ClassId) (sz a0 a1 : Nat) : XG shC (D, cA, adL sz a0 a1) := by
  refine ⟨kyC_nodup, fun k k' hk hk' h => posC_inj k hk k' hk' ?_⟩
  have h : adL sz a0 a1 k = adL sz a0 a1 k' := h
  rw [ad_ne7 (posC_lt k hk).2, ad_ne7 (posC_lt k' hk').2] at h
  omega
theorem XD_R (D : va_G) (cA : Nat → ClassId) (sz a0 a1 : Nat) : XG shR (D, cA, adL sz a0 a1) := by
  refine ⟨kyR_nodup, fun k k' hk hk' h => posR_inj k hk k' hk' ?_⟩
  have h : adL sz a0 a1 k = adL sz a0 a1 k' := h
  rw [ad_ne7 (posR_lt k hk).2.2, ad_ne7 (posR_lt k' hk').2.2] at h
  omega
theorem XP_of {sh : Sh} {g : Ly} {t : Mm} {H : Heap} (h : ∀ k ∈ sh.2, va_at g.1 vwCl (g.2.2 k, x_ct sh g t k) H) : XP sh g t H := by
  intro i q hq
  simp only [x_ws, List.getElem?_map, Option.map_eq_some_iff] at hq
  obtain ⟨k, hk, rfl⟩ := hq
  exact h k (List.mem_of_getElem? hk)
theorem posF_add (i r : Nat) : posF i r = posF i 0 + r := by
  unfold posF
  split
  · omega
  · split
    · omega
    · split <;> omega
theorem arrV_ext {cA : ClassId} {n : Nat} {f g : Nat → Value} (h : ∀ j, j < n → f j = g j) : arrV cA n f = arrV cA n g := by
  unfold arrV
  congr 1
  apply Array.ext
  · simp
  · intro i h1 h2
    simp at h1
    simp [h i h1]
/-- what post of FordQuestions() says, of any f that agrees with it -/
def p7 (cA : Nat → ClassId) (sz : Nat) (f' : Nat → va_E) : Prop := (f' 0 = .inr (7, [.ref (sz + 1), .ref (sz + 75), .int 0, .ref (sz + 149), .ref (sz + 151), .ref (sz + 160), .ref (sz + 169), .ref (sz + 180)]) ∧ stA cA sz f' 1 2 ∧ stA cA sz f' 75 76 ∧ tpA cA sz f' 149 150 ∧ rdA cA sz f' 151 152 149 ∧ olA cA sz f' 160 161 ∧ tlA cA sz f' 169 170 ∧ (∃ g : Nat → Option Nat, f' 180 = .inl (cA 4, 4, .inr (.inr (.inr (.inr g)))) ∧ ∀ j, j < 4 → g j = some (sz + (181 + 2 * j))) ∧ ∀ j, j < 4 → sheA cA sz f' (181 + 2 * j) (182 + 2 * j))
theorem p7_kept {cA : Nat → ClassId} {sz : Nat} {f f' : Nat → va_E} (h : p7 cA sz f) (h2 : ∀ q, q < 189 → f' q = f q) : p7 cA sz f' := by
  obtain ⟨h0, h1, h3, h4, h5, h6, h7, ⟨g, h8, h9⟩, h10⟩ := h
  exact ⟨by rw [h2 0 (by omega)]; exact h0, stA_kept h1 (fun q _ => h2 q (by omega)), stA_kept h3 (fun q _ => h2 q (by omega)), tpA_kept h4 (fun q _ => h2 q (by omega)), rdA_kept h5 (fun q _ => h2 q (by omega)), olA_kept h6 (fun q _ => h2 q (by omega)), tlA_kept h7 (fun q _ => h2 q (by omega)), ⟨g, by rw [h2 180 (by omega)]; exact h8, h9⟩, fun j hj => sheA_kept (h10 j hj) (fun q _ => h2 q (by omega))⟩
theorem p7_ford {cA : Nat → ClassId} {sz : Nat} {f : Nat → va_E} (h : p7 cA sz f) : ∀ i, i < 21 → fdA cA sz f (posF i 0) (posF i 0 + 1) := by
  obtain ⟨-, h1, h3, -, h5, h6, h7, -, -⟩ := h
  intro i hi
  rcases Nat.lt_or_ge i 9 with q | q
  · rcases Nat.eq_zero_or_pos i with rfl | q0
    · exact h1.2.1
    · have e := h1.2.2.2 (i - 1) (by omega)
      have e2 : posF i 0 = 2 + 9 + 8 * (i - 1) := by
        unfold posF
        rw [if_pos (by omega), if_neg (by omega)]
        omega
      rw [e2]; exact e
  · rcases Nat.lt_or_ge i 18 with q2 | q2
    · rcases Nat.eq_or_lt_of_le q with rfl | q0
      · exact h3.2.1
      · have e := h3.2.2.2 (i - 10) (by omega)
        have e2 : posF i 0 = 76 + 9 + 8 * (i - 10) := by
          unfold posF
          rw [if_pos (by omega), if_neg (by omega)]
          omega
        rw [e2]; exact e
    · rcases (show i = 18 ∨ i = 19 ∨ i = 20 by omega) with rfl | rfl | rfl
      · exact h6.2
      · exact h7.2.1
      · exact h5.2
set_option maxHeartbeats 1000000 in
theorem XP_start {D : va_G} {cA : Nat → ClassId} {sz a0 a1 n : Nat} {f : Nat → va_E} {H : Heap} (hn : 189 ≤ n) (hP : CP D sz n f H) (h : p7 cA sz f) : XP shC (D, cA, adL sz a0 a1) t0C H := by
  have hF := p7_ford h
  obtain ⟨h0, h1, h3, h4, h5, h6, h7, ⟨g, h8, h9⟩, h10⟩ := h
  have key : ∀ q, q < 189 → ∀ e : va_E, f q = e → va_at D vwCl (sz + q, e) H := fun q hq e he => by rw [← he]; exact hP.2 q (by omega)
  apply XP_of
  intro k hk
  rcases List.mem_append.mp hk with hk | hk
  · obtain ⟨m, hm, rfl⟩ := List.mem_map.mp hk
    have hm := List.mem_range.mp hm
    generalize hi : m / 8 = i
    generalize hr : m % 8 = r
    have hi' : i < 21 := by omega
    have hlt : ∀ r, r < 8 → posF i r < 189 := fun r hr => (posC_lt (0, i, r) (kyF hi' hr)).1
    obtain ⟨f0, fr⟩ := hF i hi'
    have fr' : ∀ r, r < 7 → f (posF i (r + 1)) = .inl (cA 0, fdL r, .inl (fun _ => 0)) := fun r hr => by rw [posF_add, show posF i 0 + (r + 1) = posF i 0 + 1 + r by omega]; exact fr r hr
    have fo : f (posF i 0) = x_ct shC (D, cA, adL sz a0 a1) t0C (0, i, 0) := by
      rw [f0]
      show _ = Sum.inr (0, [Value.int 0, .int 0, .int 0, .int 0, .int 1, .ref (sz + posF i 1), .ref (sz + posF i 2), .ref (sz + posF i 3), .ref (sz + posF i 4), .ref (sz + posF i 5), .ref (sz + posF i 6), .ref (sz + posF i 7)])
      rw [posF_add i 1, posF_add i 2, posF_add i 3, posF_add i 4, posF_add i 5, posF_add i 6, posF_add i 7]
    rcases (show r = 0 ∨ r = 1 ∨ r = 2 ∨ r = 3 ∨ r = 4 ∨ r = 5 ∨ r = 6 ∨ r = 7 by omega) with rfl | rfl | rfl | rfl | rfl | rfl | rfl | rfl
    · exact key (posF i 0) (hlt 0 (by omega)) _ fo
    · exact key (posF i 1) (hlt 1 (by omega)) _ (fr' 0 (by omega))
    · exact key (posF i 2) (hlt 2 (by omega)) _ (fr' 1 (by omega))
    · exact key (posF i 3) (hlt 3 (by omega)) _ (fr' 2 (by omega))
    · exact key (posF i 4) (hlt 4 (by omega)) _ (fr' 3 (by omega))
    · exact key (posF i 5) (hlt 5 (by omega)) _ (fr' 4 (by omega))
    · exact key (posF i 6) (hlt 6 (by omega)) _ (fr' 5 (by omega))
    · exact key (posF i 7) (hlt 7 (by omega)) _ (fr' 6 (by omega))
  · rcases List.mem_append.mp hk with hk | hk
    · obtain ⟨m, hm, rfl⟩ := List.mem_map.mp hk
      have hm := List.mem_range.mp hm
      have past : ∀ (b w : Nat), 74 * w + 2 = b → w < 2 → stA cA sz f (b - 1) b → va_at D vwCl (adL sz a0 a1 (1, w, 1), x_ct shC (D, cA, adL sz a0 a1) t0C (1, w, 1)) H := by
        intro b w hb hw hs
        obtain ⟨-, -, ⟨g, g1, g2⟩, -⟩ := hs
        have e := key (b + 8) (by omega) _ g1
        have e2 : adL sz a0 a1 (1, w, 1) = sz + (b + 8) := by
          show sz + (74 * w + 10) = _
          omega
        rw [e2]
        show H[sz + (b + 8)]? = some (vp_cell _ _)
        have e3 : H[sz + (b + 8)]? = some (vp_cell (cA 3) (8, .inr (.inr (.inr (.inr g))))) := e
        rw [e3, vp_cell_q, vp_cell_q]
        congr 1
        apply arrV_ext
        intro j hj
        rw [g2 j hj]
        show Value.ref (sz + (b + 9 + 8 * j)) = Value.ref (sz + posF (9 * w + 1 + j) 0)
        have : posF (9 * w + 1 + j) 0 = b + 9 + 8 * j := by
          unfold posF
          rw [if_pos (by omega), if_neg (by omega)]
          omega
        rw [this]
      rcases (show m = 0 ∨ m = 1 ∨ m = 2 ∨ m = 3 by omega) with rfl | rfl | rfl | rfl
      · exact key 1 (by omega) _ h1.1
      · exact past 2 0 rfl (by omega) h1
      · exact key 75 (by omega) _ h3.1
      · exact past 76 1 rfl (by omega) h3
    · rcases List.mem_append.mp hk with hk | hk
      · obtain ⟨m, hm, rfl⟩ := List.mem_map.mp hk
        have hm := List.mem_range.mp hm
        rcases (show m = 0 ∨ m = 1 ∨ m = 2 ∨ m = 3 ∨ m = 4 ∨ m = 5 ∨ m = 6 ∨ m = 7 by omega) with rfl | rfl | rfl | rfl | rfl | rfl | rfl | rfl
        · exact key 181 (by omega) _ (h10 0 (by omega)).1
        · exact key 182 (by omega) _ (h10 0 (by omega)).2
        · exact key 183 (by omega) _ (h10 1 (by omega)).1
        · exact key 184 (by omega) _ (h10 1 (by omega)).2
        · exact key 185 (by omega) _ (h10 2 (by omega)).1
        · exact key 186 (by omega) _ (h10 2 (by omega)).2
        · exact key 187 (by omega) _ (h10 3 (by omega)).1
        · exact key 188 (by omega) _ (h10 3 (by omega)).2
      · obtain ⟨m, hm, rfl⟩ := List.mem_map.mp hk
        have hm := List.mem_range.mp hm
        rcases (show m = 0 ∨ m = 1 ∨ m = 2 ∨ m = 3 ∨ m = 4 ∨ m = 5 ∨ m = 6 ∨ m = 7 ∨ m = 8 by omega) with rfl | rfl | rfl | rfl | rfl | rfl | rfl | rfl | rfl
        · exact key 0 (by omega) _ h0
        · exact key 149 (by omega) _ h4.1
        · exact key 150 (by omega) _ h4.2
        · exact key 151 (by omega) _ h5.1
        · exact key 160 (by omega) _ h6.1
        · exact key 169 (by omega) _ h7.1
        · exact key 178 (by omega) _ h7.2.2.1
        · exact key 179 (by omega) _ h7.2.2.2
        · have e3 : H[sz + 180]? = some (vp_cell (cA 4) (4, .inr (.inr (.inr (.inr g))))) := key 180 (by omega) _ h8
          show H[sz + 180]? = some (vp_cell _ _)
          rw [e3, vp_cell_q, vp_cell_q]
          congr 1
          apply arrV_ext
          intro j hj
          rw [h9 j hj]
          show Value.ref (sz + (181 + 2 * j)) = Value.ref (sz + (181 + 2 * j + 0))
          rfl
