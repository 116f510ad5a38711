def p8 (cA : Nat → ClassId) (sz : Nat) (f : Nat → va_E) (n k : Nat) : Prop := (f k = .inr (8, [.int 0, .int 0, .ref (sz + n), .ref (sz + (n + 1)), .ref (sz + (n + 2)), .ref (sz + (n + 3)), .ref (sz + (n + 4)), .int 0, .int 0, .ref (sz + (n + 5)), .ref (sz + (n + 6)), .ref (sz + (n + 7)), .ref (sz + (n + 8)), .ref (sz + (n + 9)), .ref (sz + (n + 10)), .int 0, .ref (sz + (n + 11)), .int (-4), .int 0, .int 0, .ref (sz + (n + 12)), .int 0, .int 0, .int 0, .int 0, .ref (sz + (n + 13)), .ref (sz + (n + 14)), .ref (sz + (n + 15)), .int 0, .int 0, .ref (sz + (n + 16))]) ∧ f (n) = .inl (cA 0, 8, .inl (fun _ => 0)) ∧ f (n + 1) = .inl (cA 0, 5, .inl (fun _ => 0)) ∧ f (n + 2) = .inl (cA 0, 31, .inl (upd (fun _ => 0) 30 1)) ∧ f (n + 3) = .inl (cA 0, 31, .inl (fun _ => 0)) ∧ f (n + 4) = .inl (cA 0, 248, .inl (fun _ => 0)) ∧ f (n + 5) = .inl (cA 0, 16, .inl (fun _ => 0)) ∧ f (n + 6) = .inl (cA 0, 31, .inl (fun _ => 0)) ∧ f (n + 7) = .inl (cA 0, 248, .inl (fun _ => 0)) ∧ f (n + 8) = .inl (cA 2, 96, .inr (.inl (fun _ => 0))) ∧ f (n + 9) = .inl (cA 0, 4, .inl (fun _ => 0)) ∧ f (n + 10) = .inl (cA 0, 4, .inl (upd (upd (upd (upd (fun _ => 0) 0 (-1)) 1 (-1)) 2 (-1)) 3 (-1))) ∧ f (n + 11) = .inl (cA 0, 90, .inl (fun _ => 0)) ∧ f (n + 12) = .inl (cA 0, 5, .inl (fun _ => 0)) ∧ f (n + 13) = .inl (cA 0, 8, .inl (fun _ => 0)) ∧ f (n + 14) = .inl (cA 0, 5, .inl (fun _ => 0)) ∧ f (n + 15) = .inl (cA 0, 31, .inl (fun _ => 0)) ∧ f (n + 16) = .inl (cA 0, 5, .inl (fun _ => 0)))
set_option maxHeartbeats 1000000 in
theorem XP_startR {D : va_G} {cA : Nat → ClassId} {sz a0 a1 : Nat} {f : Nat → va_E} {H : Heap} (hP : CP D sz 207 f H) (h : p8 cA sz f 190 189) : XP shR (D, cA, adL sz a0 a1) t0R H := by
  obtain ⟨h0, r2, r3, r4, r5, r6, r9, r10, r11, r12, r13, r14, r16, r20, r25, r26, r27, r30⟩ := h
  have key : ∀ q, q < 207 → ∀ e : va_E, f q = e → va_at D vwCl (sz + q, e) H := fun q hq e he => by rw [← he]; exact hP.2 q hq
  apply XP_of
  intro k hk
  obtain ⟨r, hr, rfl⟩ := List.mem_map.mp hk
  rcases (show r = 0 ∨ r = 2 ∨ r = 3 ∨ r = 4 ∨ r = 5 ∨ r = 6 ∨ r = 9 ∨ r = 10 ∨ r = 11 ∨ r = 12 ∨ r = 13 ∨ r = 14 ∨ r = 16 ∨ r = 20 ∨ r = 25 ∨ r = 26 ∨ r = 27 ∨ r = 30 by simpa [rowsR] using hr) with rfl | rfl | rfl | rfl | rfl | rfl | rfl | rfl | rfl | rfl | rfl | rfl | rfl | rfl | rfl | rfl | rfl | rfl
  · exact key 189 (by omega) _ h0
  · exact key 190 (by omega) _ r2
  · exact key 191 (by omega) _ r3
  · exact key 192 (by omega) _ r4
  · exact key 193 (by omega) _ r5
  · exact key 194 (by omega) _ r6
  · exact key 195 (by omega) _ r9
  · exact key 196 (by omega) _ r10
  · exact key 197 (by omega) _ r11
  · exact key 198 (by omega) _ r12
  · exact key 199 (by omega) _ r13
  · exact key 200 (by omega) _ r14
  · exact key 201 (by omega) _ r16
  · exact key 202 (by omega) _ r20
  · exact key 203 (by omega) _ r25
  · exact key 204 (by omega) _ r26
  · exact key 205 (by omega) _ r27
  · exact key 206 (by omega) _ r30
