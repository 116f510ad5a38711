theorem wd_72 : Cond.classLink RL 7 RX7 ∈ gw := gw_in 72 (by decide +kernel) (by decide +kernel)
theorem wd_73 : Cond.instantiable RX7 8 ∈ gw := gw_in 73 (by decide +kernel) (by decide +kernel)
theorem wd_874 : Cond.classLink RL 10 RX8 ∈ gw := gw_in 874 (by decide +kernel) (by decide +kernel)
theorem wd_875 : Cond.instantiable RX8 31 ∈ gw := gw_in 875 (by decide +kernel) (by decide +kernel)
theorem wd_76 : Cond.code yX7_init cX7_init 2 none ∈ gw := gw_in 76 (by decide +kernel) (by decide +kernel)
theorem wd_74 : Cond.methodLink RL 9 yX7_init ∈ gw := gw_in 74 (by decide +kernel) (by decide +kernel)
theorem wd_75 : Cond.instanceMethod yX7_init ∈ gw := gw_in 75 (by decide +kernel) (by decide +kernel)
theorem wd_878 : Cond.code yX8_init cX8_init 2 none ∈ gw := gw_in 878 (by decide +kernel) (by decide +kernel)
theorem wd_876 : Cond.methodLink RL 12 yX8_init ∈ gw := gw_in 876 (by decide +kernel) (by decide +kernel)
theorem wd_877 : Cond.instanceMethod yX8_init ∈ gw := gw_in 877 (by decide +kernel) (by decide +kernel)
set_option maxRecDepth 100000 in
set_option maxHeartbeats 4000000 in
/-- THE LAW, from its entry, if class and reference step alike -/
theorem whole_start_open {Rel : Mm → Mm → Prop} (N : Nat) (hops : Ops N Rel) (h00 : Rel t0C t0R) {p : Program} {e : Env} {s : State} {m : MethodId} {below : List Frame} {meth : Method} {c : Code} (l : Launch) {b L : Nat} {xs : Nat → Int32} (hL : L ≤ 3584) (C0 : lw_At p s m meth c b L xs) : W p l e room_1 s m #[Value.ref b] below meth c s.heap [] 0 0 (lw_Z below #[Value.ref b] s) (entryFrame m ([Value.ref b] : List Value).toArray 4) := by
  obtain ⟨hx, hb, hr, hml, hown, hts, hX, hbl, hlocks, hgv⟩ := id C0
  have S : CallFix p m c code 4 s #[Value.ref b] lw_tbl RL := ⟨hx, hb, hml, hown, hts⟩
  obtain ⟨D, cA, hY, hnw⟩ := la_tab hts
  obtain ⟨a0, a1, z1, z2, z3⟩ := la_txt hts hgv
  have hK : XK (D, cA, adL s.heap.size a0 a1) s := ⟨hY.1, hnw⟩
  have hZC : XZ shC (D, cA, adL s.heap.size a0 a1) s s.heap := ⟨z1, z2.narrow la_subC, z3.narrow la_subC⟩
  have hZR : XZ shR (D, cA, adL s.heap.size a0 a1) s s.heap := ⟨z1, z2.narrow la_subR, z3.narrow la_subR⟩
  have hS : va_S (CA s.heap.size) s.heap s.heap [] := va_S.rf
  have hP : CP D s.heap.size 0 (fun _ => .inr (0, [])) s.heap := ⟨rfl, fun k hk => absurd hk (Nat.not_lt_zero k)⟩
  have hl := lv_entry ([.ref b]) (n := 4) (Nat.le_of_ble_eq_true rfl)
  rw [lg_entry_eq]
  generalize (lg_sl ([.ref b]) ++ List.replicate (4 - (lg_sl ([.ref b])).length) Slot.unset).toArray = ls at hl ⊢
  have hl : lv_has ls 4 [(0, .ref b)] := hl
  refine la_new (C := RX7) (T := TX7) (N := 8) (ci := 7) (fs := [.null, .null, .int 0, .null, .null, .null, .null, .null]) S hY.1 hP hS inX7 tyX7_ok rfl dvX7 ⟨wd_72, wd_73, wd_54⟩ (by decide) (by decide) dL_law_0 (fun H hP hS => ?_)
  refine lv_dup hx hb dL_law_3 rfl ?_
  refine la_init (As := []) (rest := [.ref (s.heap.size + 0)]) S hY hP hS (c_X7_init l D cA s.heap.size _ (by decide) va_ups) ⟨wd_76, wd_74, wd_75, wd_54⟩ rfl hd_X7_init ⟨by decide, by decide⟩ rfl hl.1 rfl (Nat.le_of_ble_eq_true rfl) dL_law_4 ⟨by decide, by decide⟩ (fun n1 f1 H locs hp hP hS => ?_)
  obtain ⟨rfl, h7, -⟩ := hp
  refine lv_astore_n (lv' := [(1, .ref (s.heap.size + 0)), (0, .ref b)]) hx hb dL_law_7 rfl hl (by decide) rfl (fun ls hl => ?_)
  refine la_new (C := RX8) (T := TX8) (N := 31) (ci := 8) (fs := [.int 0, .int 0, .null, .null, .null, .null, .null, .int 0, .int 0, .null, .null, .null, .null, .null, .null, .int 0, .null, .int 0, .int 0, .int 0, .null, .int 0, .int 0, .int 0, .int 0, .null, .null, .null, .int 0, .int 0, .null]) S hY.1 hP hS inX8 tyX8_ok rfl dvX8 ⟨wd_874, wd_875, wd_62⟩ (by decide) (by decide) dL_law_8 (fun H hP hS => ?_)
  refine lv_dup hx hb dL_law_11 rfl ?_
  refine la_init (As := []) (rest := [.ref (s.heap.size + 189)]) S hY hP hS (c_X8_init l D cA s.heap.size 190 _ 189 (by decide) va_ups) ⟨wd_878, wd_876, wd_877, wd_62⟩ rfl hd_X8_init ⟨by decide, by decide⟩ rfl hl.1 rfl (Nat.le_of_ble_eq_true rfl) dL_law_12 ⟨by decide, by decide⟩ (fun n2 f2 H locs hp hP hS => ?_)
  obtain ⟨rfl, h8, hfr⟩ := hp
  refine lv_astore_n (lv' := [(2, .ref (s.heap.size + 189)), (1, .ref (s.heap.size + 0)), (0, .ref b)]) hx hb dL_law_15 rfl hl (by decide) rfl (fun ls hl => ?_)
  refine lv_iconst (v := 0) hx hb dL_law_16 (by decide) ?_
  refine lv_istore_n (lv' := [(3, .int 0), (2, .ref (s.heap.size + 189)), (1, .ref (s.heap.size + 0)), (0, .ref b)]) hx hb dL_law_17 rfl hl (by decide) rfl (fun ls hl => ?_)
  have hP : CP D s.heap.size 207 f2 H := hP
  have h7 : p7 cA s.heap.size f1 := h7
  have h7' : p7 cA s.heap.size f2 := p7_kept h7 (fun q hq => (hfr q (by omega) (by omega)).trans (va_upn (by omega)))
  have h8 : p8 cA s.heap.size f2 190 189 := h8
  have hl : lv_has ls 4 [(0, .ref b), (1, .ref (adL s.heap.size a0 a1 (3, 0, 0))), (2, .ref (adL s.heap.size a0 a1 (9, 0, 0))), (3, .int (nI 0))] := lv_sub hl [3, 2, 1, 0] rfl
  exact law_loop N hops hL C0 hK hZC hZR (L + 7) 0 t0C t0R H locs ls (by omega) (by omega) h00 (XP_start (by decide) hP h7') (XP_startR hP h8) hS hl
