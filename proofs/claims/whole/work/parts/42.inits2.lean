set_option maxRecDepth 100000 in
set_option maxHeartbeats 8000000 in
theorem c_X4_init (l : Launch) (D : va_G) (cA : Nat → ClassId) (sz : Nat) (n : Nat) (f : Nat → va_E) (k : Nat) (hk : k < n) (hf : f k = .inr (4, [.null, .null, .int 0, .int 0])) : MC l yX4_init cX4_init 2 3 73 485 D cA sz n f [.ref (sz + k)] (fun n' f' => n' = n + 73 ∧ stA cA sz f' k n ∧ ∀ q, q < n → q ≠ k → f' q = f q) := by
  refine y_met (by decide +kernel) rfl (Nat.le_of_ble_eq_true rfl) ?_
  intro p e s m below meth c ls args Y hP hl
  have hS : va_S (CA sz) s.heap s.heap [] := va_S.rf
  have hl : lv_has ls 2 [(0, .ref (sz + k))] := hl
  have hfr0 : ∀ q, q < n → q ≠ k → f q = f q := fun _ _ _ => rfl
  refine lv_aload_n Y.1.1 Y.1.2.1 dX4_init_0 rfl (lv_at hl 0 rfl) ?_
  refine y_obj Y ⟨wd_85, wd_78, wd_79⟩ hl.1 (by decide) (Nat.le_of_ble_eq_true rfl) dX4_init_1 ?_
  refine lv_aload_n Y.1.1 Y.1.2.1 dX4_init_4 rfl (lv_at hl 0 rfl) ?_
  refine y_new (C := RX0) (T := TX0) (N := 12) (ci := 0) (fs := [.int 0, .int 0, .int 0, .int 0, .int 0, .null, .null, .null, .null, .null, .null, .null]) Y hP hS inX0 tyX0_ok rfl dvX0 ⟨wd_86, wd_87, wd_56⟩ (by decide) (by decide) dX4_init_5 (fun H hP hS => ?_)
  refine W.eqn (k := 1) (n := 12) rfl rfl ?_
  obtain ⟨f1, ef2⟩ : ∃ z, z = va_up f (n) (.inr (0, [.int 0, .int 0, .int 0, .int 0, .int 0, .null, .null, .null, .null, .null, .null, .null])) := ⟨_, rfl⟩
  have hP : CP D sz (n + 1) f1 H := by rw [ef2]; exact hP
  have h3 : f1 (k) = .inr (4, [.null, .null, .int 0, .int 0]) := by rw [ef2]; exact (va_upn (by omega)).trans hf
  have h4 : f1 (n) = .inr (0, [.int 0, .int 0, .int 0, .int 0, .int 0, .null, .null, .null, .null, .null, .null, .null]) := by rw [ef2]; exact va_ups
  have hfr5 : ∀ q, q < n → q ≠ k → f1 q = f q := fun q h1 h2 => by rw [ef2]; exact (va_upn (by omega)).trans (hfr0 q h1 h2)
  clear hfr0 ef2
  refine lv_dup Y.1.1 Y.1.2.1 dX4_init_8 rfl ?_
  refine y_call (As := []) (rest := [.ref (sz + n), .ref (sz + k)]) Y hP hS (c_X0_init l D cA sz (n + 1) f1 (n) (by omega) h4) ⟨wd_90, wd_88, wd_89, wd_56⟩ rfl hd_X0_init ⟨by decide, by decide⟩ rfl hl.1 rfl (Nat.le_of_ble_eq_true rfl) dX4_init_9 ⟨by decide, by decide⟩ (fun nx f6 H locs hp7 hP hS => ?_)
  obtain ⟨rfl, hp7a, hp7b⟩ := hp7
  have hP : CP D sz (n + 8) f6 H := hP
  refine W.eqn (k := 8) (n := 53) rfl rfl ?_
  have h8 : f6 (k) = .inr (4, [.null, .null, .int 0, .int 0]) := (hp7b _ (by omega) (by omega)).trans h3
  have hfr9 : ∀ q, q < n → q ≠ k → f6 q = f q := fun q h1 h2 => (hp7b q (by omega) (by omega)).trans (hfr5 q h1 h2)
  clear h3 h4 hfr5 hp7b
  refine y_putF (C := RX4) (T := TX4) (N := 4) (ci := 4) (ty := .object "FordQuestions$Ford") Y hP hS inX4 tyX4_ok nmX4 rfl (by omega) h8 0 (by decide) rfl rfl (Nat.le_of_ble_eq_true rfl) rfl rfl wd_159 dX4_init_12 (fun H locs hP hS => ?_)
  obtain ⟨f10, ef11⟩ : ∃ z, z = va_up f6 (k) (.inr (4, [.ref (sz + n), .null, .int 0, .int 0])) := ⟨_, rfl⟩
  have hP : CP D sz (n + 8) f10 H := by rw [ef11]; exact hP
  have h12 : fdA cA sz f10 (n) (n + 1) := fdA_kept hp7a (fun q hq => by rw [ef11]; exact va_upn (by omega))
  have h13 : f10 (k) = .inr (4, [.ref (sz + n), .null, .int 0, .int 0]) := by rw [ef11]; exact va_ups
  have hfr14 : ∀ q, q < n → q ≠ k → f10 q = f q := fun q h1 h2 => by rw [ef11]; exact (va_upn (by omega)).trans (hfr9 q h1 h2)
  clear h8 hp7a hfr9 ef11
  refine lv_aload_n Y.1.1 Y.1.2.1 dX4_init_15 rfl (lv_at hl 0 rfl) ?_
  refine lv_bipush (v := 8) Y.1.1 Y.1.2.1 dX4_init_16 (by decide) ?_
  refine y_anew (ti := 3) (N' := 8) Y hP hS rfl Y.2.2.2.1.2.1 wd_86 (by decide) (by decide) (by decide) (by decide) (by decide) dX4_init_18 (fun H hP hS => ?_)
  refine W.eqn (k := 9) (n := 61) rfl rfl ?_
  obtain ⟨f15, ef16⟩ : ∃ z, z = va_up f10 (n + 8) (.inl (cA 3, 8, .inr (.inr (.inr (.inr (fun _ => none)))))) := ⟨_, rfl⟩
  have hP : CP D sz (n + 9) f15 H := by rw [ef16]; exact hP
  have h17 : fdA cA sz f15 (n) (n + 1) := fdA_kept h12 (fun q hq => by rw [ef16]; exact va_upn (by omega))
  have h18 : f15 (k) = .inr (4, [.ref (sz + n), .null, .int 0, .int 0]) := by rw [ef16]; exact (va_upn (by omega)).trans h13
  have h19 : f15 (n + 8) = .inl (cA 3, 8, .inr (.inr (.inr (.inr (fun _ => none))))) := by rw [ef16]; exact va_ups
  have hfr20 : ∀ q, q < n → q ≠ k → f15 q = f q := fun q h1 h2 => by rw [ef16]; exact (va_upn (by omega)).trans (hfr14 q h1 h2)
  clear h12 h13 hfr14 ef16
  refine y_putF (C := RX4) (T := TX4) (N := 4) (ci := 4) (ty := .array (.object "FordQuestions$Ford")) Y hP hS inX4 tyX4_ok nmX4 rfl (by omega) h18 1 (by decide) rfl rfl (Nat.le_of_ble_eq_true rfl) rfl rfl wd_161 dX4_init_21 (fun H locs hP hS => ?_)
  obtain ⟨f21, ef22⟩ : ∃ z, z = va_up f15 (k) (.inr (4, [.ref (sz + n), .ref (sz + (n + 8)), .int 0, .int 0])) := ⟨_, rfl⟩
  have hP : CP D sz (n + 9) f21 H := by rw [ef22]; exact hP
  have h23 : fdA cA sz f21 (n) (n + 1) := fdA_kept h17 (fun q hq => by rw [ef22]; exact va_upn (by omega))
  have h24 : f21 (n + 8) = .inl (cA 3, 8, .inr (.inr (.inr (.inr (fun _ => none))))) := by rw [ef22]; exact (va_upn (by omega)).trans h19
  have h25 : f21 (k) = .inr (4, [.ref (sz + n), .ref (sz + (n + 8)), .int 0, .int 0]) := by rw [ef22]; exact va_ups
  have hfr26 : ∀ q, q < n → q ≠ k → f21 q = f q := fun q h1 h2 => by rw [ef22]; exact (va_upn (by omega)).trans (hfr20 q h1 h2)
  clear h17 h18 h19 hfr20 ef22
  refine lv_iconst (v := 0) Y.1.1 Y.1.2.1 dX4_init_24 (by decide) ?_
  refine lv_istore_n (lv' := [(1, .int 0), (0, .ref (sz + k))]) Y.1.1 Y.1.2.1 dX4_init_25 rfl hl (by decide) rfl (fun ls hl => ?_)
  refine lv_iload_n Y.1.1 Y.1.2.1 dX4_init_26 rfl (lv_at hl 0 rfl) ?_
  refine lv_bipush (v := 8) Y.1.1 Y.1.2.1 dX4_init_27 (by decide) ?_
  refine lv_icmp_ge (tgt := 51) Y.1.1 Y.1.2.1 dX4_init_29 (by decide) (fun c => absurd c (by decide)) (fun _ => ?_)
  refine lv_aload_n Y.1.1 Y.1.2.1 dX4_init_32 rfl (lv_at hl 1 rfl) ?_
  refine y_get (C := RX4) (T := TX4) (N := 4) (ci := 4) Y hP inX4 rfl (by omega) h25 1 (by decide) rfl rfl wd_161 dX4_init_33 ?_
  refine lv_iload_n Y.1.1 Y.1.2.1 dX4_init_36 rfl (lv_at hl 0 rfl) ?_
  refine y_new (C := RX0) (T := TX0) (N := 12) (ci := 0) (fs := [.int 0, .int 0, .int 0, .int 0, .int 0, .null, .null, .null, .null, .null, .null, .null]) Y hP hS inX0 tyX0_ok rfl dvX0 ⟨wd_86, wd_87, wd_56⟩ (by decide) (by decide) dX4_init_37 (fun H hP hS => ?_)
  refine W.eqn (k := 10) (n := 73) rfl rfl ?_
  obtain ⟨f27, ef28⟩ : ∃ z, z = va_up f21 (n + 9) (.inr (0, [.int 0, .int 0, .int 0, .int 0, .int 0, .null, .null, .null, .null, .null, .null, .null])) := ⟨_, rfl⟩
  have hP : CP D sz (n + 10) f27 H := by rw [ef28]; exact hP
  have h29 : fdA cA sz f27 (n) (n + 1) := fdA_kept h23 (fun q hq => by rw [ef28]; exact va_upn (by omega))
  have h30 : f27 (n + 8) = .inl (cA 3, 8, .inr (.inr (.inr (.inr (fun _ => none))))) := by rw [ef28]; exact (va_upn (by omega)).trans h24
  have h31 : f27 (k) = .inr (4, [.ref (sz + n), .ref (sz + (n + 8)), .int 0, .int 0]) := by rw [ef28]; exact (va_upn (by omega)).trans h25
  have h32 : f27 (n + 9) = .inr (0, [.int 0, .int 0, .int 0, .int 0, .int 0, .null, .null, .null, .null, .null, .null, .null]) := by rw [ef28]; exact va_ups
  have hfr33 : ∀ q, q < n → q ≠ k → f27 q = f q := fun q h1 h2 => by rw [ef28]; exact (va_upn (by omega)).trans (hfr26 q h1 h2)
  clear h23 h24 h25 hfr26 ef28
  refine lv_dup Y.1.1 Y.1.2.1 dX4_init_40 rfl ?_
  refine y_call (As := []) (rest := [.ref (sz + (n + 9)), .int 0, .ref (sz + (n + 8))]) Y hP hS (c_X0_init l D cA sz (n + 10) f27 (n + 9) (by omega) h32) ⟨wd_90, wd_88, wd_89, wd_56⟩ rfl hd_X0_init ⟨by decide, by decide⟩ rfl hl.1 rfl (Nat.le_of_ble_eq_true rfl) dX4_init_41 ⟨by decide, by decide⟩ (fun nx f34 H locs hp35 hP hS => ?_)
  obtain ⟨rfl, hp35a, hp35b⟩ := hp35
  have hP : CP D sz (n + 17) f34 H := hP
  refine W.eqn (k := 17) (n := 114) rfl rfl ?_
  have h36 : fdA cA sz f34 (n) (n + 1) := fdA_kept h29 (fun q hq => hp35b _ (by omega) (by omega))
  have h37 : f34 (n + 8) = .inl (cA 3, 8, .inr (.inr (.inr (.inr (fun _ => none))))) := (hp35b _ (by omega) (by omega)).trans h30
  have h38 : f34 (k) = .inr (4, [.ref (sz + n), .ref (sz + (n + 8)), .int 0, .int 0]) := (hp35b _ (by omega) (by omega)).trans h31
  have hfr39 : ∀ q, q < n → q ≠ k → f34 q = f q := fun q h1 h2 => (hp35b q (by omega) (by omega)).trans (hfr33 q h1 h2)
  clear h29 h30 h31 h32 hfr33 hp35b
  refine y_aast (r := (RX0, TX0, 12)) (ti := 3) (ci := 0) Y hP hS rfl rfl (by omega) h37 (by omega) hp35a.1 (o_inb_in (by decide)) dX4_init_44 (fun H locs hP hS => ?_)
  obtain ⟨f40, ef41⟩ : ∃ z, z = va_up f34 (n + 8) (.inl (cA 3, 8, .inr (.inr (.inr (.inr (va_up (fun _ => none) (Int32.toNatClampNeg 0) (some (sz + (n + 9))))))))) := ⟨_, rfl⟩
  have hP : CP D sz (n + 17) f40 H := by rw [ef41]; exact hP
  have h42 : fdA cA sz f40 (n) (n + 1) := fdA_kept h36 (fun q hq => by rw [ef41]; exact va_upn (by omega))
  have h43 : f40 (k) = .inr (4, [.ref (sz + n), .ref (sz + (n + 8)), .int 0, .int 0]) := by rw [ef41]; exact (va_upn (by omega)).trans h38
  have h44 : fdA cA sz f40 (n + 9) (n + 10) := fdA_kept hp35a (fun q hq => by rw [ef41]; exact va_upn (by omega))
  have h45 : f40 (n + 8) = .inl (cA 3, 8, .inr (.inr (.inr (.inr (va_up (fun _ => none) (Int32.toNatClampNeg 0) (some (sz + (n + 9)))))))) := by rw [ef41]; exact va_ups
  have hfr46 : ∀ q, q < n → q ≠ k → f40 q = f q := fun q h1 h2 => by rw [ef41]; exact (va_upn (by omega)).trans (hfr39 q h1 h2)
  clear h36 h37 h38 hp35a hfr39 ef41
  refine lv_iinc (v := 1) (lv' := [(1, .int 1), (0, .ref (sz + k))]) Y.1.1 Y.1.2.1 dX4_init_45 hl (k := 0) rfl (by decide) (by decide) rfl (fun ls hl => ?_)
  refine lv_goto (tgt := 26) Y.1.1 Y.1.2.1 dX4_init_48 (by decide) ?_
  refine lv_iload_n Y.1.1 Y.1.2.1 dX4_init_26 rfl (lv_at hl 0 rfl) ?_
  refine lv_bipush (v := 8) Y.1.1 Y.1.2.1 dX4_init_27 (by decide) ?_
  refine lv_icmp_ge (tgt := 51) Y.1.1 Y.1.2.1 dX4_init_29 (by decide) (fun c => absurd c (by decide)) (fun _ => ?_)
  refine lv_aload_n Y.1.1 Y.1.2.1 dX4_init_32 rfl (lv_at hl 1 rfl) ?_
  refine y_get (C := RX4) (T := TX4) (N := 4) (ci := 4) Y hP inX4 rfl (by omega) h43 1 (by decide) rfl rfl wd_161 dX4_init_33 ?_
  refine lv_iload_n Y.1.1 Y.1.2.1 dX4_init_36 rfl (lv_at hl 0 rfl) ?_
  refine y_new (C := RX0) (T := TX0) (N := 12) (ci := 0) (fs := [.int 0, .int 0, .int 0, .int 0, .int 0, .null, .null, .null, .null, .null, .null, .null]) Y hP hS inX0 tyX0_ok rfl dvX0 ⟨wd_86, wd_87, wd_56⟩ (by decide) (by decide) dX4_init_37 (fun H hP hS => ?_)
  refine W.eqn (k := 18) (n := 126) rfl rfl ?_
  obtain ⟨f47, ef48⟩ : ∃ z, z = va_up f40 (n + 17) (.inr (0, [.int 0, .int 0, .int 0, .int 0, .int 0, .null, .null, .null, .null, .null, .null, .null])) := ⟨_, rfl⟩
  have hP : CP D sz (n + 18) f47 H := by rw [ef48]; exact hP
  have h49 : fdA cA sz f47 (n) (n + 1) := fdA_kept h42 (fun q hq => by rw [ef48]; exact va_upn (by omega))
  have h50 : f47 (k) = .inr (4, [.ref (sz + n), .ref (sz + (n + 8)), .int 0, .int 0]) := by rw [ef48]; exact (va_upn (by omega)).trans h43
  have h51 : fdA cA sz f47 (n + 9) (n + 10) := fdA_kept h44 (fun q hq => by rw [ef48]; exact va_upn (by omega))
  have h52 : f47 (n + 8) = .inl (cA 3, 8, .inr (.inr (.inr (.inr (va_up (fun _ => none) (Int32.toNatClampNeg 0) (some (sz + (n + 9)))))))) := by rw [ef48]; exact (va_upn (by omega)).trans h45
  have h53 : f47 (n + 17) = .inr (0, [.int 0, .int 0, .int 0, .int 0, .int 0, .null, .null, .null, .null, .null, .null, .null]) := by rw [ef48]; exact va_ups
  have hfr54 : ∀ q, q < n → q ≠ k → f47 q = f q := fun q h1 h2 => by rw [ef48]; exact (va_upn (by omega)).trans (hfr46 q h1 h2)
  clear h42 h43 h44 h45 hfr46 ef48
  refine lv_dup Y.1.1 Y.1.2.1 dX4_init_40 rfl ?_
  refine y_call (As := []) (rest := [.ref (sz + (n + 17)), .int 1, .ref (sz + (n + 8))]) Y hP hS (c_X0_init l D cA sz (n + 18) f47 (n + 17) (by omega) h53) ⟨wd_90, wd_88, wd_89, wd_56⟩ rfl hd_X0_init ⟨by decide, by decide⟩ rfl hl.1 rfl (Nat.le_of_ble_eq_true rfl) dX4_init_41 ⟨by decide, by decide⟩ (fun nx f55 H locs hp56 hP hS => ?_)
  obtain ⟨rfl, hp56a, hp56b⟩ := hp56
  have hP : CP D sz (n + 25) f55 H := hP
  refine W.eqn (k := 25) (n := 167) rfl rfl ?_
  have h57 : fdA cA sz f55 (n) (n + 1) := fdA_kept h49 (fun q hq => hp56b _ (by omega) (by omega))
  have h58 : f55 (k) = .inr (4, [.ref (sz + n), .ref (sz + (n + 8)), .int 0, .int 0]) := (hp56b _ (by omega) (by omega)).trans h50
  have h59 : fdA cA sz f55 (n + 9) (n + 10) := fdA_kept h51 (fun q hq => hp56b _ (by omega) (by omega))
  have h60 : f55 (n + 8) = .inl (cA 3, 8, .inr (.inr (.inr (.inr (va_up (fun _ => none) (Int32.toNatClampNeg 0) (some (sz + (n + 9)))))))) := (hp56b _ (by omega) (by omega)).trans h52
  have hfr61 : ∀ q, q < n → q ≠ k → f55 q = f q := fun q h1 h2 => (hp56b q (by omega) (by omega)).trans (hfr54 q h1 h2)
  clear h49 h50 h51 h52 h53 hfr54 hp56b
  refine y_aast (r := (RX0, TX0, 12)) (ti := 3) (ci := 0) Y hP hS rfl rfl (by omega) h60 (by omega) hp56a.1 (o_inb_in (by decide)) dX4_init_44 (fun H locs hP hS => ?_)
  obtain ⟨f62, ef63⟩ : ∃ z, z = va_up f55 (n + 8) (.inl (cA 3, 8, .inr (.inr (.inr (.inr (va_up (va_up (fun _ => none) (Int32.toNatClampNeg 0) (some (sz + (n + 9)))) (Int32.toNatClampNeg 1) (some (sz + (n + 17))))))))) := ⟨_, rfl⟩
  have hP : CP D sz (n + 25) f62 H := by rw [ef63]; exact hP
  have h64 : fdA cA sz f62 (n) (n + 1) := fdA_kept h57 (fun q hq => by rw [ef63]; exact va_upn (by omega))
  have h65 : f62 (k) = .inr (4, [.ref (sz + n), .ref (sz + (n + 8)), .int 0, .int 0]) := by rw [ef63]; exact (va_upn (by omega)).trans h58
  have h66 : fdA cA sz f62 (n + 9) (n + 10) := fdA_kept h59 (fun q hq => by rw [ef63]; exact va_upn (by omega))
  have h67 : fdA cA sz f62 (n + 17) (n + 18) := fdA_kept hp56a (fun q hq => by rw [ef63]; exact va_upn (by omega))
  have h68 : f62 (n + 8) = .inl (cA 3, 8, .inr (.inr (.inr (.inr (va_up (va_up (fun _ => none) (Int32.toNatClampNeg 0) (some (sz + (n + 9)))) (Int32.toNatClampNeg 1) (some (sz + (n + 17)))))))) := by rw [ef63]; exact va_ups
  have hfr69 : ∀ q, q < n → q ≠ k → f62 q = f q := fun q h1 h2 => by rw [ef63]; exact (va_upn (by omega)).trans (hfr61 q h1 h2)
  clear h57 h58 h59 h60 hp56a hfr61 ef63
  refine lv_iinc (v := 2) (lv' := [(1, .int 2), (0, .ref (sz + k))]) Y.1.1 Y.1.2.1 dX4_init_45 hl (k := 0) rfl (by decide) (by decide) rfl (fun ls hl => ?_)
  refine lv_goto (tgt := 26) Y.1.1 Y.1.2.1 dX4_init_48 (by decide) ?_
  refine lv_iload_n Y.1.1 Y.1.2.1 dX4_init_26 rfl (lv_at hl 0 rfl) ?_
  refine lv_bipush (v := 8) Y.1.1 Y.1.2.1 dX4_init_27 (by decide) ?_
  refine lv_icmp_ge (tgt := 51) Y.1.1 Y.1.2.1 dX4_init_29 (by decide) (fun c => absurd c (by decide)) (fun _ => ?_)
  refine lv_aload_n Y.1.1 Y.1.2.1 dX4_init_32 rfl (lv_at hl 1 rfl) ?_
  refine y_get (C := RX4) (T := TX4) (N := 4) (ci := 4) Y hP inX4 rfl (by omega) h65 1 (by decide) rfl rfl wd_161 dX4_init_33 ?_
  refine lv_iload_n Y.1.1 Y.1.2.1 dX4_init_36 rfl (lv_at hl 0 rfl) ?_
  refine y_new (C := RX0) (T := TX0) (N := 12) (ci := 0) (fs := [.int 0, .int 0, .int 0, .int 0, .int 0, .null, .null, .null, .null, .null, .null, .null]) Y hP hS inX0 tyX0_ok rfl dvX0 ⟨wd_86, wd_87, wd_56⟩ (by decide) (by decide) dX4_init_37 (fun H hP hS => ?_)
  refine W.eqn (k := 26) (n := 179) rfl rfl ?_
  obtain ⟨f70, ef71⟩ : ∃ z, z = va_up f62 (n + 25) (.inr (0, [.int 0, .int 0, .int 0, .int 0, .int 0, .null, .null, .null, .null, .null, .null, .null])) := ⟨_, rfl⟩
  have hP : CP D sz (n + 26) f70 H := by rw [ef71]; exact hP
  have h72 : fdA cA sz f70 (n) (n + 1) := fdA_kept h64 (fun q hq => by rw [ef71]; exact va_upn (by omega))
  have h73 : f70 (k) = .inr (4, [.ref (sz + n), .ref (sz + (n + 8)), .int 0, .int 0]) := by rw [ef71]; exact (va_upn (by omega)).trans h65
  have h74 : fdA cA sz f70 (n + 9) (n + 10) := fdA_kept h66 (fun q hq => by rw [ef71]; exact va_upn (by omega))
  have h75 : fdA cA sz f70 (n + 17) (n + 18) := fdA_kept h67 (fun q hq => by rw [ef71]; exact va_upn (by omega))
  have h76 : f70 (n + 8) = .inl (cA 3, 8, .inr (.inr (.inr (.inr (va_up (va_up (fun _ => none) (Int32.toNatClampNeg 0) (some (sz + (n + 9)))) (Int32.toNatClampNeg 1) (some (sz + (n + 17)))))))) := by rw [ef71]; exact (va_upn (by omega)).trans h68
  have h77 : f70 (n + 25) = .inr (0, [.int 0, .int 0, .int 0, .int 0, .int 0, .null, .null, .null, .null, .null, .null, .null]) := by rw [ef71]; exact va_ups
  have hfr78 : ∀ q, q < n → q ≠ k → f70 q = f q := fun q h1 h2 => by rw [ef71]; exact (va_upn (by omega)).trans (hfr69 q h1 h2)
  clear h64 h65 h66 h67 h68 hfr69 ef71
  refine lv_dup Y.1.1 Y.1.2.1 dX4_init_40 rfl ?_
  refine y_call (As := []) (rest := [.ref (sz + (n + 25)), .int 2, .ref (sz + (n + 8))]) Y hP hS (c_X0_init l D cA sz (n + 26) f70 (n + 25) (by omega) h77) ⟨wd_90, wd_88, wd_89, wd_56⟩ rfl hd_X0_init ⟨by decide, by decide⟩ rfl hl.1 rfl (Nat.le_of_ble_eq_true rfl) dX4_init_41 ⟨by decide, by decide⟩ (fun nx f79 H locs hp80 hP hS => ?_)
  obtain ⟨rfl, hp80a, hp80b⟩ := hp80
  have hP : CP D sz (n + 33) f79 H := hP
  refine W.eqn (k := 33) (n := 220) rfl rfl ?_
  have h81 : fdA cA sz f79 (n) (n + 1) := fdA_kept h72 (fun q hq => hp80b _ (by omega) (by omega))
  have h82 : f79 (k) = .inr (4, [.ref (sz + n), .ref (sz + (n + 8)), .int 0, .int 0]) := (hp80b _ (by omega) (by omega)).trans h73
  have h83 : fdA cA sz f79 (n + 9) (n + 10) := fdA_kept h74 (fun q hq => hp80b _ (by omega) (by omega))
  have h84 : fdA cA sz f79 (n + 17) (n + 18) := fdA_kept h75 (fun q hq => hp80b _ (by omega) (by omega))
  have h85 : f79 (n + 8) = .inl (cA 3, 8, .inr (.inr (.inr (.inr (va_up (va_up (fun _ => none) (Int32.toNatClampNeg 0) (some (sz + (n + 9)))) (Int32.toNatClampNeg 1) (some (sz + (n + 17)))))))) := (hp80b _ (by omega) (by omega)).trans h76
  have hfr86 : ∀ q, q < n → q ≠ k → f79 q = f q := fun q h1 h2 => (hp80b q (by omega) (by omega)).trans (hfr78 q h1 h2)
  clear h72 h73 h74 h75 h76 h77 hfr78 hp80b
  refine y_aast (r := (RX0, TX0, 12)) (ti := 3) (ci := 0) Y hP hS rfl rfl (by omega) h85 (by omega) hp80a.1 (o_inb_in (by decide)) dX4_init_44 (fun H locs hP hS => ?_)
  obtain ⟨f87, ef88⟩ : ∃ z, z = va_up f79 (n + 8) (.inl (cA 3, 8, .inr (.inr (.inr (.inr (va_up (va_up (va_up (fun _ => none) (Int32.toNatClampNeg 0) (some (sz + (n + 9)))) (Int32.toNatClampNeg 1) (some (sz + (n + 17)))) (Int32.toNatClampNeg 2) (some (sz + (n + 25))))))))) := ⟨_, rfl⟩
  have hP : CP D sz (n + 33) f87 H := by rw [ef88]; exact hP
  have h89 : fdA cA sz f87 (n) (n + 1) := fdA_kept h81 (fun q hq => by rw [ef88]; exact va_upn (by omega))
  have h90 : f87 (k) = .inr (4, [.ref (sz + n), .ref (sz + (n + 8)), .int 0, .int 0]) := by rw [ef88]; exact (va_upn (by omega)).trans h82
  have h91 : fdA cA sz f87 (n + 9) (n + 10) := fdA_kept h83 (fun q hq => by rw [ef88]; exact va_upn (by omega))
  have h92 : fdA cA sz f87 (n + 17) (n + 18) := fdA_kept h84 (fun q hq => by rw [ef88]; exact va_upn (by omega))
  have h93 : fdA cA sz f87 (n + 25) (n + 26) := fdA_kept hp80a (fun q hq => by rw [ef88]; exact va_upn (by omega))
  have h94 : f87 (n + 8) = .inl (cA 3, 8, .inr (.inr (.inr (.inr (va_up (va_up (va_up (fun _ => none) (Int32.toNatClampNeg 0) (some (sz + (n + 9)))) (Int32.toNatClampNeg 1) (some (sz + (n + 17)))) (Int32.toNatClampNeg 2) (some (sz + (n + 25)))))))) := by rw [ef88]; exact va_ups
  have hfr95 : ∀ q, q < n → q ≠ k → f87 q = f q := fun q h1 h2 => by rw [ef88]; exact (va_upn (by omega)).trans (hfr86 q h1 h2)
  clear h81 h82 h83 h84 h85 hp80a hfr86 ef88
  refine lv_iinc (v := 3) (lv' := [(1, .int 3), (0, .ref (sz + k))]) Y.1.1 Y.1.2.1 dX4_init_45 hl (k := 0) rfl (by decide) (by decide) rfl (fun ls hl => ?_)
  refine lv_goto (tgt := 26) Y.1.1 Y.1.2.1 dX4_init_48 (by decide) ?_
  refine lv_iload_n Y.1.1 Y.1.2.1 dX4_init_26 rfl (lv_at hl 0 rfl) ?_
  refine lv_bipush (v := 8) Y.1.1 Y.1.2.1 dX4_init_27 (by decide) ?_
  refine lv_icmp_ge (tgt := 51) Y.1.1 Y.1.2.1 dX4_init_29 (by decide) (fun c => absurd c (by decide)) (fun _ => ?_)
  refine lv_aload_n Y.1.1 Y.1.2.1 dX4_init_32 rfl (lv_at hl 1 rfl) ?_
  refine y_get (C := RX4) (T := TX4) (N := 4) (ci := 4) Y hP inX4 rfl (by omega) h90 1 (by decide) rfl rfl wd_161 dX4_init_33 ?_
  refine lv_iload_n Y.1.1 Y.1.2.1 dX4_init_36 rfl (lv_at hl 0 rfl) ?_
  refine y_new (C := RX0) (T := TX0) (N := 12) (ci := 0) (fs := [.int 0, .int 0, .int 0, .int 0, .int 0, .null, .null, .null, .null, .null, .null, .null]) Y hP hS inX0 tyX0_ok rfl dvX0 ⟨wd_86, wd_87, wd_56⟩ (by decide) (by decide) dX4_init_37 (fun H hP hS => ?_)
  refine W.eqn (k := 34) (n := 232) rfl rfl ?_
  obtain ⟨f96, ef97⟩ : ∃ z, z = va_up f87 (n + 33) (.inr (0, [.int 0, .int 0, .int 0, .int 0, .int 0, .null, .null, .null, .null, .null, .null, .null])) := ⟨_, rfl⟩
  have hP : CP D sz (n + 34) f96 H := by rw [ef97]; exact hP
  have h98 : fdA cA sz f96 (n) (n + 1) := fdA_kept h89 (fun q hq => by rw [ef97]; exact va_upn (by omega))
  have h99 : f96 (k) = .inr (4, [.ref (sz + n), .ref (sz + (n + 8)), .int 0, .int 0]) := by rw [ef97]; exact (va_upn (by omega)).trans h90
  have h100 : fdA cA sz f96 (n + 9) (n + 10) := fdA_kept h91 (fun q hq => by rw [ef97]; exact va_upn (by omega))
  have h101 : fdA cA sz f96 (n + 17) (n + 18) := fdA_kept h92 (fun q hq => by rw [ef97]; exact va_upn (by omega))
  have h102 : fdA cA sz f96 (n + 25) (n + 26) := fdA_kept h93 (fun q hq => by rw [ef97]; exact va_upn (by omega))
  have h103 : f96 (n + 8) = .inl (cA 3, 8, .inr (.inr (.inr (.inr (va_up (va_up (va_up (fun _ => none) (Int32.toNatClampNeg 0) (some (sz + (n + 9)))) (Int32.toNatClampNeg 1) (some (sz + (n + 17)))) (Int32.toNatClampNeg 2) (some (sz + (n + 25)))))))) := by rw [ef97]; exact (va_upn (by omega)).trans h94
  have h104 : f96 (n + 33) = .inr (0, [.int 0, .int 0, .int 0, .int 0, .int 0, .null, .null, .null, .null, .null, .null, .null]) := by rw [ef97]; exact va_ups
  have hfr105 : ∀ q, q < n → q ≠ k → f96 q = f q := fun q h1 h2 => by rw [ef97]; exact (va_upn (by omega)).trans (hfr95 q h1 h2)
  clear h89 h90 h91 h92 h93 h94 hfr95 ef97
  refine lv_dup Y.1.1 Y.1.2.1 dX4_init_40 rfl ?_
  refine y_call (As := []) (rest := [.ref (sz + (n + 33)), .int 3, .ref (sz + (n + 8))]) Y hP hS (c_X0_init l D cA sz (n + 34) f96 (n + 33) (by omega) h104) ⟨wd_90, wd_88, wd_89, wd_56⟩ rfl hd_X0_init ⟨by decide, by decide⟩ rfl hl.1 rfl (Nat.le_of_ble_eq_true rfl) dX4_init_41 ⟨by decide, by decide⟩ (fun nx f106 H locs hp107 hP hS => ?_)
  obtain ⟨rfl, hp107a, hp107b⟩ := hp107
  have hP : CP D sz (n + 41) f106 H := hP
  refine W.eqn (k := 41) (n := 273) rfl rfl ?_
  have h108 : fdA cA sz f106 (n) (n + 1) := fdA_kept h98 (fun q hq => hp107b _ (by omega) (by omega))
  have h109 : f106 (k) = .inr (4, [.ref (sz + n), .ref (sz + (n + 8)), .int 0, .int 0]) := (hp107b _ (by omega) (by omega)).trans h99
  have h110 : fdA cA sz f106 (n + 9) (n + 10) := fdA_kept h100 (fun q hq => hp107b _ (by omega) (by omega))
  have h111 : fdA cA sz f106 (n + 17) (n + 18) := fdA_kept h101 (fun q hq => hp107b _ (by omega) (by omega))
  have h112 : fdA cA sz f106 (n + 25) (n + 26) := fdA_kept h102 (fun q hq => hp107b _ (by omega) (by omega))
  have h113 : f106 (n + 8) = .inl (cA 3, 8, .inr (.inr (.inr (.inr (va_up (va_up (va_up (fun _ => none) (Int32.toNatClampNeg 0) (some (sz + (n + 9)))) (Int32.toNatClampNeg 1) (some (sz + (n + 17)))) (Int32.toNatClampNeg 2) (some (sz + (n + 25)))))))) := (hp107b _ (by omega) (by omega)).trans h103
  have hfr114 : ∀ q, q < n → q ≠ k → f106 q = f q := fun q h1 h2 => (hp107b q (by omega) (by omega)).trans (hfr105 q h1 h2)
  clear h98 h99 h100 h101 h102 h103 h104 hfr105 hp107b
  refine y_aast (r := (RX0, TX0, 12)) (ti := 3) (ci := 0) Y hP hS rfl rfl (by omega) h113 (by omega) hp107a.1 (o_inb_in (by decide)) dX4_init_44 (fun H locs hP hS => ?_)
  obtain ⟨f115, ef116⟩ : ∃ z, z = va_up f106 (n + 8) (.inl (cA 3, 8, .inr (.inr (.inr (.inr (va_up (va_up (va_up (va_up (fun _ => none) (Int32.toNatClampNeg 0) (some (sz + (n + 9)))) (Int32.toNatClampNeg 1) (some (sz + (n + 17)))) (Int32.toNatClampNeg 2) (some (sz + (n + 25)))) (Int32.toNatClampNeg 3) (some (sz + (n + 33))))))))) := ⟨_, rfl⟩
  have hP : CP D sz (n + 41) f115 H := by rw [ef116]; exact hP
  have h117 : fdA cA sz f115 (n) (n + 1) := fdA_kept h108 (fun q hq => by rw [ef116]; exact va_upn (by omega))
  have h118 : f115 (k) = .inr (4, [.ref (sz + n), .ref (sz + (n + 8)), .int 0, .int 0]) := by rw [ef116]; exact (va_upn (by omega)).trans h109
  have h119 : fdA cA sz f115 (n + 9) (n + 10) := fdA_kept h110 (fun q hq => by rw [ef116]; exact va_upn (by omega))
  have h120 : fdA cA sz f115 (n + 17) (n + 18) := fdA_kept h111 (fun q hq => by rw [ef116]; exact va_upn (by omega))
  have h121 : fdA cA sz f115 (n + 25) (n + 26) := fdA_kept h112 (fun q hq => by rw [ef116]; exact va_upn (by omega))
  have h122 : fdA cA sz f115 (n + 33) (n + 34) := fdA_kept hp107a (fun q hq => by rw [ef116]; exact va_upn (by omega))
  have h123 : f115 (n + 8) = .inl (cA 3, 8, .inr (.inr (.inr (.inr (va_up (va_up (va_up (va_up (fun _ => none) (Int32.toNatClampNeg 0) (some (sz + (n + 9)))) (Int32.toNatClampNeg 1) (some (sz + (n + 17)))) (Int32.toNatClampNeg 2) (some (sz + (n + 25)))) (Int32.toNatClampNeg 3) (some (sz + (n + 33)))))))) := by rw [ef116]; exact va_ups
  have hfr124 : ∀ q, q < n → q ≠ k → f115 q = f q := fun q h1 h2 => by rw [ef116]; exact (va_upn (by omega)).trans (hfr114 q h1 h2)
  clear h108 h109 h110 h111 h112 h113 hp107a hfr114 ef116
  refine lv_iinc (v := 4) (lv' := [(1, .int 4), (0, .ref (sz + k))]) Y.1.1 Y.1.2.1 dX4_init_45 hl (k := 0) rfl (by decide) (by decide) rfl (fun ls hl => ?_)
  refine lv_goto (tgt := 26) Y.1.1 Y.1.2.1 dX4_init_48 (by decide) ?_
  refine lv_iload_n Y.1.1 Y.1.2.1 dX4_init_26 rfl (lv_at hl 0 rfl) ?_
  refine lv_bipush (v := 8) Y.1.1 Y.1.2.1 dX4_init_27 (by decide) ?_
  refine lv_icmp_ge (tgt := 51) Y.1.1 Y.1.2.1 dX4_init_29 (by decide) (fun c => absurd c (by decide)) (fun _ => ?_)
  refine lv_aload_n Y.1.1 Y.1.2.1 dX4_init_32 rfl (lv_at hl 1 rfl) ?_
  refine y_get (C := RX4) (T := TX4) (N := 4) (ci := 4) Y hP inX4 rfl (by omega) h118 1 (by decide) rfl rfl wd_161 dX4_init_33 ?_
  refine lv_iload_n Y.1.1 Y.1.2.1 dX4_init_36 rfl (lv_at hl 0 rfl) ?_
  refine y_new (C := RX0) (T := TX0) (N := 12) (ci := 0) (fs := [.int 0, .int 0, .int 0, .int 0, .int 0, .null, .null, .null, .null, .null, .null, .null]) Y hP hS inX0 tyX0_ok rfl dvX0 ⟨wd_86, wd_87, wd_56⟩ (by decide) (by decide) dX4_init_37 (fun H hP hS => ?_)
  refine W.eqn (k := 42) (n := 285) rfl rfl ?_
  obtain ⟨f125, ef126⟩ : ∃ z, z = va_up f115 (n + 41) (.inr (0, [.int 0, .int 0, .int 0, .int 0, .int 0, .null, .null, .null, .null, .null, .null, .null])) := ⟨_, rfl⟩
  have hP : CP D sz (n + 42) f125 H := by rw [ef126]; exact hP
  have h127 : fdA cA sz f125 (n) (n + 1) := fdA_kept h117 (fun q hq => by rw [ef126]; exact va_upn (by omega))
  have h128 : f125 (k) = .inr (4, [.ref (sz + n), .ref (sz + (n + 8)), .int 0, .int 0]) := by rw [ef126]; exact (va_upn (by omega)).trans h118
  have h129 : fdA cA sz f125 (n + 9) (n + 10) := fdA_kept h119 (fun q hq => by rw [ef126]; exact va_upn (by omega))
  have h130 : fdA cA sz f125 (n + 17) (n + 18) := fdA_kept h120 (fun q hq => by rw [ef126]; exact va_upn (by omega))
  have h131 : fdA cA sz f125 (n + 25) (n + 26) := fdA_kept h121 (fun q hq => by rw [ef126]; exact va_upn (by omega))
  have h132 : fdA cA sz f125 (n + 33) (n + 34) := fdA_kept h122 (fun q hq => by rw [ef126]; exact va_upn (by omega))
  have h133 : f125 (n + 8) = .inl (cA 3, 8, .inr (.inr (.inr (.inr (va_up (va_up (va_up (va_up (fun _ => none) (Int32.toNatClampNeg 0) (some (sz + (n + 9)))) (Int32.toNatClampNeg 1) (some (sz + (n + 17)))) (Int32.toNatClampNeg 2) (some (sz + (n + 25)))) (Int32.toNatClampNeg 3) (some (sz + (n + 33)))))))) := by rw [ef126]; exact (va_upn (by omega)).trans h123
  have h134 : f125 (n + 41) = .inr (0, [.int 0, .int 0, .int 0, .int 0, .int 0, .null, .null, .null, .null, .null, .null, .null]) := by rw [ef126]; exact va_ups
  have hfr135 : ∀ q, q < n → q ≠ k → f125 q = f q := fun q h1 h2 => by rw [ef126]; exact (va_upn (by omega)).trans (hfr124 q h1 h2)
  clear h117 h118 h119 h120 h121 h122 h123 hfr124 ef126
  refine lv_dup Y.1.1 Y.1.2.1 dX4_init_40 rfl ?_
  refine y_call (As := []) (rest := [.ref (sz + (n + 41)), .int 4, .ref (sz + (n + 8))]) Y hP hS (c_X0_init l D cA sz (n + 42) f125 (n + 41) (by omega) h134) ⟨wd_90, wd_88, wd_89, wd_56⟩ rfl hd_X0_init ⟨by decide, by decide⟩ rfl hl.1 rfl (Nat.le_of_ble_eq_true rfl) dX4_init_41 ⟨by decide, by decide⟩ (fun nx f136 H locs hp137 hP hS => ?_)
  obtain ⟨rfl, hp137a, hp137b⟩ := hp137
  have hP : CP D sz (n + 49) f136 H := hP
  refine W.eqn (k := 49) (n := 326) rfl rfl ?_
  have h138 : fdA cA sz f136 (n) (n + 1) := fdA_kept h127 (fun q hq => hp137b _ (by omega) (by omega))
  have h139 : f136 (k) = .inr (4, [.ref (sz + n), .ref (sz + (n + 8)), .int 0, .int 0]) := (hp137b _ (by omega) (by omega)).trans h128
  have h140 : fdA cA sz f136 (n + 9) (n + 10) := fdA_kept h129 (fun q hq => hp137b _ (by omega) (by omega))
  have h141 : fdA cA sz f136 (n + 17) (n + 18) := fdA_kept h130 (fun q hq => hp137b _ (by omega) (by omega))
  have h142 : fdA cA sz f136 (n + 25) (n + 26) := fdA_kept h131 (fun q hq => hp137b _ (by omega) (by omega))
  have h143 : fdA cA sz f136 (n + 33) (n + 34) := fdA_kept h132 (fun q hq => hp137b _ (by omega) (by omega))
  have h144 : f136 (n + 8) = .inl (cA 3, 8, .inr (.inr (.inr (.inr (va_up (va_up (va_up (va_up (fun _ => none) (Int32.toNatClampNeg 0) (some (sz + (n + 9)))) (Int32.toNatClampNeg 1) (some (sz + (n + 17)))) (Int32.toNatClampNeg 2) (some (sz + (n + 25)))) (Int32.toNatClampNeg 3) (some (sz + (n + 33)))))))) := (hp137b _ (by omega) (by omega)).trans h133
  have hfr145 : ∀ q, q < n → q ≠ k → f136 q = f q := fun q h1 h2 => (hp137b q (by omega) (by omega)).trans (hfr135 q h1 h2)
  clear h127 h128 h129 h130 h131 h132 h133 h134 hfr135 hp137b
  refine y_aast (r := (RX0, TX0, 12)) (ti := 3) (ci := 0) Y hP hS rfl rfl (by omega) h144 (by omega) hp137a.1 (o_inb_in (by decide)) dX4_init_44 (fun H locs hP hS => ?_)
  obtain ⟨f146, ef147⟩ : ∃ z, z = va_up f136 (n + 8) (.inl (cA 3, 8, .inr (.inr (.inr (.inr (va_up (va_up (va_up (va_up (va_up (fun _ => none) (Int32.toNatClampNeg 0) (some (sz + (n + 9)))) (Int32.toNatClampNeg 1) (some (sz + (n + 17)))) (Int32.toNatClampNeg 2) (some (sz + (n + 25)))) (Int32.toNatClampNeg 3) (some (sz + (n + 33)))) (Int32.toNatClampNeg 4) (some (sz + (n + 41))))))))) := ⟨_, rfl⟩
  have hP : CP D sz (n + 49) f146 H := by rw [ef147]; exact hP
  have h148 : fdA cA sz f146 (n) (n + 1) := fdA_kept h138 (fun q hq => by rw [ef147]; exact va_upn (by omega))
  have h149 : f146 (k) = .inr (4, [.ref (sz + n), .ref (sz + (n + 8)), .int 0, .int 0]) := by rw [ef147]; exact (va_upn (by omega)).trans h139
  have h150 : fdA cA sz f146 (n + 9) (n + 10) := fdA_kept h140 (fun q hq => by rw [ef147]; exact va_upn (by omega))
  have h151 : fdA cA sz f146 (n + 17) (n + 18) := fdA_kept h141 (fun q hq => by rw [ef147]; exact va_upn (by omega))
  have h152 : fdA cA sz f146 (n + 25) (n + 26) := fdA_kept h142 (fun q hq => by rw [ef147]; exact va_upn (by omega))
  have h153 : fdA cA sz f146 (n + 33) (n + 34) := fdA_kept h143 (fun q hq => by rw [ef147]; exact va_upn (by omega))
  have h154 : fdA cA sz f146 (n + 41) (n + 42) := fdA_kept hp137a (fun q hq => by rw [ef147]; exact va_upn (by omega))
  have h155 : f146 (n + 8) = .inl (cA 3, 8, .inr (.inr (.inr (.inr (va_up (va_up (va_up (va_up (va_up (fun _ => none) (Int32.toNatClampNeg 0) (some (sz + (n + 9)))) (Int32.toNatClampNeg 1) (some (sz + (n + 17)))) (Int32.toNatClampNeg 2) (some (sz + (n + 25)))) (Int32.toNatClampNeg 3) (some (sz + (n + 33)))) (Int32.toNatClampNeg 4) (some (sz + (n + 41)))))))) := by rw [ef147]; exact va_ups
  have hfr156 : ∀ q, q < n → q ≠ k → f146 q = f q := fun q h1 h2 => by rw [ef147]; exact (va_upn (by omega)).trans (hfr145 q h1 h2)
  clear h138 h139 h140 h141 h142 h143 h144 hp137a hfr145 ef147
  refine lv_iinc (v := 5) (lv' := [(1, .int 5), (0, .ref (sz + k))]) Y.1.1 Y.1.2.1 dX4_init_45 hl (k := 0) rfl (by decide) (by decide) rfl (fun ls hl => ?_)
  refine lv_goto (tgt := 26) Y.1.1 Y.1.2.1 dX4_init_48 (by decide) ?_
  refine lv_iload_n Y.1.1 Y.1.2.1 dX4_init_26 rfl (lv_at hl 0 rfl) ?_
  refine lv_bipush (v := 8) Y.1.1 Y.1.2.1 dX4_init_27 (by decide) ?_
  refine lv_icmp_ge (tgt := 51) Y.1.1 Y.1.2.1 dX4_init_29 (by decide) (fun c => absurd c (by decide)) (fun _ => ?_)
  refine lv_aload_n Y.1.1 Y.1.2.1 dX4_init_32 rfl (lv_at hl 1 rfl) ?_
  refine y_get (C := RX4) (T := TX4) (N := 4) (ci := 4) Y hP inX4 rfl (by omega) h149 1 (by decide) rfl rfl wd_161 dX4_init_33 ?_
  refine lv_iload_n Y.1.1 Y.1.2.1 dX4_init_36 rfl (lv_at hl 0 rfl) ?_
  refine y_new (C := RX0) (T := TX0) (N := 12) (ci := 0) (fs := [.int 0, .int 0, .int 0, .int 0, .int 0, .null, .null, .null, .null, .null, .null, .null]) Y hP hS inX0 tyX0_ok rfl dvX0 ⟨wd_86, wd_87, wd_56⟩ (by decide) (by decide) dX4_init_37 (fun H hP hS => ?_)
  refine W.eqn (k := 50) (n := 338) rfl rfl ?_
  obtain ⟨f157, ef158⟩ : ∃ z, z = va_up f146 (n + 49) (.inr (0, [.int 0, .int 0, .int 0, .int 0, .int 0, .null, .null, .null, .null, .null, .null, .null])) := ⟨_, rfl⟩
  have hP : CP D sz (n + 50) f157 H := by rw [ef158]; exact hP
  have h159 : fdA cA sz f157 (n) (n + 1) := fdA_kept h148 (fun q hq => by rw [ef158]; exact va_upn (by omega))
  have h160 : f157 (k) = .inr (4, [.ref (sz + n), .ref (sz + (n + 8)), .int 0, .int 0]) := by rw [ef158]; exact (va_upn (by omega)).trans h149
  have h161 : fdA cA sz f157 (n + 9) (n + 10) := fdA_kept h150 (fun q hq => by rw [ef158]; exact va_upn (by omega))
  have h162 : fdA cA sz f157 (n + 17) (n + 18) := fdA_kept h151 (fun q hq => by rw [ef158]; exact va_upn (by omega))
  have h163 : fdA cA sz f157 (n + 25) (n + 26) := fdA_kept h152 (fun q hq => by rw [ef158]; exact va_upn (by omega))
  have h164 : fdA cA sz f157 (n + 33) (n + 34) := fdA_kept h153 (fun q hq => by rw [ef158]; exact va_upn (by omega))
  have h165 : fdA cA sz f157 (n + 41) (n + 42) := fdA_kept h154 (fun q hq => by rw [ef158]; exact va_upn (by omega))
  have h166 : f157 (n + 8) = .inl (cA 3, 8, .inr (.inr (.inr (.inr (va_up (va_up (va_up (va_up (va_up (fun _ => none) (Int32.toNatClampNeg 0) (some (sz + (n + 9)))) (Int32.toNatClampNeg 1) (some (sz + (n + 17)))) (Int32.toNatClampNeg 2) (some (sz + (n + 25)))) (Int32.toNatClampNeg 3) (some (sz + (n + 33)))) (Int32.toNatClampNeg 4) (some (sz + (n + 41)))))))) := by rw [ef158]; exact (va_upn (by omega)).trans h155
  have h167 : f157 (n + 49) = .inr (0, [.int 0, .int 0, .int 0, .int 0, .int 0, .null, .null, .null, .null, .null, .null, .null]) := by rw [ef158]; exact va_ups
  have hfr168 : ∀ q, q < n → q ≠ k → f157 q = f q := fun q h1 h2 => by rw [ef158]; exact (va_upn (by omega)).trans (hfr156 q h1 h2)
  clear h148 h149 h150 h151 h152 h153 h154 h155 hfr156 ef158
  refine lv_dup Y.1.1 Y.1.2.1 dX4_init_40 rfl ?_
  refine y_call (As := []) (rest := [.ref (sz + (n + 49)), .int 5, .ref (sz + (n + 8))]) Y hP hS (c_X0_init l D cA sz (n + 50) f157 (n + 49) (by omega) h167) ⟨wd_90, wd_88, wd_89, wd_56⟩ rfl hd_X0_init ⟨by decide, by decide⟩ rfl hl.1 rfl (Nat.le_of_ble_eq_true rfl) dX4_init_41 ⟨by decide, by decide⟩ (fun nx f169 H locs hp170 hP hS => ?_)
  obtain ⟨rfl, hp170a, hp170b⟩ := hp170
  have hP : CP D sz (n + 57) f169 H := hP
  refine W.eqn (k := 57) (n := 379) rfl rfl ?_
  have h171 : fdA cA sz f169 (n) (n + 1) := fdA_kept h159 (fun q hq => hp170b _ (by omega) (by omega))
  have h172 : f169 (k) = .inr (4, [.ref (sz + n), .ref (sz + (n + 8)), .int 0, .int 0]) := (hp170b _ (by omega) (by omega)).trans h160
  have h173 : fdA cA sz f169 (n + 9) (n + 10) := fdA_kept h161 (fun q hq => hp170b _ (by omega) (by omega))
  have h174 : fdA cA sz f169 (n + 17) (n + 18) := fdA_kept h162 (fun q hq => hp170b _ (by omega) (by omega))
  have h175 : fdA cA sz f169 (n + 25) (n + 26) := fdA_kept h163 (fun q hq => hp170b _ (by omega) (by omega))
  have h176 : fdA cA sz f169 (n + 33) (n + 34) := fdA_kept h164 (fun q hq => hp170b _ (by omega) (by omega))
  have h177 : fdA cA sz f169 (n + 41) (n + 42) := fdA_kept h165 (fun q hq => hp170b _ (by omega) (by omega))
  have h178 : f169 (n + 8) = .inl (cA 3, 8, .inr (.inr (.inr (.inr (va_up (va_up (va_up (va_up (va_up (fun _ => none) (Int32.toNatClampNeg 0) (some (sz + (n + 9)))) (Int32.toNatClampNeg 1) (some (sz + (n + 17)))) (Int32.toNatClampNeg 2) (some (sz + (n + 25)))) (Int32.toNatClampNeg 3) (some (sz + (n + 33)))) (Int32.toNatClampNeg 4) (some (sz + (n + 41)))))))) := (hp170b _ (by omega) (by omega)).trans h166
  have hfr179 : ∀ q, q < n → q ≠ k → f169 q = f q := fun q h1 h2 => (hp170b q (by omega) (by omega)).trans (hfr168 q h1 h2)
  clear h159 h160 h161 h162 h163 h164 h165 h166 h167 hfr168 hp170b
  refine y_aast (r := (RX0, TX0, 12)) (ti := 3) (ci := 0) Y hP hS rfl rfl (by omega) h178 (by omega) hp170a.1 (o_inb_in (by decide)) dX4_init_44 (fun H locs hP hS => ?_)
  obtain ⟨f180, ef181⟩ : ∃ z, z = va_up f169 (n + 8) (.inl (cA 3, 8, .inr (.inr (.inr (.inr (va_up (va_up (va_up (va_up (va_up (va_up (fun _ => none) (Int32.toNatClampNeg 0) (some (sz + (n + 9)))) (Int32.toNatClampNeg 1) (some (sz + (n + 17)))) (Int32.toNatClampNeg 2) (some (sz + (n + 25)))) (Int32.toNatClampNeg 3) (some (sz + (n + 33)))) (Int32.toNatClampNeg 4) (some (sz + (n + 41)))) (Int32.toNatClampNeg 5) (some (sz + (n + 49))))))))) := ⟨_, rfl⟩
  have hP : CP D sz (n + 57) f180 H := by rw [ef181]; exact hP
  have h182 : fdA cA sz f180 (n) (n + 1) := fdA_kept h171 (fun q hq => by rw [ef181]; exact va_upn (by omega))
  have h183 : f180 (k) = .inr (4, [.ref (sz + n), .ref (sz + (n + 8)), .int 0, .int 0]) := by rw [ef181]; exact (va_upn (by omega)).trans h172
  have h184 : fdA cA sz f180 (n + 9) (n + 10) := fdA_kept h173 (fun q hq => by rw [ef181]; exact va_upn (by omega))
  have h185 : fdA cA sz f180 (n + 17) (n + 18) := fdA_kept h174 (fun q hq => by rw [ef181]; exact va_upn (by omega))
  have h186 : fdA cA sz f180 (n + 25) (n + 26) := fdA_kept h175 (fun q hq => by rw [ef181]; exact va_upn (by omega))
  have h187 : fdA cA sz f180 (n + 33) (n + 34) := fdA_kept h176 (fun q hq => by rw [ef181]; exact va_upn (by omega))
  have h188 : fdA cA sz f180 (n + 41) (n + 42) := fdA_kept h177 (fun q hq => by rw [ef181]; exact va_upn (by omega))
  have h189 : fdA cA sz f180 (n + 49) (n + 50) := fdA_kept hp170a (fun q hq => by rw [ef181]; exact va_upn (by omega))
  have h190 : f180 (n + 8) = .inl (cA 3, 8, .inr (.inr (.inr (.inr (va_up (va_up (va_up (va_up (va_up (va_up (fun _ => none) (Int32.toNatClampNeg 0) (some (sz + (n + 9)))) (Int32.toNatClampNeg 1) (some (sz + (n + 17)))) (Int32.toNatClampNeg 2) (some (sz + (n + 25)))) (Int32.toNatClampNeg 3) (some (sz + (n + 33)))) (Int32.toNatClampNeg 4) (some (sz + (n + 41)))) (Int32.toNatClampNeg 5) (some (sz + (n + 49)))))))) := by rw [ef181]; exact va_ups
  have hfr191 : ∀ q, q < n → q ≠ k → f180 q = f q := fun q h1 h2 => by rw [ef181]; exact (va_upn (by omega)).trans (hfr179 q h1 h2)
  clear h171 h172 h173 h174 h175 h176 h177 h178 hp170a hfr179 ef181
  refine lv_iinc (v := 6) (lv' := [(1, .int 6), (0, .ref (sz + k))]) Y.1.1 Y.1.2.1 dX4_init_45 hl (k := 0) rfl (by decide) (by decide) rfl (fun ls hl => ?_)
  refine lv_goto (tgt := 26) Y.1.1 Y.1.2.1 dX4_init_48 (by decide) ?_
  refine lv_iload_n Y.1.1 Y.1.2.1 dX4_init_26 rfl (lv_at hl 0 rfl) ?_
  refine lv_bipush (v := 8) Y.1.1 Y.1.2.1 dX4_init_27 (by decide) ?_
  refine lv_icmp_ge (tgt := 51) Y.1.1 Y.1.2.1 dX4_init_29 (by decide) (fun c => absurd c (by decide)) (fun _ => ?_)
  refine lv_aload_n Y.1.1 Y.1.2.1 dX4_init_32 rfl (lv_at hl 1 rfl) ?_
  refine y_get (C := RX4) (T := TX4) (N := 4) (ci := 4) Y hP inX4 rfl (by omega) h183 1 (by decide) rfl rfl wd_161 dX4_init_33 ?_
  refine lv_iload_n Y.1.1 Y.1.2.1 dX4_init_36 rfl (lv_at hl 0 rfl) ?_
  refine y_new (C := RX0) (T := TX0) (N := 12) (ci := 0) (fs := [.int 0, .int 0, .int 0, .int 0, .int 0, .null, .null, .null, .null, .null, .null, .null]) Y hP hS inX0 tyX0_ok rfl dvX0 ⟨wd_86, wd_87, wd_56⟩ (by decide) (by decide) dX4_init_37 (fun H hP hS => ?_)
  refine W.eqn (k := 58) (n := 391) rfl rfl ?_
  obtain ⟨f192, ef193⟩ : ∃ z, z = va_up f180 (n + 57) (.inr (0, [.int 0, .int 0, .int 0, .int 0, .int 0, .null, .null, .null, .null, .null, .null, .null])) := ⟨_, rfl⟩
  have hP : CP D sz (n + 58) f192 H := by rw [ef193]; exact hP
  have h194 : fdA cA sz f192 (n) (n + 1) := fdA_kept h182 (fun q hq => by rw [ef193]; exact va_upn (by omega))
  have h195 : f192 (k) = .inr (4, [.ref (sz + n), .ref (sz + (n + 8)), .int 0, .int 0]) := by rw [ef193]; exact (va_upn (by omega)).trans h183
  have h196 : fdA cA sz f192 (n + 9) (n + 10) := fdA_kept h184 (fun q hq => by rw [ef193]; exact va_upn (by omega))
  have h197 : fdA cA sz f192 (n + 17) (n + 18) := fdA_kept h185 (fun q hq => by rw [ef193]; exact va_upn (by omega))
  have h198 : fdA cA sz f192 (n + 25) (n + 26) := fdA_kept h186 (fun q hq => by rw [ef193]; exact va_upn (by omega))
  have h199 : fdA cA sz f192 (n + 33) (n + 34) := fdA_kept h187 (fun q hq => by rw [ef193]; exact va_upn (by omega))
  have h200 : fdA cA sz f192 (n + 41) (n + 42) := fdA_kept h188 (fun q hq => by rw [ef193]; exact va_upn (by omega))
  have h201 : fdA cA sz f192 (n + 49) (n + 50) := fdA_kept h189 (fun q hq => by rw [ef193]; exact va_upn (by omega))
  have h202 : f192 (n + 8) = .inl (cA 3, 8, .inr (.inr (.inr (.inr (va_up (va_up (va_up (va_up (va_up (va_up (fun _ => none) (Int32.toNatClampNeg 0) (some (sz + (n + 9)))) (Int32.toNatClampNeg 1) (some (sz + (n + 17)))) (Int32.toNatClampNeg 2) (some (sz + (n + 25)))) (Int32.toNatClampNeg 3) (some (sz + (n + 33)))) (Int32.toNatClampNeg 4) (some (sz + (n + 41)))) (Int32.toNatClampNeg 5) (some (sz + (n + 49)))))))) := by rw [ef193]; exact (va_upn (by omega)).trans h190
  have h203 : f192 (n + 57) = .inr (0, [.int 0, .int 0, .int 0, .int 0, .int 0, .null, .null, .null, .null, .null, .null, .null]) := by rw [ef193]; exact va_ups
  have hfr204 : ∀ q, q < n → q ≠ k → f192 q = f q := fun q h1 h2 => by rw [ef193]; exact (va_upn (by omega)).trans (hfr191 q h1 h2)
  clear h182 h183 h184 h185 h186 h187 h188 h189 h190 hfr191 ef193
  refine lv_dup Y.1.1 Y.1.2.1 dX4_init_40 rfl ?_
  refine y_call (As := []) (rest := [.ref (sz + (n + 57)), .int 6, .ref (sz + (n + 8))]) Y hP hS (c_X0_init l D cA sz (n + 58) f192 (n + 57) (by omega) h203) ⟨wd_90, wd_88, wd_89, wd_56⟩ rfl hd_X0_init ⟨by decide, by decide⟩ rfl hl.1 rfl (Nat.le_of_ble_eq_true rfl) dX4_init_41 ⟨by decide, by decide⟩ (fun nx f205 H locs hp206 hP hS => ?_)
  obtain ⟨rfl, hp206a, hp206b⟩ := hp206
  have hP : CP D sz (n + 65) f205 H := hP
  refine W.eqn (k := 65) (n := 432) rfl rfl ?_
  have h207 : fdA cA sz f205 (n) (n + 1) := fdA_kept h194 (fun q hq => hp206b _ (by omega) (by omega))
  have h208 : f205 (k) = .inr (4, [.ref (sz + n), .ref (sz + (n + 8)), .int 0, .int 0]) := (hp206b _ (by omega) (by omega)).trans h195
  have h209 : fdA cA sz f205 (n + 9) (n + 10) := fdA_kept h196 (fun q hq => hp206b _ (by omega) (by omega))
  have h210 : fdA cA sz f205 (n + 17) (n + 18) := fdA_kept h197 (fun q hq => hp206b _ (by omega) (by omega))
  have h211 : fdA cA sz f205 (n + 25) (n + 26) := fdA_kept h198 (fun q hq => hp206b _ (by omega) (by omega))
  have h212 : fdA cA sz f205 (n + 33) (n + 34) := fdA_kept h199 (fun q hq => hp206b _ (by omega) (by omega))
  have h213 : fdA cA sz f205 (n + 41) (n + 42) := fdA_kept h200 (fun q hq => hp206b _ (by omega) (by omega))
  have h214 : fdA cA sz f205 (n + 49) (n + 50) := fdA_kept h201 (fun q hq => hp206b _ (by omega) (by omega))
  have h215 : f205 (n + 8) = .inl (cA 3, 8, .inr (.inr (.inr (.inr (va_up (va_up (va_up (va_up (va_up (va_up (fun _ => none) (Int32.toNatClampNeg 0) (some (sz + (n + 9)))) (Int32.toNatClampNeg 1) (some (sz + (n + 17)))) (Int32.toNatClampNeg 2) (some (sz + (n + 25)))) (Int32.toNatClampNeg 3) (some (sz + (n + 33)))) (Int32.toNatClampNeg 4) (some (sz + (n + 41)))) (Int32.toNatClampNeg 5) (some (sz + (n + 49)))))))) := (hp206b _ (by omega) (by omega)).trans h202
  have hfr216 : ∀ q, q < n → q ≠ k → f205 q = f q := fun q h1 h2 => (hp206b q (by omega) (by omega)).trans (hfr204 q h1 h2)
  clear h194 h195 h196 h197 h198 h199 h200 h201 h202 h203 hfr204 hp206b
  refine y_aast (r := (RX0, TX0, 12)) (ti := 3) (ci := 0) Y hP hS rfl rfl (by omega) h215 (by omega) hp206a.1 (o_inb_in (by decide)) dX4_init_44 (fun H locs hP hS => ?_)
  obtain ⟨f217, ef218⟩ : ∃ z, z = va_up f205 (n + 8) (.inl (cA 3, 8, .inr (.inr (.inr (.inr (va_up (va_up (va_up (va_up (va_up (va_up (va_up (fun _ => none) (Int32.toNatClampNeg 0) (some (sz + (n + 9)))) (Int32.toNatClampNeg 1) (some (sz + (n + 17)))) (Int32.toNatClampNeg 2) (some (sz + (n + 25)))) (Int32.toNatClampNeg 3) (some (sz + (n + 33)))) (Int32.toNatClampNeg 4) (some (sz + (n + 41)))) (Int32.toNatClampNeg 5) (some (sz + (n + 49)))) (Int32.toNatClampNeg 6) (some (sz + (n + 57))))))))) := ⟨_, rfl⟩
  have hP : CP D sz (n + 65) f217 H := by rw [ef218]; exact hP
  have h219 : fdA cA sz f217 (n) (n + 1) := fdA_kept h207 (fun q hq => by rw [ef218]; exact va_upn (by omega))
  have h220 : f217 (k) = .inr (4, [.ref (sz + n), .ref (sz + (n + 8)), .int 0, .int 0]) := by rw [ef218]; exact (va_upn (by omega)).trans h208
  have h221 : fdA cA sz f217 (n + 9) (n + 10) := fdA_kept h209 (fun q hq => by rw [ef218]; exact va_upn (by omega))
  have h222 : fdA cA sz f217 (n + 17) (n + 18) := fdA_kept h210 (fun q hq => by rw [ef218]; exact va_upn (by omega))
  have h223 : fdA cA sz f217 (n + 25) (n + 26) := fdA_kept h211 (fun q hq => by rw [ef218]; exact va_upn (by omega))
  have h224 : fdA cA sz f217 (n + 33) (n + 34) := fdA_kept h212 (fun q hq => by rw [ef218]; exact va_upn (by omega))
  have h225 : fdA cA sz f217 (n + 41) (n + 42) := fdA_kept h213 (fun q hq => by rw [ef218]; exact va_upn (by omega))
  have h226 : fdA cA sz f217 (n + 49) (n + 50) := fdA_kept h214 (fun q hq => by rw [ef218]; exact va_upn (by omega))
  have h227 : fdA cA sz f217 (n + 57) (n + 58) := fdA_kept hp206a (fun q hq => by rw [ef218]; exact va_upn (by omega))
  have h228 : f217 (n + 8) = .inl (cA 3, 8, .inr (.inr (.inr (.inr (va_up (va_up (va_up (va_up (va_up (va_up (va_up (fun _ => none) (Int32.toNatClampNeg 0) (some (sz + (n + 9)))) (Int32.toNatClampNeg 1) (some (sz + (n + 17)))) (Int32.toNatClampNeg 2) (some (sz + (n + 25)))) (Int32.toNatClampNeg 3) (some (sz + (n + 33)))) (Int32.toNatClampNeg 4) (some (sz + (n + 41)))) (Int32.toNatClampNeg 5) (some (sz + (n + 49)))) (Int32.toNatClampNeg 6) (some (sz + (n + 57)))))))) := by rw [ef218]; exact va_ups
  have hfr229 : ∀ q, q < n → q ≠ k → f217 q = f q := fun q h1 h2 => by rw [ef218]; exact (va_upn (by omega)).trans (hfr216 q h1 h2)
  clear h207 h208 h209 h210 h211 h212 h213 h214 h215 hp206a hfr216 ef218
  refine lv_iinc (v := 7) (lv' := [(1, .int 7), (0, .ref (sz + k))]) Y.1.1 Y.1.2.1 dX4_init_45 hl (k := 0) rfl (by decide) (by decide) rfl (fun ls hl => ?_)
  refine lv_goto (tgt := 26) Y.1.1 Y.1.2.1 dX4_init_48 (by decide) ?_
  refine lv_iload_n Y.1.1 Y.1.2.1 dX4_init_26 rfl (lv_at hl 0 rfl) ?_
  refine lv_bipush (v := 8) Y.1.1 Y.1.2.1 dX4_init_27 (by decide) ?_
  refine lv_icmp_ge (tgt := 51) Y.1.1 Y.1.2.1 dX4_init_29 (by decide) (fun c => absurd c (by decide)) (fun _ => ?_)
  refine lv_aload_n Y.1.1 Y.1.2.1 dX4_init_32 rfl (lv_at hl 1 rfl) ?_
  refine y_get (C := RX4) (T := TX4) (N := 4) (ci := 4) Y hP inX4 rfl (by omega) h220 1 (by decide) rfl rfl wd_161 dX4_init_33 ?_
  refine lv_iload_n Y.1.1 Y.1.2.1 dX4_init_36 rfl (lv_at hl 0 rfl) ?_
  refine y_new (C := RX0) (T := TX0) (N := 12) (ci := 0) (fs := [.int 0, .int 0, .int 0, .int 0, .int 0, .null, .null, .null, .null, .null, .null, .null]) Y hP hS inX0 tyX0_ok rfl dvX0 ⟨wd_86, wd_87, wd_56⟩ (by decide) (by decide) dX4_init_37 (fun H hP hS => ?_)
  refine W.eqn (k := 66) (n := 444) rfl rfl ?_
  obtain ⟨f230, ef231⟩ : ∃ z, z = va_up f217 (n + 65) (.inr (0, [.int 0, .int 0, .int 0, .int 0, .int 0, .null, .null, .null, .null, .null, .null, .null])) := ⟨_, rfl⟩
  have hP : CP D sz (n + 66) f230 H := by rw [ef231]; exact hP
  have h232 : fdA cA sz f230 (n) (n + 1) := fdA_kept h219 (fun q hq => by rw [ef231]; exact va_upn (by omega))
  have h233 : f230 (k) = .inr (4, [.ref (sz + n), .ref (sz + (n + 8)), .int 0, .int 0]) := by rw [ef231]; exact (va_upn (by omega)).trans h220
  have h234 : fdA cA sz f230 (n + 9) (n + 10) := fdA_kept h221 (fun q hq => by rw [ef231]; exact va_upn (by omega))
  have h235 : fdA cA sz f230 (n + 17) (n + 18) := fdA_kept h222 (fun q hq => by rw [ef231]; exact va_upn (by omega))
  have h236 : fdA cA sz f230 (n + 25) (n + 26) := fdA_kept h223 (fun q hq => by rw [ef231]; exact va_upn (by omega))
  have h237 : fdA cA sz f230 (n + 33) (n + 34) := fdA_kept h224 (fun q hq => by rw [ef231]; exact va_upn (by omega))
  have h238 : fdA cA sz f230 (n + 41) (n + 42) := fdA_kept h225 (fun q hq => by rw [ef231]; exact va_upn (by omega))
  have h239 : fdA cA sz f230 (n + 49) (n + 50) := fdA_kept h226 (fun q hq => by rw [ef231]; exact va_upn (by omega))
  have h240 : fdA cA sz f230 (n + 57) (n + 58) := fdA_kept h227 (fun q hq => by rw [ef231]; exact va_upn (by omega))
  have h241 : f230 (n + 8) = .inl (cA 3, 8, .inr (.inr (.inr (.inr (va_up (va_up (va_up (va_up (va_up (va_up (va_up (fun _ => none) (Int32.toNatClampNeg 0) (some (sz + (n + 9)))) (Int32.toNatClampNeg 1) (some (sz + (n + 17)))) (Int32.toNatClampNeg 2) (some (sz + (n + 25)))) (Int32.toNatClampNeg 3) (some (sz + (n + 33)))) (Int32.toNatClampNeg 4) (some (sz + (n + 41)))) (Int32.toNatClampNeg 5) (some (sz + (n + 49)))) (Int32.toNatClampNeg 6) (some (sz + (n + 57)))))))) := by rw [ef231]; exact (va_upn (by omega)).trans h228
  have h242 : f230 (n + 65) = .inr (0, [.int 0, .int 0, .int 0, .int 0, .int 0, .null, .null, .null, .null, .null, .null, .null]) := by rw [ef231]; exact va_ups
  have hfr243 : ∀ q, q < n → q ≠ k → f230 q = f q := fun q h1 h2 => by rw [ef231]; exact (va_upn (by omega)).trans (hfr229 q h1 h2)
  clear h219 h220 h221 h222 h223 h224 h225 h226 h227 h228 hfr229 ef231
  refine lv_dup Y.1.1 Y.1.2.1 dX4_init_40 rfl ?_
  refine y_call (As := []) (rest := [.ref (sz + (n + 65)), .int 7, .ref (sz + (n + 8))]) Y hP hS (c_X0_init l D cA sz (n + 66) f230 (n + 65) (by omega) h242) ⟨wd_90, wd_88, wd_89, wd_56⟩ rfl hd_X0_init ⟨by decide, by decide⟩ rfl hl.1 rfl (Nat.le_of_ble_eq_true rfl) dX4_init_41 ⟨by decide, by decide⟩ (fun nx f244 H locs hp245 hP hS => ?_)
  obtain ⟨rfl, hp245a, hp245b⟩ := hp245
  have hP : CP D sz (n + 73) f244 H := hP
  refine W.eqn (k := 73) (n := 485) rfl rfl ?_
  have h246 : fdA cA sz f244 (n) (n + 1) := fdA_kept h232 (fun q hq => hp245b _ (by omega) (by omega))
  have h247 : f244 (k) = .inr (4, [.ref (sz + n), .ref (sz + (n + 8)), .int 0, .int 0]) := (hp245b _ (by omega) (by omega)).trans h233
  have h248 : fdA cA sz f244 (n + 9) (n + 10) := fdA_kept h234 (fun q hq => hp245b _ (by omega) (by omega))
  have h249 : fdA cA sz f244 (n + 17) (n + 18) := fdA_kept h235 (fun q hq => hp245b _ (by omega) (by omega))
  have h250 : fdA cA sz f244 (n + 25) (n + 26) := fdA_kept h236 (fun q hq => hp245b _ (by omega) (by omega))
  have h251 : fdA cA sz f244 (n + 33) (n + 34) := fdA_kept h237 (fun q hq => hp245b _ (by omega) (by omega))
  have h252 : fdA cA sz f244 (n + 41) (n + 42) := fdA_kept h238 (fun q hq => hp245b _ (by omega) (by omega))
  have h253 : fdA cA sz f244 (n + 49) (n + 50) := fdA_kept h239 (fun q hq => hp245b _ (by omega) (by omega))
  have h254 : fdA cA sz f244 (n + 57) (n + 58) := fdA_kept h240 (fun q hq => hp245b _ (by omega) (by omega))
  have h255 : f244 (n + 8) = .inl (cA 3, 8, .inr (.inr (.inr (.inr (va_up (va_up (va_up (va_up (va_up (va_up (va_up (fun _ => none) (Int32.toNatClampNeg 0) (some (sz + (n + 9)))) (Int32.toNatClampNeg 1) (some (sz + (n + 17)))) (Int32.toNatClampNeg 2) (some (sz + (n + 25)))) (Int32.toNatClampNeg 3) (some (sz + (n + 33)))) (Int32.toNatClampNeg 4) (some (sz + (n + 41)))) (Int32.toNatClampNeg 5) (some (sz + (n + 49)))) (Int32.toNatClampNeg 6) (some (sz + (n + 57)))))))) := (hp245b _ (by omega) (by omega)).trans h241
  have hfr256 : ∀ q, q < n → q ≠ k → f244 q = f q := fun q h1 h2 => (hp245b q (by omega) (by omega)).trans (hfr243 q h1 h2)
  clear h232 h233 h234 h235 h236 h237 h238 h239 h240 h241 h242 hfr243 hp245b
  refine y_aast (r := (RX0, TX0, 12)) (ti := 3) (ci := 0) Y hP hS rfl rfl (by omega) h255 (by omega) hp245a.1 (o_inb_in (by decide)) dX4_init_44 (fun H locs hP hS => ?_)
  obtain ⟨f257, ef258⟩ : ∃ z, z = va_up f244 (n + 8) (.inl (cA 3, 8, .inr (.inr (.inr (.inr (va_up (va_up (va_up (va_up (va_up (va_up (va_up (va_up (fun _ => none) (Int32.toNatClampNeg 0) (some (sz + (n + 9)))) (Int32.toNatClampNeg 1) (some (sz + (n + 17)))) (Int32.toNatClampNeg 2) (some (sz + (n + 25)))) (Int32.toNatClampNeg 3) (some (sz + (n + 33)))) (Int32.toNatClampNeg 4) (some (sz + (n + 41)))) (Int32.toNatClampNeg 5) (some (sz + (n + 49)))) (Int32.toNatClampNeg 6) (some (sz + (n + 57)))) (Int32.toNatClampNeg 7) (some (sz + (n + 65))))))))) := ⟨_, rfl⟩
  have hP : CP D sz (n + 73) f257 H := by rw [ef258]; exact hP
  have h259 : fdA cA sz f257 (n) (n + 1) := fdA_kept h246 (fun q hq => by rw [ef258]; exact va_upn (by omega))
  have h260 : f257 (k) = .inr (4, [.ref (sz + n), .ref (sz + (n + 8)), .int 0, .int 0]) := by rw [ef258]; exact (va_upn (by omega)).trans h247
  have h261 : fdA cA sz f257 (n + 9) (n + 10) := fdA_kept h248 (fun q hq => by rw [ef258]; exact va_upn (by omega))
  have h262 : fdA cA sz f257 (n + 17) (n + 18) := fdA_kept h249 (fun q hq => by rw [ef258]; exact va_upn (by omega))
  have h263 : fdA cA sz f257 (n + 25) (n + 26) := fdA_kept h250 (fun q hq => by rw [ef258]; exact va_upn (by omega))
  have h264 : fdA cA sz f257 (n + 33) (n + 34) := fdA_kept h251 (fun q hq => by rw [ef258]; exact va_upn (by omega))
  have h265 : fdA cA sz f257 (n + 41) (n + 42) := fdA_kept h252 (fun q hq => by rw [ef258]; exact va_upn (by omega))
  have h266 : fdA cA sz f257 (n + 49) (n + 50) := fdA_kept h253 (fun q hq => by rw [ef258]; exact va_upn (by omega))
  have h267 : fdA cA sz f257 (n + 57) (n + 58) := fdA_kept h254 (fun q hq => by rw [ef258]; exact va_upn (by omega))
  have h268 : fdA cA sz f257 (n + 65) (n + 66) := fdA_kept hp245a (fun q hq => by rw [ef258]; exact va_upn (by omega))
  have h269 : f257 (n + 8) = .inl (cA 3, 8, .inr (.inr (.inr (.inr (va_up (va_up (va_up (va_up (va_up (va_up (va_up (va_up (fun _ => none) (Int32.toNatClampNeg 0) (some (sz + (n + 9)))) (Int32.toNatClampNeg 1) (some (sz + (n + 17)))) (Int32.toNatClampNeg 2) (some (sz + (n + 25)))) (Int32.toNatClampNeg 3) (some (sz + (n + 33)))) (Int32.toNatClampNeg 4) (some (sz + (n + 41)))) (Int32.toNatClampNeg 5) (some (sz + (n + 49)))) (Int32.toNatClampNeg 6) (some (sz + (n + 57)))) (Int32.toNatClampNeg 7) (some (sz + (n + 65)))))))) := by rw [ef258]; exact va_ups
  have hfr270 : ∀ q, q < n → q ≠ k → f257 q = f q := fun q h1 h2 => by rw [ef258]; exact (va_upn (by omega)).trans (hfr256 q h1 h2)
  clear h246 h247 h248 h249 h250 h251 h252 h253 h254 h255 hp245a hfr256 ef258
  refine lv_iinc (v := 8) (lv' := [(1, .int 8), (0, .ref (sz + k))]) Y.1.1 Y.1.2.1 dX4_init_45 hl (k := 0) rfl (by decide) (by decide) rfl (fun ls hl => ?_)
  refine lv_goto (tgt := 26) Y.1.1 Y.1.2.1 dX4_init_48 (by decide) ?_
  refine lv_iload_n Y.1.1 Y.1.2.1 dX4_init_26 rfl (lv_at hl 0 rfl) ?_
  refine lv_bipush (v := 8) Y.1.1 Y.1.2.1 dX4_init_27 (by decide) ?_
  refine lv_icmp_ge (tgt := 51) Y.1.1 Y.1.2.1 dX4_init_29 (by decide) (fun _ => ?_) (fun c => absurd (by decide) c)
  refine y_vret (mc0 := 73) (ms0 := 485) (cells := 73) (slots := 485) (P := fun n' f' => n' = n + 73 ∧ stA cA sz f' k n ∧ ∀ q, q < n → q ≠ k → f' q = f q) Y hP hS ⟨rfl, ?_, hfr270⟩ (by decide) (by decide) dX4_init_51
  refine ⟨h260, h259, ⟨_, h269, ?_⟩, ?_⟩
  · intro j hj
    rcases (show j = 0 ∨ j = 1 ∨ j = 2 ∨ j = 3 ∨ j = 4 ∨ j = 5 ∨ j = 6 ∨ j = 7 by omega) with rfl | rfl | rfl | rfl | rfl | rfl | rfl | rfl <;> rfl
  · intro j hj
    rcases (show j = 0 ∨ j = 1 ∨ j = 2 ∨ j = 3 ∨ j = 4 ∨ j = 5 ∨ j = 6 ∨ j = 7 by omega) with rfl | rfl | rfl | rfl | rfl | rfl | rfl | rfl
    · exact h261
    · exact h262
    · exact h263
    · exact h264
    · exact h265
    · exact h266
    · exact h267
    · exact h268
set_option maxRecDepth 100000 in
set_option maxHeartbeats 8000000 in
theorem c_X7_init (l : Launch) (D : va_G) (cA : Nat → ClassId) (sz : Nat) (f : Nat → va_E) (hk : 0 < 1) (hf : f 0 = .inr (7, [.null, .null, .int 0, .null, .null, .null, .null, .null])) : MC l yX7_init cX7_init 2 4 188 1365 D cA sz 1 f [.ref (sz + 0)] (fun n' f' => n' = 189 ∧ (f' 0 = .inr (7, [.ref (sz + 1), .ref (sz + 75), .int 0, .ref (sz + 149), .ref (sz + 151), .ref (sz + 160), .ref (sz + 169), .ref (sz + 180)]) ∧ stA cA sz f' 1 2 ∧ stA cA sz f' 75 76 ∧ tpA cA sz f' 149 150 ∧ rdA cA sz f' 151 152 149 ∧ olA cA sz f' 160 161 ∧ tlA cA sz f' 169 170 ∧ (∃ g : Nat → Option Nat, f' 180 = .inl (cA 4, 4, .inr (.inr (.inr (.inr g)))) ∧ ∀ j, j < 4 → g j = some (sz + (181 + 2 * j))) ∧ ∀ j, j < 4 → sheA cA sz f' (181 + 2 * j) (182 + 2 * j)) ∧ ∀ q, q < 1 → q ≠ 0 → f' q = f q) := by
  refine y_met (by decide +kernel) rfl (Nat.le_of_ble_eq_true rfl) ?_
  intro p e s m below meth c ls args Y hP hl
  have hS : va_S (CA sz) s.heap s.heap [] := va_S.rf
  have hl : lv_has ls 2 [(0, .ref (sz + 0))] := hl
  have hfr0 : ∀ q, q < 1 → q ≠ 0 → f q = f q := fun _ _ _ => rfl
  refine lv_aload_n Y.1.1 Y.1.2.1 dX7_init_0 rfl (lv_at hl 0 rfl) ?_
  refine y_obj Y ⟨wd_77, wd_78, wd_79⟩ hl.1 (by decide) (Nat.le_of_ble_eq_true rfl) dX7_init_1 ?_
  refine lv_aload_n Y.1.1 Y.1.2.1 dX7_init_4 rfl (lv_at hl 0 rfl) ?_
  refine y_new (C := RX4) (T := TX4) (N := 4) (ci := 4) (fs := [.null, .null, .int 0, .int 0]) Y hP hS inX4 tyX4_ok rfl dvX4 ⟨wd_80, wd_81, wd_55⟩ (by decide) (by decide) dX7_init_5 (fun H hP hS => ?_)
  refine W.eqn (k := 1) (n := 4) rfl rfl ?_
  obtain ⟨f1, ef2⟩ : ∃ z, z = va_up f (1) (.inr (4, [.null, .null, .int 0, .int 0])) := ⟨_, rfl⟩
  have hP : CP D sz (2) f1 H := by rw [ef2]; exact hP
  have h3 : f1 (0) = .inr (7, [.null, .null, .int 0, .null, .null, .null, .null, .null]) := by rw [ef2]; exact (va_upn (by omega)).trans hf
  have h4 : f1 (1) = .inr (4, [.null, .null, .int 0, .int 0]) := by rw [ef2]; exact va_ups
  have hfr5 : ∀ q, q < 1 → q ≠ 0 → f1 q = f q := fun q h1 h2 => by rw [ef2]; exact (va_upn (by omega)).trans (hfr0 q h1 h2)
  clear hfr0 ef2
  refine lv_dup Y.1.1 Y.1.2.1 dX7_init_8 rfl ?_
  refine y_call (As := []) (rest := [.ref (sz + 1), .ref (sz + 0)]) Y hP hS (c_X4_init l D cA sz (2) f1 (1) (by omega) h4) ⟨wd_84, wd_82, wd_83, wd_55⟩ rfl hd_X4_init ⟨by decide, by decide⟩ rfl hl.1 rfl (Nat.le_of_ble_eq_true rfl) dX7_init_9 ⟨by decide, by decide⟩ (fun nx f6 H locs hp7 hP hS => ?_)
  obtain ⟨rfl, hp7a, hp7b⟩ := hp7
  have hP : CP D sz (75) f6 H := hP
  refine W.eqn (k := 74) (n := 489) rfl rfl ?_
  have h8 : f6 (0) = .inr (7, [.null, .null, .int 0, .null, .null, .null, .null, .null]) := (hp7b _ (by omega) (by omega)).trans h3
  have hfr9 : ∀ q, q < 1 → q ≠ 0 → f6 q = f q := fun q h1 h2 => (hp7b q (by omega) (by omega)).trans (hfr5 q h1 h2)
  clear h3 h4 hfr5 hp7b
  refine y_putF (C := RX7) (T := TX7) (N := 8) (ci := 7) (ty := .object "FordQuestions$Story") Y hP hS inX7 tyX7_ok nmX7 rfl (by omega) h8 0 (by decide) rfl rfl (Nat.le_of_ble_eq_true rfl) rfl rfl wd_287 dX7_init_12 (fun H locs hP hS => ?_)
  obtain ⟨f10, ef11⟩ : ∃ z, z = va_up f6 (0) (.inr (7, [.ref (sz + 1), .null, .int 0, .null, .null, .null, .null, .null])) := ⟨_, rfl⟩
  have hP : CP D sz (75) f10 H := by rw [ef11]; exact hP
  have h12 : stA cA sz f10 (1) (2) := stA_kept hp7a (fun q hq => by rw [ef11]; exact va_upn (by omega))
  have h13 : f10 (0) = .inr (7, [.ref (sz + 1), .null, .int 0, .null, .null, .null, .null, .null]) := by rw [ef11]; exact va_ups
  have hfr14 : ∀ q, q < 1 → q ≠ 0 → f10 q = f q := fun q h1 h2 => by rw [ef11]; exact (va_upn (by omega)).trans (hfr9 q h1 h2)
  clear h8 hp7a hfr9 ef11
  refine lv_aload_n Y.1.1 Y.1.2.1 dX7_init_15 rfl (lv_at hl 0 rfl) ?_
  refine y_new (C := RX4) (T := TX4) (N := 4) (ci := 4) (fs := [.null, .null, .int 0, .int 0]) Y hP hS inX4 tyX4_ok rfl dvX4 ⟨wd_80, wd_81, wd_55⟩ (by decide) (by decide) dX7_init_16 (fun H hP hS => ?_)
  refine W.eqn (k := 75) (n := 493) rfl rfl ?_
  obtain ⟨f15, ef16⟩ : ∃ z, z = va_up f10 (75) (.inr (4, [.null, .null, .int 0, .int 0])) := ⟨_, rfl⟩
  have hP : CP D sz (76) f15 H := by rw [ef16]; exact hP
  have h17 : stA cA sz f15 (1) (2) := stA_kept h12 (fun q hq => by rw [ef16]; exact va_upn (by omega))
  have h18 : f15 (0) = .inr (7, [.ref (sz + 1), .null, .int 0, .null, .null, .null, .null, .null]) := by rw [ef16]; exact (va_upn (by omega)).trans h13
  have h19 : f15 (75) = .inr (4, [.null, .null, .int 0, .int 0]) := by rw [ef16]; exact va_ups
  have hfr20 : ∀ q, q < 1 → q ≠ 0 → f15 q = f q := fun q h1 h2 => by rw [ef16]; exact (va_upn (by omega)).trans (hfr14 q h1 h2)
  clear h12 h13 hfr14 ef16
  refine lv_dup Y.1.1 Y.1.2.1 dX7_init_19 rfl ?_
  refine y_call (As := []) (rest := [.ref (sz + 75), .ref (sz + 0)]) Y hP hS (c_X4_init l D cA sz (76) f15 (75) (by omega) h19) ⟨wd_84, wd_82, wd_83, wd_55⟩ rfl hd_X4_init ⟨by decide, by decide⟩ rfl hl.1 rfl (Nat.le_of_ble_eq_true rfl) dX7_init_20 ⟨by decide, by decide⟩ (fun nx f21 H locs hp22 hP hS => ?_)
  obtain ⟨rfl, hp22a, hp22b⟩ := hp22
  have hP : CP D sz (149) f21 H := hP
  refine W.eqn (k := 148) (n := 978) rfl rfl ?_
  have h23 : stA cA sz f21 (1) (2) := stA_kept h17 (fun q hq => hp22b _ (by omega) (by omega))
  have h24 : f21 (0) = .inr (7, [.ref (sz + 1), .null, .int 0, .null, .null, .null, .null, .null]) := (hp22b _ (by omega) (by omega)).trans h18
  have hfr25 : ∀ q, q < 1 → q ≠ 0 → f21 q = f q := fun q h1 h2 => (hp22b q (by omega) (by omega)).trans (hfr20 q h1 h2)
  clear h17 h18 h19 hfr20 hp22b
  refine y_putF (C := RX7) (T := TX7) (N := 8) (ci := 7) (ty := .object "FordQuestions$Story") Y hP hS inX7 tyX7_ok nmX7 rfl (by omega) h24 1 (by decide) rfl rfl (Nat.le_of_ble_eq_true rfl) rfl rfl wd_288 dX7_init_23 (fun H locs hP hS => ?_)
  obtain ⟨f26, ef27⟩ : ∃ z, z = va_up f21 (0) (.inr (7, [.ref (sz + 1), .ref (sz + 75), .int 0, .null, .null, .null, .null, .null])) := ⟨_, rfl⟩
  have hP : CP D sz (149) f26 H := by rw [ef27]; exact hP
  have h28 : stA cA sz f26 (1) (2) := stA_kept h23 (fun q hq => by rw [ef27]; exact va_upn (by omega))
  have h29 : stA cA sz f26 (75) (76) := stA_kept hp22a (fun q hq => by rw [ef27]; exact va_upn (by omega))
  have h30 : f26 (0) = .inr (7, [.ref (sz + 1), .ref (sz + 75), .int 0, .null, .null, .null, .null, .null]) := by rw [ef27]; exact va_ups
  have hfr31 : ∀ q, q < 1 → q ≠ 0 → f26 q = f q := fun q h1 h2 => by rw [ef27]; exact (va_upn (by omega)).trans (hfr25 q h1 h2)
  clear h23 h24 hp22a hfr25 ef27
  refine lv_aload_n Y.1.1 Y.1.2.1 dX7_init_26 rfl (lv_at hl 0 rfl) ?_
  refine lv_iconst (v := 0) Y.1.1 Y.1.2.1 dX7_init_27 (by decide) ?_
  refine y_put (C := RX7) (T := TX7) (N := 8) (ci := 7) (ty := .boolean) Y hP hS inX7 tyX7_ok nmX7 rfl (by omega) h30 2 (by decide) rfl rfl (Nat.le_of_ble_eq_true rfl) rfl rfl wd_289 dX7_init_28 (fun H locs hP hS => ?_)
  obtain ⟨f32, ef33⟩ : ∃ z, z = va_up f26 (0) (.inr (7, [.ref (sz + 1), .ref (sz + 75), .int 0, .null, .null, .null, .null, .null])) := ⟨_, rfl⟩
  have hP : CP D sz (149) f32 H := by rw [ef33]; exact hP
  have h34 : stA cA sz f32 (1) (2) := stA_kept h28 (fun q hq => by rw [ef33]; exact va_upn (by omega))
  have h35 : stA cA sz f32 (75) (76) := stA_kept h29 (fun q hq => by rw [ef33]; exact va_upn (by omega))
  have h36 : f32 (0) = .inr (7, [.ref (sz + 1), .ref (sz + 75), .int 0, .null, .null, .null, .null, .null]) := by rw [ef33]; exact va_ups
  have hfr37 : ∀ q, q < 1 → q ≠ 0 → f32 q = f q := fun q h1 h2 => by rw [ef33]; exact (va_upn (by omega)).trans (hfr31 q h1 h2)
  clear h28 h29 h30 hfr31 ef33
  refine lv_aload_n Y.1.1 Y.1.2.1 dX7_init_31 rfl (lv_at hl 0 rfl) ?_
  refine y_new (C := RX5) (T := TX5) (N := 2) (ci := 5) (fs := [.null, .int 0]) Y hP hS inX5 tyX5_ok rfl dvX5 ⟨wd_174, wd_175, wd_57⟩ (by decide) (by decide) dX7_init_32 (fun H hP hS => ?_)
  refine W.eqn (k := 149) (n := 980) rfl rfl ?_
  obtain ⟨f38, ef39⟩ : ∃ z, z = va_up f32 (149) (.inr (5, [.null, .int 0])) := ⟨_, rfl⟩
  have hP : CP D sz (150) f38 H := by rw [ef39]; exact hP
  have h40 : stA cA sz f38 (1) (2) := stA_kept h34 (fun q hq => by rw [ef39]; exact va_upn (by omega))
  have h41 : stA cA sz f38 (75) (76) := stA_kept h35 (fun q hq => by rw [ef39]; exact va_upn (by omega))
  have h42 : f38 (0) = .inr (7, [.ref (sz + 1), .ref (sz + 75), .int 0, .null, .null, .null, .null, .null]) := by rw [ef39]; exact (va_upn (by omega)).trans h36
  have h43 : f38 (149) = .inr (5, [.null, .int 0]) := by rw [ef39]; exact va_ups
  have hfr44 : ∀ q, q < 1 → q ≠ 0 → f38 q = f q := fun q h1 h2 => by rw [ef39]; exact (va_upn (by omega)).trans (hfr37 q h1 h2)
  clear h34 h35 h36 hfr37 ef39
  refine lv_dup Y.1.1 Y.1.2.1 dX7_init_35 rfl ?_
  refine y_call (As := []) (rest := [.ref (sz + 149), .ref (sz + 0)]) Y hP hS (c_X5_init l D cA sz (150) f38 (149) (by omega) h43) ⟨wd_178, wd_176, wd_177, wd_57⟩ rfl hd_X5_init ⟨by decide, by decide⟩ rfl hl.1 rfl (Nat.le_of_ble_eq_true rfl) dX7_init_36 ⟨by decide, by decide⟩ (fun nx f45 H locs hp46 hP hS => ?_)
  obtain ⟨rfl, hp46a, hp46b⟩ := hp46
  have hP : CP D sz (151) f45 H := hP
  refine W.eqn (k := 150) (n := 1070) rfl rfl ?_
  have h47 : stA cA sz f45 (1) (2) := stA_kept h40 (fun q hq => hp46b _ (by omega) (by omega))
  have h48 : stA cA sz f45 (75) (76) := stA_kept h41 (fun q hq => hp46b _ (by omega) (by omega))
  have h49 : f45 (0) = .inr (7, [.ref (sz + 1), .ref (sz + 75), .int 0, .null, .null, .null, .null, .null]) := (hp46b _ (by omega) (by omega)).trans h42
  have hfr50 : ∀ q, q < 1 → q ≠ 0 → f45 q = f q := fun q h1 h2 => (hp46b q (by omega) (by omega)).trans (hfr44 q h1 h2)
  clear h40 h41 h42 h43 hfr44 hp46b
  refine y_putF (C := RX7) (T := TX7) (N := 8) (ci := 7) (ty := .object "FordQuestions$Tape") Y hP hS inX7 tyX7_ok nmX7 rfl (by omega) h49 3 (by decide) rfl rfl (Nat.le_of_ble_eq_true rfl) rfl rfl wd_290 dX7_init_39 (fun H locs hP hS => ?_)
  obtain ⟨f51, ef52⟩ : ∃ z, z = va_up f45 (0) (.inr (7, [.ref (sz + 1), .ref (sz + 75), .int 0, .ref (sz + 149), .null, .null, .null, .null])) := ⟨_, rfl⟩
  have hP : CP D sz (151) f51 H := by rw [ef52]; exact hP
  have h53 : stA cA sz f51 (1) (2) := stA_kept h47 (fun q hq => by rw [ef52]; exact va_upn (by omega))
  have h54 : stA cA sz f51 (75) (76) := stA_kept h48 (fun q hq => by rw [ef52]; exact va_upn (by omega))
  have h55 : tpA cA sz f51 (149) (150) := tpA_kept hp46a (fun q hq => by rw [ef52]; exact va_upn (by omega))
  have h56 : f51 (0) = .inr (7, [.ref (sz + 1), .ref (sz + 75), .int 0, .ref (sz + 149), .null, .null, .null, .null]) := by rw [ef52]; exact va_ups
  have hfr57 : ∀ q, q < 1 → q ≠ 0 → f51 q = f q := fun q h1 h2 => by rw [ef52]; exact (va_upn (by omega)).trans (hfr50 q h1 h2)
  clear h47 h48 h49 hp46a hfr50 ef52
  refine lv_aload_n Y.1.1 Y.1.2.1 dX7_init_42 rfl (lv_at hl 0 rfl) ?_
  refine y_new (C := RX2) (T := TX2) (N := 3) (ci := 2) (fs := [.null, .null, .int 0]) Y hP hS inX2 tyX2_ok rfl dvX2 ⟨wd_191, wd_192, wd_58⟩ (by decide) (by decide) dX7_init_43 (fun H hP hS => ?_)
  refine W.eqn (k := 151) (n := 1073) rfl rfl ?_
  obtain ⟨f58, ef59⟩ : ∃ z, z = va_up f51 (151) (.inr (2, [.null, .null, .int 0])) := ⟨_, rfl⟩
  have hP : CP D sz (152) f58 H := by rw [ef59]; exact hP
  have h60 : stA cA sz f58 (1) (2) := stA_kept h53 (fun q hq => by rw [ef59]; exact va_upn (by omega))
  have h61 : stA cA sz f58 (75) (76) := stA_kept h54 (fun q hq => by rw [ef59]; exact va_upn (by omega))
  have h62 : tpA cA sz f58 (149) (150) := tpA_kept h55 (fun q hq => by rw [ef59]; exact va_upn (by omega))
  have h63 : f58 (0) = .inr (7, [.ref (sz + 1), .ref (sz + 75), .int 0, .ref (sz + 149), .null, .null, .null, .null]) := by rw [ef59]; exact (va_upn (by omega)).trans h56
  have h64 : f58 (151) = .inr (2, [.null, .null, .int 0]) := by rw [ef59]; exact va_ups
  have hfr65 : ∀ q, q < 1 → q ≠ 0 → f58 q = f q := fun q h1 h2 => by rw [ef59]; exact (va_upn (by omega)).trans (hfr57 q h1 h2)
  clear h53 h54 h55 h56 hfr57 ef59
  refine lv_dup Y.1.1 Y.1.2.1 dX7_init_46 rfl ?_
  refine lv_aload_n Y.1.1 Y.1.2.1 dX7_init_47 rfl (lv_at hl 0 rfl) ?_
  refine y_get (C := RX7) (T := TX7) (N := 8) (ci := 7) Y hP inX7 rfl (by omega) h63 3 (by decide) rfl rfl wd_290 dX7_init_48 ?_
  refine y_call (As := [.ref (sz + 149)]) (rest := [.ref (sz + 151), .ref (sz + 0)]) Y hP hS (c_X2_init l D cA sz (152) f58 (151) 149 (by omega) h64) ⟨wd_195, wd_193, wd_194, wd_58⟩ rfl hd_X2_init ⟨by decide, by decide⟩ rfl hl.1 rfl (Nat.le_of_ble_eq_true rfl) dX7_init_51 ⟨by decide, by decide⟩ (fun nx f66 H locs hp67 hP hS => ?_)
  obtain ⟨rfl, hp67a, hp67b⟩ := hp67
  have hP : CP D sz (160) f66 H := hP
  refine W.eqn (k := 159) (n := 1126) rfl rfl ?_
  have h68 : stA cA sz f66 (1) (2) := stA_kept h60 (fun q hq => hp67b _ (by omega) (by omega))
  have h69 : stA cA sz f66 (75) (76) := stA_kept h61 (fun q hq => hp67b _ (by omega) (by omega))
  have h70 : tpA cA sz f66 (149) (150) := tpA_kept h62 (fun q hq => hp67b _ (by omega) (by omega))
  have h71 : f66 (0) = .inr (7, [.ref (sz + 1), .ref (sz + 75), .int 0, .ref (sz + 149), .null, .null, .null, .null]) := (hp67b _ (by omega) (by omega)).trans h63
  have hfr72 : ∀ q, q < 1 → q ≠ 0 → f66 q = f q := fun q h1 h2 => (hp67b q (by omega) (by omega)).trans (hfr65 q h1 h2)
  clear h60 h61 h62 h63 h64 hfr65 hp67b
  refine y_putF (C := RX7) (T := TX7) (N := 8) (ci := 7) (ty := .object "FordQuestions$Reader") Y hP hS inX7 tyX7_ok nmX7 rfl (by omega) h71 4 (by decide) rfl rfl (Nat.le_of_ble_eq_true rfl) rfl rfl wd_291 dX7_init_54 (fun H locs hP hS => ?_)
  obtain ⟨f73, ef74⟩ : ∃ z, z = va_up f66 (0) (.inr (7, [.ref (sz + 1), .ref (sz + 75), .int 0, .ref (sz + 149), .ref (sz + 151), .null, .null, .null])) := ⟨_, rfl⟩
  have hP : CP D sz (160) f73 H := by rw [ef74]; exact hP
  have h75 : stA cA sz f73 (1) (2) := stA_kept h68 (fun q hq => by rw [ef74]; exact va_upn (by omega))
  have h76 : stA cA sz f73 (75) (76) := stA_kept h69 (fun q hq => by rw [ef74]; exact va_upn (by omega))
  have h77 : tpA cA sz f73 (149) (150) := tpA_kept h70 (fun q hq => by rw [ef74]; exact va_upn (by omega))
  have h78 : rdA cA sz f73 (151) (152) 149 := rdA_kept hp67a (fun q hq => by rw [ef74]; exact va_upn (by omega))
  have h79 : f73 (0) = .inr (7, [.ref (sz + 1), .ref (sz + 75), .int 0, .ref (sz + 149), .ref (sz + 151), .null, .null, .null]) := by rw [ef74]; exact va_ups
  have hfr80 : ∀ q, q < 1 → q ≠ 0 → f73 q = f q := fun q h1 h2 => by rw [ef74]; exact (va_upn (by omega)).trans (hfr72 q h1 h2)
  clear h68 h69 h70 h71 hp67a hfr72 ef74
  refine lv_aload_n Y.1.1 Y.1.2.1 dX7_init_57 rfl (lv_at hl 0 rfl) ?_
  refine y_new (C := RX1) (T := TX1) (N := 4) (ci := 1) (fs := [.null, .int 0, .int 0, .int 0]) Y hP hS inX1 tyX1_ok rfl dvX1 ⟨wd_211, wd_212, wd_59⟩ (by decide) (by decide) dX7_init_58 (fun H hP hS => ?_)
  refine W.eqn (k := 160) (n := 1130) rfl rfl ?_
  obtain ⟨f81, ef82⟩ : ∃ z, z = va_up f73 (160) (.inr (1, [.null, .int 0, .int 0, .int 0])) := ⟨_, rfl⟩
  have hP : CP D sz (161) f81 H := by rw [ef82]; exact hP
  have h83 : stA cA sz f81 (1) (2) := stA_kept h75 (fun q hq => by rw [ef82]; exact va_upn (by omega))
  have h84 : stA cA sz f81 (75) (76) := stA_kept h76 (fun q hq => by rw [ef82]; exact va_upn (by omega))
  have h85 : tpA cA sz f81 (149) (150) := tpA_kept h77 (fun q hq => by rw [ef82]; exact va_upn (by omega))
  have h86 : rdA cA sz f81 (151) (152) 149 := rdA_kept h78 (fun q hq => by rw [ef82]; exact va_upn (by omega))
  have h87 : f81 (0) = .inr (7, [.ref (sz + 1), .ref (sz + 75), .int 0, .ref (sz + 149), .ref (sz + 151), .null, .null, .null]) := by rw [ef82]; exact (va_upn (by omega)).trans h79
  have h88 : f81 (160) = .inr (1, [.null, .int 0, .int 0, .int 0]) := by rw [ef82]; exact va_ups
  have hfr89 : ∀ q, q < 1 → q ≠ 0 → f81 q = f q := fun q h1 h2 => by rw [ef82]; exact (va_upn (by omega)).trans (hfr80 q h1 h2)
  clear h75 h76 h77 h78 h79 hfr80 ef82
  refine lv_dup Y.1.1 Y.1.2.1 dX7_init_61 rfl ?_
  refine y_call (As := []) (rest := [.ref (sz + 160), .ref (sz + 0)]) Y hP hS (c_X1_init l D cA sz (161) f81 (160) (by omega) h88) ⟨wd_215, wd_213, wd_214, wd_59⟩ rfl hd_X1_init ⟨by decide, by decide⟩ rfl hl.1 rfl (Nat.le_of_ble_eq_true rfl) dX7_init_62 ⟨by decide, by decide⟩ (fun nx f90 H locs hp91 hP hS => ?_)
  obtain ⟨rfl, hp91a, hp91b⟩ := hp91
  have hP : CP D sz (169) f90 H := hP
  refine W.eqn (k := 168) (n := 1183) rfl rfl ?_
  have h92 : stA cA sz f90 (1) (2) := stA_kept h83 (fun q hq => hp91b _ (by omega) (by omega))
  have h93 : stA cA sz f90 (75) (76) := stA_kept h84 (fun q hq => hp91b _ (by omega) (by omega))
  have h94 : tpA cA sz f90 (149) (150) := tpA_kept h85 (fun q hq => hp91b _ (by omega) (by omega))
  have h95 : rdA cA sz f90 (151) (152) 149 := rdA_kept h86 (fun q hq => hp91b _ (by omega) (by omega))
  have h96 : f90 (0) = .inr (7, [.ref (sz + 1), .ref (sz + 75), .int 0, .ref (sz + 149), .ref (sz + 151), .null, .null, .null]) := (hp91b _ (by omega) (by omega)).trans h87
  have hfr97 : ∀ q, q < 1 → q ≠ 0 → f90 q = f q := fun q h1 h2 => (hp91b q (by omega) (by omega)).trans (hfr89 q h1 h2)
  clear h83 h84 h85 h86 h87 h88 hfr89 hp91b
  refine y_putF (C := RX7) (T := TX7) (N := 8) (ci := 7) (ty := .object "FordQuestions$Outlook") Y hP hS inX7 tyX7_ok nmX7 rfl (by omega) h96 5 (by decide) rfl rfl (Nat.le_of_ble_eq_true rfl) rfl rfl wd_292 dX7_init_65 (fun H locs hP hS => ?_)
  obtain ⟨f98, ef99⟩ : ∃ z, z = va_up f90 (0) (.inr (7, [.ref (sz + 1), .ref (sz + 75), .int 0, .ref (sz + 149), .ref (sz + 151), .ref (sz + 160), .null, .null])) := ⟨_, rfl⟩
  have hP : CP D sz (169) f98 H := by rw [ef99]; exact hP
  have h100 : stA cA sz f98 (1) (2) := stA_kept h92 (fun q hq => by rw [ef99]; exact va_upn (by omega))
  have h101 : stA cA sz f98 (75) (76) := stA_kept h93 (fun q hq => by rw [ef99]; exact va_upn (by omega))
  have h102 : tpA cA sz f98 (149) (150) := tpA_kept h94 (fun q hq => by rw [ef99]; exact va_upn (by omega))
  have h103 : rdA cA sz f98 (151) (152) 149 := rdA_kept h95 (fun q hq => by rw [ef99]; exact va_upn (by omega))
  have h104 : olA cA sz f98 (160) (161) := olA_kept hp91a (fun q hq => by rw [ef99]; exact va_upn (by omega))
  have h105 : f98 (0) = .inr (7, [.ref (sz + 1), .ref (sz + 75), .int 0, .ref (sz + 149), .ref (sz + 151), .ref (sz + 160), .null, .null]) := by rw [ef99]; exact va_ups
  have hfr106 : ∀ q, q < 1 → q ≠ 0 → f98 q = f q := fun q h1 h2 => by rw [ef99]; exact (va_upn (by omega)).trans (hfr97 q h1 h2)
  clear h92 h93 h94 h95 h96 hp91a hfr97 ef99
  refine lv_aload_n Y.1.1 Y.1.2.1 dX7_init_68 rfl (lv_at hl 0 rfl) ?_
  refine y_new (C := RX6) (T := TX6) (N := 7) (ci := 6) (fs := [.null, .null, .int 0, .int 0, .null, .int 0, .int 0]) Y hP hS inX6 tyX6_ok rfl dvX6 ⟨wd_235, wd_236, wd_60⟩ (by decide) (by decide) dX7_init_69 (fun H hP hS => ?_)
  refine W.eqn (k := 169) (n := 1190) rfl rfl ?_
  obtain ⟨f107, ef108⟩ : ∃ z, z = va_up f98 (169) (.inr (6, [.null, .null, .int 0, .int 0, .null, .int 0, .int 0])) := ⟨_, rfl⟩
  have hP : CP D sz (170) f107 H := by rw [ef108]; exact hP
  have h109 : stA cA sz f107 (1) (2) := stA_kept h100 (fun q hq => by rw [ef108]; exact va_upn (by omega))
  have h110 : stA cA sz f107 (75) (76) := stA_kept h101 (fun q hq => by rw [ef108]; exact va_upn (by omega))
  have h111 : tpA cA sz f107 (149) (150) := tpA_kept h102 (fun q hq => by rw [ef108]; exact va_upn (by omega))
  have h112 : rdA cA sz f107 (151) (152) 149 := rdA_kept h103 (fun q hq => by rw [ef108]; exact va_upn (by omega))
  have h113 : olA cA sz f107 (160) (161) := olA_kept h104 (fun q hq => by rw [ef108]; exact va_upn (by omega))
  have h114 : f107 (0) = .inr (7, [.ref (sz + 1), .ref (sz + 75), .int 0, .ref (sz + 149), .ref (sz + 151), .ref (sz + 160), .null, .null]) := by rw [ef108]; exact (va_upn (by omega)).trans h105
  have h115 : f107 (169) = .inr (6, [.null, .null, .int 0, .int 0, .null, .int 0, .int 0]) := by rw [ef108]; exact va_ups
  have hfr116 : ∀ q, q < 1 → q ≠ 0 → f107 q = f q := fun q h1 h2 => by rw [ef108]; exact (va_upn (by omega)).trans (hfr106 q h1 h2)
  clear h100 h101 h102 h103 h104 h105 hfr106 ef108
  refine lv_dup Y.1.1 Y.1.2.1 dX7_init_72 rfl ?_
  refine y_call (As := []) (rest := [.ref (sz + 169), .ref (sz + 0)]) Y hP hS (c_X6_init l D cA sz (170) f107 (169) (by omega) h115) ⟨wd_239, wd_237, wd_238, wd_60⟩ rfl hd_X6_init ⟨by decide, by decide⟩ rfl hl.1 rfl (Nat.le_of_ble_eq_true rfl) dX7_init_73 ⟨by decide, by decide⟩ (fun nx f117 H locs hp118 hP hS => ?_)
  obtain ⟨rfl, hp118a, hp118b⟩ := hp118
  have hP : CP D sz (180) f117 H := hP
  refine W.eqn (k := 179) (n := 1253) rfl rfl ?_
  have h119 : stA cA sz f117 (1) (2) := stA_kept h109 (fun q hq => hp118b _ (by omega) (by omega))
  have h120 : stA cA sz f117 (75) (76) := stA_kept h110 (fun q hq => hp118b _ (by omega) (by omega))
  have h121 : tpA cA sz f117 (149) (150) := tpA_kept h111 (fun q hq => hp118b _ (by omega) (by omega))
  have h122 : rdA cA sz f117 (151) (152) 149 := rdA_kept h112 (fun q hq => hp118b _ (by omega) (by omega))
  have h123 : olA cA sz f117 (160) (161) := olA_kept h113 (fun q hq => hp118b _ (by omega) (by omega))
  have h124 : f117 (0) = .inr (7, [.ref (sz + 1), .ref (sz + 75), .int 0, .ref (sz + 149), .ref (sz + 151), .ref (sz + 160), .null, .null]) := (hp118b _ (by omega) (by omega)).trans h114
  have hfr125 : ∀ q, q < 1 → q ≠ 0 → f117 q = f q := fun q h1 h2 => (hp118b q (by omega) (by omega)).trans (hfr116 q h1 h2)
  clear h109 h110 h111 h112 h113 h114 h115 hfr116 hp118b
  refine y_putF (C := RX7) (T := TX7) (N := 8) (ci := 7) (ty := .object "FordQuestions$Tellings") Y hP hS inX7 tyX7_ok nmX7 rfl (by omega) h124 6 (by decide) rfl rfl (Nat.le_of_ble_eq_true rfl) rfl rfl wd_293 dX7_init_76 (fun H locs hP hS => ?_)
  obtain ⟨f126, ef127⟩ : ∃ z, z = va_up f117 (0) (.inr (7, [.ref (sz + 1), .ref (sz + 75), .int 0, .ref (sz + 149), .ref (sz + 151), .ref (sz + 160), .ref (sz + 169), .null])) := ⟨_, rfl⟩
  have hP : CP D sz (180) f126 H := by rw [ef127]; exact hP
  have h128 : stA cA sz f126 (1) (2) := stA_kept h119 (fun q hq => by rw [ef127]; exact va_upn (by omega))
  have h129 : stA cA sz f126 (75) (76) := stA_kept h120 (fun q hq => by rw [ef127]; exact va_upn (by omega))
  have h130 : tpA cA sz f126 (149) (150) := tpA_kept h121 (fun q hq => by rw [ef127]; exact va_upn (by omega))
  have h131 : rdA cA sz f126 (151) (152) 149 := rdA_kept h122 (fun q hq => by rw [ef127]; exact va_upn (by omega))
  have h132 : olA cA sz f126 (160) (161) := olA_kept h123 (fun q hq => by rw [ef127]; exact va_upn (by omega))
  have h133 : tlA cA sz f126 (169) (170) := tlA_kept hp118a (fun q hq => by rw [ef127]; exact va_upn (by omega))
  have h134 : f126 (0) = .inr (7, [.ref (sz + 1), .ref (sz + 75), .int 0, .ref (sz + 149), .ref (sz + 151), .ref (sz + 160), .ref (sz + 169), .null]) := by rw [ef127]; exact va_ups
  have hfr135 : ∀ q, q < 1 → q ≠ 0 → f126 q = f q := fun q h1 h2 => by rw [ef127]; exact (va_upn (by omega)).trans (hfr125 q h1 h2)
  clear h119 h120 h121 h122 h123 h124 hp118a hfr125 ef127
  refine lv_aload_n Y.1.1 Y.1.2.1 dX7_init_79 rfl (lv_at hl 0 rfl) ?_
  refine lv_iconst (v := 4) Y.1.1 Y.1.2.1 dX7_init_80 (by decide) ?_
  refine y_anew (ti := 4) (N' := 4) Y hP hS rfl Y.2.2.2.1.2.2 wd_266 (by decide) (by decide) (by decide) (by decide) (by decide) dX7_init_81 (fun H hP hS => ?_)
  refine W.eqn (k := 180) (n := 1257) rfl rfl ?_
  obtain ⟨f136, ef137⟩ : ∃ z, z = va_up f126 (180) (.inl (cA 4, 4, .inr (.inr (.inr (.inr (fun _ => none)))))) := ⟨_, rfl⟩
  have hP : CP D sz (181) f136 H := by rw [ef137]; exact hP
  have h138 : stA cA sz f136 (1) (2) := stA_kept h128 (fun q hq => by rw [ef137]; exact va_upn (by omega))
  have h139 : stA cA sz f136 (75) (76) := stA_kept h129 (fun q hq => by rw [ef137]; exact va_upn (by omega))
  have h140 : tpA cA sz f136 (149) (150) := tpA_kept h130 (fun q hq => by rw [ef137]; exact va_upn (by omega))
  have h141 : rdA cA sz f136 (151) (152) 149 := rdA_kept h131 (fun q hq => by rw [ef137]; exact va_upn (by omega))
  have h142 : olA cA sz f136 (160) (161) := olA_kept h132 (fun q hq => by rw [ef137]; exact va_upn (by omega))
  have h143 : tlA cA sz f136 (169) (170) := tlA_kept h133 (fun q hq => by rw [ef137]; exact va_upn (by omega))
  have h144 : f136 (0) = .inr (7, [.ref (sz + 1), .ref (sz + 75), .int 0, .ref (sz + 149), .ref (sz + 151), .ref (sz + 160), .ref (sz + 169), .null]) := by rw [ef137]; exact (va_upn (by omega)).trans h134
  have h145 : f136 (180) = .inl (cA 4, 4, .inr (.inr (.inr (.inr (fun _ => none))))) := by rw [ef137]; exact va_ups
  have hfr146 : ∀ q, q < 1 → q ≠ 0 → f136 q = f q := fun q h1 h2 => by rw [ef137]; exact (va_upn (by omega)).trans (hfr135 q h1 h2)
  clear h128 h129 h130 h131 h132 h133 h134 hfr135 ef137
  refine y_putF (C := RX7) (T := TX7) (N := 8) (ci := 7) (ty := .array (.object "FordQuestions$Sheet")) Y hP hS inX7 tyX7_ok nmX7 rfl (by omega) h144 7 (by decide) rfl rfl (Nat.le_of_ble_eq_true rfl) rfl rfl wd_294 dX7_init_84 (fun H locs hP hS => ?_)
  obtain ⟨f147, ef148⟩ : ∃ z, z = va_up f136 (0) (.inr (7, [.ref (sz + 1), .ref (sz + 75), .int 0, .ref (sz + 149), .ref (sz + 151), .ref (sz + 160), .ref (sz + 169), .ref (sz + 180)])) := ⟨_, rfl⟩
  have hP : CP D sz (181) f147 H := by rw [ef148]; exact hP
  have h149 : stA cA sz f147 (1) (2) := stA_kept h138 (fun q hq => by rw [ef148]; exact va_upn (by omega))
  have h150 : stA cA sz f147 (75) (76) := stA_kept h139 (fun q hq => by rw [ef148]; exact va_upn (by omega))
  have h151 : tpA cA sz f147 (149) (150) := tpA_kept h140 (fun q hq => by rw [ef148]; exact va_upn (by omega))
  have h152 : rdA cA sz f147 (151) (152) 149 := rdA_kept h141 (fun q hq => by rw [ef148]; exact va_upn (by omega))
  have h153 : olA cA sz f147 (160) (161) := olA_kept h142 (fun q hq => by rw [ef148]; exact va_upn (by omega))
  have h154 : tlA cA sz f147 (169) (170) := tlA_kept h143 (fun q hq => by rw [ef148]; exact va_upn (by omega))
  have h155 : f147 (180) = .inl (cA 4, 4, .inr (.inr (.inr (.inr (fun _ => none))))) := by rw [ef148]; exact (va_upn (by omega)).trans h145
  have h156 : f147 (0) = .inr (7, [.ref (sz + 1), .ref (sz + 75), .int 0, .ref (sz + 149), .ref (sz + 151), .ref (sz + 160), .ref (sz + 169), .ref (sz + 180)]) := by rw [ef148]; exact va_ups
  have hfr157 : ∀ q, q < 1 → q ≠ 0 → f147 q = f q := fun q h1 h2 => by rw [ef148]; exact (va_upn (by omega)).trans (hfr146 q h1 h2)
  clear h138 h139 h140 h141 h142 h143 h144 h145 hfr146 ef148
  refine lv_iconst (v := 0) Y.1.1 Y.1.2.1 dX7_init_87 (by decide) ?_
  refine lv_istore_n (lv' := [(1, .int 0), (0, .ref (sz + 0))]) Y.1.1 Y.1.2.1 dX7_init_88 rfl hl (by decide) rfl (fun ls hl => ?_)
  refine lv_iload_n Y.1.1 Y.1.2.1 dX7_init_89 rfl (lv_at hl 0 rfl) ?_
  refine lv_iconst (v := 4) Y.1.1 Y.1.2.1 dX7_init_90 (by decide) ?_
  refine lv_icmp_ge (tgt := 113) Y.1.1 Y.1.2.1 dX7_init_91 (by decide) (fun c => absurd c (by decide)) (fun _ => ?_)
  refine lv_aload_n Y.1.1 Y.1.2.1 dX7_init_94 rfl (lv_at hl 1 rfl) ?_
  refine y_get (C := RX7) (T := TX7) (N := 8) (ci := 7) Y hP inX7 rfl (by omega) h156 7 (by decide) rfl rfl wd_294 dX7_init_95 ?_
  refine lv_iload_n Y.1.1 Y.1.2.1 dX7_init_98 rfl (lv_at hl 0 rfl) ?_
  refine y_new (C := RX3) (T := TX3) (N := 3) (ci := 3) (fs := [.int 0, .int 0, .null]) Y hP hS inX3 tyX3_ok rfl dvX3 ⟨wd_266, wd_268, wd_61⟩ (by decide) (by decide) dX7_init_99 (fun H hP hS => ?_)
  refine W.eqn (k := 181) (n := 1260) rfl rfl ?_
  obtain ⟨f158, ef159⟩ : ∃ z, z = va_up f147 (181) (.inr (3, [.int 0, .int 0, .null])) := ⟨_, rfl⟩
  have hP : CP D sz (182) f158 H := by rw [ef159]; exact hP
  have h160 : stA cA sz f158 (1) (2) := stA_kept h149 (fun q hq => by rw [ef159]; exact va_upn (by omega))
  have h161 : stA cA sz f158 (75) (76) := stA_kept h150 (fun q hq => by rw [ef159]; exact va_upn (by omega))
  have h162 : tpA cA sz f158 (149) (150) := tpA_kept h151 (fun q hq => by rw [ef159]; exact va_upn (by omega))
  have h163 : rdA cA sz f158 (151) (152) 149 := rdA_kept h152 (fun q hq => by rw [ef159]; exact va_upn (by omega))
  have h164 : olA cA sz f158 (160) (161) := olA_kept h153 (fun q hq => by rw [ef159]; exact va_upn (by omega))
  have h165 : tlA cA sz f158 (169) (170) := tlA_kept h154 (fun q hq => by rw [ef159]; exact va_upn (by omega))
  have h166 : f158 (180) = .inl (cA 4, 4, .inr (.inr (.inr (.inr (fun _ => none))))) := by rw [ef159]; exact (va_upn (by omega)).trans h155
  have h167 : f158 (0) = .inr (7, [.ref (sz + 1), .ref (sz + 75), .int 0, .ref (sz + 149), .ref (sz + 151), .ref (sz + 160), .ref (sz + 169), .ref (sz + 180)]) := by rw [ef159]; exact (va_upn (by omega)).trans h156
  have h168 : f158 (181) = .inr (3, [.int 0, .int 0, .null]) := by rw [ef159]; exact va_ups
  have hfr169 : ∀ q, q < 1 → q ≠ 0 → f158 q = f q := fun q h1 h2 => by rw [ef159]; exact (va_upn (by omega)).trans (hfr157 q h1 h2)
  clear h149 h150 h151 h152 h153 h154 h155 h156 hfr157 ef159
  refine lv_dup Y.1.1 Y.1.2.1 dX7_init_102 rfl ?_
  refine y_call (As := []) (rest := [.ref (sz + 181), .int 0, .ref (sz + 180)]) Y hP hS (c_X3_init l D cA sz (182) f158 (181) (by omega) h168) ⟨wd_271, wd_269, wd_270, wd_61⟩ rfl hd_X3_init ⟨by decide, by decide⟩ rfl hl.1 rfl (Nat.le_of_ble_eq_true rfl) dX7_init_103 ⟨by decide, by decide⟩ (fun nx f170 H locs hp171 hP hS => ?_)
  obtain ⟨rfl, hp171a, hp171b⟩ := hp171
  have hP : CP D sz (183) f170 H := hP
  refine W.eqn (k := 182) (n := 1284) rfl rfl ?_
  have h172 : stA cA sz f170 (1) (2) := stA_kept h160 (fun q hq => hp171b _ (by omega) (by omega))
  have h173 : stA cA sz f170 (75) (76) := stA_kept h161 (fun q hq => hp171b _ (by omega) (by omega))
  have h174 : tpA cA sz f170 (149) (150) := tpA_kept h162 (fun q hq => hp171b _ (by omega) (by omega))
  have h175 : rdA cA sz f170 (151) (152) 149 := rdA_kept h163 (fun q hq => hp171b _ (by omega) (by omega))
  have h176 : olA cA sz f170 (160) (161) := olA_kept h164 (fun q hq => hp171b _ (by omega) (by omega))
  have h177 : tlA cA sz f170 (169) (170) := tlA_kept h165 (fun q hq => hp171b _ (by omega) (by omega))
  have h178 : f170 (180) = .inl (cA 4, 4, .inr (.inr (.inr (.inr (fun _ => none))))) := (hp171b _ (by omega) (by omega)).trans h166
  have h179 : f170 (0) = .inr (7, [.ref (sz + 1), .ref (sz + 75), .int 0, .ref (sz + 149), .ref (sz + 151), .ref (sz + 160), .ref (sz + 169), .ref (sz + 180)]) := (hp171b _ (by omega) (by omega)).trans h167
  have hfr180 : ∀ q, q < 1 → q ≠ 0 → f170 q = f q := fun q h1 h2 => (hp171b q (by omega) (by omega)).trans (hfr169 q h1 h2)
  clear h160 h161 h162 h163 h164 h165 h166 h167 h168 hfr169 hp171b
  refine y_aast (r := (RX3, TX3, 3)) (ti := 4) (ci := 3) Y hP hS rfl rfl (by omega) h178 (by omega) hp171a.1 (o_inb_in (by decide)) dX7_init_106 (fun H locs hP hS => ?_)
  obtain ⟨f181, ef182⟩ : ∃ z, z = va_up f170 (180) (.inl (cA 4, 4, .inr (.inr (.inr (.inr (va_up (fun _ => none) (Int32.toNatClampNeg 0) (some (sz + 181)))))))) := ⟨_, rfl⟩
  have hP : CP D sz (183) f181 H := by rw [ef182]; exact hP
  have h183 : stA cA sz f181 (1) (2) := stA_kept h172 (fun q hq => by rw [ef182]; exact va_upn (by omega))
  have h184 : stA cA sz f181 (75) (76) := stA_kept h173 (fun q hq => by rw [ef182]; exact va_upn (by omega))
  have h185 : tpA cA sz f181 (149) (150) := tpA_kept h174 (fun q hq => by rw [ef182]; exact va_upn (by omega))
  have h186 : rdA cA sz f181 (151) (152) 149 := rdA_kept h175 (fun q hq => by rw [ef182]; exact va_upn (by omega))
  have h187 : olA cA sz f181 (160) (161) := olA_kept h176 (fun q hq => by rw [ef182]; exact va_upn (by omega))
  have h188 : tlA cA sz f181 (169) (170) := tlA_kept h177 (fun q hq => by rw [ef182]; exact va_upn (by omega))
  have h189 : f181 (0) = .inr (7, [.ref (sz + 1), .ref (sz + 75), .int 0, .ref (sz + 149), .ref (sz + 151), .ref (sz + 160), .ref (sz + 169), .ref (sz + 180)]) := by rw [ef182]; exact (va_upn (by omega)).trans h179
  have h190 : sheA cA sz f181 (181) (182) := sheA_kept hp171a (fun q hq => by rw [ef182]; exact va_upn (by omega))
  have h191 : f181 (180) = .inl (cA 4, 4, .inr (.inr (.inr (.inr (va_up (fun _ => none) (Int32.toNatClampNeg 0) (some (sz + 181))))))) := by rw [ef182]; exact va_ups
  have hfr192 : ∀ q, q < 1 → q ≠ 0 → f181 q = f q := fun q h1 h2 => by rw [ef182]; exact (va_upn (by omega)).trans (hfr180 q h1 h2)
  clear h172 h173 h174 h175 h176 h177 h178 h179 hp171a hfr180 ef182
  refine lv_iinc (v := 1) (lv' := [(1, .int 1), (0, .ref (sz + 0))]) Y.1.1 Y.1.2.1 dX7_init_107 hl (k := 0) rfl (by decide) (by decide) rfl (fun ls hl => ?_)
  refine lv_goto (tgt := 89) Y.1.1 Y.1.2.1 dX7_init_110 (by decide) ?_
  refine lv_iload_n Y.1.1 Y.1.2.1 dX7_init_89 rfl (lv_at hl 0 rfl) ?_
  refine lv_iconst (v := 4) Y.1.1 Y.1.2.1 dX7_init_90 (by decide) ?_
  refine lv_icmp_ge (tgt := 113) Y.1.1 Y.1.2.1 dX7_init_91 (by decide) (fun c => absurd c (by decide)) (fun _ => ?_)
  refine lv_aload_n Y.1.1 Y.1.2.1 dX7_init_94 rfl (lv_at hl 1 rfl) ?_
  refine y_get (C := RX7) (T := TX7) (N := 8) (ci := 7) Y hP inX7 rfl (by omega) h189 7 (by decide) rfl rfl wd_294 dX7_init_95 ?_
  refine lv_iload_n Y.1.1 Y.1.2.1 dX7_init_98 rfl (lv_at hl 0 rfl) ?_
  refine y_new (C := RX3) (T := TX3) (N := 3) (ci := 3) (fs := [.int 0, .int 0, .null]) Y hP hS inX3 tyX3_ok rfl dvX3 ⟨wd_266, wd_268, wd_61⟩ (by decide) (by decide) dX7_init_99 (fun H hP hS => ?_)
  refine W.eqn (k := 183) (n := 1287) rfl rfl ?_
  obtain ⟨f193, ef194⟩ : ∃ z, z = va_up f181 (183) (.inr (3, [.int 0, .int 0, .null])) := ⟨_, rfl⟩
  have hP : CP D sz (184) f193 H := by rw [ef194]; exact hP
  have h195 : stA cA sz f193 (1) (2) := stA_kept h183 (fun q hq => by rw [ef194]; exact va_upn (by omega))
  have h196 : stA cA sz f193 (75) (76) := stA_kept h184 (fun q hq => by rw [ef194]; exact va_upn (by omega))
  have h197 : tpA cA sz f193 (149) (150) := tpA_kept h185 (fun q hq => by rw [ef194]; exact va_upn (by omega))
  have h198 : rdA cA sz f193 (151) (152) 149 := rdA_kept h186 (fun q hq => by rw [ef194]; exact va_upn (by omega))
  have h199 : olA cA sz f193 (160) (161) := olA_kept h187 (fun q hq => by rw [ef194]; exact va_upn (by omega))
  have h200 : tlA cA sz f193 (169) (170) := tlA_kept h188 (fun q hq => by rw [ef194]; exact va_upn (by omega))
  have h201 : f193 (0) = .inr (7, [.ref (sz + 1), .ref (sz + 75), .int 0, .ref (sz + 149), .ref (sz + 151), .ref (sz + 160), .ref (sz + 169), .ref (sz + 180)]) := by rw [ef194]; exact (va_upn (by omega)).trans h189
  have h202 : sheA cA sz f193 (181) (182) := sheA_kept h190 (fun q hq => by rw [ef194]; exact va_upn (by omega))
  have h203 : f193 (180) = .inl (cA 4, 4, .inr (.inr (.inr (.inr (va_up (fun _ => none) (Int32.toNatClampNeg 0) (some (sz + 181))))))) := by rw [ef194]; exact (va_upn (by omega)).trans h191
  have h204 : f193 (183) = .inr (3, [.int 0, .int 0, .null]) := by rw [ef194]; exact va_ups
  have hfr205 : ∀ q, q < 1 → q ≠ 0 → f193 q = f q := fun q h1 h2 => by rw [ef194]; exact (va_upn (by omega)).trans (hfr192 q h1 h2)
  clear h183 h184 h185 h186 h187 h188 h189 h190 h191 hfr192 ef194
  refine lv_dup Y.1.1 Y.1.2.1 dX7_init_102 rfl ?_
  refine y_call (As := []) (rest := [.ref (sz + 183), .int 1, .ref (sz + 180)]) Y hP hS (c_X3_init l D cA sz (184) f193 (183) (by omega) h204) ⟨wd_271, wd_269, wd_270, wd_61⟩ rfl hd_X3_init ⟨by decide, by decide⟩ rfl hl.1 rfl (Nat.le_of_ble_eq_true rfl) dX7_init_103 ⟨by decide, by decide⟩ (fun nx f206 H locs hp207 hP hS => ?_)
  obtain ⟨rfl, hp207a, hp207b⟩ := hp207
  have hP : CP D sz (185) f206 H := hP
  refine W.eqn (k := 184) (n := 1311) rfl rfl ?_
  have h208 : stA cA sz f206 (1) (2) := stA_kept h195 (fun q hq => hp207b _ (by omega) (by omega))
  have h209 : stA cA sz f206 (75) (76) := stA_kept h196 (fun q hq => hp207b _ (by omega) (by omega))
  have h210 : tpA cA sz f206 (149) (150) := tpA_kept h197 (fun q hq => hp207b _ (by omega) (by omega))
  have h211 : rdA cA sz f206 (151) (152) 149 := rdA_kept h198 (fun q hq => hp207b _ (by omega) (by omega))
  have h212 : olA cA sz f206 (160) (161) := olA_kept h199 (fun q hq => hp207b _ (by omega) (by omega))
  have h213 : tlA cA sz f206 (169) (170) := tlA_kept h200 (fun q hq => hp207b _ (by omega) (by omega))
  have h214 : f206 (0) = .inr (7, [.ref (sz + 1), .ref (sz + 75), .int 0, .ref (sz + 149), .ref (sz + 151), .ref (sz + 160), .ref (sz + 169), .ref (sz + 180)]) := (hp207b _ (by omega) (by omega)).trans h201
  have h215 : sheA cA sz f206 (181) (182) := sheA_kept h202 (fun q hq => hp207b _ (by omega) (by omega))
  have h216 : f206 (180) = .inl (cA 4, 4, .inr (.inr (.inr (.inr (va_up (fun _ => none) (Int32.toNatClampNeg 0) (some (sz + 181))))))) := (hp207b _ (by omega) (by omega)).trans h203
  have hfr217 : ∀ q, q < 1 → q ≠ 0 → f206 q = f q := fun q h1 h2 => (hp207b q (by omega) (by omega)).trans (hfr205 q h1 h2)
  clear h195 h196 h197 h198 h199 h200 h201 h202 h203 h204 hfr205 hp207b
  refine y_aast (r := (RX3, TX3, 3)) (ti := 4) (ci := 3) Y hP hS rfl rfl (by omega) h216 (by omega) hp207a.1 (o_inb_in (by decide)) dX7_init_106 (fun H locs hP hS => ?_)
  obtain ⟨f218, ef219⟩ : ∃ z, z = va_up f206 (180) (.inl (cA 4, 4, .inr (.inr (.inr (.inr (va_up (va_up (fun _ => none) (Int32.toNatClampNeg 0) (some (sz + 181))) (Int32.toNatClampNeg 1) (some (sz + 183)))))))) := ⟨_, rfl⟩
  have hP : CP D sz (185) f218 H := by rw [ef219]; exact hP
  have h220 : stA cA sz f218 (1) (2) := stA_kept h208 (fun q hq => by rw [ef219]; exact va_upn (by omega))
  have h221 : stA cA sz f218 (75) (76) := stA_kept h209 (fun q hq => by rw [ef219]; exact va_upn (by omega))
  have h222 : tpA cA sz f218 (149) (150) := tpA_kept h210 (fun q hq => by rw [ef219]; exact va_upn (by omega))
  have h223 : rdA cA sz f218 (151) (152) 149 := rdA_kept h211 (fun q hq => by rw [ef219]; exact va_upn (by omega))
  have h224 : olA cA sz f218 (160) (161) := olA_kept h212 (fun q hq => by rw [ef219]; exact va_upn (by omega))
  have h225 : tlA cA sz f218 (169) (170) := tlA_kept h213 (fun q hq => by rw [ef219]; exact va_upn (by omega))
  have h226 : f218 (0) = .inr (7, [.ref (sz + 1), .ref (sz + 75), .int 0, .ref (sz + 149), .ref (sz + 151), .ref (sz + 160), .ref (sz + 169), .ref (sz + 180)]) := by rw [ef219]; exact (va_upn (by omega)).trans h214
  have h227 : sheA cA sz f218 (181) (182) := sheA_kept h215 (fun q hq => by rw [ef219]; exact va_upn (by omega))
  have h228 : sheA cA sz f218 (183) (184) := sheA_kept hp207a (fun q hq => by rw [ef219]; exact va_upn (by omega))
  have h229 : f218 (180) = .inl (cA 4, 4, .inr (.inr (.inr (.inr (va_up (va_up (fun _ => none) (Int32.toNatClampNeg 0) (some (sz + 181))) (Int32.toNatClampNeg 1) (some (sz + 183))))))) := by rw [ef219]; exact va_ups
  have hfr230 : ∀ q, q < 1 → q ≠ 0 → f218 q = f q := fun q h1 h2 => by rw [ef219]; exact (va_upn (by omega)).trans (hfr217 q h1 h2)
  clear h208 h209 h210 h211 h212 h213 h214 h215 h216 hp207a hfr217 ef219
  refine lv_iinc (v := 2) (lv' := [(1, .int 2), (0, .ref (sz + 0))]) Y.1.1 Y.1.2.1 dX7_init_107 hl (k := 0) rfl (by decide) (by decide) rfl (fun ls hl => ?_)
  refine lv_goto (tgt := 89) Y.1.1 Y.1.2.1 dX7_init_110 (by decide) ?_
  refine lv_iload_n Y.1.1 Y.1.2.1 dX7_init_89 rfl (lv_at hl 0 rfl) ?_
  refine lv_iconst (v := 4) Y.1.1 Y.1.2.1 dX7_init_90 (by decide) ?_
  refine lv_icmp_ge (tgt := 113) Y.1.1 Y.1.2.1 dX7_init_91 (by decide) (fun c => absurd c (by decide)) (fun _ => ?_)
  refine lv_aload_n Y.1.1 Y.1.2.1 dX7_init_94 rfl (lv_at hl 1 rfl) ?_
  refine y_get (C := RX7) (T := TX7) (N := 8) (ci := 7) Y hP inX7 rfl (by omega) h226 7 (by decide) rfl rfl wd_294 dX7_init_95 ?_
  refine lv_iload_n Y.1.1 Y.1.2.1 dX7_init_98 rfl (lv_at hl 0 rfl) ?_
  refine y_new (C := RX3) (T := TX3) (N := 3) (ci := 3) (fs := [.int 0, .int 0, .null]) Y hP hS inX3 tyX3_ok rfl dvX3 ⟨wd_266, wd_268, wd_61⟩ (by decide) (by decide) dX7_init_99 (fun H hP hS => ?_)
  refine W.eqn (k := 185) (n := 1314) rfl rfl ?_
  obtain ⟨f231, ef232⟩ : ∃ z, z = va_up f218 (185) (.inr (3, [.int 0, .int 0, .null])) := ⟨_, rfl⟩
  have hP : CP D sz (186) f231 H := by rw [ef232]; exact hP
  have h233 : stA cA sz f231 (1) (2) := stA_kept h220 (fun q hq => by rw [ef232]; exact va_upn (by omega))
  have h234 : stA cA sz f231 (75) (76) := stA_kept h221 (fun q hq => by rw [ef232]; exact va_upn (by omega))
  have h235 : tpA cA sz f231 (149) (150) := tpA_kept h222 (fun q hq => by rw [ef232]; exact va_upn (by omega))
  have h236 : rdA cA sz f231 (151) (152) 149 := rdA_kept h223 (fun q hq => by rw [ef232]; exact va_upn (by omega))
  have h237 : olA cA sz f231 (160) (161) := olA_kept h224 (fun q hq => by rw [ef232]; exact va_upn (by omega))
  have h238 : tlA cA sz f231 (169) (170) := tlA_kept h225 (fun q hq => by rw [ef232]; exact va_upn (by omega))
  have h239 : f231 (0) = .inr (7, [.ref (sz + 1), .ref (sz + 75), .int 0, .ref (sz + 149), .ref (sz + 151), .ref (sz + 160), .ref (sz + 169), .ref (sz + 180)]) := by rw [ef232]; exact (va_upn (by omega)).trans h226
  have h240 : sheA cA sz f231 (181) (182) := sheA_kept h227 (fun q hq => by rw [ef232]; exact va_upn (by omega))
  have h241 : sheA cA sz f231 (183) (184) := sheA_kept h228 (fun q hq => by rw [ef232]; exact va_upn (by omega))
  have h242 : f231 (180) = .inl (cA 4, 4, .inr (.inr (.inr (.inr (va_up (va_up (fun _ => none) (Int32.toNatClampNeg 0) (some (sz + 181))) (Int32.toNatClampNeg 1) (some (sz + 183))))))) := by rw [ef232]; exact (va_upn (by omega)).trans h229
  have h243 : f231 (185) = .inr (3, [.int 0, .int 0, .null]) := by rw [ef232]; exact va_ups
  have hfr244 : ∀ q, q < 1 → q ≠ 0 → f231 q = f q := fun q h1 h2 => by rw [ef232]; exact (va_upn (by omega)).trans (hfr230 q h1 h2)
  clear h220 h221 h222 h223 h224 h225 h226 h227 h228 h229 hfr230 ef232
  refine lv_dup Y.1.1 Y.1.2.1 dX7_init_102 rfl ?_
  refine y_call (As := []) (rest := [.ref (sz + 185), .int 2, .ref (sz + 180)]) Y hP hS (c_X3_init l D cA sz (186) f231 (185) (by omega) h243) ⟨wd_271, wd_269, wd_270, wd_61⟩ rfl hd_X3_init ⟨by decide, by decide⟩ rfl hl.1 rfl (Nat.le_of_ble_eq_true rfl) dX7_init_103 ⟨by decide, by decide⟩ (fun nx f245 H locs hp246 hP hS => ?_)
  obtain ⟨rfl, hp246a, hp246b⟩ := hp246
  have hP : CP D sz (187) f245 H := hP
  refine W.eqn (k := 186) (n := 1338) rfl rfl ?_
  have h247 : stA cA sz f245 (1) (2) := stA_kept h233 (fun q hq => hp246b _ (by omega) (by omega))
  have h248 : stA cA sz f245 (75) (76) := stA_kept h234 (fun q hq => hp246b _ (by omega) (by omega))
  have h249 : tpA cA sz f245 (149) (150) := tpA_kept h235 (fun q hq => hp246b _ (by omega) (by omega))
  have h250 : rdA cA sz f245 (151) (152) 149 := rdA_kept h236 (fun q hq => hp246b _ (by omega) (by omega))
  have h251 : olA cA sz f245 (160) (161) := olA_kept h237 (fun q hq => hp246b _ (by omega) (by omega))
  have h252 : tlA cA sz f245 (169) (170) := tlA_kept h238 (fun q hq => hp246b _ (by omega) (by omega))
  have h253 : f245 (0) = .inr (7, [.ref (sz + 1), .ref (sz + 75), .int 0, .ref (sz + 149), .ref (sz + 151), .ref (sz + 160), .ref (sz + 169), .ref (sz + 180)]) := (hp246b _ (by omega) (by omega)).trans h239
  have h254 : sheA cA sz f245 (181) (182) := sheA_kept h240 (fun q hq => hp246b _ (by omega) (by omega))
  have h255 : sheA cA sz f245 (183) (184) := sheA_kept h241 (fun q hq => hp246b _ (by omega) (by omega))
  have h256 : f245 (180) = .inl (cA 4, 4, .inr (.inr (.inr (.inr (va_up (va_up (fun _ => none) (Int32.toNatClampNeg 0) (some (sz + 181))) (Int32.toNatClampNeg 1) (some (sz + 183))))))) := (hp246b _ (by omega) (by omega)).trans h242
  have hfr257 : ∀ q, q < 1 → q ≠ 0 → f245 q = f q := fun q h1 h2 => (hp246b q (by omega) (by omega)).trans (hfr244 q h1 h2)
  clear h233 h234 h235 h236 h237 h238 h239 h240 h241 h242 h243 hfr244 hp246b
  refine y_aast (r := (RX3, TX3, 3)) (ti := 4) (ci := 3) Y hP hS rfl rfl (by omega) h256 (by omega) hp246a.1 (o_inb_in (by decide)) dX7_init_106 (fun H locs hP hS => ?_)
  obtain ⟨f258, ef259⟩ : ∃ z, z = va_up f245 (180) (.inl (cA 4, 4, .inr (.inr (.inr (.inr (va_up (va_up (va_up (fun _ => none) (Int32.toNatClampNeg 0) (some (sz + 181))) (Int32.toNatClampNeg 1) (some (sz + 183))) (Int32.toNatClampNeg 2) (some (sz + 185)))))))) := ⟨_, rfl⟩
  have hP : CP D sz (187) f258 H := by rw [ef259]; exact hP
  have h260 : stA cA sz f258 (1) (2) := stA_kept h247 (fun q hq => by rw [ef259]; exact va_upn (by omega))
  have h261 : stA cA sz f258 (75) (76) := stA_kept h248 (fun q hq => by rw [ef259]; exact va_upn (by omega))
  have h262 : tpA cA sz f258 (149) (150) := tpA_kept h249 (fun q hq => by rw [ef259]; exact va_upn (by omega))
  have h263 : rdA cA sz f258 (151) (152) 149 := rdA_kept h250 (fun q hq => by rw [ef259]; exact va_upn (by omega))
  have h264 : olA cA sz f258 (160) (161) := olA_kept h251 (fun q hq => by rw [ef259]; exact va_upn (by omega))
  have h265 : tlA cA sz f258 (169) (170) := tlA_kept h252 (fun q hq => by rw [ef259]; exact va_upn (by omega))
  have h266 : f258 (0) = .inr (7, [.ref (sz + 1), .ref (sz + 75), .int 0, .ref (sz + 149), .ref (sz + 151), .ref (sz + 160), .ref (sz + 169), .ref (sz + 180)]) := by rw [ef259]; exact (va_upn (by omega)).trans h253
  have h267 : sheA cA sz f258 (181) (182) := sheA_kept h254 (fun q hq => by rw [ef259]; exact va_upn (by omega))
  have h268 : sheA cA sz f258 (183) (184) := sheA_kept h255 (fun q hq => by rw [ef259]; exact va_upn (by omega))
  have h269 : sheA cA sz f258 (185) (186) := sheA_kept hp246a (fun q hq => by rw [ef259]; exact va_upn (by omega))
  have h270 : f258 (180) = .inl (cA 4, 4, .inr (.inr (.inr (.inr (va_up (va_up (va_up (fun _ => none) (Int32.toNatClampNeg 0) (some (sz + 181))) (Int32.toNatClampNeg 1) (some (sz + 183))) (Int32.toNatClampNeg 2) (some (sz + 185))))))) := by rw [ef259]; exact va_ups
  have hfr271 : ∀ q, q < 1 → q ≠ 0 → f258 q = f q := fun q h1 h2 => by rw [ef259]; exact (va_upn (by omega)).trans (hfr257 q h1 h2)
  clear h247 h248 h249 h250 h251 h252 h253 h254 h255 h256 hp246a hfr257 ef259
  refine lv_iinc (v := 3) (lv' := [(1, .int 3), (0, .ref (sz + 0))]) Y.1.1 Y.1.2.1 dX7_init_107 hl (k := 0) rfl (by decide) (by decide) rfl (fun ls hl => ?_)
  refine lv_goto (tgt := 89) Y.1.1 Y.1.2.1 dX7_init_110 (by decide) ?_
  refine lv_iload_n Y.1.1 Y.1.2.1 dX7_init_89 rfl (lv_at hl 0 rfl) ?_
  refine lv_iconst (v := 4) Y.1.1 Y.1.2.1 dX7_init_90 (by decide) ?_
  refine lv_icmp_ge (tgt := 113) Y.1.1 Y.1.2.1 dX7_init_91 (by decide) (fun c => absurd c (by decide)) (fun _ => ?_)
  refine lv_aload_n Y.1.1 Y.1.2.1 dX7_init_94 rfl (lv_at hl 1 rfl) ?_
  refine y_get (C := RX7) (T := TX7) (N := 8) (ci := 7) Y hP inX7 rfl (by omega) h266 7 (by decide) rfl rfl wd_294 dX7_init_95 ?_
  refine lv_iload_n Y.1.1 Y.1.2.1 dX7_init_98 rfl (lv_at hl 0 rfl) ?_
  refine y_new (C := RX3) (T := TX3) (N := 3) (ci := 3) (fs := [.int 0, .int 0, .null]) Y hP hS inX3 tyX3_ok rfl dvX3 ⟨wd_266, wd_268, wd_61⟩ (by decide) (by decide) dX7_init_99 (fun H hP hS => ?_)
  refine W.eqn (k := 187) (n := 1341) rfl rfl ?_
  obtain ⟨f272, ef273⟩ : ∃ z, z = va_up f258 (187) (.inr (3, [.int 0, .int 0, .null])) := ⟨_, rfl⟩
  have hP : CP D sz (188) f272 H := by rw [ef273]; exact hP
  have h274 : stA cA sz f272 (1) (2) := stA_kept h260 (fun q hq => by rw [ef273]; exact va_upn (by omega))
  have h275 : stA cA sz f272 (75) (76) := stA_kept h261 (fun q hq => by rw [ef273]; exact va_upn (by omega))
  have h276 : tpA cA sz f272 (149) (150) := tpA_kept h262 (fun q hq => by rw [ef273]; exact va_upn (by omega))
  have h277 : rdA cA sz f272 (151) (152) 149 := rdA_kept h263 (fun q hq => by rw [ef273]; exact va_upn (by omega))
  have h278 : olA cA sz f272 (160) (161) := olA_kept h264 (fun q hq => by rw [ef273]; exact va_upn (by omega))
  have h279 : tlA cA sz f272 (169) (170) := tlA_kept h265 (fun q hq => by rw [ef273]; exact va_upn (by omega))
  have h280 : f272 (0) = .inr (7, [.ref (sz + 1), .ref (sz + 75), .int 0, .ref (sz + 149), .ref (sz + 151), .ref (sz + 160), .ref (sz + 169), .ref (sz + 180)]) := by rw [ef273]; exact (va_upn (by omega)).trans h266
  have h281 : sheA cA sz f272 (181) (182) := sheA_kept h267 (fun q hq => by rw [ef273]; exact va_upn (by omega))
  have h282 : sheA cA sz f272 (183) (184) := sheA_kept h268 (fun q hq => by rw [ef273]; exact va_upn (by omega))
  have h283 : sheA cA sz f272 (185) (186) := sheA_kept h269 (fun q hq => by rw [ef273]; exact va_upn (by omega))
  have h284 : f272 (180) = .inl (cA 4, 4, .inr (.inr (.inr (.inr (va_up (va_up (va_up (fun _ => none) (Int32.toNatClampNeg 0) (some (sz + 181))) (Int32.toNatClampNeg 1) (some (sz + 183))) (Int32.toNatClampNeg 2) (some (sz + 185))))))) := by rw [ef273]; exact (va_upn (by omega)).trans h270
  have h285 : f272 (187) = .inr (3, [.int 0, .int 0, .null]) := by rw [ef273]; exact va_ups
  have hfr286 : ∀ q, q < 1 → q ≠ 0 → f272 q = f q := fun q h1 h2 => by rw [ef273]; exact (va_upn (by omega)).trans (hfr271 q h1 h2)
  clear h260 h261 h262 h263 h264 h265 h266 h267 h268 h269 h270 hfr271 ef273
  refine lv_dup Y.1.1 Y.1.2.1 dX7_init_102 rfl ?_
  refine y_call (As := []) (rest := [.ref (sz + 187), .int 3, .ref (sz + 180)]) Y hP hS (c_X3_init l D cA sz (188) f272 (187) (by omega) h285) ⟨wd_271, wd_269, wd_270, wd_61⟩ rfl hd_X3_init ⟨by decide, by decide⟩ rfl hl.1 rfl (Nat.le_of_ble_eq_true rfl) dX7_init_103 ⟨by decide, by decide⟩ (fun nx f287 H locs hp288 hP hS => ?_)
  obtain ⟨rfl, hp288a, hp288b⟩ := hp288
  have hP : CP D sz (189) f287 H := hP
  refine W.eqn (k := 188) (n := 1365) rfl rfl ?_
  have h289 : stA cA sz f287 (1) (2) := stA_kept h274 (fun q hq => hp288b _ (by omega) (by omega))
  have h290 : stA cA sz f287 (75) (76) := stA_kept h275 (fun q hq => hp288b _ (by omega) (by omega))
  have h291 : tpA cA sz f287 (149) (150) := tpA_kept h276 (fun q hq => hp288b _ (by omega) (by omega))
  have h292 : rdA cA sz f287 (151) (152) 149 := rdA_kept h277 (fun q hq => hp288b _ (by omega) (by omega))
  have h293 : olA cA sz f287 (160) (161) := olA_kept h278 (fun q hq => hp288b _ (by omega) (by omega))
  have h294 : tlA cA sz f287 (169) (170) := tlA_kept h279 (fun q hq => hp288b _ (by omega) (by omega))
  have h295 : f287 (0) = .inr (7, [.ref (sz + 1), .ref (sz + 75), .int 0, .ref (sz + 149), .ref (sz + 151), .ref (sz + 160), .ref (sz + 169), .ref (sz + 180)]) := (hp288b _ (by omega) (by omega)).trans h280
  have h296 : sheA cA sz f287 (181) (182) := sheA_kept h281 (fun q hq => hp288b _ (by omega) (by omega))
  have h297 : sheA cA sz f287 (183) (184) := sheA_kept h282 (fun q hq => hp288b _ (by omega) (by omega))
  have h298 : sheA cA sz f287 (185) (186) := sheA_kept h283 (fun q hq => hp288b _ (by omega) (by omega))
  have h299 : f287 (180) = .inl (cA 4, 4, .inr (.inr (.inr (.inr (va_up (va_up (va_up (fun _ => none) (Int32.toNatClampNeg 0) (some (sz + 181))) (Int32.toNatClampNeg 1) (some (sz + 183))) (Int32.toNatClampNeg 2) (some (sz + 185))))))) := (hp288b _ (by omega) (by omega)).trans h284
  have hfr300 : ∀ q, q < 1 → q ≠ 0 → f287 q = f q := fun q h1 h2 => (hp288b q (by omega) (by omega)).trans (hfr286 q h1 h2)
  clear h274 h275 h276 h277 h278 h279 h280 h281 h282 h283 h284 h285 hfr286 hp288b
  refine y_aast (r := (RX3, TX3, 3)) (ti := 4) (ci := 3) Y hP hS rfl rfl (by omega) h299 (by omega) hp288a.1 (o_inb_in (by decide)) dX7_init_106 (fun H locs hP hS => ?_)
  obtain ⟨f301, ef302⟩ : ∃ z, z = va_up f287 (180) (.inl (cA 4, 4, .inr (.inr (.inr (.inr (va_up (va_up (va_up (va_up (fun _ => none) (Int32.toNatClampNeg 0) (some (sz + 181))) (Int32.toNatClampNeg 1) (some (sz + 183))) (Int32.toNatClampNeg 2) (some (sz + 185))) (Int32.toNatClampNeg 3) (some (sz + 187)))))))) := ⟨_, rfl⟩
  have hP : CP D sz (189) f301 H := by rw [ef302]; exact hP
  have h303 : stA cA sz f301 (1) (2) := stA_kept h289 (fun q hq => by rw [ef302]; exact va_upn (by omega))
  have h304 : stA cA sz f301 (75) (76) := stA_kept h290 (fun q hq => by rw [ef302]; exact va_upn (by omega))
  have h305 : tpA cA sz f301 (149) (150) := tpA_kept h291 (fun q hq => by rw [ef302]; exact va_upn (by omega))
  have h306 : rdA cA sz f301 (151) (152) 149 := rdA_kept h292 (fun q hq => by rw [ef302]; exact va_upn (by omega))
  have h307 : olA cA sz f301 (160) (161) := olA_kept h293 (fun q hq => by rw [ef302]; exact va_upn (by omega))
  have h308 : tlA cA sz f301 (169) (170) := tlA_kept h294 (fun q hq => by rw [ef302]; exact va_upn (by omega))
  have h309 : f301 (0) = .inr (7, [.ref (sz + 1), .ref (sz + 75), .int 0, .ref (sz + 149), .ref (sz + 151), .ref (sz + 160), .ref (sz + 169), .ref (sz + 180)]) := by rw [ef302]; exact (va_upn (by omega)).trans h295
  have h310 : sheA cA sz f301 (181) (182) := sheA_kept h296 (fun q hq => by rw [ef302]; exact va_upn (by omega))
  have h311 : sheA cA sz f301 (183) (184) := sheA_kept h297 (fun q hq => by rw [ef302]; exact va_upn (by omega))
  have h312 : sheA cA sz f301 (185) (186) := sheA_kept h298 (fun q hq => by rw [ef302]; exact va_upn (by omega))
  have h313 : sheA cA sz f301 (187) (188) := sheA_kept hp288a (fun q hq => by rw [ef302]; exact va_upn (by omega))
  have h314 : f301 (180) = .inl (cA 4, 4, .inr (.inr (.inr (.inr (va_up (va_up (va_up (va_up (fun _ => none) (Int32.toNatClampNeg 0) (some (sz + 181))) (Int32.toNatClampNeg 1) (some (sz + 183))) (Int32.toNatClampNeg 2) (some (sz + 185))) (Int32.toNatClampNeg 3) (some (sz + 187))))))) := by rw [ef302]; exact va_ups
  have hfr315 : ∀ q, q < 1 → q ≠ 0 → f301 q = f q := fun q h1 h2 => by rw [ef302]; exact (va_upn (by omega)).trans (hfr300 q h1 h2)
  clear h289 h290 h291 h292 h293 h294 h295 h296 h297 h298 h299 hp288a hfr300 ef302
  refine lv_iinc (v := 4) (lv' := [(1, .int 4), (0, .ref (sz + 0))]) Y.1.1 Y.1.2.1 dX7_init_107 hl (k := 0) rfl (by decide) (by decide) rfl (fun ls hl => ?_)
  refine lv_goto (tgt := 89) Y.1.1 Y.1.2.1 dX7_init_110 (by decide) ?_
  refine lv_iload_n Y.1.1 Y.1.2.1 dX7_init_89 rfl (lv_at hl 0 rfl) ?_
  refine lv_iconst (v := 4) Y.1.1 Y.1.2.1 dX7_init_90 (by decide) ?_
  refine lv_icmp_ge (tgt := 113) Y.1.1 Y.1.2.1 dX7_init_91 (by decide) (fun _ => ?_) (fun c => absurd (by decide) c)
  refine y_vret (mc0 := 188) (ms0 := 1365) (cells := 188) (slots := 1365) (P := fun n' f' => n' = 189 ∧ (f' 0 = .inr (7, [.ref (sz + 1), .ref (sz + 75), .int 0, .ref (sz + 149), .ref (sz + 151), .ref (sz + 160), .ref (sz + 169), .ref (sz + 180)]) ∧ stA cA sz f' 1 2 ∧ stA cA sz f' 75 76 ∧ tpA cA sz f' 149 150 ∧ rdA cA sz f' 151 152 149 ∧ olA cA sz f' 160 161 ∧ tlA cA sz f' 169 170 ∧ (∃ g : Nat → Option Nat, f' 180 = .inl (cA 4, 4, .inr (.inr (.inr (.inr g)))) ∧ ∀ j, j < 4 → g j = some (sz + (181 + 2 * j))) ∧ ∀ j, j < 4 → sheA cA sz f' (181 + 2 * j) (182 + 2 * j)) ∧ ∀ q, q < 1 → q ≠ 0 → f' q = f q) Y hP hS ⟨rfl, ?_, hfr315⟩ (by decide) (by decide) dX7_init_113
  refine ⟨h309, h303, h304, h305, h306, h307, h308, ⟨_, h314, ?_⟩, ?_⟩
  · intro j hj
    rcases (show j = 0 ∨ j = 1 ∨ j = 2 ∨ j = 3 by omega) with rfl | rfl | rfl | rfl <;> rfl
  · intro j hj
    rcases (show j = 0 ∨ j = 1 ∨ j = 2 ∨ j = 3 by omega) with rfl | rfl | rfl | rfl
    · exact h310
    · exact h311
    · exact h312
    · exact h313
set_option maxRecDepth 100000 in
set_option maxHeartbeats 8000000 in
theorem c_X8_init (l : Launch) (D : va_G) (cA : Nat → ClassId) (sz : Nat) (n : Nat) (f : Nat → va_E) (k : Nat) (hk : k < n) (hf : f k = .inr (8, [.int 0, .int 0, .null, .null, .null, .null, .null, .int 0, .int 0, .null, .null, .null, .null, .null, .null, .int 0, .null, .int 0, .int 0, .int 0, .null, .int 0, .int 0, .int 0, .int 0, .null, .null, .null, .int 0, .int 0, .null])) : MC l yX8_init cX8_init 2 2 17 866 D cA sz n f [.ref (sz + k)] (fun n' f' => n' = n + 17 ∧ (f' k = .inr (8, [.int 0, .int 0, .ref (sz + n), .ref (sz + (n + 1)), .ref (sz + (n + 2)), .ref (sz + (n + 3)), .ref (sz + (n + 4)), .int 0, .int 0, .ref (sz + (n + 5)), .ref (sz + (n + 6)), .ref (sz + (n + 7)), .ref (sz + (n + 8)), .ref (sz + (n + 9)), .ref (sz + (n + 10)), .int 0, .ref (sz + (n + 11)), .int (-4), .int 0, .int 0, .ref (sz + (n + 12)), .int 0, .int 0, .int 0, .int 0, .ref (sz + (n + 13)), .ref (sz + (n + 14)), .ref (sz + (n + 15)), .int 0, .int 0, .ref (sz + (n + 16))]) ∧ f' (n) = .inl (cA 0, 8, .inl (fun _ => 0)) ∧ f' (n + 1) = .inl (cA 0, 5, .inl (fun _ => 0)) ∧ f' (n + 2) = .inl (cA 0, 31, .inl (upd (fun _ => 0) 30 1)) ∧ f' (n + 3) = .inl (cA 0, 31, .inl (fun _ => 0)) ∧ f' (n + 4) = .inl (cA 0, 248, .inl (fun _ => 0)) ∧ f' (n + 5) = .inl (cA 0, 16, .inl (fun _ => 0)) ∧ f' (n + 6) = .inl (cA 0, 31, .inl (fun _ => 0)) ∧ f' (n + 7) = .inl (cA 0, 248, .inl (fun _ => 0)) ∧ f' (n + 8) = .inl (cA 2, 96, .inr (.inl (fun _ => 0))) ∧ f' (n + 9) = .inl (cA 0, 4, .inl (fun _ => 0)) ∧ f' (n + 10) = .inl (cA 0, 4, .inl (upd (upd (upd (upd (fun _ => 0) 0 (-1)) 1 (-1)) 2 (-1)) 3 (-1))) ∧ f' (n + 11) = .inl (cA 0, 90, .inl (fun _ => 0)) ∧ f' (n + 12) = .inl (cA 0, 5, .inl (fun _ => 0)) ∧ f' (n + 13) = .inl (cA 0, 8, .inl (fun _ => 0)) ∧ f' (n + 14) = .inl (cA 0, 5, .inl (fun _ => 0)) ∧ f' (n + 15) = .inl (cA 0, 31, .inl (fun _ => 0)) ∧ f' (n + 16) = .inl (cA 0, 5, .inl (fun _ => 0))) ∧ ∀ q, q < n → q ≠ k → f' q = f q) := by
  refine y_met (by decide +kernel) rfl (Nat.le_of_ble_eq_true rfl) ?_
  intro p e s m below meth c ls args Y hP hl
  have hS : va_S (CA sz) s.heap s.heap [] := va_S.rf
  have hl : lv_has ls 2 [(0, .ref (sz + k))] := hl
  have hfr0 : ∀ q, q < n → q ≠ k → f q = f q := fun _ _ _ => rfl
  refine lv_aload_n Y.1.1 Y.1.2.1 dX8_init_0 rfl (lv_at hl 0 rfl) ?_
  refine y_obj Y ⟨wd_879, wd_78, wd_79⟩ hl.1 (by decide) (Nat.le_of_ble_eq_true rfl) dX8_init_1 ?_
  refine lv_aload_n Y.1.1 Y.1.2.1 dX8_init_4 rfl (lv_at hl 0 rfl) ?_
  refine lv_bipush (v := 8) Y.1.1 Y.1.2.1 dX8_init_5 (by decide) ?_
  refine y_newa (atype := .int) (ti := 0) (k := 8) (a0 := (8, .inl (fun _ => 0))) (N' := 8) Y hP hS rfl rfl wd_157 (fun _ => rfl) (by decide) (by decide) (by decide) (by decide) (by decide) dX8_init_7 (fun H hP hS => ?_)
  refine W.eqn (k := 1) (n := 8) rfl rfl ?_
  obtain ⟨f1, ef2⟩ : ∃ z, z = va_up f (n) (.inl (cA 0, 8, .inl (fun _ => 0))) := ⟨_, rfl⟩
  have hP : CP D sz (n + 1) f1 H := by rw [ef2]; exact hP
  have h3 : f1 (k) = .inr (8, [.int 0, .int 0, .null, .null, .null, .null, .null, .int 0, .int 0, .null, .null, .null, .null, .null, .null, .int 0, .null, .int 0, .int 0, .int 0, .null, .int 0, .int 0, .int 0, .int 0, .null, .null, .null, .int 0, .int 0, .null]) := by rw [ef2]; exact (va_upn (by omega)).trans hf
  have h4 : f1 (n) = .inl (cA 0, 8, .inl (fun _ => 0)) := by rw [ef2]; exact va_ups
  have hfr5 : ∀ q, q < n → q ≠ k → f1 q = f q := fun q h1 h2 => by rw [ef2]; exact (va_upn (by omega)).trans (hfr0 q h1 h2)
  clear hfr0 ef2
  refine y_putF (C := RX8) (T := TX8) (N := 31) (ci := 8) (ty := .array .int) Y hP hS inX8 tyX8_ok nmX8 rfl (by omega) h3 2 (by decide) rfl rfl (Nat.le_of_ble_eq_true rfl) rfl rfl wd_882 dX8_init_9 (fun H locs hP hS => ?_)
  obtain ⟨f6, ef7⟩ : ∃ z, z = va_up f1 (k) (.inr (8, [.int 0, .int 0, .ref (sz + n), .null, .null, .null, .null, .int 0, .int 0, .null, .null, .null, .null, .null, .null, .int 0, .null, .int 0, .int 0, .int 0, .null, .int 0, .int 0, .int 0, .int 0, .null, .null, .null, .int 0, .int 0, .null])) := ⟨_, rfl⟩
  have hP : CP D sz (n + 1) f6 H := by rw [ef7]; exact hP
  have h8 : f6 (n) = .inl (cA 0, 8, .inl (fun _ => 0)) := by rw [ef7]; exact (va_upn (by omega)).trans h4
  have h9 : f6 (k) = .inr (8, [.int 0, .int 0, .ref (sz + n), .null, .null, .null, .null, .int 0, .int 0, .null, .null, .null, .null, .null, .null, .int 0, .null, .int 0, .int 0, .int 0, .null, .int 0, .int 0, .int 0, .int 0, .null, .null, .null, .int 0, .int 0, .null]) := by rw [ef7]; exact va_ups
  have hfr10 : ∀ q, q < n → q ≠ k → f6 q = f q := fun q h1 h2 => by rw [ef7]; exact (va_upn (by omega)).trans (hfr5 q h1 h2)
  clear h3 h4 hfr5 ef7
  refine lv_aload_n Y.1.1 Y.1.2.1 dX8_init_12 rfl (lv_at hl 0 rfl) ?_
  refine lv_iconst (v := 5) Y.1.1 Y.1.2.1 dX8_init_13 (by decide) ?_
  refine y_newa (atype := .int) (ti := 0) (k := 5) (a0 := (5, .inl (fun _ => 0))) (N' := 5) Y hP hS rfl rfl wd_157 (fun _ => rfl) (by decide) (by decide) (by decide) (by decide) (by decide) dX8_init_14 (fun H hP hS => ?_)
  refine W.eqn (k := 2) (n := 13) rfl rfl ?_
  obtain ⟨f11, ef12⟩ : ∃ z, z = va_up f6 (n + 1) (.inl (cA 0, 5, .inl (fun _ => 0))) := ⟨_, rfl⟩
  have hP : CP D sz (n + 2) f11 H := by rw [ef12]; exact hP
  have h13 : f11 (n) = .inl (cA 0, 8, .inl (fun _ => 0)) := by rw [ef12]; exact (va_upn (by omega)).trans h8
  have h14 : f11 (k) = .inr (8, [.int 0, .int 0, .ref (sz + n), .null, .null, .null, .null, .int 0, .int 0, .null, .null, .null, .null, .null, .null, .int 0, .null, .int 0, .int 0, .int 0, .null, .int 0, .int 0, .int 0, .int 0, .null, .null, .null, .int 0, .int 0, .null]) := by rw [ef12]; exact (va_upn (by omega)).trans h9
  have h15 : f11 (n + 1) = .inl (cA 0, 5, .inl (fun _ => 0)) := by rw [ef12]; exact va_ups
  have hfr16 : ∀ q, q < n → q ≠ k → f11 q = f q := fun q h1 h2 => by rw [ef12]; exact (va_upn (by omega)).trans (hfr10 q h1 h2)
  clear h8 h9 hfr10 ef12
  refine y_putF (C := RX8) (T := TX8) (N := 31) (ci := 8) (ty := .array .int) Y hP hS inX8 tyX8_ok nmX8 rfl (by omega) h14 3 (by decide) rfl rfl (Nat.le_of_ble_eq_true rfl) rfl rfl wd_883 dX8_init_16 (fun H locs hP hS => ?_)
  obtain ⟨f17, ef18⟩ : ∃ z, z = va_up f11 (k) (.inr (8, [.int 0, .int 0, .ref (sz + n), .ref (sz + (n + 1)), .null, .null, .null, .int 0, .int 0, .null, .null, .null, .null, .null, .null, .int 0, .null, .int 0, .int 0, .int 0, .null, .int 0, .int 0, .int 0, .int 0, .null, .null, .null, .int 0, .int 0, .null])) := ⟨_, rfl⟩
  have hP : CP D sz (n + 2) f17 H := by rw [ef18]; exact hP
  have h19 : f17 (n) = .inl (cA 0, 8, .inl (fun _ => 0)) := by rw [ef18]; exact (va_upn (by omega)).trans h13
  have h20 : f17 (n + 1) = .inl (cA 0, 5, .inl (fun _ => 0)) := by rw [ef18]; exact (va_upn (by omega)).trans h15
  have h21 : f17 (k) = .inr (8, [.int 0, .int 0, .ref (sz + n), .ref (sz + (n + 1)), .null, .null, .null, .int 0, .int 0, .null, .null, .null, .null, .null, .null, .int 0, .null, .int 0, .int 0, .int 0, .null, .int 0, .int 0, .int 0, .int 0, .null, .null, .null, .int 0, .int 0, .null]) := by rw [ef18]; exact va_ups
  have hfr22 : ∀ q, q < n → q ≠ k → f17 q = f q := fun q h1 h2 => by rw [ef18]; exact (va_upn (by omega)).trans (hfr16 q h1 h2)
  clear h13 h14 h15 hfr16 ef18
  refine lv_aload_n Y.1.1 Y.1.2.1 dX8_init_19 rfl (lv_at hl 0 rfl) ?_
  refine lv_bipush (v := 31) Y.1.1 Y.1.2.1 dX8_init_20 (by decide) ?_
  refine y_newa (atype := .int) (ti := 0) (k := 31) (a0 := (31, .inl (fun _ => 0))) (N' := 31) Y hP hS rfl rfl wd_157 (fun _ => rfl) (by decide) (by decide) (by decide) (by decide) (by decide) dX8_init_22 (fun H hP hS => ?_)
  refine W.eqn (k := 3) (n := 44) rfl rfl ?_
  obtain ⟨f23, ef24⟩ : ∃ z, z = va_up f17 (n + 2) (.inl (cA 0, 31, .inl (fun _ => 0))) := ⟨_, rfl⟩
  have hP : CP D sz (n + 3) f23 H := by rw [ef24]; exact hP
  have h25 : f23 (n) = .inl (cA 0, 8, .inl (fun _ => 0)) := by rw [ef24]; exact (va_upn (by omega)).trans h19
  have h26 : f23 (n + 1) = .inl (cA 0, 5, .inl (fun _ => 0)) := by rw [ef24]; exact (va_upn (by omega)).trans h20
  have h27 : f23 (k) = .inr (8, [.int 0, .int 0, .ref (sz + n), .ref (sz + (n + 1)), .null, .null, .null, .int 0, .int 0, .null, .null, .null, .null, .null, .null, .int 0, .null, .int 0, .int 0, .int 0, .null, .int 0, .int 0, .int 0, .int 0, .null, .null, .null, .int 0, .int 0, .null]) := by rw [ef24]; exact (va_upn (by omega)).trans h21
  have h28 : f23 (n + 2) = .inl (cA 0, 31, .inl (fun _ => 0)) := by rw [ef24]; exact va_ups
  have hfr29 : ∀ q, q < n → q ≠ k → f23 q = f q := fun q h1 h2 => by rw [ef24]; exact (va_upn (by omega)).trans (hfr22 q h1 h2)
  clear h19 h20 h21 hfr22 ef24
  refine y_putF (C := RX8) (T := TX8) (N := 31) (ci := 8) (ty := .array .int) Y hP hS inX8 tyX8_ok nmX8 rfl (by omega) h27 4 (by decide) rfl rfl (Nat.le_of_ble_eq_true rfl) rfl rfl wd_884 dX8_init_24 (fun H locs hP hS => ?_)
  obtain ⟨f30, ef31⟩ : ∃ z, z = va_up f23 (k) (.inr (8, [.int 0, .int 0, .ref (sz + n), .ref (sz + (n + 1)), .ref (sz + (n + 2)), .null, .null, .int 0, .int 0, .null, .null, .null, .null, .null, .null, .int 0, .null, .int 0, .int 0, .int 0, .null, .int 0, .int 0, .int 0, .int 0, .null, .null, .null, .int 0, .int 0, .null])) := ⟨_, rfl⟩
  have hP : CP D sz (n + 3) f30 H := by rw [ef31]; exact hP
  have h32 : f30 (n) = .inl (cA 0, 8, .inl (fun _ => 0)) := by rw [ef31]; exact (va_upn (by omega)).trans h25
  have h33 : f30 (n + 1) = .inl (cA 0, 5, .inl (fun _ => 0)) := by rw [ef31]; exact (va_upn (by omega)).trans h26
  have h34 : f30 (n + 2) = .inl (cA 0, 31, .inl (fun _ => 0)) := by rw [ef31]; exact (va_upn (by omega)).trans h28
  have h35 : f30 (k) = .inr (8, [.int 0, .int 0, .ref (sz + n), .ref (sz + (n + 1)), .ref (sz + (n + 2)), .null, .null, .int 0, .int 0, .null, .null, .null, .null, .null, .null, .int 0, .null, .int 0, .int 0, .int 0, .null, .int 0, .int 0, .int 0, .int 0, .null, .null, .null, .int 0, .int 0, .null]) := by rw [ef31]; exact va_ups
  have hfr36 : ∀ q, q < n → q ≠ k → f30 q = f q := fun q h1 h2 => by rw [ef31]; exact (va_upn (by omega)).trans (hfr29 q h1 h2)
  clear h25 h26 h27 h28 hfr29 ef31
  refine lv_aload_n Y.1.1 Y.1.2.1 dX8_init_27 rfl (lv_at hl 0 rfl) ?_
  refine lv_bipush (v := 31) Y.1.1 Y.1.2.1 dX8_init_28 (by decide) ?_
  refine y_newa (atype := .int) (ti := 0) (k := 31) (a0 := (31, .inl (fun _ => 0))) (N' := 31) Y hP hS rfl rfl wd_157 (fun _ => rfl) (by decide) (by decide) (by decide) (by decide) (by decide) dX8_init_30 (fun H hP hS => ?_)
  refine W.eqn (k := 4) (n := 75) rfl rfl ?_
  obtain ⟨f37, ef38⟩ : ∃ z, z = va_up f30 (n + 3) (.inl (cA 0, 31, .inl (fun _ => 0))) := ⟨_, rfl⟩
  have hP : CP D sz (n + 4) f37 H := by rw [ef38]; exact hP
  have h39 : f37 (n) = .inl (cA 0, 8, .inl (fun _ => 0)) := by rw [ef38]; exact (va_upn (by omega)).trans h32
  have h40 : f37 (n + 1) = .inl (cA 0, 5, .inl (fun _ => 0)) := by rw [ef38]; exact (va_upn (by omega)).trans h33
  have h41 : f37 (n + 2) = .inl (cA 0, 31, .inl (fun _ => 0)) := by rw [ef38]; exact (va_upn (by omega)).trans h34
  have h42 : f37 (k) = .inr (8, [.int 0, .int 0, .ref (sz + n), .ref (sz + (n + 1)), .ref (sz + (n + 2)), .null, .null, .int 0, .int 0, .null, .null, .null, .null, .null, .null, .int 0, .null, .int 0, .int 0, .int 0, .null, .int 0, .int 0, .int 0, .int 0, .null, .null, .null, .int 0, .int 0, .null]) := by rw [ef38]; exact (va_upn (by omega)).trans h35
  have h43 : f37 (n + 3) = .inl (cA 0, 31, .inl (fun _ => 0)) := by rw [ef38]; exact va_ups
  have hfr44 : ∀ q, q < n → q ≠ k → f37 q = f q := fun q h1 h2 => by rw [ef38]; exact (va_upn (by omega)).trans (hfr36 q h1 h2)
  clear h32 h33 h34 h35 hfr36 ef38
  refine y_putF (C := RX8) (T := TX8) (N := 31) (ci := 8) (ty := .array .int) Y hP hS inX8 tyX8_ok nmX8 rfl (by omega) h42 5 (by decide) rfl rfl (Nat.le_of_ble_eq_true rfl) rfl rfl wd_885 dX8_init_32 (fun H locs hP hS => ?_)
  obtain ⟨f45, ef46⟩ : ∃ z, z = va_up f37 (k) (.inr (8, [.int 0, .int 0, .ref (sz + n), .ref (sz + (n + 1)), .ref (sz + (n + 2)), .ref (sz + (n + 3)), .null, .int 0, .int 0, .null, .null, .null, .null, .null, .null, .int 0, .null, .int 0, .int 0, .int 0, .null, .int 0, .int 0, .int 0, .int 0, .null, .null, .null, .int 0, .int 0, .null])) := ⟨_, rfl⟩
  have hP : CP D sz (n + 4) f45 H := by rw [ef46]; exact hP
  have h47 : f45 (n) = .inl (cA 0, 8, .inl (fun _ => 0)) := by rw [ef46]; exact (va_upn (by omega)).trans h39
  have h48 : f45 (n + 1) = .inl (cA 0, 5, .inl (fun _ => 0)) := by rw [ef46]; exact (va_upn (by omega)).trans h40
  have h49 : f45 (n + 2) = .inl (cA 0, 31, .inl (fun _ => 0)) := by rw [ef46]; exact (va_upn (by omega)).trans h41
  have h50 : f45 (n + 3) = .inl (cA 0, 31, .inl (fun _ => 0)) := by rw [ef46]; exact (va_upn (by omega)).trans h43
  have h51 : f45 (k) = .inr (8, [.int 0, .int 0, .ref (sz + n), .ref (sz + (n + 1)), .ref (sz + (n + 2)), .ref (sz + (n + 3)), .null, .int 0, .int 0, .null, .null, .null, .null, .null, .null, .int 0, .null, .int 0, .int 0, .int 0, .null, .int 0, .int 0, .int 0, .int 0, .null, .null, .null, .int 0, .int 0, .null]) := by rw [ef46]; exact va_ups
  have hfr52 : ∀ q, q < n → q ≠ k → f45 q = f q := fun q h1 h2 => by rw [ef46]; exact (va_upn (by omega)).trans (hfr44 q h1 h2)
  clear h39 h40 h41 h42 h43 hfr44 ef46
  refine lv_aload_n Y.1.1 Y.1.2.1 dX8_init_35 rfl (lv_at hl 0 rfl) ?_
  refine lv_sipush (v := 248) Y.1.1 Y.1.2.1 dX8_init_36 (by decide) ?_
  refine y_newa (atype := .int) (ti := 0) (k := 248) (a0 := (248, .inl (fun _ => 0))) (N' := 248) Y hP hS rfl rfl wd_157 (fun _ => rfl) (by decide) (by decide) (by decide) (by decide) (by decide) dX8_init_39 (fun H hP hS => ?_)
  refine W.eqn (k := 5) (n := 323) rfl rfl ?_
  obtain ⟨f53, ef54⟩ : ∃ z, z = va_up f45 (n + 4) (.inl (cA 0, 248, .inl (fun _ => 0))) := ⟨_, rfl⟩
  have hP : CP D sz (n + 5) f53 H := by rw [ef54]; exact hP
  have h55 : f53 (n) = .inl (cA 0, 8, .inl (fun _ => 0)) := by rw [ef54]; exact (va_upn (by omega)).trans h47
  have h56 : f53 (n + 1) = .inl (cA 0, 5, .inl (fun _ => 0)) := by rw [ef54]; exact (va_upn (by omega)).trans h48
  have h57 : f53 (n + 2) = .inl (cA 0, 31, .inl (fun _ => 0)) := by rw [ef54]; exact (va_upn (by omega)).trans h49
  have h58 : f53 (n + 3) = .inl (cA 0, 31, .inl (fun _ => 0)) := by rw [ef54]; exact (va_upn (by omega)).trans h50
  have h59 : f53 (k) = .inr (8, [.int 0, .int 0, .ref (sz + n), .ref (sz + (n + 1)), .ref (sz + (n + 2)), .ref (sz + (n + 3)), .null, .int 0, .int 0, .null, .null, .null, .null, .null, .null, .int 0, .null, .int 0, .int 0, .int 0, .null, .int 0, .int 0, .int 0, .int 0, .null, .null, .null, .int 0, .int 0, .null]) := by rw [ef54]; exact (va_upn (by omega)).trans h51
  have h60 : f53 (n + 4) = .inl (cA 0, 248, .inl (fun _ => 0)) := by rw [ef54]; exact va_ups
  have hfr61 : ∀ q, q < n → q ≠ k → f53 q = f q := fun q h1 h2 => by rw [ef54]; exact (va_upn (by omega)).trans (hfr52 q h1 h2)
  clear h47 h48 h49 h50 h51 hfr52 ef54
  refine y_putF (C := RX8) (T := TX8) (N := 31) (ci := 8) (ty := .array .int) Y hP hS inX8 tyX8_ok nmX8 rfl (by omega) h59 6 (by decide) rfl rfl (Nat.le_of_ble_eq_true rfl) rfl rfl wd_886 dX8_init_41 (fun H locs hP hS => ?_)
  obtain ⟨f62, ef63⟩ : ∃ z, z = va_up f53 (k) (.inr (8, [.int 0, .int 0, .ref (sz + n), .ref (sz + (n + 1)), .ref (sz + (n + 2)), .ref (sz + (n + 3)), .ref (sz + (n + 4)), .int 0, .int 0, .null, .null, .null, .null, .null, .null, .int 0, .null, .int 0, .int 0, .int 0, .null, .int 0, .int 0, .int 0, .int 0, .null, .null, .null, .int 0, .int 0, .null])) := ⟨_, rfl⟩
  have hP : CP D sz (n + 5) f62 H := by rw [ef63]; exact hP
  have h64 : f62 (n) = .inl (cA 0, 8, .inl (fun _ => 0)) := by rw [ef63]; exact (va_upn (by omega)).trans h55
  have h65 : f62 (n + 1) = .inl (cA 0, 5, .inl (fun _ => 0)) := by rw [ef63]; exact (va_upn (by omega)).trans h56
  have h66 : f62 (n + 2) = .inl (cA 0, 31, .inl (fun _ => 0)) := by rw [ef63]; exact (va_upn (by omega)).trans h57
  have h67 : f62 (n + 3) = .inl (cA 0, 31, .inl (fun _ => 0)) := by rw [ef63]; exact (va_upn (by omega)).trans h58
  have h68 : f62 (n + 4) = .inl (cA 0, 248, .inl (fun _ => 0)) := by rw [ef63]; exact (va_upn (by omega)).trans h60
  have h69 : f62 (k) = .inr (8, [.int 0, .int 0, .ref (sz + n), .ref (sz + (n + 1)), .ref (sz + (n + 2)), .ref (sz + (n + 3)), .ref (sz + (n + 4)), .int 0, .int 0, .null, .null, .null, .null, .null, .null, .int 0, .null, .int 0, .int 0, .int 0, .null, .int 0, .int 0, .int 0, .int 0, .null, .null, .null, .int 0, .int 0, .null]) := by rw [ef63]; exact va_ups
  have hfr70 : ∀ q, q < n → q ≠ k → f62 q = f q := fun q h1 h2 => by rw [ef63]; exact (va_upn (by omega)).trans (hfr61 q h1 h2)
  clear h55 h56 h57 h58 h59 h60 hfr61 ef63
  refine lv_aload_n Y.1.1 Y.1.2.1 dX8_init_44 rfl (lv_at hl 0 rfl) ?_
  refine lv_bipush (v := 16) Y.1.1 Y.1.2.1 dX8_init_45 (by decide) ?_
  refine y_newa (atype := .int) (ti := 0) (k := 16) (a0 := (16, .inl (fun _ => 0))) (N' := 16) Y hP hS rfl rfl wd_157 (fun _ => rfl) (by decide) (by decide) (by decide) (by decide) (by decide) dX8_init_47 (fun H hP hS => ?_)
  refine W.eqn (k := 6) (n := 339) rfl rfl ?_
  obtain ⟨f71, ef72⟩ : ∃ z, z = va_up f62 (n + 5) (.inl (cA 0, 16, .inl (fun _ => 0))) := ⟨_, rfl⟩
  have hP : CP D sz (n + 6) f71 H := by rw [ef72]; exact hP
  have h73 : f71 (n) = .inl (cA 0, 8, .inl (fun _ => 0)) := by rw [ef72]; exact (va_upn (by omega)).trans h64
  have h74 : f71 (n + 1) = .inl (cA 0, 5, .inl (fun _ => 0)) := by rw [ef72]; exact (va_upn (by omega)).trans h65
  have h75 : f71 (n + 2) = .inl (cA 0, 31, .inl (fun _ => 0)) := by rw [ef72]; exact (va_upn (by omega)).trans h66
  have h76 : f71 (n + 3) = .inl (cA 0, 31, .inl (fun _ => 0)) := by rw [ef72]; exact (va_upn (by omega)).trans h67
  have h77 : f71 (n + 4) = .inl (cA 0, 248, .inl (fun _ => 0)) := by rw [ef72]; exact (va_upn (by omega)).trans h68
  have h78 : f71 (k) = .inr (8, [.int 0, .int 0, .ref (sz + n), .ref (sz + (n + 1)), .ref (sz + (n + 2)), .ref (sz + (n + 3)), .ref (sz + (n + 4)), .int 0, .int 0, .null, .null, .null, .null, .null, .null, .int 0, .null, .int 0, .int 0, .int 0, .null, .int 0, .int 0, .int 0, .int 0, .null, .null, .null, .int 0, .int 0, .null]) := by rw [ef72]; exact (va_upn (by omega)).trans h69
  have h79 : f71 (n + 5) = .inl (cA 0, 16, .inl (fun _ => 0)) := by rw [ef72]; exact va_ups
  have hfr80 : ∀ q, q < n → q ≠ k → f71 q = f q := fun q h1 h2 => by rw [ef72]; exact (va_upn (by omega)).trans (hfr70 q h1 h2)
  clear h64 h65 h66 h67 h68 h69 hfr70 ef72
  refine y_putF (C := RX8) (T := TX8) (N := 31) (ci := 8) (ty := .array .int) Y hP hS inX8 tyX8_ok nmX8 rfl (by omega) h78 9 (by decide) rfl rfl (Nat.le_of_ble_eq_true rfl) rfl rfl wd_889 dX8_init_49 (fun H locs hP hS => ?_)
  obtain ⟨f81, ef82⟩ : ∃ z, z = va_up f71 (k) (.inr (8, [.int 0, .int 0, .ref (sz + n), .ref (sz + (n + 1)), .ref (sz + (n + 2)), .ref (sz + (n + 3)), .ref (sz + (n + 4)), .int 0, .int 0, .ref (sz + (n + 5)), .null, .null, .null, .null, .null, .int 0, .null, .int 0, .int 0, .int 0, .null, .int 0, .int 0, .int 0, .int 0, .null, .null, .null, .int 0, .int 0, .null])) := ⟨_, rfl⟩
  have hP : CP D sz (n + 6) f81 H := by rw [ef82]; exact hP
  have h83 : f81 (n) = .inl (cA 0, 8, .inl (fun _ => 0)) := by rw [ef82]; exact (va_upn (by omega)).trans h73
  have h84 : f81 (n + 1) = .inl (cA 0, 5, .inl (fun _ => 0)) := by rw [ef82]; exact (va_upn (by omega)).trans h74
  have h85 : f81 (n + 2) = .inl (cA 0, 31, .inl (fun _ => 0)) := by rw [ef82]; exact (va_upn (by omega)).trans h75
  have h86 : f81 (n + 3) = .inl (cA 0, 31, .inl (fun _ => 0)) := by rw [ef82]; exact (va_upn (by omega)).trans h76
  have h87 : f81 (n + 4) = .inl (cA 0, 248, .inl (fun _ => 0)) := by rw [ef82]; exact (va_upn (by omega)).trans h77
  have h88 : f81 (n + 5) = .inl (cA 0, 16, .inl (fun _ => 0)) := by rw [ef82]; exact (va_upn (by omega)).trans h79
  have h89 : f81 (k) = .inr (8, [.int 0, .int 0, .ref (sz + n), .ref (sz + (n + 1)), .ref (sz + (n + 2)), .ref (sz + (n + 3)), .ref (sz + (n + 4)), .int 0, .int 0, .ref (sz + (n + 5)), .null, .null, .null, .null, .null, .int 0, .null, .int 0, .int 0, .int 0, .null, .int 0, .int 0, .int 0, .int 0, .null, .null, .null, .int 0, .int 0, .null]) := by rw [ef82]; exact va_ups
  have hfr90 : ∀ q, q < n → q ≠ k → f81 q = f q := fun q h1 h2 => by rw [ef82]; exact (va_upn (by omega)).trans (hfr80 q h1 h2)
  clear h73 h74 h75 h76 h77 h78 h79 hfr80 ef82
  refine lv_aload_n Y.1.1 Y.1.2.1 dX8_init_52 rfl (lv_at hl 0 rfl) ?_
  refine lv_bipush (v := 31) Y.1.1 Y.1.2.1 dX8_init_53 (by decide) ?_
  refine y_newa (atype := .int) (ti := 0) (k := 31) (a0 := (31, .inl (fun _ => 0))) (N' := 31) Y hP hS rfl rfl wd_157 (fun _ => rfl) (by decide) (by decide) (by decide) (by decide) (by decide) dX8_init_55 (fun H hP hS => ?_)
  refine W.eqn (k := 7) (n := 370) rfl rfl ?_
  obtain ⟨f91, ef92⟩ : ∃ z, z = va_up f81 (n + 6) (.inl (cA 0, 31, .inl (fun _ => 0))) := ⟨_, rfl⟩
  have hP : CP D sz (n + 7) f91 H := by rw [ef92]; exact hP
  have h93 : f91 (n) = .inl (cA 0, 8, .inl (fun _ => 0)) := by rw [ef92]; exact (va_upn (by omega)).trans h83
  have h94 : f91 (n + 1) = .inl (cA 0, 5, .inl (fun _ => 0)) := by rw [ef92]; exact (va_upn (by omega)).trans h84
  have h95 : f91 (n + 2) = .inl (cA 0, 31, .inl (fun _ => 0)) := by rw [ef92]; exact (va_upn (by omega)).trans h85
  have h96 : f91 (n + 3) = .inl (cA 0, 31, .inl (fun _ => 0)) := by rw [ef92]; exact (va_upn (by omega)).trans h86
  have h97 : f91 (n + 4) = .inl (cA 0, 248, .inl (fun _ => 0)) := by rw [ef92]; exact (va_upn (by omega)).trans h87
  have h98 : f91 (n + 5) = .inl (cA 0, 16, .inl (fun _ => 0)) := by rw [ef92]; exact (va_upn (by omega)).trans h88
  have h99 : f91 (k) = .inr (8, [.int 0, .int 0, .ref (sz + n), .ref (sz + (n + 1)), .ref (sz + (n + 2)), .ref (sz + (n + 3)), .ref (sz + (n + 4)), .int 0, .int 0, .ref (sz + (n + 5)), .null, .null, .null, .null, .null, .int 0, .null, .int 0, .int 0, .int 0, .null, .int 0, .int 0, .int 0, .int 0, .null, .null, .null, .int 0, .int 0, .null]) := by rw [ef92]; exact (va_upn (by omega)).trans h89
  have h100 : f91 (n + 6) = .inl (cA 0, 31, .inl (fun _ => 0)) := by rw [ef92]; exact va_ups
  have hfr101 : ∀ q, q < n → q ≠ k → f91 q = f q := fun q h1 h2 => by rw [ef92]; exact (va_upn (by omega)).trans (hfr90 q h1 h2)
  clear h83 h84 h85 h86 h87 h88 h89 hfr90 ef92
  refine y_putF (C := RX8) (T := TX8) (N := 31) (ci := 8) (ty := .array .int) Y hP hS inX8 tyX8_ok nmX8 rfl (by omega) h99 10 (by decide) rfl rfl (Nat.le_of_ble_eq_true rfl) rfl rfl wd_890 dX8_init_57 (fun H locs hP hS => ?_)
  obtain ⟨f102, ef103⟩ : ∃ z, z = va_up f91 (k) (.inr (8, [.int 0, .int 0, .ref (sz + n), .ref (sz + (n + 1)), .ref (sz + (n + 2)), .ref (sz + (n + 3)), .ref (sz + (n + 4)), .int 0, .int 0, .ref (sz + (n + 5)), .ref (sz + (n + 6)), .null, .null, .null, .null, .int 0, .null, .int 0, .int 0, .int 0, .null, .int 0, .int 0, .int 0, .int 0, .null, .null, .null, .int 0, .int 0, .null])) := ⟨_, rfl⟩
  have hP : CP D sz (n + 7) f102 H := by rw [ef103]; exact hP
  have h104 : f102 (n) = .inl (cA 0, 8, .inl (fun _ => 0)) := by rw [ef103]; exact (va_upn (by omega)).trans h93
  have h105 : f102 (n + 1) = .inl (cA 0, 5, .inl (fun _ => 0)) := by rw [ef103]; exact (va_upn (by omega)).trans h94
  have h106 : f102 (n + 2) = .inl (cA 0, 31, .inl (fun _ => 0)) := by rw [ef103]; exact (va_upn (by omega)).trans h95
  have h107 : f102 (n + 3) = .inl (cA 0, 31, .inl (fun _ => 0)) := by rw [ef103]; exact (va_upn (by omega)).trans h96
  have h108 : f102 (n + 4) = .inl (cA 0, 248, .inl (fun _ => 0)) := by rw [ef103]; exact (va_upn (by omega)).trans h97
  have h109 : f102 (n + 5) = .inl (cA 0, 16, .inl (fun _ => 0)) := by rw [ef103]; exact (va_upn (by omega)).trans h98
  have h110 : f102 (n + 6) = .inl (cA 0, 31, .inl (fun _ => 0)) := by rw [ef103]; exact (va_upn (by omega)).trans h100
  have h111 : f102 (k) = .inr (8, [.int 0, .int 0, .ref (sz + n), .ref (sz + (n + 1)), .ref (sz + (n + 2)), .ref (sz + (n + 3)), .ref (sz + (n + 4)), .int 0, .int 0, .ref (sz + (n + 5)), .ref (sz + (n + 6)), .null, .null, .null, .null, .int 0, .null, .int 0, .int 0, .int 0, .null, .int 0, .int 0, .int 0, .int 0, .null, .null, .null, .int 0, .int 0, .null]) := by rw [ef103]; exact va_ups
  have hfr112 : ∀ q, q < n → q ≠ k → f102 q = f q := fun q h1 h2 => by rw [ef103]; exact (va_upn (by omega)).trans (hfr101 q h1 h2)
  clear h93 h94 h95 h96 h97 h98 h99 h100 hfr101 ef103
  refine lv_aload_n Y.1.1 Y.1.2.1 dX8_init_60 rfl (lv_at hl 0 rfl) ?_
  refine lv_sipush (v := 248) Y.1.1 Y.1.2.1 dX8_init_61 (by decide) ?_
  refine y_newa (atype := .int) (ti := 0) (k := 248) (a0 := (248, .inl (fun _ => 0))) (N' := 248) Y hP hS rfl rfl wd_157 (fun _ => rfl) (by decide) (by decide) (by decide) (by decide) (by decide) dX8_init_64 (fun H hP hS => ?_)
  refine W.eqn (k := 8) (n := 618) rfl rfl ?_
  obtain ⟨f113, ef114⟩ : ∃ z, z = va_up f102 (n + 7) (.inl (cA 0, 248, .inl (fun _ => 0))) := ⟨_, rfl⟩
  have hP : CP D sz (n + 8) f113 H := by rw [ef114]; exact hP
  have h115 : f113 (n) = .inl (cA 0, 8, .inl (fun _ => 0)) := by rw [ef114]; exact (va_upn (by omega)).trans h104
  have h116 : f113 (n + 1) = .inl (cA 0, 5, .inl (fun _ => 0)) := by rw [ef114]; exact (va_upn (by omega)).trans h105
  have h117 : f113 (n + 2) = .inl (cA 0, 31, .inl (fun _ => 0)) := by rw [ef114]; exact (va_upn (by omega)).trans h106
  have h118 : f113 (n + 3) = .inl (cA 0, 31, .inl (fun _ => 0)) := by rw [ef114]; exact (va_upn (by omega)).trans h107
  have h119 : f113 (n + 4) = .inl (cA 0, 248, .inl (fun _ => 0)) := by rw [ef114]; exact (va_upn (by omega)).trans h108
  have h120 : f113 (n + 5) = .inl (cA 0, 16, .inl (fun _ => 0)) := by rw [ef114]; exact (va_upn (by omega)).trans h109
  have h121 : f113 (n + 6) = .inl (cA 0, 31, .inl (fun _ => 0)) := by rw [ef114]; exact (va_upn (by omega)).trans h110
  have h122 : f113 (k) = .inr (8, [.int 0, .int 0, .ref (sz + n), .ref (sz + (n + 1)), .ref (sz + (n + 2)), .ref (sz + (n + 3)), .ref (sz + (n + 4)), .int 0, .int 0, .ref (sz + (n + 5)), .ref (sz + (n + 6)), .null, .null, .null, .null, .int 0, .null, .int 0, .int 0, .int 0, .null, .int 0, .int 0, .int 0, .int 0, .null, .null, .null, .int 0, .int 0, .null]) := by rw [ef114]; exact (va_upn (by omega)).trans h111
  have h123 : f113 (n + 7) = .inl (cA 0, 248, .inl (fun _ => 0)) := by rw [ef114]; exact va_ups
  have hfr124 : ∀ q, q < n → q ≠ k → f113 q = f q := fun q h1 h2 => by rw [ef114]; exact (va_upn (by omega)).trans (hfr112 q h1 h2)
  clear h104 h105 h106 h107 h108 h109 h110 h111 hfr112 ef114
  refine y_putF (C := RX8) (T := TX8) (N := 31) (ci := 8) (ty := .array .int) Y hP hS inX8 tyX8_ok nmX8 rfl (by omega) h122 11 (by decide) rfl rfl (Nat.le_of_ble_eq_true rfl) rfl rfl wd_891 dX8_init_66 (fun H locs hP hS => ?_)
  obtain ⟨f125, ef126⟩ : ∃ z, z = va_up f113 (k) (.inr (8, [.int 0, .int 0, .ref (sz + n), .ref (sz + (n + 1)), .ref (sz + (n + 2)), .ref (sz + (n + 3)), .ref (sz + (n + 4)), .int 0, .int 0, .ref (sz + (n + 5)), .ref (sz + (n + 6)), .ref (sz + (n + 7)), .null, .null, .null, .int 0, .null, .int 0, .int 0, .int 0, .null, .int 0, .int 0, .int 0, .int 0, .null, .null, .null, .int 0, .int 0, .null])) := ⟨_, rfl⟩
  have hP : CP D sz (n + 8) f125 H := by rw [ef126]; exact hP
  have h127 : f125 (n) = .inl (cA 0, 8, .inl (fun _ => 0)) := by rw [ef126]; exact (va_upn (by omega)).trans h115
  have h128 : f125 (n + 1) = .inl (cA 0, 5, .inl (fun _ => 0)) := by rw [ef126]; exact (va_upn (by omega)).trans h116
  have h129 : f125 (n + 2) = .inl (cA 0, 31, .inl (fun _ => 0)) := by rw [ef126]; exact (va_upn (by omega)).trans h117
  have h130 : f125 (n + 3) = .inl (cA 0, 31, .inl (fun _ => 0)) := by rw [ef126]; exact (va_upn (by omega)).trans h118
  have h131 : f125 (n + 4) = .inl (cA 0, 248, .inl (fun _ => 0)) := by rw [ef126]; exact (va_upn (by omega)).trans h119
  have h132 : f125 (n + 5) = .inl (cA 0, 16, .inl (fun _ => 0)) := by rw [ef126]; exact (va_upn (by omega)).trans h120
  have h133 : f125 (n + 6) = .inl (cA 0, 31, .inl (fun _ => 0)) := by rw [ef126]; exact (va_upn (by omega)).trans h121
  have h134 : f125 (n + 7) = .inl (cA 0, 248, .inl (fun _ => 0)) := by rw [ef126]; exact (va_upn (by omega)).trans h123
  have h135 : f125 (k) = .inr (8, [.int 0, .int 0, .ref (sz + n), .ref (sz + (n + 1)), .ref (sz + (n + 2)), .ref (sz + (n + 3)), .ref (sz + (n + 4)), .int 0, .int 0, .ref (sz + (n + 5)), .ref (sz + (n + 6)), .ref (sz + (n + 7)), .null, .null, .null, .int 0, .null, .int 0, .int 0, .int 0, .null, .int 0, .int 0, .int 0, .int 0, .null, .null, .null, .int 0, .int 0, .null]) := by rw [ef126]; exact va_ups
  have hfr136 : ∀ q, q < n → q ≠ k → f125 q = f q := fun q h1 h2 => by rw [ef126]; exact (va_upn (by omega)).trans (hfr124 q h1 h2)
  clear h115 h116 h117 h118 h119 h120 h121 h122 h123 hfr124 ef126
  refine lv_aload_n Y.1.1 Y.1.2.1 dX8_init_69 rfl (lv_at hl 0 rfl) ?_
  refine lv_bipush (v := 96) Y.1.1 Y.1.2.1 dX8_init_70 (by decide) ?_
  refine y_newa (atype := .long) (ti := 2) (k := 96) (a0 := (96, .inr (.inl (fun _ => 0)))) (N' := 96) Y hP hS rfl rfl wd_286 (fun _ => rfl) (by decide) (by decide) (by decide) (by decide) (by decide) dX8_init_72 (fun H hP hS => ?_)
  refine W.eqn (k := 9) (n := 714) rfl rfl ?_
  obtain ⟨f137, ef138⟩ : ∃ z, z = va_up f125 (n + 8) (.inl (cA 2, 96, .inr (.inl (fun _ => 0)))) := ⟨_, rfl⟩
  have hP : CP D sz (n + 9) f137 H := by rw [ef138]; exact hP
  have h139 : f137 (n) = .inl (cA 0, 8, .inl (fun _ => 0)) := by rw [ef138]; exact (va_upn (by omega)).trans h127
  have h140 : f137 (n + 1) = .inl (cA 0, 5, .inl (fun _ => 0)) := by rw [ef138]; exact (va_upn (by omega)).trans h128
  have h141 : f137 (n + 2) = .inl (cA 0, 31, .inl (fun _ => 0)) := by rw [ef138]; exact (va_upn (by omega)).trans h129
  have h142 : f137 (n + 3) = .inl (cA 0, 31, .inl (fun _ => 0)) := by rw [ef138]; exact (va_upn (by omega)).trans h130
  have h143 : f137 (n + 4) = .inl (cA 0, 248, .inl (fun _ => 0)) := by rw [ef138]; exact (va_upn (by omega)).trans h131
  have h144 : f137 (n + 5) = .inl (cA 0, 16, .inl (fun _ => 0)) := by rw [ef138]; exact (va_upn (by omega)).trans h132
  have h145 : f137 (n + 6) = .inl (cA 0, 31, .inl (fun _ => 0)) := by rw [ef138]; exact (va_upn (by omega)).trans h133
  have h146 : f137 (n + 7) = .inl (cA 0, 248, .inl (fun _ => 0)) := by rw [ef138]; exact (va_upn (by omega)).trans h134
  have h147 : f137 (k) = .inr (8, [.int 0, .int 0, .ref (sz + n), .ref (sz + (n + 1)), .ref (sz + (n + 2)), .ref (sz + (n + 3)), .ref (sz + (n + 4)), .int 0, .int 0, .ref (sz + (n + 5)), .ref (sz + (n + 6)), .ref (sz + (n + 7)), .null, .null, .null, .int 0, .null, .int 0, .int 0, .int 0, .null, .int 0, .int 0, .int 0, .int 0, .null, .null, .null, .int 0, .int 0, .null]) := by rw [ef138]; exact (va_upn (by omega)).trans h135
  have h148 : f137 (n + 8) = .inl (cA 2, 96, .inr (.inl (fun _ => 0))) := by rw [ef138]; exact va_ups
  have hfr149 : ∀ q, q < n → q ≠ k → f137 q = f q := fun q h1 h2 => by rw [ef138]; exact (va_upn (by omega)).trans (hfr136 q h1 h2)
  clear h127 h128 h129 h130 h131 h132 h133 h134 h135 hfr136 ef138
  refine y_putF (C := RX8) (T := TX8) (N := 31) (ci := 8) (ty := .array .long) Y hP hS inX8 tyX8_ok nmX8 rfl (by omega) h147 12 (by decide) rfl rfl (Nat.le_of_ble_eq_true rfl) rfl rfl wd_892 dX8_init_74 (fun H locs hP hS => ?_)
  obtain ⟨f150, ef151⟩ : ∃ z, z = va_up f137 (k) (.inr (8, [.int 0, .int 0, .ref (sz + n), .ref (sz + (n + 1)), .ref (sz + (n + 2)), .ref (sz + (n + 3)), .ref (sz + (n + 4)), .int 0, .int 0, .ref (sz + (n + 5)), .ref (sz + (n + 6)), .ref (sz + (n + 7)), .ref (sz + (n + 8)), .null, .null, .int 0, .null, .int 0, .int 0, .int 0, .null, .int 0, .int 0, .int 0, .int 0, .null, .null, .null, .int 0, .int 0, .null])) := ⟨_, rfl⟩
  have hP : CP D sz (n + 9) f150 H := by rw [ef151]; exact hP
  have h152 : f150 (n) = .inl (cA 0, 8, .inl (fun _ => 0)) := by rw [ef151]; exact (va_upn (by omega)).trans h139
  have h153 : f150 (n + 1) = .inl (cA 0, 5, .inl (fun _ => 0)) := by rw [ef151]; exact (va_upn (by omega)).trans h140
  have h154 : f150 (n + 2) = .inl (cA 0, 31, .inl (fun _ => 0)) := by rw [ef151]; exact (va_upn (by omega)).trans h141
  have h155 : f150 (n + 3) = .inl (cA 0, 31, .inl (fun _ => 0)) := by rw [ef151]; exact (va_upn (by omega)).trans h142
  have h156 : f150 (n + 4) = .inl (cA 0, 248, .inl (fun _ => 0)) := by rw [ef151]; exact (va_upn (by omega)).trans h143
  have h157 : f150 (n + 5) = .inl (cA 0, 16, .inl (fun _ => 0)) := by rw [ef151]; exact (va_upn (by omega)).trans h144
  have h158 : f150 (n + 6) = .inl (cA 0, 31, .inl (fun _ => 0)) := by rw [ef151]; exact (va_upn (by omega)).trans h145
  have h159 : f150 (n + 7) = .inl (cA 0, 248, .inl (fun _ => 0)) := by rw [ef151]; exact (va_upn (by omega)).trans h146
  have h160 : f150 (n + 8) = .inl (cA 2, 96, .inr (.inl (fun _ => 0))) := by rw [ef151]; exact (va_upn (by omega)).trans h148
  have h161 : f150 (k) = .inr (8, [.int 0, .int 0, .ref (sz + n), .ref (sz + (n + 1)), .ref (sz + (n + 2)), .ref (sz + (n + 3)), .ref (sz + (n + 4)), .int 0, .int 0, .ref (sz + (n + 5)), .ref (sz + (n + 6)), .ref (sz + (n + 7)), .ref (sz + (n + 8)), .null, .null, .int 0, .null, .int 0, .int 0, .int 0, .null, .int 0, .int 0, .int 0, .int 0, .null, .null, .null, .int 0, .int 0, .null]) := by rw [ef151]; exact va_ups
  have hfr162 : ∀ q, q < n → q ≠ k → f150 q = f q := fun q h1 h2 => by rw [ef151]; exact (va_upn (by omega)).trans (hfr149 q h1 h2)
  clear h139 h140 h141 h142 h143 h144 h145 h146 h147 h148 hfr149 ef151
  refine lv_aload_n Y.1.1 Y.1.2.1 dX8_init_77 rfl (lv_at hl 0 rfl) ?_
  refine lv_iconst (v := 4) Y.1.1 Y.1.2.1 dX8_init_78 (by decide) ?_
  refine y_newa (atype := .int) (ti := 0) (k := 4) (a0 := (4, .inl (fun _ => 0))) (N' := 4) Y hP hS rfl rfl wd_157 (fun _ => rfl) (by decide) (by decide) (by decide) (by decide) (by decide) dX8_init_79 (fun H hP hS => ?_)
  refine W.eqn (k := 10) (n := 718) rfl rfl ?_
  obtain ⟨f163, ef164⟩ : ∃ z, z = va_up f150 (n + 9) (.inl (cA 0, 4, .inl (fun _ => 0))) := ⟨_, rfl⟩
  have hP : CP D sz (n + 10) f163 H := by rw [ef164]; exact hP
  have h165 : f163 (n) = .inl (cA 0, 8, .inl (fun _ => 0)) := by rw [ef164]; exact (va_upn (by omega)).trans h152
  have h166 : f163 (n + 1) = .inl (cA 0, 5, .inl (fun _ => 0)) := by rw [ef164]; exact (va_upn (by omega)).trans h153
  have h167 : f163 (n + 2) = .inl (cA 0, 31, .inl (fun _ => 0)) := by rw [ef164]; exact (va_upn (by omega)).trans h154
  have h168 : f163 (n + 3) = .inl (cA 0, 31, .inl (fun _ => 0)) := by rw [ef164]; exact (va_upn (by omega)).trans h155
  have h169 : f163 (n + 4) = .inl (cA 0, 248, .inl (fun _ => 0)) := by rw [ef164]; exact (va_upn (by omega)).trans h156
  have h170 : f163 (n + 5) = .inl (cA 0, 16, .inl (fun _ => 0)) := by rw [ef164]; exact (va_upn (by omega)).trans h157
  have h171 : f163 (n + 6) = .inl (cA 0, 31, .inl (fun _ => 0)) := by rw [ef164]; exact (va_upn (by omega)).trans h158
  have h172 : f163 (n + 7) = .inl (cA 0, 248, .inl (fun _ => 0)) := by rw [ef164]; exact (va_upn (by omega)).trans h159
  have h173 : f163 (n + 8) = .inl (cA 2, 96, .inr (.inl (fun _ => 0))) := by rw [ef164]; exact (va_upn (by omega)).trans h160
  have h174 : f163 (k) = .inr (8, [.int 0, .int 0, .ref (sz + n), .ref (sz + (n + 1)), .ref (sz + (n + 2)), .ref (sz + (n + 3)), .ref (sz + (n + 4)), .int 0, .int 0, .ref (sz + (n + 5)), .ref (sz + (n + 6)), .ref (sz + (n + 7)), .ref (sz + (n + 8)), .null, .null, .int 0, .null, .int 0, .int 0, .int 0, .null, .int 0, .int 0, .int 0, .int 0, .null, .null, .null, .int 0, .int 0, .null]) := by rw [ef164]; exact (va_upn (by omega)).trans h161
  have h175 : f163 (n + 9) = .inl (cA 0, 4, .inl (fun _ => 0)) := by rw [ef164]; exact va_ups
  have hfr176 : ∀ q, q < n → q ≠ k → f163 q = f q := fun q h1 h2 => by rw [ef164]; exact (va_upn (by omega)).trans (hfr162 q h1 h2)
  clear h152 h153 h154 h155 h156 h157 h158 h159 h160 h161 hfr162 ef164
  refine y_putF (C := RX8) (T := TX8) (N := 31) (ci := 8) (ty := .array .int) Y hP hS inX8 tyX8_ok nmX8 rfl (by omega) h174 13 (by decide) rfl rfl (Nat.le_of_ble_eq_true rfl) rfl rfl wd_893 dX8_init_81 (fun H locs hP hS => ?_)
  obtain ⟨f177, ef178⟩ : ∃ z, z = va_up f163 (k) (.inr (8, [.int 0, .int 0, .ref (sz + n), .ref (sz + (n + 1)), .ref (sz + (n + 2)), .ref (sz + (n + 3)), .ref (sz + (n + 4)), .int 0, .int 0, .ref (sz + (n + 5)), .ref (sz + (n + 6)), .ref (sz + (n + 7)), .ref (sz + (n + 8)), .ref (sz + (n + 9)), .null, .int 0, .null, .int 0, .int 0, .int 0, .null, .int 0, .int 0, .int 0, .int 0, .null, .null, .null, .int 0, .int 0, .null])) := ⟨_, rfl⟩
  have hP : CP D sz (n + 10) f177 H := by rw [ef178]; exact hP
  have h179 : f177 (n) = .inl (cA 0, 8, .inl (fun _ => 0)) := by rw [ef178]; exact (va_upn (by omega)).trans h165
  have h180 : f177 (n + 1) = .inl (cA 0, 5, .inl (fun _ => 0)) := by rw [ef178]; exact (va_upn (by omega)).trans h166
  have h181 : f177 (n + 2) = .inl (cA 0, 31, .inl (fun _ => 0)) := by rw [ef178]; exact (va_upn (by omega)).trans h167
  have h182 : f177 (n + 3) = .inl (cA 0, 31, .inl (fun _ => 0)) := by rw [ef178]; exact (va_upn (by omega)).trans h168
  have h183 : f177 (n + 4) = .inl (cA 0, 248, .inl (fun _ => 0)) := by rw [ef178]; exact (va_upn (by omega)).trans h169
  have h184 : f177 (n + 5) = .inl (cA 0, 16, .inl (fun _ => 0)) := by rw [ef178]; exact (va_upn (by omega)).trans h170
  have h185 : f177 (n + 6) = .inl (cA 0, 31, .inl (fun _ => 0)) := by rw [ef178]; exact (va_upn (by omega)).trans h171
  have h186 : f177 (n + 7) = .inl (cA 0, 248, .inl (fun _ => 0)) := by rw [ef178]; exact (va_upn (by omega)).trans h172
  have h187 : f177 (n + 8) = .inl (cA 2, 96, .inr (.inl (fun _ => 0))) := by rw [ef178]; exact (va_upn (by omega)).trans h173
  have h188 : f177 (n + 9) = .inl (cA 0, 4, .inl (fun _ => 0)) := by rw [ef178]; exact (va_upn (by omega)).trans h175
  have h189 : f177 (k) = .inr (8, [.int 0, .int 0, .ref (sz + n), .ref (sz + (n + 1)), .ref (sz + (n + 2)), .ref (sz + (n + 3)), .ref (sz + (n + 4)), .int 0, .int 0, .ref (sz + (n + 5)), .ref (sz + (n + 6)), .ref (sz + (n + 7)), .ref (sz + (n + 8)), .ref (sz + (n + 9)), .null, .int 0, .null, .int 0, .int 0, .int 0, .null, .int 0, .int 0, .int 0, .int 0, .null, .null, .null, .int 0, .int 0, .null]) := by rw [ef178]; exact va_ups
  have hfr190 : ∀ q, q < n → q ≠ k → f177 q = f q := fun q h1 h2 => by rw [ef178]; exact (va_upn (by omega)).trans (hfr176 q h1 h2)
  clear h165 h166 h167 h168 h169 h170 h171 h172 h173 h174 h175 hfr176 ef178
  refine lv_aload_n Y.1.1 Y.1.2.1 dX8_init_84 rfl (lv_at hl 0 rfl) ?_
  refine lv_iconst (v := 4) Y.1.1 Y.1.2.1 dX8_init_85 (by decide) ?_
  refine y_newa (atype := .int) (ti := 0) (k := 4) (a0 := (4, .inl (fun _ => 0))) (N' := 4) Y hP hS rfl rfl wd_157 (fun _ => rfl) (by decide) (by decide) (by decide) (by decide) (by decide) dX8_init_86 (fun H hP hS => ?_)
  refine W.eqn (k := 11) (n := 722) rfl rfl ?_
  obtain ⟨f191, ef192⟩ : ∃ z, z = va_up f177 (n + 10) (.inl (cA 0, 4, .inl (fun _ => 0))) := ⟨_, rfl⟩
  have hP : CP D sz (n + 11) f191 H := by rw [ef192]; exact hP
  have h193 : f191 (n) = .inl (cA 0, 8, .inl (fun _ => 0)) := by rw [ef192]; exact (va_upn (by omega)).trans h179
  have h194 : f191 (n + 1) = .inl (cA 0, 5, .inl (fun _ => 0)) := by rw [ef192]; exact (va_upn (by omega)).trans h180
  have h195 : f191 (n + 2) = .inl (cA 0, 31, .inl (fun _ => 0)) := by rw [ef192]; exact (va_upn (by omega)).trans h181
  have h196 : f191 (n + 3) = .inl (cA 0, 31, .inl (fun _ => 0)) := by rw [ef192]; exact (va_upn (by omega)).trans h182
  have h197 : f191 (n + 4) = .inl (cA 0, 248, .inl (fun _ => 0)) := by rw [ef192]; exact (va_upn (by omega)).trans h183
  have h198 : f191 (n + 5) = .inl (cA 0, 16, .inl (fun _ => 0)) := by rw [ef192]; exact (va_upn (by omega)).trans h184
  have h199 : f191 (n + 6) = .inl (cA 0, 31, .inl (fun _ => 0)) := by rw [ef192]; exact (va_upn (by omega)).trans h185
  have h200 : f191 (n + 7) = .inl (cA 0, 248, .inl (fun _ => 0)) := by rw [ef192]; exact (va_upn (by omega)).trans h186
  have h201 : f191 (n + 8) = .inl (cA 2, 96, .inr (.inl (fun _ => 0))) := by rw [ef192]; exact (va_upn (by omega)).trans h187
  have h202 : f191 (n + 9) = .inl (cA 0, 4, .inl (fun _ => 0)) := by rw [ef192]; exact (va_upn (by omega)).trans h188
  have h203 : f191 (k) = .inr (8, [.int 0, .int 0, .ref (sz + n), .ref (sz + (n + 1)), .ref (sz + (n + 2)), .ref (sz + (n + 3)), .ref (sz + (n + 4)), .int 0, .int 0, .ref (sz + (n + 5)), .ref (sz + (n + 6)), .ref (sz + (n + 7)), .ref (sz + (n + 8)), .ref (sz + (n + 9)), .null, .int 0, .null, .int 0, .int 0, .int 0, .null, .int 0, .int 0, .int 0, .int 0, .null, .null, .null, .int 0, .int 0, .null]) := by rw [ef192]; exact (va_upn (by omega)).trans h189
  have h204 : f191 (n + 10) = .inl (cA 0, 4, .inl (fun _ => 0)) := by rw [ef192]; exact va_ups
  have hfr205 : ∀ q, q < n → q ≠ k → f191 q = f q := fun q h1 h2 => by rw [ef192]; exact (va_upn (by omega)).trans (hfr190 q h1 h2)
  clear h179 h180 h181 h182 h183 h184 h185 h186 h187 h188 h189 hfr190 ef192
  refine y_putF (C := RX8) (T := TX8) (N := 31) (ci := 8) (ty := .array .int) Y hP hS inX8 tyX8_ok nmX8 rfl (by omega) h203 14 (by decide) rfl rfl (Nat.le_of_ble_eq_true rfl) rfl rfl wd_894 dX8_init_88 (fun H locs hP hS => ?_)
  obtain ⟨f206, ef207⟩ : ∃ z, z = va_up f191 (k) (.inr (8, [.int 0, .int 0, .ref (sz + n), .ref (sz + (n + 1)), .ref (sz + (n + 2)), .ref (sz + (n + 3)), .ref (sz + (n + 4)), .int 0, .int 0, .ref (sz + (n + 5)), .ref (sz + (n + 6)), .ref (sz + (n + 7)), .ref (sz + (n + 8)), .ref (sz + (n + 9)), .ref (sz + (n + 10)), .int 0, .null, .int 0, .int 0, .int 0, .null, .int 0, .int 0, .int 0, .int 0, .null, .null, .null, .int 0, .int 0, .null])) := ⟨_, rfl⟩
  have hP : CP D sz (n + 11) f206 H := by rw [ef207]; exact hP
  have h208 : f206 (n) = .inl (cA 0, 8, .inl (fun _ => 0)) := by rw [ef207]; exact (va_upn (by omega)).trans h193
  have h209 : f206 (n + 1) = .inl (cA 0, 5, .inl (fun _ => 0)) := by rw [ef207]; exact (va_upn (by omega)).trans h194
  have h210 : f206 (n + 2) = .inl (cA 0, 31, .inl (fun _ => 0)) := by rw [ef207]; exact (va_upn (by omega)).trans h195
  have h211 : f206 (n + 3) = .inl (cA 0, 31, .inl (fun _ => 0)) := by rw [ef207]; exact (va_upn (by omega)).trans h196
  have h212 : f206 (n + 4) = .inl (cA 0, 248, .inl (fun _ => 0)) := by rw [ef207]; exact (va_upn (by omega)).trans h197
  have h213 : f206 (n + 5) = .inl (cA 0, 16, .inl (fun _ => 0)) := by rw [ef207]; exact (va_upn (by omega)).trans h198
  have h214 : f206 (n + 6) = .inl (cA 0, 31, .inl (fun _ => 0)) := by rw [ef207]; exact (va_upn (by omega)).trans h199
  have h215 : f206 (n + 7) = .inl (cA 0, 248, .inl (fun _ => 0)) := by rw [ef207]; exact (va_upn (by omega)).trans h200
  have h216 : f206 (n + 8) = .inl (cA 2, 96, .inr (.inl (fun _ => 0))) := by rw [ef207]; exact (va_upn (by omega)).trans h201
  have h217 : f206 (n + 9) = .inl (cA 0, 4, .inl (fun _ => 0)) := by rw [ef207]; exact (va_upn (by omega)).trans h202
  have h218 : f206 (n + 10) = .inl (cA 0, 4, .inl (fun _ => 0)) := by rw [ef207]; exact (va_upn (by omega)).trans h204
  have h219 : f206 (k) = .inr (8, [.int 0, .int 0, .ref (sz + n), .ref (sz + (n + 1)), .ref (sz + (n + 2)), .ref (sz + (n + 3)), .ref (sz + (n + 4)), .int 0, .int 0, .ref (sz + (n + 5)), .ref (sz + (n + 6)), .ref (sz + (n + 7)), .ref (sz + (n + 8)), .ref (sz + (n + 9)), .ref (sz + (n + 10)), .int 0, .null, .int 0, .int 0, .int 0, .null, .int 0, .int 0, .int 0, .int 0, .null, .null, .null, .int 0, .int 0, .null]) := by rw [ef207]; exact va_ups
  have hfr220 : ∀ q, q < n → q ≠ k → f206 q = f q := fun q h1 h2 => by rw [ef207]; exact (va_upn (by omega)).trans (hfr205 q h1 h2)
  clear h193 h194 h195 h196 h197 h198 h199 h200 h201 h202 h203 h204 hfr205 ef207
  refine lv_aload_n Y.1.1 Y.1.2.1 dX8_init_91 rfl (lv_at hl 0 rfl) ?_
  refine lv_bipush (v := 90) Y.1.1 Y.1.2.1 dX8_init_92 (by decide) ?_
  refine y_newa (atype := .int) (ti := 0) (k := 90) (a0 := (90, .inl (fun _ => 0))) (N' := 90) Y hP hS rfl rfl wd_157 (fun _ => rfl) (by decide) (by decide) (by decide) (by decide) (by decide) dX8_init_94 (fun H hP hS => ?_)
  refine W.eqn (k := 12) (n := 812) rfl rfl ?_
  obtain ⟨f221, ef222⟩ : ∃ z, z = va_up f206 (n + 11) (.inl (cA 0, 90, .inl (fun _ => 0))) := ⟨_, rfl⟩
  have hP : CP D sz (n + 12) f221 H := by rw [ef222]; exact hP
  have h223 : f221 (n) = .inl (cA 0, 8, .inl (fun _ => 0)) := by rw [ef222]; exact (va_upn (by omega)).trans h208
  have h224 : f221 (n + 1) = .inl (cA 0, 5, .inl (fun _ => 0)) := by rw [ef222]; exact (va_upn (by omega)).trans h209
  have h225 : f221 (n + 2) = .inl (cA 0, 31, .inl (fun _ => 0)) := by rw [ef222]; exact (va_upn (by omega)).trans h210
  have h226 : f221 (n + 3) = .inl (cA 0, 31, .inl (fun _ => 0)) := by rw [ef222]; exact (va_upn (by omega)).trans h211
  have h227 : f221 (n + 4) = .inl (cA 0, 248, .inl (fun _ => 0)) := by rw [ef222]; exact (va_upn (by omega)).trans h212
  have h228 : f221 (n + 5) = .inl (cA 0, 16, .inl (fun _ => 0)) := by rw [ef222]; exact (va_upn (by omega)).trans h213
  have h229 : f221 (n + 6) = .inl (cA 0, 31, .inl (fun _ => 0)) := by rw [ef222]; exact (va_upn (by omega)).trans h214
  have h230 : f221 (n + 7) = .inl (cA 0, 248, .inl (fun _ => 0)) := by rw [ef222]; exact (va_upn (by omega)).trans h215
  have h231 : f221 (n + 8) = .inl (cA 2, 96, .inr (.inl (fun _ => 0))) := by rw [ef222]; exact (va_upn (by omega)).trans h216
  have h232 : f221 (n + 9) = .inl (cA 0, 4, .inl (fun _ => 0)) := by rw [ef222]; exact (va_upn (by omega)).trans h217
  have h233 : f221 (n + 10) = .inl (cA 0, 4, .inl (fun _ => 0)) := by rw [ef222]; exact (va_upn (by omega)).trans h218
  have h234 : f221 (k) = .inr (8, [.int 0, .int 0, .ref (sz + n), .ref (sz + (n + 1)), .ref (sz + (n + 2)), .ref (sz + (n + 3)), .ref (sz + (n + 4)), .int 0, .int 0, .ref (sz + (n + 5)), .ref (sz + (n + 6)), .ref (sz + (n + 7)), .ref (sz + (n + 8)), .ref (sz + (n + 9)), .ref (sz + (n + 10)), .int 0, .null, .int 0, .int 0, .int 0, .null, .int 0, .int 0, .int 0, .int 0, .null, .null, .null, .int 0, .int 0, .null]) := by rw [ef222]; exact (va_upn (by omega)).trans h219
  have h235 : f221 (n + 11) = .inl (cA 0, 90, .inl (fun _ => 0)) := by rw [ef222]; exact va_ups
  have hfr236 : ∀ q, q < n → q ≠ k → f221 q = f q := fun q h1 h2 => by rw [ef222]; exact (va_upn (by omega)).trans (hfr220 q h1 h2)
  clear h208 h209 h210 h211 h212 h213 h214 h215 h216 h217 h218 h219 hfr220 ef222
  refine y_putF (C := RX8) (T := TX8) (N := 31) (ci := 8) (ty := .array .int) Y hP hS inX8 tyX8_ok nmX8 rfl (by omega) h234 16 (by decide) rfl rfl (Nat.le_of_ble_eq_true rfl) rfl rfl wd_896 dX8_init_96 (fun H locs hP hS => ?_)
  obtain ⟨f237, ef238⟩ : ∃ z, z = va_up f221 (k) (.inr (8, [.int 0, .int 0, .ref (sz + n), .ref (sz + (n + 1)), .ref (sz + (n + 2)), .ref (sz + (n + 3)), .ref (sz + (n + 4)), .int 0, .int 0, .ref (sz + (n + 5)), .ref (sz + (n + 6)), .ref (sz + (n + 7)), .ref (sz + (n + 8)), .ref (sz + (n + 9)), .ref (sz + (n + 10)), .int 0, .ref (sz + (n + 11)), .int 0, .int 0, .int 0, .null, .int 0, .int 0, .int 0, .int 0, .null, .null, .null, .int 0, .int 0, .null])) := ⟨_, rfl⟩
  have hP : CP D sz (n + 12) f237 H := by rw [ef238]; exact hP
  have h239 : f237 (n) = .inl (cA 0, 8, .inl (fun _ => 0)) := by rw [ef238]; exact (va_upn (by omega)).trans h223
  have h240 : f237 (n + 1) = .inl (cA 0, 5, .inl (fun _ => 0)) := by rw [ef238]; exact (va_upn (by omega)).trans h224
  have h241 : f237 (n + 2) = .inl (cA 0, 31, .inl (fun _ => 0)) := by rw [ef238]; exact (va_upn (by omega)).trans h225
  have h242 : f237 (n + 3) = .inl (cA 0, 31, .inl (fun _ => 0)) := by rw [ef238]; exact (va_upn (by omega)).trans h226
  have h243 : f237 (n + 4) = .inl (cA 0, 248, .inl (fun _ => 0)) := by rw [ef238]; exact (va_upn (by omega)).trans h227
  have h244 : f237 (n + 5) = .inl (cA 0, 16, .inl (fun _ => 0)) := by rw [ef238]; exact (va_upn (by omega)).trans h228
  have h245 : f237 (n + 6) = .inl (cA 0, 31, .inl (fun _ => 0)) := by rw [ef238]; exact (va_upn (by omega)).trans h229
  have h246 : f237 (n + 7) = .inl (cA 0, 248, .inl (fun _ => 0)) := by rw [ef238]; exact (va_upn (by omega)).trans h230
  have h247 : f237 (n + 8) = .inl (cA 2, 96, .inr (.inl (fun _ => 0))) := by rw [ef238]; exact (va_upn (by omega)).trans h231
  have h248 : f237 (n + 9) = .inl (cA 0, 4, .inl (fun _ => 0)) := by rw [ef238]; exact (va_upn (by omega)).trans h232
  have h249 : f237 (n + 10) = .inl (cA 0, 4, .inl (fun _ => 0)) := by rw [ef238]; exact (va_upn (by omega)).trans h233
  have h250 : f237 (n + 11) = .inl (cA 0, 90, .inl (fun _ => 0)) := by rw [ef238]; exact (va_upn (by omega)).trans h235
  have h251 : f237 (k) = .inr (8, [.int 0, .int 0, .ref (sz + n), .ref (sz + (n + 1)), .ref (sz + (n + 2)), .ref (sz + (n + 3)), .ref (sz + (n + 4)), .int 0, .int 0, .ref (sz + (n + 5)), .ref (sz + (n + 6)), .ref (sz + (n + 7)), .ref (sz + (n + 8)), .ref (sz + (n + 9)), .ref (sz + (n + 10)), .int 0, .ref (sz + (n + 11)), .int 0, .int 0, .int 0, .null, .int 0, .int 0, .int 0, .int 0, .null, .null, .null, .int 0, .int 0, .null]) := by rw [ef238]; exact va_ups
  have hfr252 : ∀ q, q < n → q ≠ k → f237 q = f q := fun q h1 h2 => by rw [ef238]; exact (va_upn (by omega)).trans (hfr236 q h1 h2)
  clear h223 h224 h225 h226 h227 h228 h229 h230 h231 h232 h233 h234 h235 hfr236 ef238
  refine lv_aload_n Y.1.1 Y.1.2.1 dX8_init_99 rfl (lv_at hl 0 rfl) ?_
  refine lv_bipush (v := (-4)) Y.1.1 Y.1.2.1 dX8_init_100 (by decide) ?_
  refine y_put (C := RX8) (T := TX8) (N := 31) (ci := 8) (ty := .int) Y hP hS inX8 tyX8_ok nmX8 rfl (by omega) h251 17 (by decide) rfl rfl (Nat.le_of_ble_eq_true rfl) rfl rfl wd_897 dX8_init_102 (fun H locs hP hS => ?_)
  obtain ⟨f253, ef254⟩ : ∃ z, z = va_up f237 (k) (.inr (8, [.int 0, .int 0, .ref (sz + n), .ref (sz + (n + 1)), .ref (sz + (n + 2)), .ref (sz + (n + 3)), .ref (sz + (n + 4)), .int 0, .int 0, .ref (sz + (n + 5)), .ref (sz + (n + 6)), .ref (sz + (n + 7)), .ref (sz + (n + 8)), .ref (sz + (n + 9)), .ref (sz + (n + 10)), .int 0, .ref (sz + (n + 11)), .int (-4), .int 0, .int 0, .null, .int 0, .int 0, .int 0, .int 0, .null, .null, .null, .int 0, .int 0, .null])) := ⟨_, rfl⟩
  have hP : CP D sz (n + 12) f253 H := by rw [ef254]; exact hP
  have h255 : f253 (n) = .inl (cA 0, 8, .inl (fun _ => 0)) := by rw [ef254]; exact (va_upn (by omega)).trans h239
  have h256 : f253 (n + 1) = .inl (cA 0, 5, .inl (fun _ => 0)) := by rw [ef254]; exact (va_upn (by omega)).trans h240
  have h257 : f253 (n + 2) = .inl (cA 0, 31, .inl (fun _ => 0)) := by rw [ef254]; exact (va_upn (by omega)).trans h241
  have h258 : f253 (n + 3) = .inl (cA 0, 31, .inl (fun _ => 0)) := by rw [ef254]; exact (va_upn (by omega)).trans h242
  have h259 : f253 (n + 4) = .inl (cA 0, 248, .inl (fun _ => 0)) := by rw [ef254]; exact (va_upn (by omega)).trans h243
  have h260 : f253 (n + 5) = .inl (cA 0, 16, .inl (fun _ => 0)) := by rw [ef254]; exact (va_upn (by omega)).trans h244
  have h261 : f253 (n + 6) = .inl (cA 0, 31, .inl (fun _ => 0)) := by rw [ef254]; exact (va_upn (by omega)).trans h245
  have h262 : f253 (n + 7) = .inl (cA 0, 248, .inl (fun _ => 0)) := by rw [ef254]; exact (va_upn (by omega)).trans h246
  have h263 : f253 (n + 8) = .inl (cA 2, 96, .inr (.inl (fun _ => 0))) := by rw [ef254]; exact (va_upn (by omega)).trans h247
  have h264 : f253 (n + 9) = .inl (cA 0, 4, .inl (fun _ => 0)) := by rw [ef254]; exact (va_upn (by omega)).trans h248
  have h265 : f253 (n + 10) = .inl (cA 0, 4, .inl (fun _ => 0)) := by rw [ef254]; exact (va_upn (by omega)).trans h249
  have h266 : f253 (n + 11) = .inl (cA 0, 90, .inl (fun _ => 0)) := by rw [ef254]; exact (va_upn (by omega)).trans h250
  have h267 : f253 (k) = .inr (8, [.int 0, .int 0, .ref (sz + n), .ref (sz + (n + 1)), .ref (sz + (n + 2)), .ref (sz + (n + 3)), .ref (sz + (n + 4)), .int 0, .int 0, .ref (sz + (n + 5)), .ref (sz + (n + 6)), .ref (sz + (n + 7)), .ref (sz + (n + 8)), .ref (sz + (n + 9)), .ref (sz + (n + 10)), .int 0, .ref (sz + (n + 11)), .int (-4), .int 0, .int 0, .null, .int 0, .int 0, .int 0, .int 0, .null, .null, .null, .int 0, .int 0, .null]) := by rw [ef254]; exact va_ups
  have hfr268 : ∀ q, q < n → q ≠ k → f253 q = f q := fun q h1 h2 => by rw [ef254]; exact (va_upn (by omega)).trans (hfr252 q h1 h2)
  clear h239 h240 h241 h242 h243 h244 h245 h246 h247 h248 h249 h250 h251 hfr252 ef254
  refine lv_aload_n Y.1.1 Y.1.2.1 dX8_init_105 rfl (lv_at hl 0 rfl) ?_
  refine lv_iconst (v := 5) Y.1.1 Y.1.2.1 dX8_init_106 (by decide) ?_
  refine y_newa (atype := .int) (ti := 0) (k := 5) (a0 := (5, .inl (fun _ => 0))) (N' := 5) Y hP hS rfl rfl wd_157 (fun _ => rfl) (by decide) (by decide) (by decide) (by decide) (by decide) dX8_init_107 (fun H hP hS => ?_)
  refine W.eqn (k := 13) (n := 817) rfl rfl ?_
  obtain ⟨f269, ef270⟩ : ∃ z, z = va_up f253 (n + 12) (.inl (cA 0, 5, .inl (fun _ => 0))) := ⟨_, rfl⟩
  have hP : CP D sz (n + 13) f269 H := by rw [ef270]; exact hP
  have h271 : f269 (n) = .inl (cA 0, 8, .inl (fun _ => 0)) := by rw [ef270]; exact (va_upn (by omega)).trans h255
  have h272 : f269 (n + 1) = .inl (cA 0, 5, .inl (fun _ => 0)) := by rw [ef270]; exact (va_upn (by omega)).trans h256
  have h273 : f269 (n + 2) = .inl (cA 0, 31, .inl (fun _ => 0)) := by rw [ef270]; exact (va_upn (by omega)).trans h257
  have h274 : f269 (n + 3) = .inl (cA 0, 31, .inl (fun _ => 0)) := by rw [ef270]; exact (va_upn (by omega)).trans h258
  have h275 : f269 (n + 4) = .inl (cA 0, 248, .inl (fun _ => 0)) := by rw [ef270]; exact (va_upn (by omega)).trans h259
  have h276 : f269 (n + 5) = .inl (cA 0, 16, .inl (fun _ => 0)) := by rw [ef270]; exact (va_upn (by omega)).trans h260
  have h277 : f269 (n + 6) = .inl (cA 0, 31, .inl (fun _ => 0)) := by rw [ef270]; exact (va_upn (by omega)).trans h261
  have h278 : f269 (n + 7) = .inl (cA 0, 248, .inl (fun _ => 0)) := by rw [ef270]; exact (va_upn (by omega)).trans h262
  have h279 : f269 (n + 8) = .inl (cA 2, 96, .inr (.inl (fun _ => 0))) := by rw [ef270]; exact (va_upn (by omega)).trans h263
  have h280 : f269 (n + 9) = .inl (cA 0, 4, .inl (fun _ => 0)) := by rw [ef270]; exact (va_upn (by omega)).trans h264
  have h281 : f269 (n + 10) = .inl (cA 0, 4, .inl (fun _ => 0)) := by rw [ef270]; exact (va_upn (by omega)).trans h265
  have h282 : f269 (n + 11) = .inl (cA 0, 90, .inl (fun _ => 0)) := by rw [ef270]; exact (va_upn (by omega)).trans h266
  have h283 : f269 (k) = .inr (8, [.int 0, .int 0, .ref (sz + n), .ref (sz + (n + 1)), .ref (sz + (n + 2)), .ref (sz + (n + 3)), .ref (sz + (n + 4)), .int 0, .int 0, .ref (sz + (n + 5)), .ref (sz + (n + 6)), .ref (sz + (n + 7)), .ref (sz + (n + 8)), .ref (sz + (n + 9)), .ref (sz + (n + 10)), .int 0, .ref (sz + (n + 11)), .int (-4), .int 0, .int 0, .null, .int 0, .int 0, .int 0, .int 0, .null, .null, .null, .int 0, .int 0, .null]) := by rw [ef270]; exact (va_upn (by omega)).trans h267
  have h284 : f269 (n + 12) = .inl (cA 0, 5, .inl (fun _ => 0)) := by rw [ef270]; exact va_ups
  have hfr285 : ∀ q, q < n → q ≠ k → f269 q = f q := fun q h1 h2 => by rw [ef270]; exact (va_upn (by omega)).trans (hfr268 q h1 h2)
  clear h255 h256 h257 h258 h259 h260 h261 h262 h263 h264 h265 h266 h267 hfr268 ef270
  refine y_putF (C := RX8) (T := TX8) (N := 31) (ci := 8) (ty := .array .int) Y hP hS inX8 tyX8_ok nmX8 rfl (by omega) h283 20 (by decide) rfl rfl (Nat.le_of_ble_eq_true rfl) rfl rfl wd_900 dX8_init_109 (fun H locs hP hS => ?_)
  obtain ⟨f286, ef287⟩ : ∃ z, z = va_up f269 (k) (.inr (8, [.int 0, .int 0, .ref (sz + n), .ref (sz + (n + 1)), .ref (sz + (n + 2)), .ref (sz + (n + 3)), .ref (sz + (n + 4)), .int 0, .int 0, .ref (sz + (n + 5)), .ref (sz + (n + 6)), .ref (sz + (n + 7)), .ref (sz + (n + 8)), .ref (sz + (n + 9)), .ref (sz + (n + 10)), .int 0, .ref (sz + (n + 11)), .int (-4), .int 0, .int 0, .ref (sz + (n + 12)), .int 0, .int 0, .int 0, .int 0, .null, .null, .null, .int 0, .int 0, .null])) := ⟨_, rfl⟩
  have hP : CP D sz (n + 13) f286 H := by rw [ef287]; exact hP
  have h288 : f286 (n) = .inl (cA 0, 8, .inl (fun _ => 0)) := by rw [ef287]; exact (va_upn (by omega)).trans h271
  have h289 : f286 (n + 1) = .inl (cA 0, 5, .inl (fun _ => 0)) := by rw [ef287]; exact (va_upn (by omega)).trans h272
  have h290 : f286 (n + 2) = .inl (cA 0, 31, .inl (fun _ => 0)) := by rw [ef287]; exact (va_upn (by omega)).trans h273
  have h291 : f286 (n + 3) = .inl (cA 0, 31, .inl (fun _ => 0)) := by rw [ef287]; exact (va_upn (by omega)).trans h274
  have h292 : f286 (n + 4) = .inl (cA 0, 248, .inl (fun _ => 0)) := by rw [ef287]; exact (va_upn (by omega)).trans h275
  have h293 : f286 (n + 5) = .inl (cA 0, 16, .inl (fun _ => 0)) := by rw [ef287]; exact (va_upn (by omega)).trans h276
  have h294 : f286 (n + 6) = .inl (cA 0, 31, .inl (fun _ => 0)) := by rw [ef287]; exact (va_upn (by omega)).trans h277
  have h295 : f286 (n + 7) = .inl (cA 0, 248, .inl (fun _ => 0)) := by rw [ef287]; exact (va_upn (by omega)).trans h278
  have h296 : f286 (n + 8) = .inl (cA 2, 96, .inr (.inl (fun _ => 0))) := by rw [ef287]; exact (va_upn (by omega)).trans h279
  have h297 : f286 (n + 9) = .inl (cA 0, 4, .inl (fun _ => 0)) := by rw [ef287]; exact (va_upn (by omega)).trans h280
  have h298 : f286 (n + 10) = .inl (cA 0, 4, .inl (fun _ => 0)) := by rw [ef287]; exact (va_upn (by omega)).trans h281
  have h299 : f286 (n + 11) = .inl (cA 0, 90, .inl (fun _ => 0)) := by rw [ef287]; exact (va_upn (by omega)).trans h282
  have h300 : f286 (n + 12) = .inl (cA 0, 5, .inl (fun _ => 0)) := by rw [ef287]; exact (va_upn (by omega)).trans h284
  have h301 : f286 (k) = .inr (8, [.int 0, .int 0, .ref (sz + n), .ref (sz + (n + 1)), .ref (sz + (n + 2)), .ref (sz + (n + 3)), .ref (sz + (n + 4)), .int 0, .int 0, .ref (sz + (n + 5)), .ref (sz + (n + 6)), .ref (sz + (n + 7)), .ref (sz + (n + 8)), .ref (sz + (n + 9)), .ref (sz + (n + 10)), .int 0, .ref (sz + (n + 11)), .int (-4), .int 0, .int 0, .ref (sz + (n + 12)), .int 0, .int 0, .int 0, .int 0, .null, .null, .null, .int 0, .int 0, .null]) := by rw [ef287]; exact va_ups
  have hfr302 : ∀ q, q < n → q ≠ k → f286 q = f q := fun q h1 h2 => by rw [ef287]; exact (va_upn (by omega)).trans (hfr285 q h1 h2)
  clear h271 h272 h273 h274 h275 h276 h277 h278 h279 h280 h281 h282 h283 h284 hfr285 ef287
  refine lv_aload_n Y.1.1 Y.1.2.1 dX8_init_112 rfl (lv_at hl 0 rfl) ?_
  refine lv_bipush (v := 8) Y.1.1 Y.1.2.1 dX8_init_113 (by decide) ?_
  refine y_newa (atype := .int) (ti := 0) (k := 8) (a0 := (8, .inl (fun _ => 0))) (N' := 8) Y hP hS rfl rfl wd_157 (fun _ => rfl) (by decide) (by decide) (by decide) (by decide) (by decide) dX8_init_115 (fun H hP hS => ?_)
  refine W.eqn (k := 14) (n := 825) rfl rfl ?_
  obtain ⟨f303, ef304⟩ : ∃ z, z = va_up f286 (n + 13) (.inl (cA 0, 8, .inl (fun _ => 0))) := ⟨_, rfl⟩
  have hP : CP D sz (n + 14) f303 H := by rw [ef304]; exact hP
  have h305 : f303 (n) = .inl (cA 0, 8, .inl (fun _ => 0)) := by rw [ef304]; exact (va_upn (by omega)).trans h288
  have h306 : f303 (n + 1) = .inl (cA 0, 5, .inl (fun _ => 0)) := by rw [ef304]; exact (va_upn (by omega)).trans h289
  have h307 : f303 (n + 2) = .inl (cA 0, 31, .inl (fun _ => 0)) := by rw [ef304]; exact (va_upn (by omega)).trans h290
  have h308 : f303 (n + 3) = .inl (cA 0, 31, .inl (fun _ => 0)) := by rw [ef304]; exact (va_upn (by omega)).trans h291
  have h309 : f303 (n + 4) = .inl (cA 0, 248, .inl (fun _ => 0)) := by rw [ef304]; exact (va_upn (by omega)).trans h292
  have h310 : f303 (n + 5) = .inl (cA 0, 16, .inl (fun _ => 0)) := by rw [ef304]; exact (va_upn (by omega)).trans h293
  have h311 : f303 (n + 6) = .inl (cA 0, 31, .inl (fun _ => 0)) := by rw [ef304]; exact (va_upn (by omega)).trans h294
  have h312 : f303 (n + 7) = .inl (cA 0, 248, .inl (fun _ => 0)) := by rw [ef304]; exact (va_upn (by omega)).trans h295
  have h313 : f303 (n + 8) = .inl (cA 2, 96, .inr (.inl (fun _ => 0))) := by rw [ef304]; exact (va_upn (by omega)).trans h296
  have h314 : f303 (n + 9) = .inl (cA 0, 4, .inl (fun _ => 0)) := by rw [ef304]; exact (va_upn (by omega)).trans h297
  have h315 : f303 (n + 10) = .inl (cA 0, 4, .inl (fun _ => 0)) := by rw [ef304]; exact (va_upn (by omega)).trans h298
  have h316 : f303 (n + 11) = .inl (cA 0, 90, .inl (fun _ => 0)) := by rw [ef304]; exact (va_upn (by omega)).trans h299
  have h317 : f303 (n + 12) = .inl (cA 0, 5, .inl (fun _ => 0)) := by rw [ef304]; exact (va_upn (by omega)).trans h300
  have h318 : f303 (k) = .inr (8, [.int 0, .int 0, .ref (sz + n), .ref (sz + (n + 1)), .ref (sz + (n + 2)), .ref (sz + (n + 3)), .ref (sz + (n + 4)), .int 0, .int 0, .ref (sz + (n + 5)), .ref (sz + (n + 6)), .ref (sz + (n + 7)), .ref (sz + (n + 8)), .ref (sz + (n + 9)), .ref (sz + (n + 10)), .int 0, .ref (sz + (n + 11)), .int (-4), .int 0, .int 0, .ref (sz + (n + 12)), .int 0, .int 0, .int 0, .int 0, .null, .null, .null, .int 0, .int 0, .null]) := by rw [ef304]; exact (va_upn (by omega)).trans h301
  have h319 : f303 (n + 13) = .inl (cA 0, 8, .inl (fun _ => 0)) := by rw [ef304]; exact va_ups
  have hfr320 : ∀ q, q < n → q ≠ k → f303 q = f q := fun q h1 h2 => by rw [ef304]; exact (va_upn (by omega)).trans (hfr302 q h1 h2)
  clear h288 h289 h290 h291 h292 h293 h294 h295 h296 h297 h298 h299 h300 h301 hfr302 ef304
  refine y_putF (C := RX8) (T := TX8) (N := 31) (ci := 8) (ty := .array .int) Y hP hS inX8 tyX8_ok nmX8 rfl (by omega) h318 25 (by decide) rfl rfl (Nat.le_of_ble_eq_true rfl) rfl rfl wd_905 dX8_init_117 (fun H locs hP hS => ?_)
  obtain ⟨f321, ef322⟩ : ∃ z, z = va_up f303 (k) (.inr (8, [.int 0, .int 0, .ref (sz + n), .ref (sz + (n + 1)), .ref (sz + (n + 2)), .ref (sz + (n + 3)), .ref (sz + (n + 4)), .int 0, .int 0, .ref (sz + (n + 5)), .ref (sz + (n + 6)), .ref (sz + (n + 7)), .ref (sz + (n + 8)), .ref (sz + (n + 9)), .ref (sz + (n + 10)), .int 0, .ref (sz + (n + 11)), .int (-4), .int 0, .int 0, .ref (sz + (n + 12)), .int 0, .int 0, .int 0, .int 0, .ref (sz + (n + 13)), .null, .null, .int 0, .int 0, .null])) := ⟨_, rfl⟩
  have hP : CP D sz (n + 14) f321 H := by rw [ef322]; exact hP
  have h323 : f321 (n) = .inl (cA 0, 8, .inl (fun _ => 0)) := by rw [ef322]; exact (va_upn (by omega)).trans h305
  have h324 : f321 (n + 1) = .inl (cA 0, 5, .inl (fun _ => 0)) := by rw [ef322]; exact (va_upn (by omega)).trans h306
  have h325 : f321 (n + 2) = .inl (cA 0, 31, .inl (fun _ => 0)) := by rw [ef322]; exact (va_upn (by omega)).trans h307
  have h326 : f321 (n + 3) = .inl (cA 0, 31, .inl (fun _ => 0)) := by rw [ef322]; exact (va_upn (by omega)).trans h308
  have h327 : f321 (n + 4) = .inl (cA 0, 248, .inl (fun _ => 0)) := by rw [ef322]; exact (va_upn (by omega)).trans h309
  have h328 : f321 (n + 5) = .inl (cA 0, 16, .inl (fun _ => 0)) := by rw [ef322]; exact (va_upn (by omega)).trans h310
  have h329 : f321 (n + 6) = .inl (cA 0, 31, .inl (fun _ => 0)) := by rw [ef322]; exact (va_upn (by omega)).trans h311
  have h330 : f321 (n + 7) = .inl (cA 0, 248, .inl (fun _ => 0)) := by rw [ef322]; exact (va_upn (by omega)).trans h312
  have h331 : f321 (n + 8) = .inl (cA 2, 96, .inr (.inl (fun _ => 0))) := by rw [ef322]; exact (va_upn (by omega)).trans h313
  have h332 : f321 (n + 9) = .inl (cA 0, 4, .inl (fun _ => 0)) := by rw [ef322]; exact (va_upn (by omega)).trans h314
  have h333 : f321 (n + 10) = .inl (cA 0, 4, .inl (fun _ => 0)) := by rw [ef322]; exact (va_upn (by omega)).trans h315
  have h334 : f321 (n + 11) = .inl (cA 0, 90, .inl (fun _ => 0)) := by rw [ef322]; exact (va_upn (by omega)).trans h316
  have h335 : f321 (n + 12) = .inl (cA 0, 5, .inl (fun _ => 0)) := by rw [ef322]; exact (va_upn (by omega)).trans h317
  have h336 : f321 (n + 13) = .inl (cA 0, 8, .inl (fun _ => 0)) := by rw [ef322]; exact (va_upn (by omega)).trans h319
  have h337 : f321 (k) = .inr (8, [.int 0, .int 0, .ref (sz + n), .ref (sz + (n + 1)), .ref (sz + (n + 2)), .ref (sz + (n + 3)), .ref (sz + (n + 4)), .int 0, .int 0, .ref (sz + (n + 5)), .ref (sz + (n + 6)), .ref (sz + (n + 7)), .ref (sz + (n + 8)), .ref (sz + (n + 9)), .ref (sz + (n + 10)), .int 0, .ref (sz + (n + 11)), .int (-4), .int 0, .int 0, .ref (sz + (n + 12)), .int 0, .int 0, .int 0, .int 0, .ref (sz + (n + 13)), .null, .null, .int 0, .int 0, .null]) := by rw [ef322]; exact va_ups
  have hfr338 : ∀ q, q < n → q ≠ k → f321 q = f q := fun q h1 h2 => by rw [ef322]; exact (va_upn (by omega)).trans (hfr320 q h1 h2)
  clear h305 h306 h307 h308 h309 h310 h311 h312 h313 h314 h315 h316 h317 h318 h319 hfr320 ef322
  refine lv_aload_n Y.1.1 Y.1.2.1 dX8_init_120 rfl (lv_at hl 0 rfl) ?_
  refine lv_iconst (v := 5) Y.1.1 Y.1.2.1 dX8_init_121 (by decide) ?_
  refine y_newa (atype := .int) (ti := 0) (k := 5) (a0 := (5, .inl (fun _ => 0))) (N' := 5) Y hP hS rfl rfl wd_157 (fun _ => rfl) (by decide) (by decide) (by decide) (by decide) (by decide) dX8_init_122 (fun H hP hS => ?_)
  refine W.eqn (k := 15) (n := 830) rfl rfl ?_
  obtain ⟨f339, ef340⟩ : ∃ z, z = va_up f321 (n + 14) (.inl (cA 0, 5, .inl (fun _ => 0))) := ⟨_, rfl⟩
  have hP : CP D sz (n + 15) f339 H := by rw [ef340]; exact hP
  have h341 : f339 (n) = .inl (cA 0, 8, .inl (fun _ => 0)) := by rw [ef340]; exact (va_upn (by omega)).trans h323
  have h342 : f339 (n + 1) = .inl (cA 0, 5, .inl (fun _ => 0)) := by rw [ef340]; exact (va_upn (by omega)).trans h324
  have h343 : f339 (n + 2) = .inl (cA 0, 31, .inl (fun _ => 0)) := by rw [ef340]; exact (va_upn (by omega)).trans h325
  have h344 : f339 (n + 3) = .inl (cA 0, 31, .inl (fun _ => 0)) := by rw [ef340]; exact (va_upn (by omega)).trans h326
  have h345 : f339 (n + 4) = .inl (cA 0, 248, .inl (fun _ => 0)) := by rw [ef340]; exact (va_upn (by omega)).trans h327
  have h346 : f339 (n + 5) = .inl (cA 0, 16, .inl (fun _ => 0)) := by rw [ef340]; exact (va_upn (by omega)).trans h328
  have h347 : f339 (n + 6) = .inl (cA 0, 31, .inl (fun _ => 0)) := by rw [ef340]; exact (va_upn (by omega)).trans h329
  have h348 : f339 (n + 7) = .inl (cA 0, 248, .inl (fun _ => 0)) := by rw [ef340]; exact (va_upn (by omega)).trans h330
  have h349 : f339 (n + 8) = .inl (cA 2, 96, .inr (.inl (fun _ => 0))) := by rw [ef340]; exact (va_upn (by omega)).trans h331
  have h350 : f339 (n + 9) = .inl (cA 0, 4, .inl (fun _ => 0)) := by rw [ef340]; exact (va_upn (by omega)).trans h332
  have h351 : f339 (n + 10) = .inl (cA 0, 4, .inl (fun _ => 0)) := by rw [ef340]; exact (va_upn (by omega)).trans h333
  have h352 : f339 (n + 11) = .inl (cA 0, 90, .inl (fun _ => 0)) := by rw [ef340]; exact (va_upn (by omega)).trans h334
  have h353 : f339 (n + 12) = .inl (cA 0, 5, .inl (fun _ => 0)) := by rw [ef340]; exact (va_upn (by omega)).trans h335
  have h354 : f339 (n + 13) = .inl (cA 0, 8, .inl (fun _ => 0)) := by rw [ef340]; exact (va_upn (by omega)).trans h336
  have h355 : f339 (k) = .inr (8, [.int 0, .int 0, .ref (sz + n), .ref (sz + (n + 1)), .ref (sz + (n + 2)), .ref (sz + (n + 3)), .ref (sz + (n + 4)), .int 0, .int 0, .ref (sz + (n + 5)), .ref (sz + (n + 6)), .ref (sz + (n + 7)), .ref (sz + (n + 8)), .ref (sz + (n + 9)), .ref (sz + (n + 10)), .int 0, .ref (sz + (n + 11)), .int (-4), .int 0, .int 0, .ref (sz + (n + 12)), .int 0, .int 0, .int 0, .int 0, .ref (sz + (n + 13)), .null, .null, .int 0, .int 0, .null]) := by rw [ef340]; exact (va_upn (by omega)).trans h337
  have h356 : f339 (n + 14) = .inl (cA 0, 5, .inl (fun _ => 0)) := by rw [ef340]; exact va_ups
  have hfr357 : ∀ q, q < n → q ≠ k → f339 q = f q := fun q h1 h2 => by rw [ef340]; exact (va_upn (by omega)).trans (hfr338 q h1 h2)
  clear h323 h324 h325 h326 h327 h328 h329 h330 h331 h332 h333 h334 h335 h336 h337 hfr338 ef340
  refine y_putF (C := RX8) (T := TX8) (N := 31) (ci := 8) (ty := .array .int) Y hP hS inX8 tyX8_ok nmX8 rfl (by omega) h355 26 (by decide) rfl rfl (Nat.le_of_ble_eq_true rfl) rfl rfl wd_906 dX8_init_124 (fun H locs hP hS => ?_)
  obtain ⟨f358, ef359⟩ : ∃ z, z = va_up f339 (k) (.inr (8, [.int 0, .int 0, .ref (sz + n), .ref (sz + (n + 1)), .ref (sz + (n + 2)), .ref (sz + (n + 3)), .ref (sz + (n + 4)), .int 0, .int 0, .ref (sz + (n + 5)), .ref (sz + (n + 6)), .ref (sz + (n + 7)), .ref (sz + (n + 8)), .ref (sz + (n + 9)), .ref (sz + (n + 10)), .int 0, .ref (sz + (n + 11)), .int (-4), .int 0, .int 0, .ref (sz + (n + 12)), .int 0, .int 0, .int 0, .int 0, .ref (sz + (n + 13)), .ref (sz + (n + 14)), .null, .int 0, .int 0, .null])) := ⟨_, rfl⟩
  have hP : CP D sz (n + 15) f358 H := by rw [ef359]; exact hP
  have h360 : f358 (n) = .inl (cA 0, 8, .inl (fun _ => 0)) := by rw [ef359]; exact (va_upn (by omega)).trans h341
  have h361 : f358 (n + 1) = .inl (cA 0, 5, .inl (fun _ => 0)) := by rw [ef359]; exact (va_upn (by omega)).trans h342
  have h362 : f358 (n + 2) = .inl (cA 0, 31, .inl (fun _ => 0)) := by rw [ef359]; exact (va_upn (by omega)).trans h343
  have h363 : f358 (n + 3) = .inl (cA 0, 31, .inl (fun _ => 0)) := by rw [ef359]; exact (va_upn (by omega)).trans h344
  have h364 : f358 (n + 4) = .inl (cA 0, 248, .inl (fun _ => 0)) := by rw [ef359]; exact (va_upn (by omega)).trans h345
  have h365 : f358 (n + 5) = .inl (cA 0, 16, .inl (fun _ => 0)) := by rw [ef359]; exact (va_upn (by omega)).trans h346
  have h366 : f358 (n + 6) = .inl (cA 0, 31, .inl (fun _ => 0)) := by rw [ef359]; exact (va_upn (by omega)).trans h347
  have h367 : f358 (n + 7) = .inl (cA 0, 248, .inl (fun _ => 0)) := by rw [ef359]; exact (va_upn (by omega)).trans h348
  have h368 : f358 (n + 8) = .inl (cA 2, 96, .inr (.inl (fun _ => 0))) := by rw [ef359]; exact (va_upn (by omega)).trans h349
  have h369 : f358 (n + 9) = .inl (cA 0, 4, .inl (fun _ => 0)) := by rw [ef359]; exact (va_upn (by omega)).trans h350
  have h370 : f358 (n + 10) = .inl (cA 0, 4, .inl (fun _ => 0)) := by rw [ef359]; exact (va_upn (by omega)).trans h351
  have h371 : f358 (n + 11) = .inl (cA 0, 90, .inl (fun _ => 0)) := by rw [ef359]; exact (va_upn (by omega)).trans h352
  have h372 : f358 (n + 12) = .inl (cA 0, 5, .inl (fun _ => 0)) := by rw [ef359]; exact (va_upn (by omega)).trans h353
  have h373 : f358 (n + 13) = .inl (cA 0, 8, .inl (fun _ => 0)) := by rw [ef359]; exact (va_upn (by omega)).trans h354
  have h374 : f358 (n + 14) = .inl (cA 0, 5, .inl (fun _ => 0)) := by rw [ef359]; exact (va_upn (by omega)).trans h356
  have h375 : f358 (k) = .inr (8, [.int 0, .int 0, .ref (sz + n), .ref (sz + (n + 1)), .ref (sz + (n + 2)), .ref (sz + (n + 3)), .ref (sz + (n + 4)), .int 0, .int 0, .ref (sz + (n + 5)), .ref (sz + (n + 6)), .ref (sz + (n + 7)), .ref (sz + (n + 8)), .ref (sz + (n + 9)), .ref (sz + (n + 10)), .int 0, .ref (sz + (n + 11)), .int (-4), .int 0, .int 0, .ref (sz + (n + 12)), .int 0, .int 0, .int 0, .int 0, .ref (sz + (n + 13)), .ref (sz + (n + 14)), .null, .int 0, .int 0, .null]) := by rw [ef359]; exact va_ups
  have hfr376 : ∀ q, q < n → q ≠ k → f358 q = f q := fun q h1 h2 => by rw [ef359]; exact (va_upn (by omega)).trans (hfr357 q h1 h2)
  clear h341 h342 h343 h344 h345 h346 h347 h348 h349 h350 h351 h352 h353 h354 h355 h356 hfr357 ef359
  refine lv_aload_n Y.1.1 Y.1.2.1 dX8_init_127 rfl (lv_at hl 0 rfl) ?_
  refine lv_bipush (v := 31) Y.1.1 Y.1.2.1 dX8_init_128 (by decide) ?_
  refine y_newa (atype := .int) (ti := 0) (k := 31) (a0 := (31, .inl (fun _ => 0))) (N' := 31) Y hP hS rfl rfl wd_157 (fun _ => rfl) (by decide) (by decide) (by decide) (by decide) (by decide) dX8_init_130 (fun H hP hS => ?_)
  refine W.eqn (k := 16) (n := 861) rfl rfl ?_
  obtain ⟨f377, ef378⟩ : ∃ z, z = va_up f358 (n + 15) (.inl (cA 0, 31, .inl (fun _ => 0))) := ⟨_, rfl⟩
  have hP : CP D sz (n + 16) f377 H := by rw [ef378]; exact hP
  have h379 : f377 (n) = .inl (cA 0, 8, .inl (fun _ => 0)) := by rw [ef378]; exact (va_upn (by omega)).trans h360
  have h380 : f377 (n + 1) = .inl (cA 0, 5, .inl (fun _ => 0)) := by rw [ef378]; exact (va_upn (by omega)).trans h361
  have h381 : f377 (n + 2) = .inl (cA 0, 31, .inl (fun _ => 0)) := by rw [ef378]; exact (va_upn (by omega)).trans h362
  have h382 : f377 (n + 3) = .inl (cA 0, 31, .inl (fun _ => 0)) := by rw [ef378]; exact (va_upn (by omega)).trans h363
  have h383 : f377 (n + 4) = .inl (cA 0, 248, .inl (fun _ => 0)) := by rw [ef378]; exact (va_upn (by omega)).trans h364
  have h384 : f377 (n + 5) = .inl (cA 0, 16, .inl (fun _ => 0)) := by rw [ef378]; exact (va_upn (by omega)).trans h365
  have h385 : f377 (n + 6) = .inl (cA 0, 31, .inl (fun _ => 0)) := by rw [ef378]; exact (va_upn (by omega)).trans h366
  have h386 : f377 (n + 7) = .inl (cA 0, 248, .inl (fun _ => 0)) := by rw [ef378]; exact (va_upn (by omega)).trans h367
  have h387 : f377 (n + 8) = .inl (cA 2, 96, .inr (.inl (fun _ => 0))) := by rw [ef378]; exact (va_upn (by omega)).trans h368
  have h388 : f377 (n + 9) = .inl (cA 0, 4, .inl (fun _ => 0)) := by rw [ef378]; exact (va_upn (by omega)).trans h369
  have h389 : f377 (n + 10) = .inl (cA 0, 4, .inl (fun _ => 0)) := by rw [ef378]; exact (va_upn (by omega)).trans h370
  have h390 : f377 (n + 11) = .inl (cA 0, 90, .inl (fun _ => 0)) := by rw [ef378]; exact (va_upn (by omega)).trans h371
  have h391 : f377 (n + 12) = .inl (cA 0, 5, .inl (fun _ => 0)) := by rw [ef378]; exact (va_upn (by omega)).trans h372
  have h392 : f377 (n + 13) = .inl (cA 0, 8, .inl (fun _ => 0)) := by rw [ef378]; exact (va_upn (by omega)).trans h373
  have h393 : f377 (n + 14) = .inl (cA 0, 5, .inl (fun _ => 0)) := by rw [ef378]; exact (va_upn (by omega)).trans h374
  have h394 : f377 (k) = .inr (8, [.int 0, .int 0, .ref (sz + n), .ref (sz + (n + 1)), .ref (sz + (n + 2)), .ref (sz + (n + 3)), .ref (sz + (n + 4)), .int 0, .int 0, .ref (sz + (n + 5)), .ref (sz + (n + 6)), .ref (sz + (n + 7)), .ref (sz + (n + 8)), .ref (sz + (n + 9)), .ref (sz + (n + 10)), .int 0, .ref (sz + (n + 11)), .int (-4), .int 0, .int 0, .ref (sz + (n + 12)), .int 0, .int 0, .int 0, .int 0, .ref (sz + (n + 13)), .ref (sz + (n + 14)), .null, .int 0, .int 0, .null]) := by rw [ef378]; exact (va_upn (by omega)).trans h375
  have h395 : f377 (n + 15) = .inl (cA 0, 31, .inl (fun _ => 0)) := by rw [ef378]; exact va_ups
  have hfr396 : ∀ q, q < n → q ≠ k → f377 q = f q := fun q h1 h2 => by rw [ef378]; exact (va_upn (by omega)).trans (hfr376 q h1 h2)
  clear h360 h361 h362 h363 h364 h365 h366 h367 h368 h369 h370 h371 h372 h373 h374 h375 hfr376 ef378
  refine y_putF (C := RX8) (T := TX8) (N := 31) (ci := 8) (ty := .array .int) Y hP hS inX8 tyX8_ok nmX8 rfl (by omega) h394 27 (by decide) rfl rfl (Nat.le_of_ble_eq_true rfl) rfl rfl wd_907 dX8_init_132 (fun H locs hP hS => ?_)
  obtain ⟨f397, ef398⟩ : ∃ z, z = va_up f377 (k) (.inr (8, [.int 0, .int 0, .ref (sz + n), .ref (sz + (n + 1)), .ref (sz + (n + 2)), .ref (sz + (n + 3)), .ref (sz + (n + 4)), .int 0, .int 0, .ref (sz + (n + 5)), .ref (sz + (n + 6)), .ref (sz + (n + 7)), .ref (sz + (n + 8)), .ref (sz + (n + 9)), .ref (sz + (n + 10)), .int 0, .ref (sz + (n + 11)), .int (-4), .int 0, .int 0, .ref (sz + (n + 12)), .int 0, .int 0, .int 0, .int 0, .ref (sz + (n + 13)), .ref (sz + (n + 14)), .ref (sz + (n + 15)), .int 0, .int 0, .null])) := ⟨_, rfl⟩
  have hP : CP D sz (n + 16) f397 H := by rw [ef398]; exact hP
  have h399 : f397 (n) = .inl (cA 0, 8, .inl (fun _ => 0)) := by rw [ef398]; exact (va_upn (by omega)).trans h379
  have h400 : f397 (n + 1) = .inl (cA 0, 5, .inl (fun _ => 0)) := by rw [ef398]; exact (va_upn (by omega)).trans h380
  have h401 : f397 (n + 2) = .inl (cA 0, 31, .inl (fun _ => 0)) := by rw [ef398]; exact (va_upn (by omega)).trans h381
  have h402 : f397 (n + 3) = .inl (cA 0, 31, .inl (fun _ => 0)) := by rw [ef398]; exact (va_upn (by omega)).trans h382
  have h403 : f397 (n + 4) = .inl (cA 0, 248, .inl (fun _ => 0)) := by rw [ef398]; exact (va_upn (by omega)).trans h383
  have h404 : f397 (n + 5) = .inl (cA 0, 16, .inl (fun _ => 0)) := by rw [ef398]; exact (va_upn (by omega)).trans h384
  have h405 : f397 (n + 6) = .inl (cA 0, 31, .inl (fun _ => 0)) := by rw [ef398]; exact (va_upn (by omega)).trans h385
  have h406 : f397 (n + 7) = .inl (cA 0, 248, .inl (fun _ => 0)) := by rw [ef398]; exact (va_upn (by omega)).trans h386
  have h407 : f397 (n + 8) = .inl (cA 2, 96, .inr (.inl (fun _ => 0))) := by rw [ef398]; exact (va_upn (by omega)).trans h387
  have h408 : f397 (n + 9) = .inl (cA 0, 4, .inl (fun _ => 0)) := by rw [ef398]; exact (va_upn (by omega)).trans h388
  have h409 : f397 (n + 10) = .inl (cA 0, 4, .inl (fun _ => 0)) := by rw [ef398]; exact (va_upn (by omega)).trans h389
  have h410 : f397 (n + 11) = .inl (cA 0, 90, .inl (fun _ => 0)) := by rw [ef398]; exact (va_upn (by omega)).trans h390
  have h411 : f397 (n + 12) = .inl (cA 0, 5, .inl (fun _ => 0)) := by rw [ef398]; exact (va_upn (by omega)).trans h391
  have h412 : f397 (n + 13) = .inl (cA 0, 8, .inl (fun _ => 0)) := by rw [ef398]; exact (va_upn (by omega)).trans h392
  have h413 : f397 (n + 14) = .inl (cA 0, 5, .inl (fun _ => 0)) := by rw [ef398]; exact (va_upn (by omega)).trans h393
  have h414 : f397 (n + 15) = .inl (cA 0, 31, .inl (fun _ => 0)) := by rw [ef398]; exact (va_upn (by omega)).trans h395
  have h415 : f397 (k) = .inr (8, [.int 0, .int 0, .ref (sz + n), .ref (sz + (n + 1)), .ref (sz + (n + 2)), .ref (sz + (n + 3)), .ref (sz + (n + 4)), .int 0, .int 0, .ref (sz + (n + 5)), .ref (sz + (n + 6)), .ref (sz + (n + 7)), .ref (sz + (n + 8)), .ref (sz + (n + 9)), .ref (sz + (n + 10)), .int 0, .ref (sz + (n + 11)), .int (-4), .int 0, .int 0, .ref (sz + (n + 12)), .int 0, .int 0, .int 0, .int 0, .ref (sz + (n + 13)), .ref (sz + (n + 14)), .ref (sz + (n + 15)), .int 0, .int 0, .null]) := by rw [ef398]; exact va_ups
  have hfr416 : ∀ q, q < n → q ≠ k → f397 q = f q := fun q h1 h2 => by rw [ef398]; exact (va_upn (by omega)).trans (hfr396 q h1 h2)
  clear h379 h380 h381 h382 h383 h384 h385 h386 h387 h388 h389 h390 h391 h392 h393 h394 h395 hfr396 ef398
  refine lv_aload_n Y.1.1 Y.1.2.1 dX8_init_135 rfl (lv_at hl 0 rfl) ?_
  refine lv_iconst (v := 5) Y.1.1 Y.1.2.1 dX8_init_136 (by decide) ?_
  refine y_newa (atype := .int) (ti := 0) (k := 5) (a0 := (5, .inl (fun _ => 0))) (N' := 5) Y hP hS rfl rfl wd_157 (fun _ => rfl) (by decide) (by decide) (by decide) (by decide) (by decide) dX8_init_137 (fun H hP hS => ?_)
  refine W.eqn (k := 17) (n := 866) rfl rfl ?_
  obtain ⟨f417, ef418⟩ : ∃ z, z = va_up f397 (n + 16) (.inl (cA 0, 5, .inl (fun _ => 0))) := ⟨_, rfl⟩
  have hP : CP D sz (n + 17) f417 H := by rw [ef418]; exact hP
  have h419 : f417 (n) = .inl (cA 0, 8, .inl (fun _ => 0)) := by rw [ef418]; exact (va_upn (by omega)).trans h399
  have h420 : f417 (n + 1) = .inl (cA 0, 5, .inl (fun _ => 0)) := by rw [ef418]; exact (va_upn (by omega)).trans h400
  have h421 : f417 (n + 2) = .inl (cA 0, 31, .inl (fun _ => 0)) := by rw [ef418]; exact (va_upn (by omega)).trans h401
  have h422 : f417 (n + 3) = .inl (cA 0, 31, .inl (fun _ => 0)) := by rw [ef418]; exact (va_upn (by omega)).trans h402
  have h423 : f417 (n + 4) = .inl (cA 0, 248, .inl (fun _ => 0)) := by rw [ef418]; exact (va_upn (by omega)).trans h403
  have h424 : f417 (n + 5) = .inl (cA 0, 16, .inl (fun _ => 0)) := by rw [ef418]; exact (va_upn (by omega)).trans h404
  have h425 : f417 (n + 6) = .inl (cA 0, 31, .inl (fun _ => 0)) := by rw [ef418]; exact (va_upn (by omega)).trans h405
  have h426 : f417 (n + 7) = .inl (cA 0, 248, .inl (fun _ => 0)) := by rw [ef418]; exact (va_upn (by omega)).trans h406
  have h427 : f417 (n + 8) = .inl (cA 2, 96, .inr (.inl (fun _ => 0))) := by rw [ef418]; exact (va_upn (by omega)).trans h407
  have h428 : f417 (n + 9) = .inl (cA 0, 4, .inl (fun _ => 0)) := by rw [ef418]; exact (va_upn (by omega)).trans h408
  have h429 : f417 (n + 10) = .inl (cA 0, 4, .inl (fun _ => 0)) := by rw [ef418]; exact (va_upn (by omega)).trans h409
  have h430 : f417 (n + 11) = .inl (cA 0, 90, .inl (fun _ => 0)) := by rw [ef418]; exact (va_upn (by omega)).trans h410
  have h431 : f417 (n + 12) = .inl (cA 0, 5, .inl (fun _ => 0)) := by rw [ef418]; exact (va_upn (by omega)).trans h411
  have h432 : f417 (n + 13) = .inl (cA 0, 8, .inl (fun _ => 0)) := by rw [ef418]; exact (va_upn (by omega)).trans h412
  have h433 : f417 (n + 14) = .inl (cA 0, 5, .inl (fun _ => 0)) := by rw [ef418]; exact (va_upn (by omega)).trans h413
  have h434 : f417 (n + 15) = .inl (cA 0, 31, .inl (fun _ => 0)) := by rw [ef418]; exact (va_upn (by omega)).trans h414
  have h435 : f417 (k) = .inr (8, [.int 0, .int 0, .ref (sz + n), .ref (sz + (n + 1)), .ref (sz + (n + 2)), .ref (sz + (n + 3)), .ref (sz + (n + 4)), .int 0, .int 0, .ref (sz + (n + 5)), .ref (sz + (n + 6)), .ref (sz + (n + 7)), .ref (sz + (n + 8)), .ref (sz + (n + 9)), .ref (sz + (n + 10)), .int 0, .ref (sz + (n + 11)), .int (-4), .int 0, .int 0, .ref (sz + (n + 12)), .int 0, .int 0, .int 0, .int 0, .ref (sz + (n + 13)), .ref (sz + (n + 14)), .ref (sz + (n + 15)), .int 0, .int 0, .null]) := by rw [ef418]; exact (va_upn (by omega)).trans h415
  have h436 : f417 (n + 16) = .inl (cA 0, 5, .inl (fun _ => 0)) := by rw [ef418]; exact va_ups
  have hfr437 : ∀ q, q < n → q ≠ k → f417 q = f q := fun q h1 h2 => by rw [ef418]; exact (va_upn (by omega)).trans (hfr416 q h1 h2)
  clear h399 h400 h401 h402 h403 h404 h405 h406 h407 h408 h409 h410 h411 h412 h413 h414 h415 hfr416 ef418
  refine y_putF (C := RX8) (T := TX8) (N := 31) (ci := 8) (ty := .array .int) Y hP hS inX8 tyX8_ok nmX8 rfl (by omega) h435 30 (by decide) rfl rfl (Nat.le_of_ble_eq_true rfl) rfl rfl wd_910 dX8_init_139 (fun H locs hP hS => ?_)
  obtain ⟨f438, ef439⟩ : ∃ z, z = va_up f417 (k) (.inr (8, [.int 0, .int 0, .ref (sz + n), .ref (sz + (n + 1)), .ref (sz + (n + 2)), .ref (sz + (n + 3)), .ref (sz + (n + 4)), .int 0, .int 0, .ref (sz + (n + 5)), .ref (sz + (n + 6)), .ref (sz + (n + 7)), .ref (sz + (n + 8)), .ref (sz + (n + 9)), .ref (sz + (n + 10)), .int 0, .ref (sz + (n + 11)), .int (-4), .int 0, .int 0, .ref (sz + (n + 12)), .int 0, .int 0, .int 0, .int 0, .ref (sz + (n + 13)), .ref (sz + (n + 14)), .ref (sz + (n + 15)), .int 0, .int 0, .ref (sz + (n + 16))])) := ⟨_, rfl⟩
  have hP : CP D sz (n + 17) f438 H := by rw [ef439]; exact hP
  have h440 : f438 (n) = .inl (cA 0, 8, .inl (fun _ => 0)) := by rw [ef439]; exact (va_upn (by omega)).trans h419
  have h441 : f438 (n + 1) = .inl (cA 0, 5, .inl (fun _ => 0)) := by rw [ef439]; exact (va_upn (by omega)).trans h420
  have h442 : f438 (n + 2) = .inl (cA 0, 31, .inl (fun _ => 0)) := by rw [ef439]; exact (va_upn (by omega)).trans h421
  have h443 : f438 (n + 3) = .inl (cA 0, 31, .inl (fun _ => 0)) := by rw [ef439]; exact (va_upn (by omega)).trans h422
  have h444 : f438 (n + 4) = .inl (cA 0, 248, .inl (fun _ => 0)) := by rw [ef439]; exact (va_upn (by omega)).trans h423
  have h445 : f438 (n + 5) = .inl (cA 0, 16, .inl (fun _ => 0)) := by rw [ef439]; exact (va_upn (by omega)).trans h424
  have h446 : f438 (n + 6) = .inl (cA 0, 31, .inl (fun _ => 0)) := by rw [ef439]; exact (va_upn (by omega)).trans h425
  have h447 : f438 (n + 7) = .inl (cA 0, 248, .inl (fun _ => 0)) := by rw [ef439]; exact (va_upn (by omega)).trans h426
  have h448 : f438 (n + 8) = .inl (cA 2, 96, .inr (.inl (fun _ => 0))) := by rw [ef439]; exact (va_upn (by omega)).trans h427
  have h449 : f438 (n + 9) = .inl (cA 0, 4, .inl (fun _ => 0)) := by rw [ef439]; exact (va_upn (by omega)).trans h428
  have h450 : f438 (n + 10) = .inl (cA 0, 4, .inl (fun _ => 0)) := by rw [ef439]; exact (va_upn (by omega)).trans h429
  have h451 : f438 (n + 11) = .inl (cA 0, 90, .inl (fun _ => 0)) := by rw [ef439]; exact (va_upn (by omega)).trans h430
  have h452 : f438 (n + 12) = .inl (cA 0, 5, .inl (fun _ => 0)) := by rw [ef439]; exact (va_upn (by omega)).trans h431
  have h453 : f438 (n + 13) = .inl (cA 0, 8, .inl (fun _ => 0)) := by rw [ef439]; exact (va_upn (by omega)).trans h432
  have h454 : f438 (n + 14) = .inl (cA 0, 5, .inl (fun _ => 0)) := by rw [ef439]; exact (va_upn (by omega)).trans h433
  have h455 : f438 (n + 15) = .inl (cA 0, 31, .inl (fun _ => 0)) := by rw [ef439]; exact (va_upn (by omega)).trans h434
  have h456 : f438 (n + 16) = .inl (cA 0, 5, .inl (fun _ => 0)) := by rw [ef439]; exact (va_upn (by omega)).trans h436
  have h457 : f438 (k) = .inr (8, [.int 0, .int 0, .ref (sz + n), .ref (sz + (n + 1)), .ref (sz + (n + 2)), .ref (sz + (n + 3)), .ref (sz + (n + 4)), .int 0, .int 0, .ref (sz + (n + 5)), .ref (sz + (n + 6)), .ref (sz + (n + 7)), .ref (sz + (n + 8)), .ref (sz + (n + 9)), .ref (sz + (n + 10)), .int 0, .ref (sz + (n + 11)), .int (-4), .int 0, .int 0, .ref (sz + (n + 12)), .int 0, .int 0, .int 0, .int 0, .ref (sz + (n + 13)), .ref (sz + (n + 14)), .ref (sz + (n + 15)), .int 0, .int 0, .ref (sz + (n + 16))]) := by rw [ef439]; exact va_ups
  have hfr458 : ∀ q, q < n → q ≠ k → f438 q = f q := fun q h1 h2 => by rw [ef439]; exact (va_upn (by omega)).trans (hfr437 q h1 h2)
  clear h419 h420 h421 h422 h423 h424 h425 h426 h427 h428 h429 h430 h431 h432 h433 h434 h435 h436 hfr437 ef439
  refine lv_iconst (v := 0) Y.1.1 Y.1.2.1 dX8_init_142 (by decide) ?_
  refine lv_istore_n (lv' := [(1, .int 0), (0, .ref (sz + k))]) Y.1.1 Y.1.2.1 dX8_init_143 rfl hl (by decide) rfl (fun ls hl => ?_)
  refine lv_iload_n Y.1.1 Y.1.2.1 dX8_init_144 rfl (lv_at hl 0 rfl) ?_
  refine lv_iconst (v := 4) Y.1.1 Y.1.2.1 dX8_init_145 (by decide) ?_
  refine lv_icmp_ge (tgt := 162) Y.1.1 Y.1.2.1 dX8_init_146 (by decide) (fun c => absurd c (by decide)) (fun _ => ?_)
  refine lv_aload_n Y.1.1 Y.1.2.1 dX8_init_149 rfl (lv_at hl 1 rfl) ?_
  refine y_get (C := RX8) (T := TX8) (N := 31) (ci := 8) Y hP inX8 rfl (by omega) h457 14 (by decide) rfl rfl wd_894 dX8_init_150 ?_
  refine lv_iload_n Y.1.1 Y.1.2.1 dX8_init_153 rfl (lv_at hl 0 rfl) ?_
  refine lv_iconst (v := (-1)) Y.1.1 Y.1.2.1 dX8_init_154 (by decide) ?_
  refine y_iast (N := 4) (g := fun _ => 0) Y hP hS (by omega) h450 (by decide) dX8_init_155 (fun H locs hP hS => ?_)
  obtain ⟨f459, ef460⟩ : ∃ z, z = va_up f438 (n + 10) (.inl (cA 0, 4, .inl (upd (fun _ => 0) 0 (-1)))) := ⟨_, rfl⟩
  have hP : CP D sz (n + 17) f459 H := by rw [ef460]; exact hP
  have h461 : f459 (n) = .inl (cA 0, 8, .inl (fun _ => 0)) := by rw [ef460]; exact (va_upn (by omega)).trans h440
  have h462 : f459 (n + 1) = .inl (cA 0, 5, .inl (fun _ => 0)) := by rw [ef460]; exact (va_upn (by omega)).trans h441
  have h463 : f459 (n + 2) = .inl (cA 0, 31, .inl (fun _ => 0)) := by rw [ef460]; exact (va_upn (by omega)).trans h442
  have h464 : f459 (n + 3) = .inl (cA 0, 31, .inl (fun _ => 0)) := by rw [ef460]; exact (va_upn (by omega)).trans h443
  have h465 : f459 (n + 4) = .inl (cA 0, 248, .inl (fun _ => 0)) := by rw [ef460]; exact (va_upn (by omega)).trans h444
  have h466 : f459 (n + 5) = .inl (cA 0, 16, .inl (fun _ => 0)) := by rw [ef460]; exact (va_upn (by omega)).trans h445
  have h467 : f459 (n + 6) = .inl (cA 0, 31, .inl (fun _ => 0)) := by rw [ef460]; exact (va_upn (by omega)).trans h446
  have h468 : f459 (n + 7) = .inl (cA 0, 248, .inl (fun _ => 0)) := by rw [ef460]; exact (va_upn (by omega)).trans h447
  have h469 : f459 (n + 8) = .inl (cA 2, 96, .inr (.inl (fun _ => 0))) := by rw [ef460]; exact (va_upn (by omega)).trans h448
  have h470 : f459 (n + 9) = .inl (cA 0, 4, .inl (fun _ => 0)) := by rw [ef460]; exact (va_upn (by omega)).trans h449
  have h471 : f459 (n + 11) = .inl (cA 0, 90, .inl (fun _ => 0)) := by rw [ef460]; exact (va_upn (by omega)).trans h451
  have h472 : f459 (n + 12) = .inl (cA 0, 5, .inl (fun _ => 0)) := by rw [ef460]; exact (va_upn (by omega)).trans h452
  have h473 : f459 (n + 13) = .inl (cA 0, 8, .inl (fun _ => 0)) := by rw [ef460]; exact (va_upn (by omega)).trans h453
  have h474 : f459 (n + 14) = .inl (cA 0, 5, .inl (fun _ => 0)) := by rw [ef460]; exact (va_upn (by omega)).trans h454
  have h475 : f459 (n + 15) = .inl (cA 0, 31, .inl (fun _ => 0)) := by rw [ef460]; exact (va_upn (by omega)).trans h455
  have h476 : f459 (n + 16) = .inl (cA 0, 5, .inl (fun _ => 0)) := by rw [ef460]; exact (va_upn (by omega)).trans h456
  have h477 : f459 (k) = .inr (8, [.int 0, .int 0, .ref (sz + n), .ref (sz + (n + 1)), .ref (sz + (n + 2)), .ref (sz + (n + 3)), .ref (sz + (n + 4)), .int 0, .int 0, .ref (sz + (n + 5)), .ref (sz + (n + 6)), .ref (sz + (n + 7)), .ref (sz + (n + 8)), .ref (sz + (n + 9)), .ref (sz + (n + 10)), .int 0, .ref (sz + (n + 11)), .int (-4), .int 0, .int 0, .ref (sz + (n + 12)), .int 0, .int 0, .int 0, .int 0, .ref (sz + (n + 13)), .ref (sz + (n + 14)), .ref (sz + (n + 15)), .int 0, .int 0, .ref (sz + (n + 16))]) := by rw [ef460]; exact (va_upn (by omega)).trans h457
  have h478 : f459 (n + 10) = .inl (cA 0, 4, .inl (upd (fun _ => 0) 0 (-1))) := by rw [ef460]; exact va_ups
  have hfr479 : ∀ q, q < n → q ≠ k → f459 q = f q := fun q h1 h2 => by rw [ef460]; exact (va_upn (by omega)).trans (hfr458 q h1 h2)
  clear h440 h441 h442 h443 h444 h445 h446 h447 h448 h449 h450 h451 h452 h453 h454 h455 h456 h457 hfr458 ef460
  refine lv_iinc (v := 1) (lv' := [(1, .int 1), (0, .ref (sz + k))]) Y.1.1 Y.1.2.1 dX8_init_156 hl (k := 0) rfl (by decide) (by decide) rfl (fun ls hl => ?_)
  refine lv_goto (tgt := 144) Y.1.1 Y.1.2.1 dX8_init_159 (by decide) ?_
  refine lv_iload_n Y.1.1 Y.1.2.1 dX8_init_144 rfl (lv_at hl 0 rfl) ?_
  refine lv_iconst (v := 4) Y.1.1 Y.1.2.1 dX8_init_145 (by decide) ?_
  refine lv_icmp_ge (tgt := 162) Y.1.1 Y.1.2.1 dX8_init_146 (by decide) (fun c => absurd c (by decide)) (fun _ => ?_)
  refine lv_aload_n Y.1.1 Y.1.2.1 dX8_init_149 rfl (lv_at hl 1 rfl) ?_
  refine y_get (C := RX8) (T := TX8) (N := 31) (ci := 8) Y hP inX8 rfl (by omega) h477 14 (by decide) rfl rfl wd_894 dX8_init_150 ?_
  refine lv_iload_n Y.1.1 Y.1.2.1 dX8_init_153 rfl (lv_at hl 0 rfl) ?_
  refine lv_iconst (v := (-1)) Y.1.1 Y.1.2.1 dX8_init_154 (by decide) ?_
  refine y_iast (N := 4) (g := upd (fun _ => 0) 0 (-1)) Y hP hS (by omega) h478 (by decide) dX8_init_155 (fun H locs hP hS => ?_)
  obtain ⟨f480, ef481⟩ : ∃ z, z = va_up f459 (n + 10) (.inl (cA 0, 4, .inl (upd (upd (fun _ => 0) 0 (-1)) 1 (-1)))) := ⟨_, rfl⟩
  have hP : CP D sz (n + 17) f480 H := by rw [ef481]; exact hP
  have h482 : f480 (n) = .inl (cA 0, 8, .inl (fun _ => 0)) := by rw [ef481]; exact (va_upn (by omega)).trans h461
  have h483 : f480 (n + 1) = .inl (cA 0, 5, .inl (fun _ => 0)) := by rw [ef481]; exact (va_upn (by omega)).trans h462
  have h484 : f480 (n + 2) = .inl (cA 0, 31, .inl (fun _ => 0)) := by rw [ef481]; exact (va_upn (by omega)).trans h463
  have h485 : f480 (n + 3) = .inl (cA 0, 31, .inl (fun _ => 0)) := by rw [ef481]; exact (va_upn (by omega)).trans h464
  have h486 : f480 (n + 4) = .inl (cA 0, 248, .inl (fun _ => 0)) := by rw [ef481]; exact (va_upn (by omega)).trans h465
  have h487 : f480 (n + 5) = .inl (cA 0, 16, .inl (fun _ => 0)) := by rw [ef481]; exact (va_upn (by omega)).trans h466
  have h488 : f480 (n + 6) = .inl (cA 0, 31, .inl (fun _ => 0)) := by rw [ef481]; exact (va_upn (by omega)).trans h467
  have h489 : f480 (n + 7) = .inl (cA 0, 248, .inl (fun _ => 0)) := by rw [ef481]; exact (va_upn (by omega)).trans h468
  have h490 : f480 (n + 8) = .inl (cA 2, 96, .inr (.inl (fun _ => 0))) := by rw [ef481]; exact (va_upn (by omega)).trans h469
  have h491 : f480 (n + 9) = .inl (cA 0, 4, .inl (fun _ => 0)) := by rw [ef481]; exact (va_upn (by omega)).trans h470
  have h492 : f480 (n + 11) = .inl (cA 0, 90, .inl (fun _ => 0)) := by rw [ef481]; exact (va_upn (by omega)).trans h471
  have h493 : f480 (n + 12) = .inl (cA 0, 5, .inl (fun _ => 0)) := by rw [ef481]; exact (va_upn (by omega)).trans h472
  have h494 : f480 (n + 13) = .inl (cA 0, 8, .inl (fun _ => 0)) := by rw [ef481]; exact (va_upn (by omega)).trans h473
  have h495 : f480 (n + 14) = .inl (cA 0, 5, .inl (fun _ => 0)) := by rw [ef481]; exact (va_upn (by omega)).trans h474
  have h496 : f480 (n + 15) = .inl (cA 0, 31, .inl (fun _ => 0)) := by rw [ef481]; exact (va_upn (by omega)).trans h475
  have h497 : f480 (n + 16) = .inl (cA 0, 5, .inl (fun _ => 0)) := by rw [ef481]; exact (va_upn (by omega)).trans h476
  have h498 : f480 (k) = .inr (8, [.int 0, .int 0, .ref (sz + n), .ref (sz + (n + 1)), .ref (sz + (n + 2)), .ref (sz + (n + 3)), .ref (sz + (n + 4)), .int 0, .int 0, .ref (sz + (n + 5)), .ref (sz + (n + 6)), .ref (sz + (n + 7)), .ref (sz + (n + 8)), .ref (sz + (n + 9)), .ref (sz + (n + 10)), .int 0, .ref (sz + (n + 11)), .int (-4), .int 0, .int 0, .ref (sz + (n + 12)), .int 0, .int 0, .int 0, .int 0, .ref (sz + (n + 13)), .ref (sz + (n + 14)), .ref (sz + (n + 15)), .int 0, .int 0, .ref (sz + (n + 16))]) := by rw [ef481]; exact (va_upn (by omega)).trans h477
  have h499 : f480 (n + 10) = .inl (cA 0, 4, .inl (upd (upd (fun _ => 0) 0 (-1)) 1 (-1))) := by rw [ef481]; exact va_ups
  have hfr500 : ∀ q, q < n → q ≠ k → f480 q = f q := fun q h1 h2 => by rw [ef481]; exact (va_upn (by omega)).trans (hfr479 q h1 h2)
  clear h461 h462 h463 h464 h465 h466 h467 h468 h469 h470 h471 h472 h473 h474 h475 h476 h477 h478 hfr479 ef481
  refine lv_iinc (v := 2) (lv' := [(1, .int 2), (0, .ref (sz + k))]) Y.1.1 Y.1.2.1 dX8_init_156 hl (k := 0) rfl (by decide) (by decide) rfl (fun ls hl => ?_)
  refine lv_goto (tgt := 144) Y.1.1 Y.1.2.1 dX8_init_159 (by decide) ?_
  refine lv_iload_n Y.1.1 Y.1.2.1 dX8_init_144 rfl (lv_at hl 0 rfl) ?_
  refine lv_iconst (v := 4) Y.1.1 Y.1.2.1 dX8_init_145 (by decide) ?_
  refine lv_icmp_ge (tgt := 162) Y.1.1 Y.1.2.1 dX8_init_146 (by decide) (fun c => absurd c (by decide)) (fun _ => ?_)
  refine lv_aload_n Y.1.1 Y.1.2.1 dX8_init_149 rfl (lv_at hl 1 rfl) ?_
  refine y_get (C := RX8) (T := TX8) (N := 31) (ci := 8) Y hP inX8 rfl (by omega) h498 14 (by decide) rfl rfl wd_894 dX8_init_150 ?_
  refine lv_iload_n Y.1.1 Y.1.2.1 dX8_init_153 rfl (lv_at hl 0 rfl) ?_
  refine lv_iconst (v := (-1)) Y.1.1 Y.1.2.1 dX8_init_154 (by decide) ?_
  refine y_iast (N := 4) (g := upd (upd (fun _ => 0) 0 (-1)) 1 (-1)) Y hP hS (by omega) h499 (by decide) dX8_init_155 (fun H locs hP hS => ?_)
  obtain ⟨f501, ef502⟩ : ∃ z, z = va_up f480 (n + 10) (.inl (cA 0, 4, .inl (upd (upd (upd (fun _ => 0) 0 (-1)) 1 (-1)) 2 (-1)))) := ⟨_, rfl⟩
  have hP : CP D sz (n + 17) f501 H := by rw [ef502]; exact hP
  have h503 : f501 (n) = .inl (cA 0, 8, .inl (fun _ => 0)) := by rw [ef502]; exact (va_upn (by omega)).trans h482
  have h504 : f501 (n + 1) = .inl (cA 0, 5, .inl (fun _ => 0)) := by rw [ef502]; exact (va_upn (by omega)).trans h483
  have h505 : f501 (n + 2) = .inl (cA 0, 31, .inl (fun _ => 0)) := by rw [ef502]; exact (va_upn (by omega)).trans h484
  have h506 : f501 (n + 3) = .inl (cA 0, 31, .inl (fun _ => 0)) := by rw [ef502]; exact (va_upn (by omega)).trans h485
  have h507 : f501 (n + 4) = .inl (cA 0, 248, .inl (fun _ => 0)) := by rw [ef502]; exact (va_upn (by omega)).trans h486
  have h508 : f501 (n + 5) = .inl (cA 0, 16, .inl (fun _ => 0)) := by rw [ef502]; exact (va_upn (by omega)).trans h487
  have h509 : f501 (n + 6) = .inl (cA 0, 31, .inl (fun _ => 0)) := by rw [ef502]; exact (va_upn (by omega)).trans h488
  have h510 : f501 (n + 7) = .inl (cA 0, 248, .inl (fun _ => 0)) := by rw [ef502]; exact (va_upn (by omega)).trans h489
  have h511 : f501 (n + 8) = .inl (cA 2, 96, .inr (.inl (fun _ => 0))) := by rw [ef502]; exact (va_upn (by omega)).trans h490
  have h512 : f501 (n + 9) = .inl (cA 0, 4, .inl (fun _ => 0)) := by rw [ef502]; exact (va_upn (by omega)).trans h491
  have h513 : f501 (n + 11) = .inl (cA 0, 90, .inl (fun _ => 0)) := by rw [ef502]; exact (va_upn (by omega)).trans h492
  have h514 : f501 (n + 12) = .inl (cA 0, 5, .inl (fun _ => 0)) := by rw [ef502]; exact (va_upn (by omega)).trans h493
  have h515 : f501 (n + 13) = .inl (cA 0, 8, .inl (fun _ => 0)) := by rw [ef502]; exact (va_upn (by omega)).trans h494
  have h516 : f501 (n + 14) = .inl (cA 0, 5, .inl (fun _ => 0)) := by rw [ef502]; exact (va_upn (by omega)).trans h495
  have h517 : f501 (n + 15) = .inl (cA 0, 31, .inl (fun _ => 0)) := by rw [ef502]; exact (va_upn (by omega)).trans h496
  have h518 : f501 (n + 16) = .inl (cA 0, 5, .inl (fun _ => 0)) := by rw [ef502]; exact (va_upn (by omega)).trans h497
  have h519 : f501 (k) = .inr (8, [.int 0, .int 0, .ref (sz + n), .ref (sz + (n + 1)), .ref (sz + (n + 2)), .ref (sz + (n + 3)), .ref (sz + (n + 4)), .int 0, .int 0, .ref (sz + (n + 5)), .ref (sz + (n + 6)), .ref (sz + (n + 7)), .ref (sz + (n + 8)), .ref (sz + (n + 9)), .ref (sz + (n + 10)), .int 0, .ref (sz + (n + 11)), .int (-4), .int 0, .int 0, .ref (sz + (n + 12)), .int 0, .int 0, .int 0, .int 0, .ref (sz + (n + 13)), .ref (sz + (n + 14)), .ref (sz + (n + 15)), .int 0, .int 0, .ref (sz + (n + 16))]) := by rw [ef502]; exact (va_upn (by omega)).trans h498
  have h520 : f501 (n + 10) = .inl (cA 0, 4, .inl (upd (upd (upd (fun _ => 0) 0 (-1)) 1 (-1)) 2 (-1))) := by rw [ef502]; exact va_ups
  have hfr521 : ∀ q, q < n → q ≠ k → f501 q = f q := fun q h1 h2 => by rw [ef502]; exact (va_upn (by omega)).trans (hfr500 q h1 h2)
  clear h482 h483 h484 h485 h486 h487 h488 h489 h490 h491 h492 h493 h494 h495 h496 h497 h498 h499 hfr500 ef502
  refine lv_iinc (v := 3) (lv' := [(1, .int 3), (0, .ref (sz + k))]) Y.1.1 Y.1.2.1 dX8_init_156 hl (k := 0) rfl (by decide) (by decide) rfl (fun ls hl => ?_)
  refine lv_goto (tgt := 144) Y.1.1 Y.1.2.1 dX8_init_159 (by decide) ?_
  refine lv_iload_n Y.1.1 Y.1.2.1 dX8_init_144 rfl (lv_at hl 0 rfl) ?_
  refine lv_iconst (v := 4) Y.1.1 Y.1.2.1 dX8_init_145 (by decide) ?_
  refine lv_icmp_ge (tgt := 162) Y.1.1 Y.1.2.1 dX8_init_146 (by decide) (fun c => absurd c (by decide)) (fun _ => ?_)
  refine lv_aload_n Y.1.1 Y.1.2.1 dX8_init_149 rfl (lv_at hl 1 rfl) ?_
  refine y_get (C := RX8) (T := TX8) (N := 31) (ci := 8) Y hP inX8 rfl (by omega) h519 14 (by decide) rfl rfl wd_894 dX8_init_150 ?_
  refine lv_iload_n Y.1.1 Y.1.2.1 dX8_init_153 rfl (lv_at hl 0 rfl) ?_
  refine lv_iconst (v := (-1)) Y.1.1 Y.1.2.1 dX8_init_154 (by decide) ?_
  refine y_iast (N := 4) (g := upd (upd (upd (fun _ => 0) 0 (-1)) 1 (-1)) 2 (-1)) Y hP hS (by omega) h520 (by decide) dX8_init_155 (fun H locs hP hS => ?_)
  obtain ⟨f522, ef523⟩ : ∃ z, z = va_up f501 (n + 10) (.inl (cA 0, 4, .inl (upd (upd (upd (upd (fun _ => 0) 0 (-1)) 1 (-1)) 2 (-1)) 3 (-1)))) := ⟨_, rfl⟩
  have hP : CP D sz (n + 17) f522 H := by rw [ef523]; exact hP
  have h524 : f522 (n) = .inl (cA 0, 8, .inl (fun _ => 0)) := by rw [ef523]; exact (va_upn (by omega)).trans h503
  have h525 : f522 (n + 1) = .inl (cA 0, 5, .inl (fun _ => 0)) := by rw [ef523]; exact (va_upn (by omega)).trans h504
  have h526 : f522 (n + 2) = .inl (cA 0, 31, .inl (fun _ => 0)) := by rw [ef523]; exact (va_upn (by omega)).trans h505
  have h527 : f522 (n + 3) = .inl (cA 0, 31, .inl (fun _ => 0)) := by rw [ef523]; exact (va_upn (by omega)).trans h506
  have h528 : f522 (n + 4) = .inl (cA 0, 248, .inl (fun _ => 0)) := by rw [ef523]; exact (va_upn (by omega)).trans h507
  have h529 : f522 (n + 5) = .inl (cA 0, 16, .inl (fun _ => 0)) := by rw [ef523]; exact (va_upn (by omega)).trans h508
  have h530 : f522 (n + 6) = .inl (cA 0, 31, .inl (fun _ => 0)) := by rw [ef523]; exact (va_upn (by omega)).trans h509
  have h531 : f522 (n + 7) = .inl (cA 0, 248, .inl (fun _ => 0)) := by rw [ef523]; exact (va_upn (by omega)).trans h510
  have h532 : f522 (n + 8) = .inl (cA 2, 96, .inr (.inl (fun _ => 0))) := by rw [ef523]; exact (va_upn (by omega)).trans h511
  have h533 : f522 (n + 9) = .inl (cA 0, 4, .inl (fun _ => 0)) := by rw [ef523]; exact (va_upn (by omega)).trans h512
  have h534 : f522 (n + 11) = .inl (cA 0, 90, .inl (fun _ => 0)) := by rw [ef523]; exact (va_upn (by omega)).trans h513
  have h535 : f522 (n + 12) = .inl (cA 0, 5, .inl (fun _ => 0)) := by rw [ef523]; exact (va_upn (by omega)).trans h514
  have h536 : f522 (n + 13) = .inl (cA 0, 8, .inl (fun _ => 0)) := by rw [ef523]; exact (va_upn (by omega)).trans h515
  have h537 : f522 (n + 14) = .inl (cA 0, 5, .inl (fun _ => 0)) := by rw [ef523]; exact (va_upn (by omega)).trans h516
  have h538 : f522 (n + 15) = .inl (cA 0, 31, .inl (fun _ => 0)) := by rw [ef523]; exact (va_upn (by omega)).trans h517
  have h539 : f522 (n + 16) = .inl (cA 0, 5, .inl (fun _ => 0)) := by rw [ef523]; exact (va_upn (by omega)).trans h518
  have h540 : f522 (k) = .inr (8, [.int 0, .int 0, .ref (sz + n), .ref (sz + (n + 1)), .ref (sz + (n + 2)), .ref (sz + (n + 3)), .ref (sz + (n + 4)), .int 0, .int 0, .ref (sz + (n + 5)), .ref (sz + (n + 6)), .ref (sz + (n + 7)), .ref (sz + (n + 8)), .ref (sz + (n + 9)), .ref (sz + (n + 10)), .int 0, .ref (sz + (n + 11)), .int (-4), .int 0, .int 0, .ref (sz + (n + 12)), .int 0, .int 0, .int 0, .int 0, .ref (sz + (n + 13)), .ref (sz + (n + 14)), .ref (sz + (n + 15)), .int 0, .int 0, .ref (sz + (n + 16))]) := by rw [ef523]; exact (va_upn (by omega)).trans h519
  have h541 : f522 (n + 10) = .inl (cA 0, 4, .inl (upd (upd (upd (upd (fun _ => 0) 0 (-1)) 1 (-1)) 2 (-1)) 3 (-1))) := by rw [ef523]; exact va_ups
  have hfr542 : ∀ q, q < n → q ≠ k → f522 q = f q := fun q h1 h2 => by rw [ef523]; exact (va_upn (by omega)).trans (hfr521 q h1 h2)
  clear h503 h504 h505 h506 h507 h508 h509 h510 h511 h512 h513 h514 h515 h516 h517 h518 h519 h520 hfr521 ef523
  refine lv_iinc (v := 4) (lv' := [(1, .int 4), (0, .ref (sz + k))]) Y.1.1 Y.1.2.1 dX8_init_156 hl (k := 0) rfl (by decide) (by decide) rfl (fun ls hl => ?_)
  refine lv_goto (tgt := 144) Y.1.1 Y.1.2.1 dX8_init_159 (by decide) ?_
  refine lv_iload_n Y.1.1 Y.1.2.1 dX8_init_144 rfl (lv_at hl 0 rfl) ?_
  refine lv_iconst (v := 4) Y.1.1 Y.1.2.1 dX8_init_145 (by decide) ?_
  refine lv_icmp_ge (tgt := 162) Y.1.1 Y.1.2.1 dX8_init_146 (by decide) (fun _ => ?_) (fun c => absurd (by decide) c)
  refine lv_aload_n Y.1.1 Y.1.2.1 dX8_init_162 rfl (lv_at hl 1 rfl) ?_
  refine y_get (C := RX8) (T := TX8) (N := 31) (ci := 8) Y hP inX8 rfl (by omega) h540 4 (by decide) rfl rfl wd_884 dX8_init_163 ?_
  refine lv_bipush (v := 30) Y.1.1 Y.1.2.1 dX8_init_166 (by decide) ?_
  refine lv_iconst (v := 1) Y.1.1 Y.1.2.1 dX8_init_168 (by decide) ?_
  refine y_iast (N := 31) (g := fun _ => 0) Y hP hS (by omega) h526 (by decide) dX8_init_169 (fun H locs hP hS => ?_)
  obtain ⟨f543, ef544⟩ : ∃ z, z = va_up f522 (n + 2) (.inl (cA 0, 31, .inl (upd (fun _ => 0) 30 1))) := ⟨_, rfl⟩
  have hP : CP D sz (n + 17) f543 H := by rw [ef544]; exact hP
  have h545 : f543 (n) = .inl (cA 0, 8, .inl (fun _ => 0)) := by rw [ef544]; exact (va_upn (by omega)).trans h524
  have h546 : f543 (n + 1) = .inl (cA 0, 5, .inl (fun _ => 0)) := by rw [ef544]; exact (va_upn (by omega)).trans h525
  have h547 : f543 (n + 3) = .inl (cA 0, 31, .inl (fun _ => 0)) := by rw [ef544]; exact (va_upn (by omega)).trans h527
  have h548 : f543 (n + 4) = .inl (cA 0, 248, .inl (fun _ => 0)) := by rw [ef544]; exact (va_upn (by omega)).trans h528
  have h549 : f543 (n + 5) = .inl (cA 0, 16, .inl (fun _ => 0)) := by rw [ef544]; exact (va_upn (by omega)).trans h529
  have h550 : f543 (n + 6) = .inl (cA 0, 31, .inl (fun _ => 0)) := by rw [ef544]; exact (va_upn (by omega)).trans h530
  have h551 : f543 (n + 7) = .inl (cA 0, 248, .inl (fun _ => 0)) := by rw [ef544]; exact (va_upn (by omega)).trans h531
  have h552 : f543 (n + 8) = .inl (cA 2, 96, .inr (.inl (fun _ => 0))) := by rw [ef544]; exact (va_upn (by omega)).trans h532
  have h553 : f543 (n + 9) = .inl (cA 0, 4, .inl (fun _ => 0)) := by rw [ef544]; exact (va_upn (by omega)).trans h533
  have h554 : f543 (n + 11) = .inl (cA 0, 90, .inl (fun _ => 0)) := by rw [ef544]; exact (va_upn (by omega)).trans h534
  have h555 : f543 (n + 12) = .inl (cA 0, 5, .inl (fun _ => 0)) := by rw [ef544]; exact (va_upn (by omega)).trans h535
  have h556 : f543 (n + 13) = .inl (cA 0, 8, .inl (fun _ => 0)) := by rw [ef544]; exact (va_upn (by omega)).trans h536
  have h557 : f543 (n + 14) = .inl (cA 0, 5, .inl (fun _ => 0)) := by rw [ef544]; exact (va_upn (by omega)).trans h537
  have h558 : f543 (n + 15) = .inl (cA 0, 31, .inl (fun _ => 0)) := by rw [ef544]; exact (va_upn (by omega)).trans h538
  have h559 : f543 (n + 16) = .inl (cA 0, 5, .inl (fun _ => 0)) := by rw [ef544]; exact (va_upn (by omega)).trans h539
  have h560 : f543 (k) = .inr (8, [.int 0, .int 0, .ref (sz + n), .ref (sz + (n + 1)), .ref (sz + (n + 2)), .ref (sz + (n + 3)), .ref (sz + (n + 4)), .int 0, .int 0, .ref (sz + (n + 5)), .ref (sz + (n + 6)), .ref (sz + (n + 7)), .ref (sz + (n + 8)), .ref (sz + (n + 9)), .ref (sz + (n + 10)), .int 0, .ref (sz + (n + 11)), .int (-4), .int 0, .int 0, .ref (sz + (n + 12)), .int 0, .int 0, .int 0, .int 0, .ref (sz + (n + 13)), .ref (sz + (n + 14)), .ref (sz + (n + 15)), .int 0, .int 0, .ref (sz + (n + 16))]) := by rw [ef544]; exact (va_upn (by omega)).trans h540
  have h561 : f543 (n + 10) = .inl (cA 0, 4, .inl (upd (upd (upd (upd (fun _ => 0) 0 (-1)) 1 (-1)) 2 (-1)) 3 (-1))) := by rw [ef544]; exact (va_upn (by omega)).trans h541
  have h562 : f543 (n + 2) = .inl (cA 0, 31, .inl (upd (fun _ => 0) 30 1)) := by rw [ef544]; exact va_ups
  have hfr563 : ∀ q, q < n → q ≠ k → f543 q = f q := fun q h1 h2 => by rw [ef544]; exact (va_upn (by omega)).trans (hfr542 q h1 h2)
  clear h524 h525 h526 h527 h528 h529 h530 h531 h532 h533 h534 h535 h536 h537 h538 h539 h540 h541 hfr542 ef544
  refine y_vret (mc0 := 17) (ms0 := 866) (cells := 17) (slots := 866) (P := fun n' f' => n' = n + 17 ∧ (f' k = .inr (8, [.int 0, .int 0, .ref (sz + n), .ref (sz + (n + 1)), .ref (sz + (n + 2)), .ref (sz + (n + 3)), .ref (sz + (n + 4)), .int 0, .int 0, .ref (sz + (n + 5)), .ref (sz + (n + 6)), .ref (sz + (n + 7)), .ref (sz + (n + 8)), .ref (sz + (n + 9)), .ref (sz + (n + 10)), .int 0, .ref (sz + (n + 11)), .int (-4), .int 0, .int 0, .ref (sz + (n + 12)), .int 0, .int 0, .int 0, .int 0, .ref (sz + (n + 13)), .ref (sz + (n + 14)), .ref (sz + (n + 15)), .int 0, .int 0, .ref (sz + (n + 16))]) ∧ f' (n) = .inl (cA 0, 8, .inl (fun _ => 0)) ∧ f' (n + 1) = .inl (cA 0, 5, .inl (fun _ => 0)) ∧ f' (n + 2) = .inl (cA 0, 31, .inl (upd (fun _ => 0) 30 1)) ∧ f' (n + 3) = .inl (cA 0, 31, .inl (fun _ => 0)) ∧ f' (n + 4) = .inl (cA 0, 248, .inl (fun _ => 0)) ∧ f' (n + 5) = .inl (cA 0, 16, .inl (fun _ => 0)) ∧ f' (n + 6) = .inl (cA 0, 31, .inl (fun _ => 0)) ∧ f' (n + 7) = .inl (cA 0, 248, .inl (fun _ => 0)) ∧ f' (n + 8) = .inl (cA 2, 96, .inr (.inl (fun _ => 0))) ∧ f' (n + 9) = .inl (cA 0, 4, .inl (fun _ => 0)) ∧ f' (n + 10) = .inl (cA 0, 4, .inl (upd (upd (upd (upd (fun _ => 0) 0 (-1)) 1 (-1)) 2 (-1)) 3 (-1))) ∧ f' (n + 11) = .inl (cA 0, 90, .inl (fun _ => 0)) ∧ f' (n + 12) = .inl (cA 0, 5, .inl (fun _ => 0)) ∧ f' (n + 13) = .inl (cA 0, 8, .inl (fun _ => 0)) ∧ f' (n + 14) = .inl (cA 0, 5, .inl (fun _ => 0)) ∧ f' (n + 15) = .inl (cA 0, 31, .inl (fun _ => 0)) ∧ f' (n + 16) = .inl (cA 0, 5, .inl (fun _ => 0))) ∧ ∀ q, q < n → q ≠ k → f' q = f q) Y hP hS ⟨rfl, ?_, hfr563⟩ (by decide) (by decide) dX8_init_170
  exact ⟨h560, h545, h546, h562, h547, h548, h549, h550, h551, h552, h553, h561, h554, h555, h556, h557, h558, h559⟩
