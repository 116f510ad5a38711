/-- FordQuestions$Reader.letterHere()C -/
def f_X2_letterHere (t : Mm) : Option (Int32 × Mm) := if (t.1 3 3 0 2) < 0 then (if ((0 : Int32).toUInt32 % 65536).toInt32 = 0 then some (0, t) else none) else (if (t.1 3 1 0 1) ≤ (t.1 3 3 0 2) then (if ((0 : Int32).toUInt32 % 65536).toInt32 = 0 then some (0, t) else none) else (if o_inb (t.1 3 3 0 2) 90 = true then (if ((t.1 3 2 0 ((t.1 3 3 0 2).toNatClampNeg)).toUInt32 % 65536).toInt32 = (t.1 3 2 0 ((t.1 3 3 0 2).toNatClampNeg)) then some ((t.1 3 2 0 ((t.1 3 3 0 2).toNatClampNeg)), t) else none) else none))
theorem hd_X2_letterHere : x_hd yX2_letterHere 0 := by decide +kernel
set_option maxRecDepth 100000 in
set_option maxHeartbeats 4000000 in
theorem c_X2_letterHere (l : Launch) (g : Ly) (hG : XG shC g) (t : Mm) {r : Int32} {t' : Mm} (h : f_X2_letterHere t = some (r, t')) : MI l yX2_letterHere cX2_letterHere 1 (some .char) 1 shC g [.ref (g.2.2 (3, 3, 0))] t (XQi shC g r t') := by
  refine x_met hG (by decide +kernel) (Nat.le_of_ble_eq_true rfl) ?_
  intro p e s m below meth c ls X hP hl
  have hS : va_S (XA shC g) s.heap s.heap [] := va_S.rf
  have hl : lv_has ls 1 [(0, .ref (g.2.2 (3, 3, 0)))] := hl
  unfold f_X2_letterHere at h
  generalize ([.ref (g.2.2 (3, 3, 0))] : List Value).toArray = args at X ⊢
  refine lv_aload_n X.1.1 X.1.2.1 dX2_letterHere_0 rfl (lv_at hl 0 rfl) ?_
  refine gt_X2_2 X hP (kyO (by decide)) wd_202 dX2_letterHere_1 ?_
  refine lv_if_lt (tgt := 36) X.1.1 X.1.2.1 dX2_letterHere_4 (by decide) (fun c_1 => ?_) (fun c_1 => ?_)
  · have h := o_pos c_1 h
    refine lv_iconst (v := 0) X.1.1 X.1.2.1 dX2_letterHere_36 (by decide) ?_
    obtain ⟨g_2, h⟩ := o_gd_inv h
    obtain ⟨rfl, rfl⟩ := o_ret2 h
    exact x_zret (x_narC g_2) X hP hS dX2_letterHere_37
  · have h := o_neg c_1 h
    refine lv_aload_n X.1.1 X.1.2.1 dX2_letterHere_7 rfl (lv_at hl 0 rfl) ?_
    refine gt_X2_2 X hP (kyO (by decide)) wd_202 dX2_letterHere_8 ?_
    refine lv_aload_n X.1.1 X.1.2.1 dX2_letterHere_11 rfl (lv_at hl 0 rfl) ?_
    refine gt_X2_0 X hP (kyO (by decide)) wd_199 dX2_letterHere_12 ?_
    refine gtN_X5_1 X hP (kyO (by decide)) wd_184 dX2_letterHere_15 ?_
    refine lv_icmp_ge (tgt := 36) X.1.1 X.1.2.1 dX2_letterHere_18 (by decide) (fun c_3 => ?_) (fun c_3 => ?_)
    · have h := o_pos c_3 h
      refine lv_iconst (v := 0) X.1.1 X.1.2.1 dX2_letterHere_36 (by decide) ?_
      obtain ⟨g_4, h⟩ := o_gd_inv h
      obtain ⟨rfl, rfl⟩ := o_ret2 h
      exact x_zret (x_narC g_4) X hP hS dX2_letterHere_37
    · have h := o_neg c_3 h
      refine lv_aload_n X.1.1 X.1.2.1 dX2_letterHere_21 rfl (lv_at hl 0 rfl) ?_
      refine gt_X2_0 X hP (kyO (by decide)) wd_199 dX2_letterHere_22 ?_
      refine gtN_X5_0 X hP (kyO (by decide)) wd_181 dX2_letterHere_25 ?_
      refine lv_aload_n X.1.1 X.1.2.1 dX2_letterHere_28 rfl (lv_at hl 0 rfl) ?_
      refine gt_X2_2 X hP (kyO (by decide)) wd_202 dX2_letterHere_29 ?_
      obtain ⟨g_5, h⟩ := o_gd_inv h
      refine x_cald X hP (kyO (by decide)) (fun _ _ => rfl) g_5 dX2_letterHere_32 ?_
      refine lv_goto (tgt := 37) X.1.1 X.1.2.1 dX2_letterHere_33 (by decide) ?_
      obtain ⟨g_6, h⟩ := o_gd_inv h
      obtain ⟨rfl, rfl⟩ := o_ret2 h
      exact x_zret (x_narC g_6) X hP hS dX2_letterHere_37
def f_X2_nextLetter_33 (N : Nat) (t : Mm) : Option (Int32 × Mm) := o_bd (f_X2_letterHere t) fun (r_3, t_1) => if (r_3.toUInt32 % 65536).toInt32 = r_3 then some (r_3, t_1) else none
def b_X2_nextLetter_2 (N : Nat) (k2 : Int32 × Mm → Option (Int32 × Mm)) (x1 : Int32) (t : Mm) : Option (Int32 × Mm) := if 90 ≤ x1 then (f_X2_nextLetter_33 N t) else (o_bd (f_X2_letterHere t) fun (r_9, t_7) => if r_9 = 32 then (o_nm (sI t_7 3 3 0 2 ((t_7.1 3 3 0 2) + 1)) fun t_12 => k2 ((x1 + 1), t_12)) else (f_X2_nextLetter_33 N t_7))
def f_X2_nextLetter_2 (N : Nat) (x1 : Int32) (t : Mm) : Option (Int32 × Mm) := o_lp (fun k x => b_X2_nextLetter_2 N k x.1 x.2) N (x1, t)
/-- FordQuestions$Reader.nextLetter()C -/
def f_X2_nextLetter (N : Nat) (t : Mm) : Option (Int32 × Mm) := f_X2_nextLetter_2 N 0 t
theorem hd_X2_nextLetter : x_hd yX2_nextLetter 0 := by decide +kernel
set_option maxRecDepth 100000 in
set_option maxHeartbeats 4000000 in
theorem w_X2_nextLetter_33 {l : Launch} {g : Ly} {p : Program} {e : Env} {s : State} {m : MethodId} {args : Array Value} {below : List Frame} {meth : Method} {c : Code} (N : Nat) (X : XC p m meth c cX2_nextLetter 2 s args (.code yX2_nextLetter cX2_nextLetter 2 (some .char)) RX2 (some .char) shC g) {r : Int32} {t' : Mm} (t : Mm) (H : Heap) (locs : List Loc) (ls : Array Slot) (hP : XP shC g t H) (hS : va_S (XA shC g) s.heap H locs) (hl : lv_has ls 2 [(0, .ref (g.2.2 (3, 3, 0)))]) (h : f_X2_nextLetter_33 N t = some (r, t')) : W p l e (rmv 2) s m args below meth c H locs 0 0 (MQ below (XQi shC g r t') args s 0 0 (XA shC g)) (F0 m 33 ls []) := by
  unfold f_X2_nextLetter_33 at h
  refine lv_aload_n X.1.1 X.1.2.1 dX2_nextLetter_33 rfl (lv_at hl 0 rfl) ?_
  obtain ⟨⟨r_3, t_1⟩, hc_2, h⟩ := o_bd_inv h
  refine x_calli (x_runV (As := []) (rest := []) X hP hS (c_X2_letterHere l g X.2.2.2.2.1 t hc_2) ⟨wd_417, wd_414, wd_416, wd_2, wd_58⟩ hd_X2_letterHere ⟨by omega, by decide⟩ (x_recv X hP (ci := 2) rfl (kyO (by decide)) rfl) rfl hl.1 rfl (Nat.le_of_ble_eq_true rfl) dX2_nextLetter_34) hS (fun H locs hP hS => ?_)
  obtain ⟨g_5, h⟩ := o_gd_inv h
  obtain ⟨rfl, rfl⟩ := o_ret2 h
  exact x_zret (x_narC g_5) X hP hS dX2_nextLetter_37
set_option maxRecDepth 100000 in
set_option maxHeartbeats 4000000 in
theorem wb_X2_nextLetter_2 {l : Launch} {g : Ly} {p : Program} {e : Env} {s : State} {m : MethodId} {args : Array Value} {below : List Frame} {meth : Method} {c : Code} (N : Nat) (X : XC p m meth c cX2_nextLetter 2 s args (.code yX2_nextLetter cX2_nextLetter 2 (some .char)) RX2 (some .char) shC g) {r : Int32} {t' : Mm} {k2 : Int32 × Mm → Option (Int32 × Mm)} (hk2 : ∀ x : Int32 × Mm, k2 x = some (r, t') → ∀ (H : Heap) (locs : List Loc) (ls : Array Slot), XP shC g x.2 H → va_S (XA shC g) s.heap H locs → lv_has ls 2 [(0, .ref (g.2.2 (3, 3, 0))), (1, .int x.1)] → W p l e (rmv 2) s m args below meth c H locs 0 0 (MQ below (XQi shC g r t') args s 0 0 (XA shC g)) (F0 m 2 ls [])) (x1 : Int32) (t : Mm) (H : Heap) (locs : List Loc) (ls : Array Slot) (hP : XP shC g t H) (hS : va_S (XA shC g) s.heap H locs) (hl : lv_has ls 2 [(0, .ref (g.2.2 (3, 3, 0))), (1, .int x1)]) (h : b_X2_nextLetter_2 N k2 x1 t = some (r, t')) : W p l e (rmv 2) s m args below meth c H locs 0 0 (MQ below (XQi shC g r t') args s 0 0 (XA shC g)) (F0 m 2 ls []) := by
  unfold b_X2_nextLetter_2 at h
  refine lv_iload_n X.1.1 X.1.2.1 dX2_nextLetter_2 rfl (lv_at hl 1 rfl) ?_
  refine lv_bipush (v := 90) X.1.1 X.1.2.1 dX2_nextLetter_3 (by decide) ?_
  refine lv_icmp_ge (tgt := 33) X.1.1 X.1.2.1 dX2_nextLetter_5 (by decide) (fun c_6 => ?_) (fun c_6 => ?_)
  · have h := o_pos c_6 h
    exact w_X2_nextLetter_33 N X t _ _ _ hP hS (lv_sub hl [0] rfl) h
  · have h := o_neg c_6 h
    refine lv_aload_n X.1.1 X.1.2.1 dX2_nextLetter_8 rfl (lv_at hl 0 rfl) ?_
    obtain ⟨⟨r_9, t_7⟩, hc_8, h⟩ := o_bd_inv h
    refine x_calli (x_runV (As := []) (rest := []) X hP hS (c_X2_letterHere l g X.2.2.2.2.1 t hc_8) ⟨wd_417, wd_414, wd_416, wd_2, wd_58⟩ hd_X2_letterHere ⟨by omega, by decide⟩ (x_recv X hP (ci := 2) rfl (kyO (by decide)) rfl) rfl hl.1 rfl (Nat.le_of_ble_eq_true rfl) dX2_nextLetter_9) hS (fun H locs hP hS => ?_)
    refine lv_bipush (v := 32) X.1.1 X.1.2.1 dX2_nextLetter_12 (by decide) ?_
    refine lv_icmp_ne (tgt := 33) X.1.1 X.1.2.1 dX2_nextLetter_14 (by decide) (fun c_11 => ?_) (fun c_11 => ?_)
    · have h := o_neg c_11 h
      exact w_X2_nextLetter_33 N X t_7 _ _ _ hP hS (lv_sub hl [0] rfl) h
    · have h := o_pos c_11 h
      refine lv_aload_n X.1.1 X.1.2.1 dX2_nextLetter_17 rfl (lv_at hl 0 rfl) ?_
      refine lv_dup X.1.1 X.1.2.1 dX2_nextLetter_18 rfl ?_
      refine gt_X2_2 X hP (kyO (by decide)) wd_202 dX2_nextLetter_19 ?_
      refine lv_iconst (v := 1) X.1.1 X.1.2.1 dX2_nextLetter_22 (by decide) ?_
      refine lv_iadd X.1.1 X.1.2.1 dX2_nextLetter_23 ?_
      obtain ⟨t_12, e_13, h⟩ := o_nm_inv h
      refine pt_X2_2 (x := ((t_7.1 3 3 0 2) + 1)) X hP hS (kyO (by decide)) wd_202 dX2_nextLetter_24 (fun H locs hP hS => ?_)
      have hP : XP shC g t_12 H := by rw [e_13]; exact hP
      refine lv_iinc (v := (x1 + 1)) (lv' := [(1, .int (x1 + 1)), (0, .ref (g.2.2 (3, 3, 0)))]) X.1.1 X.1.2.1 dX2_nextLetter_27 hl (k := 1) rfl rfl (by decide) rfl (fun ls hl => ?_)
      refine lv_goto (tgt := 2) X.1.1 X.1.2.1 dX2_nextLetter_30 (by decide) ?_
      exact hk2 ((x1 + 1), t_12) h _ _ _ hP hS (lv_sub hl [1, 0] rfl)
set_option maxRecDepth 100000 in
set_option maxHeartbeats 4000000 in
theorem w_X2_nextLetter_2 {l : Launch} {g : Ly} {p : Program} {e : Env} {s : State} {m : MethodId} {args : Array Value} {below : List Frame} {meth : Method} {c : Code} (N : Nat) (X : XC p m meth c cX2_nextLetter 2 s args (.code yX2_nextLetter cX2_nextLetter 2 (some .char)) RX2 (some .char) shC g) {r : Int32} {t' : Mm} (x1 : Int32) (t : Mm) (H : Heap) (locs : List Loc) (ls : Array Slot) (hP : XP shC g t H) (hS : va_S (XA shC g) s.heap H locs) (hl : lv_has ls 2 [(0, .ref (g.2.2 (3, 3, 0))), (1, .int x1)]) (h : f_X2_nextLetter_2 N x1 t = some (r, t')) : W p l e (rmv 2) s m args below meth c H locs 0 0 (MQ below (XQi shC g r t') args s 0 0 (XA shC g)) (F0 m 2 ls []) :=
  o_lp_ind (P := fun x : Int32 × Mm => ∀ (H : Heap) (locs : List Loc) (ls : Array Slot), XP shC g x.2 H → va_S (XA shC g) s.heap H locs → lv_has ls 2 [(0, .ref (g.2.2 (3, 3, 0))), (1, .int x.1)] → W p l e (rmv 2) s m args below meth c H locs 0 0 (MQ below (XQi shC g r t') args s 0 0 (XA shC g)) (F0 m 2 ls [])) (fun k hk x h H locs ls hP hS hl => wb_X2_nextLetter_2 N X hk x.1 x.2 H locs ls hP hS hl h) N (x1, t) h H locs ls hP hS hl
set_option maxRecDepth 100000 in
set_option maxHeartbeats 4000000 in
theorem c_X2_nextLetter (l : Launch) (g : Ly) (N : Nat) (hG : XG shC g) (t : Mm) {r : Int32} {t' : Mm} (h : f_X2_nextLetter N t = some (r, t')) : MI l yX2_nextLetter cX2_nextLetter 2 (some .char) 2 shC g [.ref (g.2.2 (3, 3, 0))] t (XQi shC g r t') := by
  refine x_met hG (by decide +kernel) (Nat.le_of_ble_eq_true rfl) ?_
  intro p e s m below meth c ls X hP hl
  have hS : va_S (XA shC g) s.heap s.heap [] := va_S.rf
  have hl : lv_has ls 2 [(0, .ref (g.2.2 (3, 3, 0)))] := hl
  unfold f_X2_nextLetter at h
  generalize ([.ref (g.2.2 (3, 3, 0))] : List Value).toArray = args at X ⊢
  refine lv_iconst (v := 0) X.1.1 X.1.2.1 dX2_nextLetter_0 (by decide) ?_
  refine lv_istore_n (lv' := [(1, .int 0), (0, .ref (g.2.2 (3, 3, 0)))]) X.1.1 X.1.2.1 dX2_nextLetter_1 rfl hl (by decide) rfl (fun ls hl => ?_)
  exact w_X2_nextLetter_2 N X 0 t _ _ _ hP hS (lv_sub hl [1, 0] rfl) h
/-- FordQuestions$Reader.accepts(C)Z -/
def f_X2_accepts (N : Nat) (a0 : Int32) (t : Mm) : Option (Int32 × Mm) := o_bd (f_X2_nextLetter N t) fun (r_3, t_1) => if r_3 = a0 then (o_nm (sI t_1 3 3 0 2 ((t_1.1 3 3 0 2) + 1)) fun t_6 => some (1, t_6)) else (some (0, t_1))
theorem hd_X2_accepts : x_hd yX2_accepts 1 := by decide +kernel
set_option maxRecDepth 100000 in
set_option maxHeartbeats 4000000 in
theorem c_X2_accepts (l : Launch) (g : Ly) (N : Nat) (hG : XG shC g) (a0 : Int32) (t : Mm) {r : Int32} {t' : Mm} (h : f_X2_accepts N a0 t = some (r, t')) : MI l yX2_accepts cX2_accepts 2 (some .boolean) 3 shC g [.ref (g.2.2 (3, 3, 0)), .int a0] t (XQi shC g r t') := by
  refine x_met hG (by decide +kernel) (Nat.le_of_ble_eq_true rfl) ?_
  intro p e s m below meth c ls X hP hl
  have hS : va_S (XA shC g) s.heap s.heap [] := va_S.rf
  have hl : lv_has ls 2 [(0, .ref (g.2.2 (3, 3, 0))), (1, .int a0)] := hl
  unfold f_X2_accepts at h
  generalize ([.ref (g.2.2 (3, 3, 0)), .int a0] : List Value).toArray = args at X ⊢
  refine lv_aload_n X.1.1 X.1.2.1 dX2_accepts_0 rfl (lv_at hl 0 rfl) ?_
  obtain ⟨⟨r_3, t_1⟩, hc_2, h⟩ := o_bd_inv h
  refine x_calli (x_runV (As := []) (rest := []) X hP hS (c_X2_nextLetter l g N X.2.2.2.2.1 t hc_2) ⟨wd_413, wd_410, wd_412, wd_1, wd_58⟩ hd_X2_nextLetter ⟨by omega, by decide⟩ (x_recv X hP (ci := 2) rfl (kyO (by decide)) rfl) rfl hl.1 rfl (Nat.le_of_ble_eq_true rfl) dX2_accepts_1) hS (fun H locs hP hS => ?_)
  refine lv_iload_n X.1.1 X.1.2.1 dX2_accepts_4 rfl (lv_at hl 1 rfl) ?_
  refine lv_icmp_eq (tgt := 10) X.1.1 X.1.2.1 dX2_accepts_5 (by decide) (fun c_5 => ?_) (fun c_5 => ?_)
  · have h := o_pos c_5 h
    refine lv_aload_n X.1.1 X.1.2.1 dX2_accepts_10 rfl (lv_at hl 0 rfl) ?_
    refine lv_dup X.1.1 X.1.2.1 dX2_accepts_11 rfl ?_
    refine gt_X2_2 X hP (kyO (by decide)) wd_202 dX2_accepts_12 ?_
    refine lv_iconst (v := 1) X.1.1 X.1.2.1 dX2_accepts_15 (by decide) ?_
    refine lv_iadd X.1.1 X.1.2.1 dX2_accepts_16 ?_
    obtain ⟨t_6, e_7, h⟩ := o_nm_inv h
    refine pt_X2_2 (x := ((t_1.1 3 3 0 2) + 1)) X hP hS (kyO (by decide)) wd_202 dX2_accepts_17 (fun H locs hP hS => ?_)
    have hP : XP shC g t_6 H := by rw [e_7]; exact hP
    refine lv_iconst (v := 1) X.1.1 X.1.2.1 dX2_accepts_20 (by decide) ?_
    obtain ⟨rfl, rfl⟩ := o_ret2 h
    exact x_zret rfl X hP hS dX2_accepts_21
  · have h := o_neg c_5 h
    refine lv_iconst (v := 0) X.1.1 X.1.2.1 dX2_accepts_8 (by decide) ?_
    obtain ⟨rfl, rfl⟩ := o_ret2 h
    exact x_zret rfl X hP hS dX2_accepts_9
/-- FordQuestions$Reader.kindOf(C)I -/
def f_X2_kindOf (N : Nat) (a0 : Int32) (t : Mm) : Option (Int32 × Mm) := o_bd (f_J0_indexOf_0f7a4 N a0 t) fun (r_3, t_1) => if 0 ≤ r_3 then (some (r_3, t_1)) else (some ((-4), t_1))
theorem hd_X2_kindOf : x_hd yX2_kindOf 1 := by decide +kernel
set_option maxRecDepth 100000 in
set_option maxHeartbeats 4000000 in
theorem c_X2_kindOf (l : Launch) (g : Ly) (N : Nat) (hG : XG shC g) (a0 : Int32) (t : Mm) {r : Int32} {t' : Mm} (h : f_X2_kindOf N a0 t = some (r, t')) : MI l yX2_kindOf cX2_kindOf 2 (some .int) 5 shC g [.int a0] t (XQi shC g r t') := by
  refine x_met hG (by decide +kernel) (Nat.le_of_ble_eq_true rfl) ?_
  intro p e s m below meth c ls X hP hl
  have hS : va_S (XA shC g) s.heap s.heap [] := va_S.rf
  have hl : lv_has ls 2 [(0, .int a0)] := hl
  unfold f_X2_kindOf at h
  generalize ([.int a0] : List Value).toArray = args at X ⊢
  refine x_ldcS X dX2_kindOf_0 ?_
  refine lv_iload_n X.1.1 X.1.2.1 dX2_kindOf_2 rfl (lv_at hl 0 rfl) ?_
  obtain ⟨⟨r_3, t_1⟩, hc_2, h⟩ := o_bd_inv h
  refine x_calli (x_runV (As := [.int a0]) (rest := []) X hP hS (c_J0_indexOf_0f7a4 l g N X.2.2.2.2.1 a0 t hc_2) ⟨wd_445, wd_442, wd_443, wd_444, wd_65⟩ hd_J0_indexOf_0f7a4 ⟨by omega, by decide⟩ (x_recvS X hS) rfl hl.1 rfl (Nat.le_of_ble_eq_true rfl) dX2_kindOf_3) hS (fun H locs hP hS => ?_)
  refine lv_istore_n (lv' := [(1, .int r_3), (0, .int a0)]) X.1.1 X.1.2.1 dX2_kindOf_6 rfl hl (by decide) rfl (fun ls hl => ?_)
  refine lv_iload_n X.1.1 X.1.2.1 dX2_kindOf_7 rfl (lv_at hl 0 rfl) ?_
  refine lv_if_ge (tgt := 16) X.1.1 X.1.2.1 dX2_kindOf_8 (by decide) (fun c_5 => ?_) (fun c_5 => ?_)
  · have h := o_pos c_5 h
    refine lv_iload_n X.1.1 X.1.2.1 dX2_kindOf_16 rfl (lv_at hl 0 rfl) ?_
    obtain ⟨rfl, rfl⟩ := o_ret2 h
    exact x_iret X hP hS dX2_kindOf_17
  · have h := o_neg c_5 h
    refine lv_bipush (v := (-4)) X.1.1 X.1.2.1 dX2_kindOf_11 (by decide) ?_
    refine lv_goto (tgt := 17) X.1.1 X.1.2.1 dX2_kindOf_13 (by decide) ?_
    obtain ⟨rfl, rfl⟩ := o_ret2 h
    exact x_iret X hP hS dX2_kindOf_17
/-- FordQuestions$Reader.digitOf(C)I -/
def f_X2_digitOf (a0 : Int32) (t : Mm) : Option (Int32 × Mm) := if a0 < 48 then (some ((-4), t)) else (if 57 < a0 then (some ((-4), t)) else (some ((a0 - 48), t)))
theorem hd_X2_digitOf : x_hd yX2_digitOf 1 := by decide +kernel
set_option maxRecDepth 100000 in
set_option maxHeartbeats 4000000 in
theorem c_X2_digitOf (l : Launch) (g : Ly) (hG : XG shC g) (a0 : Int32) (t : Mm) {r : Int32} {t' : Mm} (h : f_X2_digitOf a0 t = some (r, t')) : MI l yX2_digitOf cX2_digitOf 1 (some .int) 1 shC g [.int a0] t (XQi shC g r t') := by
  refine x_met hG (by decide +kernel) (Nat.le_of_ble_eq_true rfl) ?_
  intro p e s m below meth c ls X hP hl
  have hS : va_S (XA shC g) s.heap s.heap [] := va_S.rf
  have hl : lv_has ls 1 [(0, .int a0)] := hl
  unfold f_X2_digitOf at h
  generalize ([.int a0] : List Value).toArray = args at X ⊢
  refine lv_iload_n X.1.1 X.1.2.1 dX2_digitOf_0 rfl (lv_at hl 0 rfl) ?_
  refine lv_bipush (v := 48) X.1.1 X.1.2.1 dX2_digitOf_1 (by decide) ?_
  refine lv_icmp_lt (tgt := 19) X.1.1 X.1.2.1 dX2_digitOf_3 (by decide) (fun c_1 => ?_) (fun c_1 => ?_)
  · have h := o_pos c_1 h
    refine lv_bipush (v := (-4)) X.1.1 X.1.2.1 dX2_digitOf_19 (by decide) ?_
    obtain ⟨rfl, rfl⟩ := o_ret2 h
    exact x_iret X hP hS dX2_digitOf_21
  · have h := o_neg c_1 h
    refine lv_iload_n X.1.1 X.1.2.1 dX2_digitOf_6 rfl (lv_at hl 0 rfl) ?_
    refine lv_bipush (v := 57) X.1.1 X.1.2.1 dX2_digitOf_7 (by decide) ?_
    refine lv_icmp_gt (tgt := 19) X.1.1 X.1.2.1 dX2_digitOf_9 (by decide) (fun c_2 => ?_) (fun c_2 => ?_)
    · have h := o_pos c_2 h
      refine lv_bipush (v := (-4)) X.1.1 X.1.2.1 dX2_digitOf_19 (by decide) ?_
      obtain ⟨rfl, rfl⟩ := o_ret2 h
      exact x_iret X hP hS dX2_digitOf_21
    · have h := o_neg c_2 h
      refine lv_iload_n X.1.1 X.1.2.1 dX2_digitOf_12 rfl (lv_at hl 0 rfl) ?_
      refine lv_bipush (v := 48) X.1.1 X.1.2.1 dX2_digitOf_13 (by decide) ?_
      refine lv_isub X.1.1 X.1.2.1 dX2_digitOf_15 ?_
      refine lv_goto (tgt := 21) X.1.1 X.1.2.1 dX2_digitOf_16 (by decide) ?_
      obtain ⟨rfl, rfl⟩ := o_ret2 h
      exact x_iret X hP hS dX2_digitOf_21
def f_X2_readComing_63 (N : Nat) (x1 : Int32) (x2 : Int32) (t : Mm) : Option (Int32 × Mm) := if x1 ≤ 40 then (some (x1, t)) else (o_nm (sI t 3 3 0 2 x2) fun t_2 => some ((-4), t_2))
/-- FordQuestions$Reader.readComing()I -/
def f_X2_readComing (N : Nat) (t : Mm) : Option (Int32 × Mm) := o_bd (f_X2_nextLetter N t) fun (r_6, t_4) => o_bd (f_X2_digitOf r_6 t_4) fun (r_10, t_8) => if r_10 = (-4) then (some ((-4), t_8)) else (o_nm (sI t_8 3 3 0 2 ((t_8.1 3 3 0 2) + 1)) fun t_13 => o_bd (f_X2_letterHere t_13) fun (r_17, t_15) => o_bd (f_X2_digitOf r_17 t_15) fun (r_21, t_19) => if r_21 = (-4) then (f_X2_readComing_63 N r_10 (t_8.1 3 3 0 2) t_19) else (o_nm (sI t_19 3 3 0 2 ((t_19.1 3 3 0 2) + 1)) fun t_24 => f_X2_readComing_63 N ((10 * r_10) + r_21) (t_8.1 3 3 0 2) t_24))
theorem hd_X2_readComing : x_hd yX2_readComing 0 := by decide +kernel
set_option maxRecDepth 100000 in
set_option maxHeartbeats 4000000 in
theorem w_X2_readComing_63 {l : Launch} {g : Ly} {p : Program} {e : Env} {s : State} {m : MethodId} {args : Array Value} {below : List Frame} {meth : Method} {c : Code} (N : Nat) (X : XC p m meth c cX2_readComing 4 s args (.code yX2_readComing cX2_readComing 4 (some .int)) RX2 (some .int) shC g) {r : Int32} {t' : Mm} (x1 : Int32) (x2 : Int32) (t : Mm) (H : Heap) (locs : List Loc) (ls : Array Slot) (hP : XP shC g t H) (hS : va_S (XA shC g) s.heap H locs) (hl : lv_has ls 4 [(0, .ref (g.2.2 (3, 3, 0))), (1, .int x1), (2, .int x2)]) (h : f_X2_readComing_63 N x1 x2 t = some (r, t')) : W p l e (rmv 3) s m args below meth c H locs 0 0 (MQ below (XQi shC g r t') args s 0 0 (XA shC g)) (F0 m 63 ls []) := by
  unfold f_X2_readComing_63 at h
  refine lv_iload_n X.1.1 X.1.2.1 dX2_readComing_63 rfl (lv_at hl 1 rfl) ?_
  refine lv_bipush (v := 40) X.1.1 X.1.2.1 dX2_readComing_64 (by decide) ?_
  refine lv_icmp_le (tgt := 77) X.1.1 X.1.2.1 dX2_readComing_66 (by decide) (fun c_1 => ?_) (fun c_1 => ?_)
  · have h := o_pos c_1 h
    refine lv_iload_n X.1.1 X.1.2.1 dX2_readComing_77 rfl (lv_at hl 1 rfl) ?_
    obtain ⟨rfl, rfl⟩ := o_ret2 h
    exact x_iret X hP hS dX2_readComing_78
  · have h := o_neg c_1 h
    refine lv_aload_n X.1.1 X.1.2.1 dX2_readComing_69 rfl (lv_at hl 0 rfl) ?_
    refine lv_iload_n X.1.1 X.1.2.1 dX2_readComing_70 rfl (lv_at hl 2 rfl) ?_
    obtain ⟨t_2, e_3, h⟩ := o_nm_inv h
    refine pt_X2_2 (x := x2) X hP hS (kyO (by decide)) wd_202 dX2_readComing_71 (fun H locs hP hS => ?_)
    have hP : XP shC g t_2 H := by rw [e_3]; exact hP
    refine lv_bipush (v := (-4)) X.1.1 X.1.2.1 dX2_readComing_74 (by decide) ?_
    obtain ⟨rfl, rfl⟩ := o_ret2 h
    exact x_iret X hP hS dX2_readComing_76
set_option maxRecDepth 100000 in
set_option maxHeartbeats 4000000 in
theorem c_X2_readComing (l : Launch) (g : Ly) (N : Nat) (hG : XG shC g) (t : Mm) {r : Int32} {t' : Mm} (h : f_X2_readComing N t = some (r, t')) : MI l yX2_readComing cX2_readComing 4 (some .int) 3 shC g [.ref (g.2.2 (3, 3, 0))] t (XQi shC g r t') := by
  refine x_met hG (by decide +kernel) (Nat.le_of_ble_eq_true rfl) ?_
  intro p e s m below meth c ls X hP hl
  have hS : va_S (XA shC g) s.heap s.heap [] := va_S.rf
  have hl : lv_has ls 4 [(0, .ref (g.2.2 (3, 3, 0)))] := hl
  unfold f_X2_readComing at h
  generalize ([.ref (g.2.2 (3, 3, 0))] : List Value).toArray = args at X ⊢
  refine lv_aload_n X.1.1 X.1.2.1 dX2_readComing_0 rfl (lv_at hl 0 rfl) ?_
  obtain ⟨⟨r_6, t_4⟩, hc_5, h⟩ := o_bd_inv h
  refine x_calli (x_runV (As := []) (rest := []) X hP hS (c_X2_nextLetter l g N X.2.2.2.2.1 t hc_5) ⟨wd_413, wd_410, wd_412, wd_1, wd_58⟩ hd_X2_nextLetter ⟨by omega, by decide⟩ (x_recv X hP (ci := 2) rfl (kyO (by decide)) rfl) rfl hl.1 rfl (Nat.le_of_ble_eq_true rfl) dX2_readComing_1) hS (fun H locs hP hS => ?_)
  obtain ⟨⟨r_10, t_8⟩, hc_9, h⟩ := o_bd_inv h
  refine x_calli (x_runS (As := [.int r_6]) (rest := []) X hP hS (c_X2_digitOf l g X.2.2.2.2.1 r_6 t_4 hc_9) ⟨wd_534, wd_532, wd_533, wd_58⟩ hd_X2_digitOf ⟨by omega, by decide⟩ rfl hl.1 rfl (Nat.le_of_ble_eq_true rfl) dX2_readComing_4) hS (fun H locs hP hS => ?_)
  refine lv_istore_n (lv' := [(1, .int r_10), (0, .ref (g.2.2 (3, 3, 0)))]) X.1.1 X.1.2.1 dX2_readComing_7 rfl hl (by decide) rfl (fun ls hl => ?_)
  refine lv_aload_n X.1.1 X.1.2.1 dX2_readComing_8 rfl (lv_at hl 1 rfl) ?_
  refine gt_X2_2 X hP (kyO (by decide)) wd_202 dX2_readComing_9 ?_
  refine lv_istore_n (lv' := [(2, .int (t_8.1 3 3 0 2)), (1, .int r_10), (0, .ref (g.2.2 (3, 3, 0)))]) X.1.1 X.1.2.1 dX2_readComing_12 rfl hl (by decide) rfl (fun ls hl => ?_)
  refine lv_iload_n X.1.1 X.1.2.1 dX2_readComing_13 rfl (lv_at hl 1 rfl) ?_
  refine lv_bipush (v := (-4)) X.1.1 X.1.2.1 dX2_readComing_14 (by decide) ?_
  refine lv_icmp_ne (tgt := 22) X.1.1 X.1.2.1 dX2_readComing_16 (by decide) (fun c_12 => ?_) (fun c_12 => ?_)
  · have h := o_neg c_12 h
    refine lv_aload_n X.1.1 X.1.2.1 dX2_readComing_22 rfl (lv_at hl 2 rfl) ?_
    refine lv_dup X.1.1 X.1.2.1 dX2_readComing_23 rfl ?_
    refine gt_X2_2 X hP (kyO (by decide)) wd_202 dX2_readComing_24 ?_
    refine lv_iconst (v := 1) X.1.1 X.1.2.1 dX2_readComing_27 (by decide) ?_
    refine lv_iadd X.1.1 X.1.2.1 dX2_readComing_28 ?_
    obtain ⟨t_13, e_14, h⟩ := o_nm_inv h
    refine pt_X2_2 (x := ((t_8.1 3 3 0 2) + 1)) X hP hS (kyO (by decide)) wd_202 dX2_readComing_29 (fun H locs hP hS => ?_)
    have hP : XP shC g t_13 H := by rw [e_14]; exact hP
    refine lv_aload_n X.1.1 X.1.2.1 dX2_readComing_32 rfl (lv_at hl 2 rfl) ?_
    obtain ⟨⟨r_17, t_15⟩, hc_16, h⟩ := o_bd_inv h
    refine x_calli (x_runV (As := []) (rest := []) X hP hS (c_X2_letterHere l g X.2.2.2.2.1 t_13 hc_16) ⟨wd_417, wd_414, wd_416, wd_2, wd_58⟩ hd_X2_letterHere ⟨by omega, by decide⟩ (x_recv X hP (ci := 2) rfl (kyO (by decide)) rfl) rfl hl.1 rfl (Nat.le_of_ble_eq_true rfl) dX2_readComing_33) hS (fun H locs hP hS => ?_)
    obtain ⟨⟨r_21, t_19⟩, hc_20, h⟩ := o_bd_inv h
    refine x_calli (x_runS (As := [.int r_17]) (rest := []) X hP hS (c_X2_digitOf l g X.2.2.2.2.1 r_17 t_15 hc_20) ⟨wd_534, wd_532, wd_533, wd_58⟩ hd_X2_digitOf ⟨by omega, by decide⟩ rfl hl.1 rfl (Nat.le_of_ble_eq_true rfl) dX2_readComing_36) hS (fun H locs hP hS => ?_)
    refine lv_istore_n (lv' := [(3, .int r_21), (2, .int (t_8.1 3 3 0 2)), (1, .int r_10), (0, .ref (g.2.2 (3, 3, 0)))]) X.1.1 X.1.2.1 dX2_readComing_39 rfl hl (by decide) rfl (fun ls hl => ?_)
    refine lv_iload_n X.1.1 X.1.2.1 dX2_readComing_40 rfl (lv_at hl 0 rfl) ?_
    refine lv_bipush (v := (-4)) X.1.1 X.1.2.1 dX2_readComing_41 (by decide) ?_
    refine lv_icmp_eq (tgt := 63) X.1.1 X.1.2.1 dX2_readComing_43 (by decide) (fun c_23 => ?_) (fun c_23 => ?_)
    · have h := o_pos c_23 h
      exact w_X2_readComing_63 N X r_10 (t_8.1 3 3 0 2) t_19 _ _ _ hP hS (lv_sub hl [3, 2, 1] rfl) h
    · have h := o_neg c_23 h
      refine lv_bipush (v := 10) X.1.1 X.1.2.1 dX2_readComing_46 (by decide) ?_
      refine lv_iload_n X.1.1 X.1.2.1 dX2_readComing_48 rfl (lv_at hl 2 rfl) ?_
      refine lv_imul X.1.1 X.1.2.1 dX2_readComing_49 ?_
      refine lv_iload_n X.1.1 X.1.2.1 dX2_readComing_50 rfl (lv_at hl 0 rfl) ?_
      refine lv_iadd X.1.1 X.1.2.1 dX2_readComing_51 ?_
      refine lv_istore_n (lv' := [(1, .int ((10 * r_10) + r_21)), (3, .int r_21), (2, .int (t_8.1 3 3 0 2)), (0, .ref (g.2.2 (3, 3, 0)))]) X.1.1 X.1.2.1 dX2_readComing_52 rfl hl (by decide) rfl (fun ls hl => ?_)
      refine lv_aload_n X.1.1 X.1.2.1 dX2_readComing_53 rfl (lv_at hl 3 rfl) ?_
      refine lv_dup X.1.1 X.1.2.1 dX2_readComing_54 rfl ?_
      refine gt_X2_2 X hP (kyO (by decide)) wd_202 dX2_readComing_55 ?_
      refine lv_iconst (v := 1) X.1.1 X.1.2.1 dX2_readComing_58 (by decide) ?_
      refine lv_iadd X.1.1 X.1.2.1 dX2_readComing_59 ?_
      obtain ⟨t_24, e_25, h⟩ := o_nm_inv h
      refine pt_X2_2 (x := ((t_19.1 3 3 0 2) + 1)) X hP hS (kyO (by decide)) wd_202 dX2_readComing_60 (fun H locs hP hS => ?_)
      have hP : XP shC g t_24 H := by rw [e_25]; exact hP
      exact w_X2_readComing_63 N X ((10 * r_10) + r_21) (t_8.1 3 3 0 2) t_24 _ _ _ hP hS (lv_sub hl [3, 0, 2] rfl) h
  · have h := o_pos c_12 h
    refine lv_bipush (v := (-4)) X.1.1 X.1.2.1 dX2_readComing_19 (by decide) ?_
    obtain ⟨rfl, rfl⟩ := o_ret2 h
    exact x_iret X hP hS dX2_readComing_21
/-- FordQuestions$Reader.topicOf(C)I -/
def f_X2_topicOf (a0 : Int32) (t : Mm) : Option (Int32 × Mm) := if a0 < 97 then (some ((-4), t)) else (if 104 < a0 then (some ((-4), t)) else (some ((a0 - 97), t)))
theorem hd_X2_topicOf : x_hd yX2_topicOf 1 := by decide +kernel
set_option maxRecDepth 100000 in
set_option maxHeartbeats 4000000 in
theorem c_X2_topicOf (l : Launch) (g : Ly) (hG : XG shC g) (a0 : Int32) (t : Mm) {r : Int32} {t' : Mm} (h : f_X2_topicOf a0 t = some (r, t')) : MI l yX2_topicOf cX2_topicOf 1 (some .int) 1 shC g [.int a0] t (XQi shC g r t') := by
  refine x_met hG (by decide +kernel) (Nat.le_of_ble_eq_true rfl) ?_
  intro p e s m below meth c ls X hP hl
  have hS : va_S (XA shC g) s.heap s.heap [] := va_S.rf
  have hl : lv_has ls 1 [(0, .int a0)] := hl
  unfold f_X2_topicOf at h
  generalize ([.int a0] : List Value).toArray = args at X ⊢
  refine lv_iload_n X.1.1 X.1.2.1 dX2_topicOf_0 rfl (lv_at hl 0 rfl) ?_
  refine lv_bipush (v := 97) X.1.1 X.1.2.1 dX2_topicOf_1 (by decide) ?_
  refine lv_icmp_lt (tgt := 19) X.1.1 X.1.2.1 dX2_topicOf_3 (by decide) (fun c_1 => ?_) (fun c_1 => ?_)
  · have h := o_pos c_1 h
    refine lv_bipush (v := (-4)) X.1.1 X.1.2.1 dX2_topicOf_19 (by decide) ?_
    obtain ⟨rfl, rfl⟩ := o_ret2 h
    exact x_iret X hP hS dX2_topicOf_21
  · have h := o_neg c_1 h
    refine lv_iload_n X.1.1 X.1.2.1 dX2_topicOf_6 rfl (lv_at hl 0 rfl) ?_
    refine lv_bipush (v := 104) X.1.1 X.1.2.1 dX2_topicOf_7 (by decide) ?_
    refine lv_icmp_gt (tgt := 19) X.1.1 X.1.2.1 dX2_topicOf_9 (by decide) (fun c_2 => ?_) (fun c_2 => ?_)
    · have h := o_pos c_2 h
      refine lv_bipush (v := (-4)) X.1.1 X.1.2.1 dX2_topicOf_19 (by decide) ?_
      obtain ⟨rfl, rfl⟩ := o_ret2 h
      exact x_iret X hP hS dX2_topicOf_21
    · have h := o_neg c_2 h
      refine lv_iload_n X.1.1 X.1.2.1 dX2_topicOf_12 rfl (lv_at hl 0 rfl) ?_
      refine lv_bipush (v := 97) X.1.1 X.1.2.1 dX2_topicOf_13 (by decide) ?_
      refine lv_isub X.1.1 X.1.2.1 dX2_topicOf_15 ?_
      refine lv_goto (tgt := 21) X.1.1 X.1.2.1 dX2_topicOf_16 (by decide) ?_
      obtain ⟨rfl, rfl⟩ := o_ret2 h
      exact x_iret X hP hS dX2_topicOf_21
def f_X2_readTopics_37 (N : Nat) (k4 : Int32 × Int32 × Mm → Option (Int32 × Mm)) (x1 : Int32) (x2 : Int32) (t : Mm) : Option (Int32 × Mm) := k4 (x1, (x2 + 1), t)
def b_X2_readTopics_4 (N : Nat) (k4 : Int32 × Int32 × Mm → Option (Int32 × Mm)) (x1 : Int32) (x2 : Int32) (t : Mm) : Option (Int32 × Mm) := if 8 ≤ x2 then (some (x1, t)) else (o_bd (f_X2_nextLetter N t) fun (r_4, t_2) => o_bd (f_X2_topicOf r_4 t_2) fun (r_8, t_6) => if r_8 = x2 then (o_nm ((x1 ||| (1 <<< (x2 &&& 31)))) fun x_11 => o_nm (sI t_6 3 3 0 2 ((t_6.1 3 3 0 2) + 1)) fun t_13 => f_X2_readTopics_37 N k4 x_11 x2 t_13) else (f_X2_readTopics_37 N k4 x1 x2 t_6))
def f_X2_readTopics_4 (N : Nat) (x1 : Int32) (x2 : Int32) (t : Mm) : Option (Int32 × Mm) := o_lp (fun k x => b_X2_readTopics_4 N k x.1 x.2.1 x.2.2) N (x1, x2, t)
/-- FordQuestions$Reader.readTopics()I -/
def f_X2_readTopics (N : Nat) (t : Mm) : Option (Int32 × Mm) := f_X2_readTopics_4 N 0 0 t
theorem hd_X2_readTopics : x_hd yX2_readTopics 0 := by decide +kernel
set_option maxRecDepth 100000 in
set_option maxHeartbeats 4000000 in
theorem w_X2_readTopics_37 {l : Launch} {g : Ly} {p : Program} {e : Env} {s : State} {m : MethodId} {args : Array Value} {below : List Frame} {meth : Method} {c : Code} (N : Nat) (X : XC p m meth c cX2_readTopics 3 s args (.code yX2_readTopics cX2_readTopics 3 (some .int)) RX2 (some .int) shC g) {r : Int32} {t' : Mm} {k4 : Int32 × Int32 × Mm → Option (Int32 × Mm)} (hk4 : ∀ x : Int32 × Int32 × Mm, k4 x = some (r, t') → ∀ (H : Heap) (locs : List Loc) (ls : Array Slot), XP shC g x.2.2 H → va_S (XA shC g) s.heap H locs → lv_has ls 3 [(0, .ref (g.2.2 (3, 3, 0))), (1, .int x.1), (2, .int x.2.1)] → W p l e (rmv 3) s m args below meth c H locs 0 0 (MQ below (XQi shC g r t') args s 0 0 (XA shC g)) (F0 m 4 ls [])) (x1 : Int32) (x2 : Int32) (t : Mm) (H : Heap) (locs : List Loc) (ls : Array Slot) (hP : XP shC g t H) (hS : va_S (XA shC g) s.heap H locs) (hl : lv_has ls 3 [(0, .ref (g.2.2 (3, 3, 0))), (1, .int x1), (2, .int x2)]) (h : f_X2_readTopics_37 N k4 x1 x2 t = some (r, t')) : W p l e (rmv 3) s m args below meth c H locs 0 0 (MQ below (XQi shC g r t') args s 0 0 (XA shC g)) (F0 m 37 ls []) := by
  unfold f_X2_readTopics_37 at h
  refine lv_iinc (v := (x2 + 1)) (lv' := [(2, .int (x2 + 1)), (0, .ref (g.2.2 (3, 3, 0))), (1, .int x1)]) X.1.1 X.1.2.1 dX2_readTopics_37 hl (k := 2) rfl rfl (by decide) rfl (fun ls hl => ?_)
  refine lv_goto (tgt := 4) X.1.1 X.1.2.1 dX2_readTopics_40 (by decide) ?_
  exact hk4 (x1, (x2 + 1), t) h _ _ _ hP hS (lv_sub hl [1, 2, 0] rfl)
set_option maxRecDepth 100000 in
set_option maxHeartbeats 4000000 in
theorem wb_X2_readTopics_4 {l : Launch} {g : Ly} {p : Program} {e : Env} {s : State} {m : MethodId} {args : Array Value} {below : List Frame} {meth : Method} {c : Code} (N : Nat) (X : XC p m meth c cX2_readTopics 3 s args (.code yX2_readTopics cX2_readTopics 3 (some .int)) RX2 (some .int) shC g) {r : Int32} {t' : Mm} {k4 : Int32 × Int32 × Mm → Option (Int32 × Mm)} (hk4 : ∀ x : Int32 × Int32 × Mm, k4 x = some (r, t') → ∀ (H : Heap) (locs : List Loc) (ls : Array Slot), XP shC g x.2.2 H → va_S (XA shC g) s.heap H locs → lv_has ls 3 [(0, .ref (g.2.2 (3, 3, 0))), (1, .int x.1), (2, .int x.2.1)] → W p l e (rmv 3) s m args below meth c H locs 0 0 (MQ below (XQi shC g r t') args s 0 0 (XA shC g)) (F0 m 4 ls [])) (x1 : Int32) (x2 : Int32) (t : Mm) (H : Heap) (locs : List Loc) (ls : Array Slot) (hP : XP shC g t H) (hS : va_S (XA shC g) s.heap H locs) (hl : lv_has ls 3 [(0, .ref (g.2.2 (3, 3, 0))), (1, .int x1), (2, .int x2)]) (h : b_X2_readTopics_4 N k4 x1 x2 t = some (r, t')) : W p l e (rmv 3) s m args below meth c H locs 0 0 (MQ below (XQi shC g r t') args s 0 0 (XA shC g)) (F0 m 4 ls []) := by
  unfold b_X2_readTopics_4 at h
  refine lv_iload_n X.1.1 X.1.2.1 dX2_readTopics_4 rfl (lv_at hl 2 rfl) ?_
  refine lv_bipush (v := 8) X.1.1 X.1.2.1 dX2_readTopics_5 (by decide) ?_
  refine lv_icmp_ge (tgt := 43) X.1.1 X.1.2.1 dX2_readTopics_7 (by decide) (fun c_1 => ?_) (fun c_1 => ?_)
  · have h := o_pos c_1 h
    refine lv_iload_n X.1.1 X.1.2.1 dX2_readTopics_43 rfl (lv_at hl 1 rfl) ?_
    obtain ⟨rfl, rfl⟩ := o_ret2 h
    exact x_iret X hP hS dX2_readTopics_44
  · have h := o_neg c_1 h
    refine lv_aload_n X.1.1 X.1.2.1 dX2_readTopics_10 rfl (lv_at hl 0 rfl) ?_
    obtain ⟨⟨r_4, t_2⟩, hc_3, h⟩ := o_bd_inv h
    refine x_calli (x_runV (As := []) (rest := []) X hP hS (c_X2_nextLetter l g N X.2.2.2.2.1 t hc_3) ⟨wd_413, wd_410, wd_412, wd_1, wd_58⟩ hd_X2_nextLetter ⟨by omega, by decide⟩ (x_recv X hP (ci := 2) rfl (kyO (by decide)) rfl) rfl hl.1 rfl (Nat.le_of_ble_eq_true rfl) dX2_readTopics_11) hS (fun H locs hP hS => ?_)
    obtain ⟨⟨r_8, t_6⟩, hc_7, h⟩ := o_bd_inv h
    refine x_calli (x_runS (As := [.int r_4]) (rest := []) X hP hS (c_X2_topicOf l g X.2.2.2.2.1 r_4 t_2 hc_7) ⟨wd_420, wd_418, wd_419, wd_58⟩ hd_X2_topicOf ⟨by omega, by decide⟩ rfl hl.1 rfl (Nat.le_of_ble_eq_true rfl) dX2_readTopics_14) hS (fun H locs hP hS => ?_)
    refine lv_iload_n X.1.1 X.1.2.1 dX2_readTopics_17 rfl (lv_at hl 2 rfl) ?_
    refine lv_icmp_ne (tgt := 37) X.1.1 X.1.2.1 dX2_readTopics_18 (by decide) (fun c_10 => ?_) (fun c_10 => ?_)
    · have h := o_neg c_10 h
      exact w_X2_readTopics_37 N X hk4 x1 x2 t_6 _ _ _ hP hS (lv_sub hl [0, 1, 2] rfl) h
    · have h := o_pos c_10 h
      refine lv_iload_n X.1.1 X.1.2.1 dX2_readTopics_21 rfl (lv_at hl 1 rfl) ?_
      refine lv_iconst (v := 1) X.1.1 X.1.2.1 dX2_readTopics_22 (by decide) ?_
      refine lv_iload_n X.1.1 X.1.2.1 dX2_readTopics_23 rfl (lv_at hl 2 rfl) ?_
      refine lv_ishl X.1.1 X.1.2.1 dX2_readTopics_24 ?_
      refine lv_ior X.1.1 X.1.2.1 dX2_readTopics_25 ?_
      refine lv_topi (fun x_11 e_12 => ?_)
      have h := o_nm_to e_12 h
      refine lv_istore_n (lv' := [(1, .int x_11), (0, .ref (g.2.2 (3, 3, 0))), (2, .int x2)]) X.1.1 X.1.2.1 dX2_readTopics_26 rfl hl (by decide) rfl (fun ls hl => ?_)
      refine lv_aload_n X.1.1 X.1.2.1 dX2_readTopics_27 rfl (lv_at hl 1 rfl) ?_
      refine lv_dup X.1.1 X.1.2.1 dX2_readTopics_28 rfl ?_
      refine gt_X2_2 X hP (kyO (by decide)) wd_202 dX2_readTopics_29 ?_
      refine lv_iconst (v := 1) X.1.1 X.1.2.1 dX2_readTopics_32 (by decide) ?_
      refine lv_iadd X.1.1 X.1.2.1 dX2_readTopics_33 ?_
      obtain ⟨t_13, e_14, h⟩ := o_nm_inv h
      refine pt_X2_2 (x := ((t_6.1 3 3 0 2) + 1)) X hP hS (kyO (by decide)) wd_202 dX2_readTopics_34 (fun H locs hP hS => ?_)
      have hP : XP shC g t_13 H := by rw [e_14]; exact hP
      exact w_X2_readTopics_37 N X hk4 x_11 x2 t_13 _ _ _ hP hS (lv_sub hl [1, 0, 2] rfl) h
set_option maxRecDepth 100000 in
set_option maxHeartbeats 4000000 in
theorem w_X2_readTopics_4 {l : Launch} {g : Ly} {p : Program} {e : Env} {s : State} {m : MethodId} {args : Array Value} {below : List Frame} {meth : Method} {c : Code} (N : Nat) (X : XC p m meth c cX2_readTopics 3 s args (.code yX2_readTopics cX2_readTopics 3 (some .int)) RX2 (some .int) shC g) {r : Int32} {t' : Mm} (x1 : Int32) (x2 : Int32) (t : Mm) (H : Heap) (locs : List Loc) (ls : Array Slot) (hP : XP shC g t H) (hS : va_S (XA shC g) s.heap H locs) (hl : lv_has ls 3 [(0, .ref (g.2.2 (3, 3, 0))), (1, .int x1), (2, .int x2)]) (h : f_X2_readTopics_4 N x1 x2 t = some (r, t')) : W p l e (rmv 3) s m args below meth c H locs 0 0 (MQ below (XQi shC g r t') args s 0 0 (XA shC g)) (F0 m 4 ls []) :=
  o_lp_ind (P := fun x : Int32 × Int32 × Mm => ∀ (H : Heap) (locs : List Loc) (ls : Array Slot), XP shC g x.2.2 H → va_S (XA shC g) s.heap H locs → lv_has ls 3 [(0, .ref (g.2.2 (3, 3, 0))), (1, .int x.1), (2, .int x.2.1)] → W p l e (rmv 3) s m args below meth c H locs 0 0 (MQ below (XQi shC g r t') args s 0 0 (XA shC g)) (F0 m 4 ls [])) (fun k hk x h H locs ls hP hS hl => wb_X2_readTopics_4 N X hk x.1 x.2.1 x.2.2 H locs ls hP hS hl h) N (x1, x2, t) h H locs ls hP hS hl
set_option maxRecDepth 100000 in
set_option maxHeartbeats 4000000 in
theorem c_X2_readTopics (l : Launch) (g : Ly) (N : Nat) (hG : XG shC g) (t : Mm) {r : Int32} {t' : Mm} (h : f_X2_readTopics N t = some (r, t')) : MI l yX2_readTopics cX2_readTopics 3 (some .int) 3 shC g [.ref (g.2.2 (3, 3, 0))] t (XQi shC g r t') := by
  refine x_met hG (by decide +kernel) (Nat.le_of_ble_eq_true rfl) ?_
  intro p e s m below meth c ls X hP hl
  have hS : va_S (XA shC g) s.heap s.heap [] := va_S.rf
  have hl : lv_has ls 3 [(0, .ref (g.2.2 (3, 3, 0)))] := hl
  unfold f_X2_readTopics at h
  generalize ([.ref (g.2.2 (3, 3, 0))] : List Value).toArray = args at X ⊢
  refine lv_iconst (v := 0) X.1.1 X.1.2.1 dX2_readTopics_0 (by decide) ?_
  refine lv_istore_n (lv' := [(1, .int 0), (0, .ref (g.2.2 (3, 3, 0)))]) X.1.1 X.1.2.1 dX2_readTopics_1 rfl hl (by decide) rfl (fun ls hl => ?_)
  refine lv_iconst (v := 0) X.1.1 X.1.2.1 dX2_readTopics_2 (by decide) ?_
  refine lv_istore_n (lv' := [(2, .int 0), (1, .int 0), (0, .ref (g.2.2 (3, 3, 0)))]) X.1.1 X.1.2.1 dX2_readTopics_3 rfl hl (by decide) rfl (fun ls hl => ?_)
  exact w_X2_readTopics_4 N X 0 0 t _ _ _ hP hS (lv_sub hl [2, 1, 0] rfl) h
def f_X2_readCrosser_65 (N : Nat) (x1 : Int32) (x2 : Int32) (s0 : Int32) (t : Mm) : Option (Int32 × Mm) := if s0 = (-4) then (some (0, t)) else (o_bd (f_X0_addCrosser 20 x1 x2 s0 t) fun (r_4, t_2) => some (1, t_2))
def f_X2_readCrosser_48 (N : Nat) (x1 : Int32) (x2 : Int32) (t : Mm) : Option (Int32 × Mm) := o_bd (f_X2_accepts N 64 t) fun (r_8, t_6) => if r_8 = 0 then (f_X2_readCrosser_65 N x1 x2 0 t_6) else (o_bd (f_X2_readComing N t_6) fun (r_13, t_11) => f_X2_readCrosser_65 N x1 x2 r_13 t_11)
/-- FordQuestions$Reader.readCrosser()Z -/
def f_X2_readCrosser (N : Nat) (t : Mm) : Option (Int32 × Mm) := o_bd (f_X2_nextLetter N t) fun (r_17, t_15) => o_bd (f_X2_kindOf N r_17 t_15) fun (r_21, t_19) => if r_21 = (-4) then (some (0, t_19)) else (o_nm (sI t_19 3 3 0 2 ((t_19.1 3 3 0 2) + 1)) fun t_24 => o_bd (f_X2_accepts N 58 t_24) fun (r_28, t_26) => if r_28 = 0 then (f_X2_readCrosser_48 N r_21 0 t_26) else (o_bd (f_X2_readTopics N t_26) fun (r_33, t_31) => if r_33 = 0 then (some (0, t_31)) else (f_X2_readCrosser_48 N r_21 r_33 t_31)))
theorem hd_X2_readCrosser : x_hd yX2_readCrosser 0 := by decide +kernel
set_option maxRecDepth 100000 in
set_option maxHeartbeats 4000000 in
theorem w_X2_readCrosser_65 {l : Launch} {g : Ly} {p : Program} {e : Env} {s : State} {m : MethodId} {args : Array Value} {below : List Frame} {meth : Method} {c : Code} (N : Nat) (X : XC p m meth c cX2_readCrosser 4 s args (.code yX2_readCrosser cX2_readCrosser 4 (some .boolean)) RX2 (some .boolean) shC g) {r : Int32} {t' : Mm} (x1 : Int32) (x2 : Int32) (s0 : Int32) (t : Mm) (H : Heap) (locs : List Loc) (ls : Array Slot) (hP : XP shC g t H) (hS : va_S (XA shC g) s.heap H locs) (hl : lv_has ls 4 [(0, .ref (g.2.2 (3, 3, 0))), (1, .int x1), (2, .int x2)]) (h : f_X2_readCrosser_65 N x1 x2 s0 t = some (r, t')) : W p l e (rmv 6) s m args below meth c H locs 0 0 (MQ below (XQi shC g r t') args s 0 0 (XA shC g)) (F0 m 65 ls [.int s0]) := by
  unfold f_X2_readCrosser_65 at h
  refine lv_istore_n (lv' := [(3, .int s0), (0, .ref (g.2.2 (3, 3, 0))), (1, .int x1), (2, .int x2)]) X.1.1 X.1.2.1 dX2_readCrosser_65 rfl hl (by decide) rfl (fun ls hl => ?_)
  refine lv_iload_n X.1.1 X.1.2.1 dX2_readCrosser_66 rfl (lv_at hl 0 rfl) ?_
  refine lv_bipush (v := (-4)) X.1.1 X.1.2.1 dX2_readCrosser_67 (by decide) ?_
  refine lv_icmp_ne (tgt := 74) X.1.1 X.1.2.1 dX2_readCrosser_69 (by decide) (fun c_1 => ?_) (fun c_1 => ?_)
  · have h := o_neg c_1 h
    refine lv_aload_n X.1.1 X.1.2.1 dX2_readCrosser_74 rfl (lv_at hl 1 rfl) ?_
    refine gt_X2_1 X hP (kyO (by decide)) wd_200 dX2_readCrosser_75 ?_
    refine lv_iload_n X.1.1 X.1.2.1 dX2_readCrosser_78 rfl (lv_at hl 2 rfl) ?_
    refine lv_iload_n X.1.1 X.1.2.1 dX2_readCrosser_79 rfl (lv_at hl 3 rfl) ?_
    refine lv_iload_n X.1.1 X.1.2.1 dX2_readCrosser_80 rfl (lv_at hl 0 rfl) ?_
    obtain ⟨⟨r_4, t_2⟩, hc_3, h⟩ := o_bd_inv h
    refine x_calli (x_runV (As := [.int x1, .int x2, .int s0]) (rest := []) X hP hS (c_X0_addCrosser l g 20 X.2.2.2.2.1 (by omega) x1 x2 s0 t hc_3) ⟨wd_334, wd_535, wd_332, wd_333, wd_56⟩ hd_X0_addCrosser ⟨by omega, by decide⟩ (x_recv X hP (ci := 0) rfl (kyF (by omega) (by decide)) rfl) rfl hl.1 rfl (Nat.le_of_ble_eq_true rfl) dX2_readCrosser_81) hS (fun H locs hP hS => ?_)
    refine lv_pop X.1.1 X.1.2.1 dX2_readCrosser_84 rfl ?_
    refine lv_iconst (v := 1) X.1.1 X.1.2.1 dX2_readCrosser_85 (by decide) ?_
    obtain ⟨rfl, rfl⟩ := o_ret2 h
    exact x_zret rfl X hP hS dX2_readCrosser_86
  · have h := o_pos c_1 h
    refine lv_iconst (v := 0) X.1.1 X.1.2.1 dX2_readCrosser_72 (by decide) ?_
    obtain ⟨rfl, rfl⟩ := o_ret2 h
    exact x_zret rfl X hP hS dX2_readCrosser_73
set_option maxRecDepth 100000 in
set_option maxHeartbeats 4000000 in
theorem w_X2_readCrosser_48 {l : Launch} {g : Ly} {p : Program} {e : Env} {s : State} {m : MethodId} {args : Array Value} {below : List Frame} {meth : Method} {c : Code} (N : Nat) (X : XC p m meth c cX2_readCrosser 4 s args (.code yX2_readCrosser cX2_readCrosser 4 (some .boolean)) RX2 (some .boolean) shC g) {r : Int32} {t' : Mm} (x1 : Int32) (x2 : Int32) (t : Mm) (H : Heap) (locs : List Loc) (ls : Array Slot) (hP : XP shC g t H) (hS : va_S (XA shC g) s.heap H locs) (hl : lv_has ls 4 [(0, .ref (g.2.2 (3, 3, 0))), (1, .int x1), (2, .int x2)]) (h : f_X2_readCrosser_48 N x1 x2 t = some (r, t')) : W p l e (rmv 6) s m args below meth c H locs 0 0 (MQ below (XQi shC g r t') args s 0 0 (XA shC g)) (F0 m 48 ls []) := by
  unfold f_X2_readCrosser_48 at h
  refine lv_aload_n X.1.1 X.1.2.1 dX2_readCrosser_48 rfl (lv_at hl 0 rfl) ?_
  refine lv_bipush (v := 64) X.1.1 X.1.2.1 dX2_readCrosser_49 (by decide) ?_
  obtain ⟨⟨r_8, t_6⟩, hc_7, h⟩ := o_bd_inv h
  refine x_calli (x_runV (As := [.int 64]) (rest := []) X hP hS (c_X2_accepts l g N X.2.2.2.2.1 64 t hc_7) ⟨wd_429, wd_426, wd_428, wd_4, wd_58⟩ hd_X2_accepts ⟨by omega, by decide⟩ (x_recv X hP (ci := 2) rfl (kyO (by decide)) rfl) rfl hl.1 rfl (Nat.le_of_ble_eq_true rfl) dX2_readCrosser_51) hS (fun H locs hP hS => ?_)
  refine lv_if_eq (tgt := 64) X.1.1 X.1.2.1 dX2_readCrosser_54 (by decide) (fun c_10 => ?_) (fun c_10 => ?_)
  · have h := o_pos c_10 h
    refine lv_iconst (v := 0) X.1.1 X.1.2.1 dX2_readCrosser_64 (by decide) ?_
    exact w_X2_readCrosser_65 N X x1 x2 0 t_6 _ _ _ hP hS (lv_sub hl [0, 1, 2] rfl) h
  · have h := o_neg c_10 h
    refine lv_aload_n X.1.1 X.1.2.1 dX2_readCrosser_57 rfl (lv_at hl 0 rfl) ?_
    obtain ⟨⟨r_13, t_11⟩, hc_12, h⟩ := o_bd_inv h
    refine x_calli (x_runV (As := []) (rest := []) X hP hS (c_X2_readComing l g N X.2.2.2.2.1 t_6 hc_12) ⟨wd_531, wd_528, wd_530, wd_8, wd_58⟩ hd_X2_readComing ⟨by omega, by decide⟩ (x_recv X hP (ci := 2) rfl (kyO (by decide)) rfl) rfl hl.1 rfl (Nat.le_of_ble_eq_true rfl) dX2_readCrosser_58) hS (fun H locs hP hS => ?_)
    refine lv_goto (tgt := 65) X.1.1 X.1.2.1 dX2_readCrosser_61 (by decide) ?_
    exact w_X2_readCrosser_65 N X x1 x2 r_13 t_11 _ _ _ hP hS (lv_sub hl [0, 1, 2] rfl) h
set_option maxRecDepth 100000 in
set_option maxHeartbeats 4000000 in
theorem c_X2_readCrosser (l : Launch) (g : Ly) (N : Nat) (hG : XG shC g) (t : Mm) {r : Int32} {t' : Mm} (h : f_X2_readCrosser N t = some (r, t')) : MI l yX2_readCrosser cX2_readCrosser 4 (some .boolean) 6 shC g [.ref (g.2.2 (3, 3, 0))] t (XQi shC g r t') := by
  refine x_met hG (by decide +kernel) (Nat.le_of_ble_eq_true rfl) ?_
  intro p e s m below meth c ls X hP hl
  have hS : va_S (XA shC g) s.heap s.heap [] := va_S.rf
  have hl : lv_has ls 4 [(0, .ref (g.2.2 (3, 3, 0)))] := hl
  unfold f_X2_readCrosser at h
  generalize ([.ref (g.2.2 (3, 3, 0))] : List Value).toArray = args at X ⊢
  refine lv_aload_n X.1.1 X.1.2.1 dX2_readCrosser_0 rfl (lv_at hl 0 rfl) ?_
  obtain ⟨⟨r_17, t_15⟩, hc_16, h⟩ := o_bd_inv h
  refine x_calli (x_runV (As := []) (rest := []) X hP hS (c_X2_nextLetter l g N X.2.2.2.2.1 t hc_16) ⟨wd_413, wd_410, wd_412, wd_1, wd_58⟩ hd_X2_nextLetter ⟨by omega, by decide⟩ (x_recv X hP (ci := 2) rfl (kyO (by decide)) rfl) rfl hl.1 rfl (Nat.le_of_ble_eq_true rfl) dX2_readCrosser_1) hS (fun H locs hP hS => ?_)
  obtain ⟨⟨r_21, t_19⟩, hc_20, h⟩ := o_bd_inv h
  refine x_calli (x_runS (As := [.int r_17]) (rest := []) X hP hS (c_X2_kindOf l g N X.2.2.2.2.1 r_17 t_15 hc_20) ⟨wd_440, wd_438, wd_439, wd_58⟩ hd_X2_kindOf ⟨by omega, by decide⟩ rfl hl.1 rfl (Nat.le_of_ble_eq_true rfl) dX2_readCrosser_4) hS (fun H locs hP hS => ?_)
  refine lv_istore_n (lv' := [(1, .int r_21), (0, .ref (g.2.2 (3, 3, 0)))]) X.1.1 X.1.2.1 dX2_readCrosser_7 rfl hl (by decide) rfl (fun ls hl => ?_)
  refine lv_iload_n X.1.1 X.1.2.1 dX2_readCrosser_8 rfl (lv_at hl 0 rfl) ?_
  refine lv_bipush (v := (-4)) X.1.1 X.1.2.1 dX2_readCrosser_9 (by decide) ?_
  refine lv_icmp_ne (tgt := 16) X.1.1 X.1.2.1 dX2_readCrosser_11 (by decide) (fun c_23 => ?_) (fun c_23 => ?_)
  · have h := o_neg c_23 h
    refine lv_aload_n X.1.1 X.1.2.1 dX2_readCrosser_16 rfl (lv_at hl 1 rfl) ?_
    refine lv_dup X.1.1 X.1.2.1 dX2_readCrosser_17 rfl ?_
    refine gt_X2_2 X hP (kyO (by decide)) wd_202 dX2_readCrosser_18 ?_
    refine lv_iconst (v := 1) X.1.1 X.1.2.1 dX2_readCrosser_21 (by decide) ?_
    refine lv_iadd X.1.1 X.1.2.1 dX2_readCrosser_22 ?_
    obtain ⟨t_24, e_25, h⟩ := o_nm_inv h
    refine pt_X2_2 (x := ((t_19.1 3 3 0 2) + 1)) X hP hS (kyO (by decide)) wd_202 dX2_readCrosser_23 (fun H locs hP hS => ?_)
    have hP : XP shC g t_24 H := by rw [e_25]; exact hP
    refine lv_iconst (v := 0) X.1.1 X.1.2.1 dX2_readCrosser_26 (by decide) ?_
    refine lv_istore_n (lv' := [(2, .int 0), (1, .int r_21), (0, .ref (g.2.2 (3, 3, 0)))]) X.1.1 X.1.2.1 dX2_readCrosser_27 rfl hl (by decide) rfl (fun ls hl => ?_)
    refine lv_aload_n X.1.1 X.1.2.1 dX2_readCrosser_28 rfl (lv_at hl 2 rfl) ?_
    refine lv_bipush (v := 58) X.1.1 X.1.2.1 dX2_readCrosser_29 (by decide) ?_
    obtain ⟨⟨r_28, t_26⟩, hc_27, h⟩ := o_bd_inv h
    refine x_calli (x_runV (As := [.int 58]) (rest := []) X hP hS (c_X2_accepts l g N X.2.2.2.2.1 58 t_24 hc_27) ⟨wd_429, wd_426, wd_428, wd_4, wd_58⟩ hd_X2_accepts ⟨by omega, by decide⟩ (x_recv X hP (ci := 2) rfl (kyO (by decide)) rfl) rfl hl.1 rfl (Nat.le_of_ble_eq_true rfl) dX2_readCrosser_31) hS (fun H locs hP hS => ?_)
    refine lv_if_eq (tgt := 48) X.1.1 X.1.2.1 dX2_readCrosser_34 (by decide) (fun c_30 => ?_) (fun c_30 => ?_)
    · have h := o_pos c_30 h
      exact w_X2_readCrosser_48 N X r_21 0 t_26 _ _ _ hP hS (lv_sub hl [2, 1, 0] rfl) h
    · have h := o_neg c_30 h
      refine lv_aload_n X.1.1 X.1.2.1 dX2_readCrosser_37 rfl (lv_at hl 2 rfl) ?_
      obtain ⟨⟨r_33, t_31⟩, hc_32, h⟩ := o_bd_inv h
      refine x_calli (x_runV (As := []) (rest := []) X hP hS (c_X2_readTopics l g N X.2.2.2.2.1 t_26 hc_32) ⟨wd_527, wd_524, wd_526, wd_7, wd_58⟩ hd_X2_readTopics ⟨by omega, by decide⟩ (x_recv X hP (ci := 2) rfl (kyO (by decide)) rfl) rfl hl.1 rfl (Nat.le_of_ble_eq_true rfl) dX2_readCrosser_38) hS (fun H locs hP hS => ?_)
      refine lv_istore_n (lv' := [(2, .int r_33), (1, .int r_21), (0, .ref (g.2.2 (3, 3, 0)))]) X.1.1 X.1.2.1 dX2_readCrosser_41 rfl hl (by decide) rfl (fun ls hl => ?_)
      refine lv_iload_n X.1.1 X.1.2.1 dX2_readCrosser_42 rfl (lv_at hl 0 rfl) ?_
      refine lv_if_ne (tgt := 48) X.1.1 X.1.2.1 dX2_readCrosser_43 (by decide) (fun c_35 => ?_) (fun c_35 => ?_)
      · have h := o_neg c_35 h
        exact w_X2_readCrosser_48 N X r_21 r_33 t_31 _ _ _ hP hS (lv_sub hl [2, 1, 0] rfl) h
      · have h := o_pos c_35 h
        refine lv_iconst (v := 0) X.1.1 X.1.2.1 dX2_readCrosser_46 (by decide) ?_
        obtain ⟨rfl, rfl⟩ := o_ret2 h
        exact x_zret rfl X hP hS dX2_readCrosser_47
  · have h := o_pos c_23 h
    refine lv_iconst (v := 0) X.1.1 X.1.2.1 dX2_readCrosser_14 (by decide) ?_
    obtain ⟨rfl, rfl⟩ := o_ret2 h
    exact x_zret rfl X hP hS dX2_readCrosser_15
def f_X2_readCrossers_22 (N : Nat) (k2 : Int32 × Mm → Option (Int32 × Mm)) (x1 : Int32) (t : Mm) : Option (Int32 × Mm) := o_bd (f_X2_readCrosser N t) fun (r_3, t_1) => if r_3 = 0 then (some (0, t_1)) else (k2 ((x1 + 1), t_1))
def b_X2_readCrossers_2 (N : Nat) (k2 : Int32 × Mm → Option (Int32 × Mm)) (x1 : Int32) (t : Mm) : Option (Int32 × Mm) := if 5 ≤ x1 then (some (1, t)) else (if x1 ≤ 0 then (f_X2_readCrossers_22 N k2 x1 t) else (o_bd (f_X2_accepts N 44 t) fun (r_10, t_8) => if r_10 = 0 then (some (1, t_8)) else (f_X2_readCrossers_22 N k2 x1 t_8)))
def f_X2_readCrossers_2 (N : Nat) (x1 : Int32) (t : Mm) : Option (Int32 × Mm) := o_lp (fun k x => b_X2_readCrossers_2 N k x.1 x.2) N (x1, t)
/-- FordQuestions$Reader.readCrossers()Z -/
def f_X2_readCrossers (N : Nat) (t : Mm) : Option (Int32 × Mm) := f_X2_readCrossers_2 N 0 t
theorem hd_X2_readCrossers : x_hd yX2_readCrossers 0 := by decide +kernel
set_option maxRecDepth 100000 in
set_option maxHeartbeats 4000000 in
theorem w_X2_readCrossers_22 {l : Launch} {g : Ly} {p : Program} {e : Env} {s : State} {m : MethodId} {args : Array Value} {below : List Frame} {meth : Method} {c : Code} (N : Nat) (X : XC p m meth c cX2_readCrossers 2 s args (.code yX2_readCrossers cX2_readCrossers 2 (some .boolean)) RX2 (some .boolean) shC g) {r : Int32} {t' : Mm} {k2 : Int32 × Mm → Option (Int32 × Mm)} (hk2 : ∀ x : Int32 × Mm, k2 x = some (r, t') → ∀ (H : Heap) (locs : List Loc) (ls : Array Slot), XP shC g x.2 H → va_S (XA shC g) s.heap H locs → lv_has ls 2 [(0, .ref (g.2.2 (3, 3, 0))), (1, .int x.1)] → W p l e (rmv 7) s m args below meth c H locs 0 0 (MQ below (XQi shC g r t') args s 0 0 (XA shC g)) (F0 m 2 ls [])) (x1 : Int32) (t : Mm) (H : Heap) (locs : List Loc) (ls : Array Slot) (hP : XP shC g t H) (hS : va_S (XA shC g) s.heap H locs) (hl : lv_has ls 2 [(0, .ref (g.2.2 (3, 3, 0))), (1, .int x1)]) (h : f_X2_readCrossers_22 N k2 x1 t = some (r, t')) : W p l e (rmv 7) s m args below meth c H locs 0 0 (MQ below (XQi shC g r t') args s 0 0 (XA shC g)) (F0 m 22 ls []) := by
  unfold f_X2_readCrossers_22 at h
  refine lv_aload_n X.1.1 X.1.2.1 dX2_readCrossers_22 rfl (lv_at hl 0 rfl) ?_
  obtain ⟨⟨r_3, t_1⟩, hc_2, h⟩ := o_bd_inv h
  refine x_calli (x_runV (As := []) (rest := []) X hP hS (c_X2_readCrosser l g N X.2.2.2.2.1 t hc_2) ⟨wd_437, wd_434, wd_436, wd_6, wd_58⟩ hd_X2_readCrosser ⟨by omega, by decide⟩ (x_recv X hP (ci := 2) rfl (kyO (by decide)) rfl) rfl hl.1 rfl (Nat.le_of_ble_eq_true rfl) dX2_readCrossers_23) hS (fun H locs hP hS => ?_)
  refine lv_if_ne (tgt := 31) X.1.1 X.1.2.1 dX2_readCrossers_26 (by decide) (fun c_5 => ?_) (fun c_5 => ?_)
  · have h := o_neg c_5 h
    refine lv_iinc (v := (x1 + 1)) (lv' := [(1, .int (x1 + 1)), (0, .ref (g.2.2 (3, 3, 0)))]) X.1.1 X.1.2.1 dX2_readCrossers_31 hl (k := 1) rfl rfl (by decide) rfl (fun ls hl => ?_)
    refine lv_goto (tgt := 2) X.1.1 X.1.2.1 dX2_readCrossers_34 (by decide) ?_
    exact hk2 ((x1 + 1), t_1) h _ _ _ hP hS (lv_sub hl [1, 0] rfl)
  · have h := o_pos c_5 h
    refine lv_iconst (v := 0) X.1.1 X.1.2.1 dX2_readCrossers_29 (by decide) ?_
    obtain ⟨rfl, rfl⟩ := o_ret2 h
    exact x_zret rfl X hP hS dX2_readCrossers_30
set_option maxRecDepth 100000 in
set_option maxHeartbeats 4000000 in
theorem wb_X2_readCrossers_2 {l : Launch} {g : Ly} {p : Program} {e : Env} {s : State} {m : MethodId} {args : Array Value} {below : List Frame} {meth : Method} {c : Code} (N : Nat) (X : XC p m meth c cX2_readCrossers 2 s args (.code yX2_readCrossers cX2_readCrossers 2 (some .boolean)) RX2 (some .boolean) shC g) {r : Int32} {t' : Mm} {k2 : Int32 × Mm → Option (Int32 × Mm)} (hk2 : ∀ x : Int32 × Mm, k2 x = some (r, t') → ∀ (H : Heap) (locs : List Loc) (ls : Array Slot), XP shC g x.2 H → va_S (XA shC g) s.heap H locs → lv_has ls 2 [(0, .ref (g.2.2 (3, 3, 0))), (1, .int x.1)] → W p l e (rmv 7) s m args below meth c H locs 0 0 (MQ below (XQi shC g r t') args s 0 0 (XA shC g)) (F0 m 2 ls [])) (x1 : Int32) (t : Mm) (H : Heap) (locs : List Loc) (ls : Array Slot) (hP : XP shC g t H) (hS : va_S (XA shC g) s.heap H locs) (hl : lv_has ls 2 [(0, .ref (g.2.2 (3, 3, 0))), (1, .int x1)]) (h : b_X2_readCrossers_2 N k2 x1 t = some (r, t')) : W p l e (rmv 7) s m args below meth c H locs 0 0 (MQ below (XQi shC g r t') args s 0 0 (XA shC g)) (F0 m 2 ls []) := by
  unfold b_X2_readCrossers_2 at h
  refine lv_iload_n X.1.1 X.1.2.1 dX2_readCrossers_2 rfl (lv_at hl 1 rfl) ?_
  refine lv_iconst (v := 5) X.1.1 X.1.2.1 dX2_readCrossers_3 (by decide) ?_
  refine lv_icmp_ge (tgt := 37) X.1.1 X.1.2.1 dX2_readCrossers_4 (by decide) (fun c_6 => ?_) (fun c_6 => ?_)
  · have h := o_pos c_6 h
    refine lv_iconst (v := 1) X.1.1 X.1.2.1 dX2_readCrossers_37 (by decide) ?_
    obtain ⟨rfl, rfl⟩ := o_ret2 h
    exact x_zret rfl X hP hS dX2_readCrossers_38
  · have h := o_neg c_6 h
    refine lv_iload_n X.1.1 X.1.2.1 dX2_readCrossers_7 rfl (lv_at hl 1 rfl) ?_
    refine lv_if_le (tgt := 22) X.1.1 X.1.2.1 dX2_readCrossers_8 (by decide) (fun c_7 => ?_) (fun c_7 => ?_)
    · have h := o_pos c_7 h
      exact w_X2_readCrossers_22 N X hk2 x1 t _ _ _ hP hS (lv_sub hl [0, 1] rfl) h
    · have h := o_neg c_7 h
      refine lv_aload_n X.1.1 X.1.2.1 dX2_readCrossers_11 rfl (lv_at hl 0 rfl) ?_
      refine lv_bipush (v := 44) X.1.1 X.1.2.1 dX2_readCrossers_12 (by decide) ?_
      obtain ⟨⟨r_10, t_8⟩, hc_9, h⟩ := o_bd_inv h
      refine x_calli (x_runV (As := [.int 44]) (rest := []) X hP hS (c_X2_accepts l g N X.2.2.2.2.1 44 t hc_9) ⟨wd_429, wd_426, wd_428, wd_4, wd_58⟩ hd_X2_accepts ⟨by omega, by decide⟩ (x_recv X hP (ci := 2) rfl (kyO (by decide)) rfl) rfl hl.1 rfl (Nat.le_of_ble_eq_true rfl) dX2_readCrossers_14) hS (fun H locs hP hS => ?_)
      refine lv_if_ne (tgt := 22) X.1.1 X.1.2.1 dX2_readCrossers_17 (by decide) (fun c_12 => ?_) (fun c_12 => ?_)
      · have h := o_neg c_12 h
        exact w_X2_readCrossers_22 N X hk2 x1 t_8 _ _ _ hP hS (lv_sub hl [0, 1] rfl) h
      · have h := o_pos c_12 h
        refine lv_iconst (v := 1) X.1.1 X.1.2.1 dX2_readCrossers_20 (by decide) ?_
        obtain ⟨rfl, rfl⟩ := o_ret2 h
        exact x_zret rfl X hP hS dX2_readCrossers_21
set_option maxRecDepth 100000 in
set_option maxHeartbeats 4000000 in
theorem w_X2_readCrossers_2 {l : Launch} {g : Ly} {p : Program} {e : Env} {s : State} {m : MethodId} {args : Array Value} {below : List Frame} {meth : Method} {c : Code} (N : Nat) (X : XC p m meth c cX2_readCrossers 2 s args (.code yX2_readCrossers cX2_readCrossers 2 (some .boolean)) RX2 (some .boolean) shC g) {r : Int32} {t' : Mm} (x1 : Int32) (t : Mm) (H : Heap) (locs : List Loc) (ls : Array Slot) (hP : XP shC g t H) (hS : va_S (XA shC g) s.heap H locs) (hl : lv_has ls 2 [(0, .ref (g.2.2 (3, 3, 0))), (1, .int x1)]) (h : f_X2_readCrossers_2 N x1 t = some (r, t')) : W p l e (rmv 7) s m args below meth c H locs 0 0 (MQ below (XQi shC g r t') args s 0 0 (XA shC g)) (F0 m 2 ls []) :=
  o_lp_ind (P := fun x : Int32 × Mm => ∀ (H : Heap) (locs : List Loc) (ls : Array Slot), XP shC g x.2 H → va_S (XA shC g) s.heap H locs → lv_has ls 2 [(0, .ref (g.2.2 (3, 3, 0))), (1, .int x.1)] → W p l e (rmv 7) s m args below meth c H locs 0 0 (MQ below (XQi shC g r t') args s 0 0 (XA shC g)) (F0 m 2 ls [])) (fun k hk x h H locs ls hP hS hl => wb_X2_readCrossers_2 N X hk x.1 x.2 H locs ls hP hS hl h) N (x1, t) h H locs ls hP hS hl
set_option maxRecDepth 100000 in
set_option maxHeartbeats 4000000 in
theorem c_X2_readCrossers (l : Launch) (g : Ly) (N : Nat) (hG : XG shC g) (t : Mm) {r : Int32} {t' : Mm} (h : f_X2_readCrossers N t = some (r, t')) : MI l yX2_readCrossers cX2_readCrossers 2 (some .boolean) 7 shC g [.ref (g.2.2 (3, 3, 0))] t (XQi shC g r t') := by
  refine x_met hG (by decide +kernel) (Nat.le_of_ble_eq_true rfl) ?_
  intro p e s m below meth c ls X hP hl
  have hS : va_S (XA shC g) s.heap s.heap [] := va_S.rf
  have hl : lv_has ls 2 [(0, .ref (g.2.2 (3, 3, 0)))] := hl
  unfold f_X2_readCrossers at h
  generalize ([.ref (g.2.2 (3, 3, 0))] : List Value).toArray = args at X ⊢
  refine lv_iconst (v := 0) X.1.1 X.1.2.1 dX2_readCrossers_0 (by decide) ?_
  refine lv_istore_n (lv' := [(1, .int 0), (0, .ref (g.2.2 (3, 3, 0)))]) X.1.1 X.1.2.1 dX2_readCrossers_1 rfl hl (by decide) rfl (fun ls hl => ?_)
  exact w_X2_readCrossers_2 N X 0 t _ _ _ hP hS (lv_sub hl [1, 0] rfl) h
/-- FordQuestions$Reader.readQuestion()Z -/
def f_X2_readQuestion (N : Nat) (t : Mm) : Option (Int32 × Mm) := o_bd (f_X2_nextLetter N t) fun (r_3, t_1) => o_bd (f_X2_topicOf r_3 t_1) fun (r_7, t_5) => if r_7 = (-4) then (some (0, t_5)) else (o_nm (sI t_5 3 3 0 2 ((t_5.1 3 3 0 2) + 1)) fun t_10 => o_bd (f_X2_nextLetter N t_10) fun (r_14, t_12) => if r_14 < 49 then (some (0, t_12)) else (if r_14 ≤ 57 then (o_nm (sI t_12 3 3 0 2 ((t_12.1 3 3 0 2) + 1)) fun t_18 => o_bd (f_X0_addQuestion 20 r_7 (r_14 - 48) t_18) fun (r_22, t_20) => o_bd (f_X2_accepts N 33 t_20) fun (r_26, t_24) => if r_26 = 0 then (some (1, t_24)) else (o_nm (sI t_24 0 20 0 2 ((t_24.1 0 20 0 2) ||| (1 <<< (r_22 &&& 31)))) fun t_29 => some (1, t_29))) else (some (0, t_12))))
theorem hd_X2_readQuestion : x_hd yX2_readQuestion 0 := by decide +kernel
set_option maxRecDepth 100000 in
set_option maxHeartbeats 4000000 in
theorem c_X2_readQuestion (l : Launch) (g : Ly) (N : Nat) (hG : XG shC g) (t : Mm) {r : Int32} {t' : Mm} (h : f_X2_readQuestion N t = some (r, t')) : MI l yX2_readQuestion cX2_readQuestion 4 (some .boolean) 4 shC g [.ref (g.2.2 (3, 3, 0))] t (XQi shC g r t') := by
  refine x_met hG (by decide +kernel) (Nat.le_of_ble_eq_true rfl) ?_
  intro p e s m below meth c ls X hP hl
  have hS : va_S (XA shC g) s.heap s.heap [] := va_S.rf
  have hl : lv_has ls 4 [(0, .ref (g.2.2 (3, 3, 0)))] := hl
  unfold f_X2_readQuestion at h
  generalize ([.ref (g.2.2 (3, 3, 0))] : List Value).toArray = args at X ⊢
  refine lv_aload_n X.1.1 X.1.2.1 dX2_readQuestion_0 rfl (lv_at hl 0 rfl) ?_
  obtain ⟨⟨r_3, t_1⟩, hc_2, h⟩ := o_bd_inv h
  refine x_calli (x_runV (As := []) (rest := []) X hP hS (c_X2_nextLetter l g N X.2.2.2.2.1 t hc_2) ⟨wd_413, wd_410, wd_412, wd_1, wd_58⟩ hd_X2_nextLetter ⟨by omega, by decide⟩ (x_recv X hP (ci := 2) rfl (kyO (by decide)) rfl) rfl hl.1 rfl (Nat.le_of_ble_eq_true rfl) dX2_readQuestion_1) hS (fun H locs hP hS => ?_)
  obtain ⟨⟨r_7, t_5⟩, hc_6, h⟩ := o_bd_inv h
  refine x_calli (x_runS (As := [.int r_3]) (rest := []) X hP hS (c_X2_topicOf l g X.2.2.2.2.1 r_3 t_1 hc_6) ⟨wd_420, wd_418, wd_419, wd_58⟩ hd_X2_topicOf ⟨by omega, by decide⟩ rfl hl.1 rfl (Nat.le_of_ble_eq_true rfl) dX2_readQuestion_4) hS (fun H locs hP hS => ?_)
  refine lv_istore_n (lv' := [(1, .int r_7), (0, .ref (g.2.2 (3, 3, 0)))]) X.1.1 X.1.2.1 dX2_readQuestion_7 rfl hl (by decide) rfl (fun ls hl => ?_)
  refine lv_iload_n X.1.1 X.1.2.1 dX2_readQuestion_8 rfl (lv_at hl 0 rfl) ?_
  refine lv_bipush (v := (-4)) X.1.1 X.1.2.1 dX2_readQuestion_9 (by decide) ?_
  refine lv_icmp_ne (tgt := 16) X.1.1 X.1.2.1 dX2_readQuestion_11 (by decide) (fun c_9 => ?_) (fun c_9 => ?_)
  · have h := o_neg c_9 h
    refine lv_aload_n X.1.1 X.1.2.1 dX2_readQuestion_16 rfl (lv_at hl 1 rfl) ?_
    refine lv_dup X.1.1 X.1.2.1 dX2_readQuestion_17 rfl ?_
    refine gt_X2_2 X hP (kyO (by decide)) wd_202 dX2_readQuestion_18 ?_
    refine lv_iconst (v := 1) X.1.1 X.1.2.1 dX2_readQuestion_21 (by decide) ?_
    refine lv_iadd X.1.1 X.1.2.1 dX2_readQuestion_22 ?_
    obtain ⟨t_10, e_11, h⟩ := o_nm_inv h
    refine pt_X2_2 (x := ((t_5.1 3 3 0 2) + 1)) X hP hS (kyO (by decide)) wd_202 dX2_readQuestion_23 (fun H locs hP hS => ?_)
    have hP : XP shC g t_10 H := by rw [e_11]; exact hP
    refine lv_aload_n X.1.1 X.1.2.1 dX2_readQuestion_26 rfl (lv_at hl 1 rfl) ?_
    obtain ⟨⟨r_14, t_12⟩, hc_13, h⟩ := o_bd_inv h
    refine x_calli (x_runV (As := []) (rest := []) X hP hS (c_X2_nextLetter l g N X.2.2.2.2.1 t_10 hc_13) ⟨wd_413, wd_410, wd_412, wd_1, wd_58⟩ hd_X2_nextLetter ⟨by omega, by decide⟩ (x_recv X hP (ci := 2) rfl (kyO (by decide)) rfl) rfl hl.1 rfl (Nat.le_of_ble_eq_true rfl) dX2_readQuestion_27) hS (fun H locs hP hS => ?_)
    refine lv_istore_n (lv' := [(2, .int r_14), (1, .int r_7), (0, .ref (g.2.2 (3, 3, 0)))]) X.1.1 X.1.2.1 dX2_readQuestion_30 rfl hl (by decide) rfl (fun ls hl => ?_)
    refine lv_iload_n X.1.1 X.1.2.1 dX2_readQuestion_31 rfl (lv_at hl 0 rfl) ?_
    refine lv_bipush (v := 49) X.1.1 X.1.2.1 dX2_readQuestion_32 (by decide) ?_
    refine lv_icmp_lt (tgt := 43) X.1.1 X.1.2.1 dX2_readQuestion_34 (by decide) (fun c_16 => ?_) (fun c_16 => ?_)
    · have h := o_pos c_16 h
      refine lv_iconst (v := 0) X.1.1 X.1.2.1 dX2_readQuestion_43 (by decide) ?_
      obtain ⟨rfl, rfl⟩ := o_ret2 h
      exact x_zret rfl X hP hS dX2_readQuestion_44
    · have h := o_neg c_16 h
      refine lv_iload_n X.1.1 X.1.2.1 dX2_readQuestion_37 rfl (lv_at hl 0 rfl) ?_
      refine lv_bipush (v := 57) X.1.1 X.1.2.1 dX2_readQuestion_38 (by decide) ?_
      refine lv_icmp_le (tgt := 45) X.1.1 X.1.2.1 dX2_readQuestion_40 (by decide) (fun c_17 => ?_) (fun c_17 => ?_)
      · have h := o_pos c_17 h
        refine lv_aload_n X.1.1 X.1.2.1 dX2_readQuestion_45 rfl (lv_at hl 2 rfl) ?_
        refine lv_dup X.1.1 X.1.2.1 dX2_readQuestion_46 rfl ?_
        refine gt_X2_2 X hP (kyO (by decide)) wd_202 dX2_readQuestion_47 ?_
        refine lv_iconst (v := 1) X.1.1 X.1.2.1 dX2_readQuestion_50 (by decide) ?_
        refine lv_iadd X.1.1 X.1.2.1 dX2_readQuestion_51 ?_
        obtain ⟨t_18, e_19, h⟩ := o_nm_inv h
        refine pt_X2_2 (x := ((t_12.1 3 3 0 2) + 1)) X hP hS (kyO (by decide)) wd_202 dX2_readQuestion_52 (fun H locs hP hS => ?_)
        have hP : XP shC g t_18 H := by rw [e_19]; exact hP
        refine lv_aload_n X.1.1 X.1.2.1 dX2_readQuestion_55 rfl (lv_at hl 2 rfl) ?_
        refine gt_X2_1 X hP (kyO (by decide)) wd_200 dX2_readQuestion_56 ?_
        refine lv_iload_n X.1.1 X.1.2.1 dX2_readQuestion_59 rfl (lv_at hl 1 rfl) ?_
        refine lv_iload_n X.1.1 X.1.2.1 dX2_readQuestion_60 rfl (lv_at hl 0 rfl) ?_
        refine lv_bipush (v := 48) X.1.1 X.1.2.1 dX2_readQuestion_61 (by decide) ?_
        refine lv_isub X.1.1 X.1.2.1 dX2_readQuestion_63 ?_
        obtain ⟨⟨r_22, t_20⟩, hc_21, h⟩ := o_bd_inv h
        refine x_calli (x_runV (As := [.int r_7, .int (r_14 - 48)]) (rest := []) X hP hS (c_X0_addQuestion l g 20 X.2.2.2.2.1 (by omega) r_7 (r_14 - 48) t_18 hc_21) ⟨wd_326, wd_425, wd_324, wd_325, wd_56⟩ hd_X0_addQuestion ⟨by omega, by decide⟩ (x_recv X hP (ci := 0) rfl (kyF (by omega) (by decide)) rfl) rfl hl.1 rfl (Nat.le_of_ble_eq_true rfl) dX2_readQuestion_64) hS (fun H locs hP hS => ?_)
        refine lv_istore_n (lv' := [(3, .int r_22), (2, .int r_14), (1, .int r_7), (0, .ref (g.2.2 (3, 3, 0)))]) X.1.1 X.1.2.1 dX2_readQuestion_67 rfl hl (by decide) rfl (fun ls hl => ?_)
        refine lv_aload_n X.1.1 X.1.2.1 dX2_readQuestion_68 rfl (lv_at hl 3 rfl) ?_
        refine lv_bipush (v := 33) X.1.1 X.1.2.1 dX2_readQuestion_69 (by decide) ?_
        obtain ⟨⟨r_26, t_24⟩, hc_25, h⟩ := o_bd_inv h
        refine x_calli (x_runV (As := [.int 33]) (rest := []) X hP hS (c_X2_accepts l g N X.2.2.2.2.1 33 t_20 hc_25) ⟨wd_429, wd_426, wd_428, wd_4, wd_58⟩ hd_X2_accepts ⟨by omega, by decide⟩ (x_recv X hP (ci := 2) rfl (kyO (by decide)) rfl) rfl hl.1 rfl (Nat.le_of_ble_eq_true rfl) dX2_readQuestion_71) hS (fun H locs hP hS => ?_)
        refine lv_if_eq (tgt := 92) X.1.1 X.1.2.1 dX2_readQuestion_74 (by decide) (fun c_28 => ?_) (fun c_28 => ?_)
        · have h := o_pos c_28 h
          refine lv_iconst (v := 1) X.1.1 X.1.2.1 dX2_readQuestion_92 (by decide) ?_
          obtain ⟨rfl, rfl⟩ := o_ret2 h
          exact x_zret rfl X hP hS dX2_readQuestion_93
        · have h := o_neg c_28 h
          refine lv_aload_n X.1.1 X.1.2.1 dX2_readQuestion_77 rfl (lv_at hl 3 rfl) ?_
          refine gt_X2_1 X hP (kyO (by decide)) wd_200 dX2_readQuestion_78 ?_
          refine lv_dup X.1.1 X.1.2.1 dX2_readQuestion_81 rfl ?_
          refine gtN_X0_2 X hP (kyF (by omega) (by decide)) wd_102 dX2_readQuestion_82 ?_
          refine lv_iconst (v := 1) X.1.1 X.1.2.1 dX2_readQuestion_85 (by decide) ?_
          refine lv_iload_n X.1.1 X.1.2.1 dX2_readQuestion_86 rfl (lv_at hl 0 rfl) ?_
          refine lv_ishl X.1.1 X.1.2.1 dX2_readQuestion_87 ?_
          refine lv_ior X.1.1 X.1.2.1 dX2_readQuestion_88 ?_
          obtain ⟨t_29, e_30, h⟩ := o_nm_inv h
          refine ptN_X0_2 (x := ((t_24.1 0 20 0 2) ||| (1 <<< (r_22 &&& 31)))) X hP hS (kyF (by omega) (by decide)) wd_102 dX2_readQuestion_89 (fun H locs hP hS => ?_)
          have hP : XP shC g t_29 H := by rw [e_30]; exact hP
          refine lv_iconst (v := 1) X.1.1 X.1.2.1 dX2_readQuestion_92 (by decide) ?_
          obtain ⟨rfl, rfl⟩ := o_ret2 h
          exact x_zret rfl X hP hS dX2_readQuestion_93
      · have h := o_neg c_17 h
        refine lv_iconst (v := 0) X.1.1 X.1.2.1 dX2_readQuestion_43 (by decide) ?_
        obtain ⟨rfl, rfl⟩ := o_ret2 h
        exact x_zret rfl X hP hS dX2_readQuestion_44
  · have h := o_pos c_9 h
    refine lv_iconst (v := 0) X.1.1 X.1.2.1 dX2_readQuestion_14 (by decide) ?_
    obtain ⟨rfl, rfl⟩ := o_ret2 h
    exact x_zret rfl X hP hS dX2_readQuestion_15
def f_X2_readQuestions_26 (N : Nat) (k2 : Int32 × Mm → Option (Int32 × Mm)) (x1 : Int32) (t : Mm) : Option (Int32 × Mm) := o_bd (f_X2_readQuestion N t) fun (r_3, t_1) => if r_3 = 0 then (some (0, t_1)) else (k2 ((x1 + 1), t_1))
def b_X2_readQuestions_2 (N : Nat) (k2 : Int32 × Mm → Option (Int32 × Mm)) (x1 : Int32) (t : Mm) : Option (Int32 × Mm) := if 8 ≤ x1 then (some (1, t)) else (if x1 ≤ 0 then (f_X2_readQuestions_26 N k2 x1 t) else (o_bd (f_X2_nextLetter N t) fun (r_10, t_8) => o_bd (f_X2_topicOf r_10 t_8) fun (r_14, t_12) => if r_14 = (-4) then (some (1, t_12)) else (f_X2_readQuestions_26 N k2 x1 t_12)))
def f_X2_readQuestions_2 (N : Nat) (x1 : Int32) (t : Mm) : Option (Int32 × Mm) := o_lp (fun k x => b_X2_readQuestions_2 N k x.1 x.2) N (x1, t)
/-- FordQuestions$Reader.readQuestions()Z -/
def f_X2_readQuestions (N : Nat) (t : Mm) : Option (Int32 × Mm) := f_X2_readQuestions_2 N 0 t
theorem hd_X2_readQuestions : x_hd yX2_readQuestions 0 := by decide +kernel
set_option maxRecDepth 100000 in
set_option maxHeartbeats 4000000 in
theorem w_X2_readQuestions_26 {l : Launch} {g : Ly} {p : Program} {e : Env} {s : State} {m : MethodId} {args : Array Value} {below : List Frame} {meth : Method} {c : Code} (N : Nat) (X : XC p m meth c cX2_readQuestions 2 s args (.code yX2_readQuestions cX2_readQuestions 2 (some .boolean)) RX2 (some .boolean) shC g) {r : Int32} {t' : Mm} {k2 : Int32 × Mm → Option (Int32 × Mm)} (hk2 : ∀ x : Int32 × Mm, k2 x = some (r, t') → ∀ (H : Heap) (locs : List Loc) (ls : Array Slot), XP shC g x.2 H → va_S (XA shC g) s.heap H locs → lv_has ls 2 [(0, .ref (g.2.2 (3, 3, 0))), (1, .int x.1)] → W p l e (rmv 5) s m args below meth c H locs 0 0 (MQ below (XQi shC g r t') args s 0 0 (XA shC g)) (F0 m 2 ls [])) (x1 : Int32) (t : Mm) (H : Heap) (locs : List Loc) (ls : Array Slot) (hP : XP shC g t H) (hS : va_S (XA shC g) s.heap H locs) (hl : lv_has ls 2 [(0, .ref (g.2.2 (3, 3, 0))), (1, .int x1)]) (h : f_X2_readQuestions_26 N k2 x1 t = some (r, t')) : W p l e (rmv 5) s m args below meth c H locs 0 0 (MQ below (XQi shC g r t') args s 0 0 (XA shC g)) (F0 m 26 ls []) := by
  unfold f_X2_readQuestions_26 at h
  refine lv_aload_n X.1.1 X.1.2.1 dX2_readQuestions_26 rfl (lv_at hl 0 rfl) ?_
  obtain ⟨⟨r_3, t_1⟩, hc_2, h⟩ := o_bd_inv h
  refine x_calli (x_runV (As := []) (rest := []) X hP hS (c_X2_readQuestion l g N X.2.2.2.2.1 t hc_2) ⟨wd_424, wd_421, wd_423, wd_3, wd_58⟩ hd_X2_readQuestion ⟨by omega, by decide⟩ (x_recv X hP (ci := 2) rfl (kyO (by decide)) rfl) rfl hl.1 rfl (Nat.le_of_ble_eq_true rfl) dX2_readQuestions_27) hS (fun H locs hP hS => ?_)
  refine lv_if_ne (tgt := 35) X.1.1 X.1.2.1 dX2_readQuestions_30 (by decide) (fun c_5 => ?_) (fun c_5 => ?_)
  · have h := o_neg c_5 h
    refine lv_iinc (v := (x1 + 1)) (lv' := [(1, .int (x1 + 1)), (0, .ref (g.2.2 (3, 3, 0)))]) X.1.1 X.1.2.1 dX2_readQuestions_35 hl (k := 1) rfl rfl (by decide) rfl (fun ls hl => ?_)
    refine lv_goto (tgt := 2) X.1.1 X.1.2.1 dX2_readQuestions_38 (by decide) ?_
    exact hk2 ((x1 + 1), t_1) h _ _ _ hP hS (lv_sub hl [1, 0] rfl)
  · have h := o_pos c_5 h
    refine lv_iconst (v := 0) X.1.1 X.1.2.1 dX2_readQuestions_33 (by decide) ?_
    obtain ⟨rfl, rfl⟩ := o_ret2 h
    exact x_zret rfl X hP hS dX2_readQuestions_34
set_option maxRecDepth 100000 in
set_option maxHeartbeats 4000000 in
theorem wb_X2_readQuestions_2 {l : Launch} {g : Ly} {p : Program} {e : Env} {s : State} {m : MethodId} {args : Array Value} {below : List Frame} {meth : Method} {c : Code} (N : Nat) (X : XC p m meth c cX2_readQuestions 2 s args (.code yX2_readQuestions cX2_readQuestions 2 (some .boolean)) RX2 (some .boolean) shC g) {r : Int32} {t' : Mm} {k2 : Int32 × Mm → Option (Int32 × Mm)} (hk2 : ∀ x : Int32 × Mm, k2 x = some (r, t') → ∀ (H : Heap) (locs : List Loc) (ls : Array Slot), XP shC g x.2 H → va_S (XA shC g) s.heap H locs → lv_has ls 2 [(0, .ref (g.2.2 (3, 3, 0))), (1, .int x.1)] → W p l e (rmv 5) s m args below meth c H locs 0 0 (MQ below (XQi shC g r t') args s 0 0 (XA shC g)) (F0 m 2 ls [])) (x1 : Int32) (t : Mm) (H : Heap) (locs : List Loc) (ls : Array Slot) (hP : XP shC g t H) (hS : va_S (XA shC g) s.heap H locs) (hl : lv_has ls 2 [(0, .ref (g.2.2 (3, 3, 0))), (1, .int x1)]) (h : b_X2_readQuestions_2 N k2 x1 t = some (r, t')) : W p l e (rmv 5) s m args below meth c H locs 0 0 (MQ below (XQi shC g r t') args s 0 0 (XA shC g)) (F0 m 2 ls []) := by
  unfold b_X2_readQuestions_2 at h
  refine lv_iload_n X.1.1 X.1.2.1 dX2_readQuestions_2 rfl (lv_at hl 1 rfl) ?_
  refine lv_bipush (v := 8) X.1.1 X.1.2.1 dX2_readQuestions_3 (by decide) ?_
  refine lv_icmp_ge (tgt := 41) X.1.1 X.1.2.1 dX2_readQuestions_5 (by decide) (fun c_6 => ?_) (fun c_6 => ?_)
  · have h := o_pos c_6 h
    refine lv_iconst (v := 1) X.1.1 X.1.2.1 dX2_readQuestions_41 (by decide) ?_
    obtain ⟨rfl, rfl⟩ := o_ret2 h
    exact x_zret rfl X hP hS dX2_readQuestions_42
  · have h := o_neg c_6 h
    refine lv_iload_n X.1.1 X.1.2.1 dX2_readQuestions_8 rfl (lv_at hl 1 rfl) ?_
    refine lv_if_le (tgt := 26) X.1.1 X.1.2.1 dX2_readQuestions_9 (by decide) (fun c_7 => ?_) (fun c_7 => ?_)
    · have h := o_pos c_7 h
      exact w_X2_readQuestions_26 N X hk2 x1 t _ _ _ hP hS (lv_sub hl [0, 1] rfl) h
    · have h := o_neg c_7 h
      refine lv_aload_n X.1.1 X.1.2.1 dX2_readQuestions_12 rfl (lv_at hl 0 rfl) ?_
      obtain ⟨⟨r_10, t_8⟩, hc_9, h⟩ := o_bd_inv h
      refine x_calli (x_runV (As := []) (rest := []) X hP hS (c_X2_nextLetter l g N X.2.2.2.2.1 t hc_9) ⟨wd_413, wd_410, wd_412, wd_1, wd_58⟩ hd_X2_nextLetter ⟨by omega, by decide⟩ (x_recv X hP (ci := 2) rfl (kyO (by decide)) rfl) rfl hl.1 rfl (Nat.le_of_ble_eq_true rfl) dX2_readQuestions_13) hS (fun H locs hP hS => ?_)
      obtain ⟨⟨r_14, t_12⟩, hc_13, h⟩ := o_bd_inv h
      refine x_calli (x_runS (As := [.int r_10]) (rest := []) X hP hS (c_X2_topicOf l g X.2.2.2.2.1 r_10 t_8 hc_13) ⟨wd_420, wd_418, wd_419, wd_58⟩ hd_X2_topicOf ⟨by omega, by decide⟩ rfl hl.1 rfl (Nat.le_of_ble_eq_true rfl) dX2_readQuestions_16) hS (fun H locs hP hS => ?_)
      refine lv_bipush (v := (-4)) X.1.1 X.1.2.1 dX2_readQuestions_19 (by decide) ?_
      refine lv_icmp_ne (tgt := 26) X.1.1 X.1.2.1 dX2_readQuestions_21 (by decide) (fun c_16 => ?_) (fun c_16 => ?_)
      · have h := o_neg c_16 h
        exact w_X2_readQuestions_26 N X hk2 x1 t_12 _ _ _ hP hS (lv_sub hl [0, 1] rfl) h
      · have h := o_pos c_16 h
        refine lv_iconst (v := 1) X.1.1 X.1.2.1 dX2_readQuestions_24 (by decide) ?_
        obtain ⟨rfl, rfl⟩ := o_ret2 h
        exact x_zret rfl X hP hS dX2_readQuestions_25
set_option maxRecDepth 100000 in
set_option maxHeartbeats 4000000 in
theorem w_X2_readQuestions_2 {l : Launch} {g : Ly} {p : Program} {e : Env} {s : State} {m : MethodId} {args : Array Value} {below : List Frame} {meth : Method} {c : Code} (N : Nat) (X : XC p m meth c cX2_readQuestions 2 s args (.code yX2_readQuestions cX2_readQuestions 2 (some .boolean)) RX2 (some .boolean) shC g) {r : Int32} {t' : Mm} (x1 : Int32) (t : Mm) (H : Heap) (locs : List Loc) (ls : Array Slot) (hP : XP shC g t H) (hS : va_S (XA shC g) s.heap H locs) (hl : lv_has ls 2 [(0, .ref (g.2.2 (3, 3, 0))), (1, .int x1)]) (h : f_X2_readQuestions_2 N x1 t = some (r, t')) : W p l e (rmv 5) s m args below meth c H locs 0 0 (MQ below (XQi shC g r t') args s 0 0 (XA shC g)) (F0 m 2 ls []) :=
  o_lp_ind (P := fun x : Int32 × Mm => ∀ (H : Heap) (locs : List Loc) (ls : Array Slot), XP shC g x.2 H → va_S (XA shC g) s.heap H locs → lv_has ls 2 [(0, .ref (g.2.2 (3, 3, 0))), (1, .int x.1)] → W p l e (rmv 5) s m args below meth c H locs 0 0 (MQ below (XQi shC g r t') args s 0 0 (XA shC g)) (F0 m 2 ls [])) (fun k hk x h H locs ls hP hS hl => wb_X2_readQuestions_2 N X hk x.1 x.2 H locs ls hP hS hl h) N (x1, t) h H locs ls hP hS hl
set_option maxRecDepth 100000 in
set_option maxHeartbeats 4000000 in
theorem c_X2_readQuestions (l : Launch) (g : Ly) (N : Nat) (hG : XG shC g) (t : Mm) {r : Int32} {t' : Mm} (h : f_X2_readQuestions N t = some (r, t')) : MI l yX2_readQuestions cX2_readQuestions 2 (some .boolean) 5 shC g [.ref (g.2.2 (3, 3, 0))] t (XQi shC g r t') := by
  refine x_met hG (by decide +kernel) (Nat.le_of_ble_eq_true rfl) ?_
  intro p e s m below meth c ls X hP hl
  have hS : va_S (XA shC g) s.heap s.heap [] := va_S.rf
  have hl : lv_has ls 2 [(0, .ref (g.2.2 (3, 3, 0)))] := hl
  unfold f_X2_readQuestions at h
  generalize ([.ref (g.2.2 (3, 3, 0))] : List Value).toArray = args at X ⊢
  refine lv_iconst (v := 0) X.1.1 X.1.2.1 dX2_readQuestions_0 (by decide) ?_
  refine lv_istore_n (lv' := [(1, .int 0), (0, .ref (g.2.2 (3, 3, 0)))]) X.1.1 X.1.2.1 dX2_readQuestions_1 rfl hl (by decide) rfl (fun ls hl => ?_)
  exact w_X2_readQuestions_2 N X 0 t _ _ _ hP hS (lv_sub hl [1, 0] rfl) h
def f_X2_readFord_39 (N : Nat) (t : Mm) : Option (Int32 × Mm) := o_bd (f_X2_nextLetter N t) fun (r_3, t_1) => if r_3 = 0 then (some (1, t_1)) else (some (0, t_1))
/-- FordQuestions$Reader.readFord()Z -/
def f_X2_readFord (N : Nat) (t : Mm) : Option (Int32 × Mm) := o_nm (sI t 3 3 0 2 0) fun t_6 => o_bd (f_X0_makeEmpty 20 t_6) fun t_8 => o_bd (f_X2_readQuestions N t_8) fun (r_12, t_10) => if r_12 = 0 then (some (0, t_10)) else (o_bd (f_X2_accepts N 59 t_10) fun (r_17, t_15) => if r_17 = 0 then (f_X2_readFord_39 N t_15) else (o_bd (f_X2_readCrossers N t_15) fun (r_22, t_20) => if r_22 = 0 then (some (0, t_20)) else (f_X2_readFord_39 N t_20)))
theorem hd_X2_readFord : x_hd yX2_readFord 0 := by decide +kernel
set_option maxRecDepth 100000 in
set_option maxHeartbeats 4000000 in
theorem w_X2_readFord_39 {l : Launch} {g : Ly} {p : Program} {e : Env} {s : State} {m : MethodId} {args : Array Value} {below : List Frame} {meth : Method} {c : Code} (N : Nat) (X : XC p m meth c cX2_readFord 1 s args (.code yX2_readFord cX2_readFord 1 (some .boolean)) RX2 (some .boolean) shC g) {r : Int32} {t' : Mm} (t : Mm) (H : Heap) (locs : List Loc) (ls : Array Slot) (hP : XP shC g t H) (hS : va_S (XA shC g) s.heap H locs) (hl : lv_has ls 1 [(0, .ref (g.2.2 (3, 3, 0)))]) (h : f_X2_readFord_39 N t = some (r, t')) : W p l e (rmv 8) s m args below meth c H locs 0 0 (MQ below (XQi shC g r t') args s 0 0 (XA shC g)) (F0 m 39 ls []) := by
  unfold f_X2_readFord_39 at h
  refine lv_aload_n X.1.1 X.1.2.1 dX2_readFord_39 rfl (lv_at hl 0 rfl) ?_
  obtain ⟨⟨r_3, t_1⟩, hc_2, h⟩ := o_bd_inv h
  refine x_calli (x_runV (As := []) (rest := []) X hP hS (c_X2_nextLetter l g N X.2.2.2.2.1 t hc_2) ⟨wd_413, wd_410, wd_412, wd_1, wd_58⟩ hd_X2_nextLetter ⟨by omega, by decide⟩ (x_recv X hP (ci := 2) rfl (kyO (by decide)) rfl) rfl hl.1 rfl (Nat.le_of_ble_eq_true rfl) dX2_readFord_40) hS (fun H locs hP hS => ?_)
  refine lv_if_ne (tgt := 50) X.1.1 X.1.2.1 dX2_readFord_43 (by decide) (fun c_5 => ?_) (fun c_5 => ?_)
  · have h := o_neg c_5 h
    refine lv_iconst (v := 0) X.1.1 X.1.2.1 dX2_readFord_50 (by decide) ?_
    obtain ⟨rfl, rfl⟩ := o_ret2 h
    exact x_zret rfl X hP hS dX2_readFord_51
  · have h := o_pos c_5 h
    refine lv_iconst (v := 1) X.1.1 X.1.2.1 dX2_readFord_46 (by decide) ?_
    refine lv_goto (tgt := 51) X.1.1 X.1.2.1 dX2_readFord_47 (by decide) ?_
    obtain ⟨rfl, rfl⟩ := o_ret2 h
    exact x_zret rfl X hP hS dX2_readFord_51
set_option maxRecDepth 100000 in
set_option maxHeartbeats 4000000 in
theorem c_X2_readFord (l : Launch) (g : Ly) (N : Nat) (hG : XG shC g) (t : Mm) {r : Int32} {t' : Mm} (h : f_X2_readFord N t = some (r, t')) : MI l yX2_readFord cX2_readFord 1 (some .boolean) 8 shC g [.ref (g.2.2 (3, 3, 0))] t (XQi shC g r t') := by
  refine x_met hG (by decide +kernel) (Nat.le_of_ble_eq_true rfl) ?_
  intro p e s m below meth c ls X hP hl
  have hS : va_S (XA shC g) s.heap s.heap [] := va_S.rf
  have hl : lv_has ls 1 [(0, .ref (g.2.2 (3, 3, 0)))] := hl
  unfold f_X2_readFord at h
  generalize ([.ref (g.2.2 (3, 3, 0))] : List Value).toArray = args at X ⊢
  refine lv_aload_n X.1.1 X.1.2.1 dX2_readFord_0 rfl (lv_at hl 0 rfl) ?_
  refine lv_iconst (v := 0) X.1.1 X.1.2.1 dX2_readFord_1 (by decide) ?_
  obtain ⟨t_6, e_7, h⟩ := o_nm_inv h
  refine pt_X2_2 (x := 0) X hP hS (kyO (by decide)) wd_202 dX2_readFord_2 (fun H locs hP hS => ?_)
  have hP : XP shC g t_6 H := by rw [e_7]; exact hP
  refine lv_aload_n X.1.1 X.1.2.1 dX2_readFord_5 rfl (lv_at hl 0 rfl) ?_
  refine gt_X2_1 X hP (kyO (by decide)) wd_200 dX2_readFord_6 ?_
  obtain ⟨t_8, hc_9, h⟩ := o_bd_inv h
  refine x_callv (x_runV (As := []) (rest := []) X hP hS (c_X0_makeEmpty l g 20 X.2.2.2.2.1 (by omega) t_6 hc_9) ⟨wd_405, wd_402, wd_403, wd_404, wd_56⟩ hd_X0_makeEmpty ⟨by omega, by decide⟩ (x_recv X hP (ci := 0) rfl (kyF (by omega) (by decide)) rfl) rfl hl.1 rfl (Nat.le_of_ble_eq_true rfl) dX2_readFord_9) hS (fun H locs hP hS => ?_)
  refine lv_aload_n X.1.1 X.1.2.1 dX2_readFord_12 rfl (lv_at hl 0 rfl) ?_
  obtain ⟨⟨r_12, t_10⟩, hc_11, h⟩ := o_bd_inv h
  refine x_calli (x_runV (As := []) (rest := []) X hP hS (c_X2_readQuestions l g N X.2.2.2.2.1 t_8 hc_11) ⟨wd_409, wd_406, wd_408, wd_0, wd_58⟩ hd_X2_readQuestions ⟨by omega, by decide⟩ (x_recv X hP (ci := 2) rfl (kyO (by decide)) rfl) rfl hl.1 rfl (Nat.le_of_ble_eq_true rfl) dX2_readFord_13) hS (fun H locs hP hS => ?_)
  refine lv_if_ne (tgt := 21) X.1.1 X.1.2.1 dX2_readFord_16 (by decide) (fun c_14 => ?_) (fun c_14 => ?_)
  · have h := o_neg c_14 h
    refine lv_aload_n X.1.1 X.1.2.1 dX2_readFord_21 rfl (lv_at hl 0 rfl) ?_
    refine lv_bipush (v := 59) X.1.1 X.1.2.1 dX2_readFord_22 (by decide) ?_
    obtain ⟨⟨r_17, t_15⟩, hc_16, h⟩ := o_bd_inv h
    refine x_calli (x_runV (As := [.int 59]) (rest := []) X hP hS (c_X2_accepts l g N X.2.2.2.2.1 59 t_10 hc_16) ⟨wd_429, wd_426, wd_428, wd_4, wd_58⟩ hd_X2_accepts ⟨by omega, by decide⟩ (x_recv X hP (ci := 2) rfl (kyO (by decide)) rfl) rfl hl.1 rfl (Nat.le_of_ble_eq_true rfl) dX2_readFord_24) hS (fun H locs hP hS => ?_)
    refine lv_if_eq (tgt := 39) X.1.1 X.1.2.1 dX2_readFord_27 (by decide) (fun c_19 => ?_) (fun c_19 => ?_)
    · have h := o_pos c_19 h
      exact w_X2_readFord_39 N X t_15 _ _ _ hP hS (lv_sub hl [0] rfl) h
    · have h := o_neg c_19 h
      refine lv_aload_n X.1.1 X.1.2.1 dX2_readFord_30 rfl (lv_at hl 0 rfl) ?_
      obtain ⟨⟨r_22, t_20⟩, hc_21, h⟩ := o_bd_inv h
      refine x_calli (x_runV (As := []) (rest := []) X hP hS (c_X2_readCrossers l g N X.2.2.2.2.1 t_15 hc_21) ⟨wd_433, wd_430, wd_432, wd_5, wd_58⟩ hd_X2_readCrossers ⟨by omega, by decide⟩ (x_recv X hP (ci := 2) rfl (kyO (by decide)) rfl) rfl hl.1 rfl (Nat.le_of_ble_eq_true rfl) dX2_readFord_31) hS (fun H locs hP hS => ?_)
      refine lv_if_ne (tgt := 39) X.1.1 X.1.2.1 dX2_readFord_34 (by decide) (fun c_24 => ?_) (fun c_24 => ?_)
      · have h := o_neg c_24 h
        exact w_X2_readFord_39 N X t_20 _ _ _ hP hS (lv_sub hl [0] rfl) h
      · have h := o_pos c_24 h
        refine lv_iconst (v := 0) X.1.1 X.1.2.1 dX2_readFord_37 (by decide) ?_
        obtain ⟨rfl, rfl⟩ := o_ret2 h
        exact x_zret rfl X hP hS dX2_readFord_38
  · have h := o_pos c_14 h
    refine lv_iconst (v := 0) X.1.1 X.1.2.1 dX2_readFord_19 (by decide) ?_
    obtain ⟨rfl, rfl⟩ := o_ret2 h
    exact x_zret rfl X hP hS dX2_readFord_20
