/-- FordQuestionsModel.in(JJJ)Z -/
def f_X8_in (a0 : Int64) (a1 : Int64) (a2 : Int64) (t : Mm) : Option (Int32 × Mm) := if (lg_cmp a0 a1) < 0 then (some (0, t)) else (if 0 < (lg_cmp a0 a2) then (some (0, t)) else (some (1, t)))
theorem hd_X8_in : x_hd yX8_in 3 := by decide +kernel
set_option maxRecDepth 100000 in
set_option maxHeartbeats 4000000 in
theorem c_X8_in (l : Launch) (g : Ly) (hG : XG shR g) (a0 : Int64) (a1 : Int64) (a2 : Int64) (t : Mm) {r : Int32} {t' : Mm} (h : f_X8_in a0 a1 a2 t = some (r, t')) : MI l yX8_in cX8_in 6 (some .boolean) 1 shR g [.long a0, .long a1, .long a2] t (XQi shR g r t') := by
  refine x_met hG (by decide +kernel) (Nat.le_of_ble_eq_true rfl) ?_
  intro p e s m below meth c ls X hP hl
  have hS : va_S (XA shR g) s.heap s.heap [] := va_S.rf
  have hl : lv_has ls 6 [(0, .long a0), (2, .long a1), (4, .long a2)] := hl
  unfold f_X8_in at h
  generalize ([.long a0, .long a1, .long a2] : List Value).toArray = args at X ⊢
  refine lv_lload_n X.1.1 X.1.2.1 dX8_in_0 rfl (lv_at hl 0 rfl) ?_
  refine lv_lload_n X.1.1 X.1.2.1 dX8_in_1 rfl (lv_at hl 1 rfl) ?_
  refine W.lcmp X.1.1 X.1.2.1 dX8_in_2 ?_
  refine lv_if_lt (tgt := 17) X.1.1 X.1.2.1 dX8_in_3 (by decide) (fun c_1 => ?_) (fun c_1 => ?_)
  · have h := o_pos c_1 h
    refine lv_iconst (v := 0) X.1.1 X.1.2.1 dX8_in_17 (by decide) ?_
    obtain ⟨rfl, rfl⟩ := o_ret2 h
    exact x_zret rfl X hP hS dX8_in_18
  · have h := o_neg c_1 h
    refine lv_lload_n X.1.1 X.1.2.1 dX8_in_6 rfl (lv_at hl 0 rfl) ?_
    refine lv_lload X.1.1 X.1.2.1 dX8_in_7 (lv_at hl 2 rfl) ?_
    refine W.lcmp X.1.1 X.1.2.1 dX8_in_9 ?_
    refine lv_if_gt (tgt := 17) X.1.1 X.1.2.1 dX8_in_10 (by decide) (fun c_2 => ?_) (fun c_2 => ?_)
    · have h := o_pos c_2 h
      refine lv_iconst (v := 0) X.1.1 X.1.2.1 dX8_in_17 (by decide) ?_
      obtain ⟨rfl, rfl⟩ := o_ret2 h
      exact x_zret rfl X hP hS dX8_in_18
    · have h := o_neg c_2 h
      refine lv_iconst (v := 1) X.1.1 X.1.2.1 dX8_in_13 (by decide) ?_
      refine lv_goto (tgt := 18) X.1.1 X.1.2.1 dX8_in_14 (by decide) ?_
      obtain ⟨rfl, rfl⟩ := o_ret2 h
      exact x_zret rfl X hP hS dX8_in_18
/-- FordQuestionsModel.has(II)Z -/
def f_X8_has (a0 : Int32) (a1 : Int32) (t : Mm) : Option (Int32 × Mm) := if ((a0 >>> (a1 &&& 31)) &&& 1) = 1 then (some (1, t)) else (some (0, t))
theorem hd_X8_has : x_hd yX8_has 2 := by decide +kernel
set_option maxRecDepth 100000 in
set_option maxHeartbeats 4000000 in
theorem c_X8_has (l : Launch) (g : Ly) (hG : XG shR g) (a0 : Int32) (a1 : Int32) (t : Mm) {r : Int32} {t' : Mm} (h : f_X8_has a0 a1 t = some (r, t')) : MI l yX8_has cX8_has 2 (some .boolean) 1 shR g [.int a0, .int a1] t (XQi shR g r t') := by
  refine x_met hG (by decide +kernel) (Nat.le_of_ble_eq_true rfl) ?_
  intro p e s m below meth c ls X hP hl
  have hS : va_S (XA shR g) s.heap s.heap [] := va_S.rf
  have hl : lv_has ls 2 [(0, .int a0), (1, .int a1)] := hl
  unfold f_X8_has at h
  generalize ([.int a0, .int a1] : List Value).toArray = args at X ⊢
  refine lv_iload_n X.1.1 X.1.2.1 dX8_has_0 rfl (lv_at hl 0 rfl) ?_
  refine lv_iload_n X.1.1 X.1.2.1 dX8_has_1 rfl (lv_at hl 1 rfl) ?_
  refine lv_ishr X.1.1 X.1.2.1 dX8_has_2 ?_
  refine lv_iconst (v := 1) X.1.1 X.1.2.1 dX8_has_3 (by decide) ?_
  refine lv_iand X.1.1 X.1.2.1 dX8_has_4 ?_
  refine lv_iconst (v := 1) X.1.1 X.1.2.1 dX8_has_5 (by decide) ?_
  refine lv_icmp_ne (tgt := 13) X.1.1 X.1.2.1 dX8_has_6 (by decide) (fun c_1 => ?_) (fun c_1 => ?_)
  · have h := o_neg c_1 h
    refine lv_iconst (v := 0) X.1.1 X.1.2.1 dX8_has_13 (by decide) ?_
    obtain ⟨rfl, rfl⟩ := o_ret2 h
    exact x_zret rfl X hP hS dX8_has_14
  · have h := o_pos c_1 h
    refine lv_iconst (v := 1) X.1.1 X.1.2.1 dX8_has_9 (by decide) ?_
    refine lv_goto (tgt := 14) X.1.1 X.1.2.1 dX8_has_10 (by decide) ?_
    obtain ⟨rfl, rfl⟩ := o_ret2 h
    exact x_zret rfl X hP hS dX8_has_14
/-- FordQuestionsModel.isQuestion(I)Z -/
def f_X8_isQuestion (a0 : Int32) (t : Mm) : Option (Int32 × Mm) := o_bd (f_X8_in (a0.toInt64) 0 (((t.1 9 0 0 0) - 1).toInt64) t) fun (r_3, t_1) => if (r_3 = 0 ∨ r_3 = 1) then some (r_3, t_1) else none
theorem hd_X8_isQuestion : x_hd yX8_isQuestion 1 := by decide +kernel
set_option maxRecDepth 100000 in
set_option maxHeartbeats 4000000 in
theorem c_X8_isQuestion (l : Launch) (g : Ly) (hG : XG shR g) (a0 : Int32) (t : Mm) {r : Int32} {t' : Mm} (h : f_X8_isQuestion a0 t = some (r, t')) : MI l yX8_isQuestion cX8_isQuestion 2 (some .boolean) 2 shR g [.ref (g.2.2 (9, 0, 0)), .int a0] t (XQi shR g r t') := by
  refine x_met hG (by decide +kernel) (Nat.le_of_ble_eq_true rfl) ?_
  intro p e s m below meth c ls X hP hl
  have hS : va_S (XA shR g) s.heap s.heap [] := va_S.rf
  have hl : lv_has ls 2 [(0, .ref (g.2.2 (9, 0, 0))), (1, .int a0)] := hl
  unfold f_X8_isQuestion at h
  generalize ([.ref (g.2.2 (9, 0, 0)), .int a0] : List Value).toArray = args at X ⊢
  refine lv_iload_n X.1.1 X.1.2.1 dX8_isQuestion_0 rfl (lv_at hl 1 rfl) ?_
  refine lv_i2l (v := (a0.toInt64)) X.1.1 X.1.2.1 dX8_isQuestion_1 rfl ?_
  refine lv_lconst (v := 0) X.1.1 X.1.2.1 dX8_isQuestion_2 (by decide) ?_
  refine lv_aload_n X.1.1 X.1.2.1 dX8_isQuestion_3 rfl (lv_at hl 0 rfl) ?_
  refine gt_X8_0 X hP (kyM (by decide)) wd_880 dX8_isQuestion_4 ?_
  refine lv_iconst (v := 1) X.1.1 X.1.2.1 dX8_isQuestion_7 (by decide) ?_
  refine lv_isub X.1.1 X.1.2.1 dX8_isQuestion_8 ?_
  refine lv_i2l (v := (((t.1 9 0 0 0) - 1).toInt64)) X.1.1 X.1.2.1 dX8_isQuestion_9 rfl ?_
  obtain ⟨⟨r_3, t_1⟩, hc_2, h⟩ := o_bd_inv h
  refine x_calli (x_runS (As := [.long (a0.toInt64), .long 0, .long (((t.1 9 0 0 0) - 1).toInt64)]) (rest := []) X hP hS (c_X8_in l g X.2.2.2.2.1 (a0.toInt64) 0 (((t.1 9 0 0 0) - 1).toInt64) t hc_2) ⟨wd_981, wd_979, wd_980, wd_62⟩ hd_X8_in ⟨by omega, by decide⟩ rfl hl.1 rfl (Nat.le_of_ble_eq_true rfl) dX8_isQuestion_10) hS (fun H locs hP hS => ?_)
  obtain ⟨g_5, h⟩ := o_gd_inv h
  obtain ⟨rfl, rfl⟩ := o_ret2 h
  exact x_zret (x_narZ g_5) X hP hS dX8_isQuestion_13
/-- FordQuestionsModel.isCrosser(I)Z -/
def f_X8_isCrosser (a0 : Int32) (t : Mm) : Option (Int32 × Mm) := o_bd (f_X8_in (a0.toInt64) 0 (((t.1 9 0 0 1) - 1).toInt64) t) fun (r_3, t_1) => if (r_3 = 0 ∨ r_3 = 1) then some (r_3, t_1) else none
theorem hd_X8_isCrosser : x_hd yX8_isCrosser 1 := by decide +kernel
set_option maxRecDepth 100000 in
set_option maxHeartbeats 4000000 in
theorem c_X8_isCrosser (l : Launch) (g : Ly) (hG : XG shR g) (a0 : Int32) (t : Mm) {r : Int32} {t' : Mm} (h : f_X8_isCrosser a0 t = some (r, t')) : MI l yX8_isCrosser cX8_isCrosser 2 (some .boolean) 2 shR g [.ref (g.2.2 (9, 0, 0)), .int a0] t (XQi shR g r t') := by
  refine x_met hG (by decide +kernel) (Nat.le_of_ble_eq_true rfl) ?_
  intro p e s m below meth c ls X hP hl
  have hS : va_S (XA shR g) s.heap s.heap [] := va_S.rf
  have hl : lv_has ls 2 [(0, .ref (g.2.2 (9, 0, 0))), (1, .int a0)] := hl
  unfold f_X8_isCrosser at h
  generalize ([.ref (g.2.2 (9, 0, 0)), .int a0] : List Value).toArray = args at X ⊢
  refine lv_iload_n X.1.1 X.1.2.1 dX8_isCrosser_0 rfl (lv_at hl 1 rfl) ?_
  refine lv_i2l (v := (a0.toInt64)) X.1.1 X.1.2.1 dX8_isCrosser_1 rfl ?_
  refine lv_lconst (v := 0) X.1.1 X.1.2.1 dX8_isCrosser_2 (by decide) ?_
  refine lv_aload_n X.1.1 X.1.2.1 dX8_isCrosser_3 rfl (lv_at hl 0 rfl) ?_
  refine gt_X8_1 X hP (kyM (by decide)) wd_881 dX8_isCrosser_4 ?_
  refine lv_iconst (v := 1) X.1.1 X.1.2.1 dX8_isCrosser_7 (by decide) ?_
  refine lv_isub X.1.1 X.1.2.1 dX8_isCrosser_8 ?_
  refine lv_i2l (v := (((t.1 9 0 0 1) - 1).toInt64)) X.1.1 X.1.2.1 dX8_isCrosser_9 rfl ?_
  obtain ⟨⟨r_3, t_1⟩, hc_2, h⟩ := o_bd_inv h
  refine x_calli (x_runS (As := [.long (a0.toInt64), .long 0, .long (((t.1 9 0 0 1) - 1).toInt64)]) (rest := []) X hP hS (c_X8_in l g X.2.2.2.2.1 (a0.toInt64) 0 (((t.1 9 0 0 1) - 1).toInt64) t hc_2) ⟨wd_981, wd_979, wd_980, wd_62⟩ hd_X8_in ⟨by omega, by decide⟩ rfl hl.1 rfl (Nat.le_of_ble_eq_true rfl) dX8_isCrosser_10) hS (fun H locs hP hS => ?_)
  obtain ⟨g_5, h⟩ := o_gd_inv h
  obtain ⟨rfl, rfl⟩ := o_ret2 h
  exact x_zret (x_narZ g_5) X hP hS dX8_isCrosser_13
def b_X8_aside_2 (N : Nat) (k2 : Int32 × Mm → Option (Mm)) (x1 : Int32) (t : Mm) : Option (Mm) := if 31 ≤ x1 then (some t) else (if o_inb x1 31 = true then (if o_inb x1 31 = true then (o_nm (sI t 9 0 5 (x1.toNatClampNeg) (t.1 9 0 4 (x1.toNatClampNeg))) fun t_4 => k2 ((x1 + 1), t_4)) else none) else none)
def f_X8_aside_2 (N : Nat) (x1 : Int32) (t : Mm) : Option (Mm) := o_lp (fun k x => b_X8_aside_2 N k x.1 x.2) N (x1, t)
/-- FordQuestionsModel.aside()V -/
def f_X8_aside (N : Nat) (t : Mm) : Option (Mm) := f_X8_aside_2 N 0 t
theorem hd_X8_aside : x_hd yX8_aside 0 := by decide +kernel
set_option maxRecDepth 100000 in
set_option maxHeartbeats 4000000 in
theorem wb_X8_aside_2 {l : Launch} {g : Ly} {p : Program} {e : Env} {s : State} {m : MethodId} {args : Array Value} {below : List Frame} {meth : Method} {c : Code} (N : Nat) (X : XC p m meth c cX8_aside 2 s args (.code yX8_aside cX8_aside 2 none) RX8 none shR g) {t' : Mm} {k2 : Int32 × Mm → Option (Mm)} (hk2 : ∀ x : Int32 × Mm, k2 x = some t' → ∀ (H : Heap) (locs : List Loc) (ls : Array Slot), XP shR g x.2 H → va_S (XA shR g) s.heap H locs → lv_has ls 2 [(0, .ref (g.2.2 (9, 0, 0))), (1, .int x.1)] → W p l e (rmv 1) s m args below meth c H locs 0 0 (MQ below (XQv shR g t') args s 0 0 (XA shR g)) (F0 m 2 ls [])) (x1 : Int32) (t : Mm) (H : Heap) (locs : List Loc) (ls : Array Slot) (hP : XP shR g t H) (hS : va_S (XA shR g) s.heap H locs) (hl : lv_has ls 2 [(0, .ref (g.2.2 (9, 0, 0))), (1, .int x1)]) (h : b_X8_aside_2 N k2 x1 t = some t') : W p l e (rmv 1) s m args below meth c H locs 0 0 (MQ below (XQv shR g t') args s 0 0 (XA shR g)) (F0 m 2 ls []) := by
  unfold b_X8_aside_2 at h
  refine lv_iload_n X.1.1 X.1.2.1 dX8_aside_2 rfl (lv_at hl 1 rfl) ?_
  refine lv_bipush (v := 31) X.1.1 X.1.2.1 dX8_aside_3 (by decide) ?_
  refine lv_icmp_ge (tgt := 26) X.1.1 X.1.2.1 dX8_aside_5 (by decide) (fun c_1 => ?_) (fun c_1 => ?_)
  · have h := o_pos c_1 h
    obtain rfl := o_ret h
    exact x_vret X hP hS dX8_aside_26
  · have h := o_neg c_1 h
    refine lv_aload_n X.1.1 X.1.2.1 dX8_aside_8 rfl (lv_at hl 0 rfl) ?_
    refine gt_X8_5 X hP (kyM (by decide)) wd_885 dX8_aside_9 ?_
    refine lv_iload_n X.1.1 X.1.2.1 dX8_aside_12 rfl (lv_at hl 1 rfl) ?_
    refine lv_aload_n X.1.1 X.1.2.1 dX8_aside_13 rfl (lv_at hl 0 rfl) ?_
    refine gt_X8_4 X hP (kyM (by decide)) wd_884 dX8_aside_14 ?_
    refine lv_iload_n X.1.1 X.1.2.1 dX8_aside_17 rfl (lv_at hl 1 rfl) ?_
    obtain ⟨g_2, h⟩ := o_gd_inv h
    refine x_iald X hP (kyM (by decide)) (fun _ _ => rfl) g_2 dX8_aside_18 ?_
    obtain ⟨g_3, h⟩ := o_gd_inv h
    obtain ⟨t_4, e_5, h⟩ := o_nm_inv h
    refine x_iast X hP hS (kyM (by decide)) (fun _ _ => rfl) g_3 dX8_aside_19 (fun H locs hP hS => ?_)
    have hP : XP shR g t_4 H := by rw [e_5]; exact hP
    refine lv_iinc (v := (x1 + 1)) (lv' := [(1, .int (x1 + 1)), (0, .ref (g.2.2 (9, 0, 0)))]) X.1.1 X.1.2.1 dX8_aside_20 hl (k := 1) rfl rfl (by decide) rfl (fun ls hl => ?_)
    refine lv_goto (tgt := 2) X.1.1 X.1.2.1 dX8_aside_23 (by decide) ?_
    exact hk2 ((x1 + 1), t_4) h _ _ _ hP hS (lv_sub hl [1, 0] rfl)
set_option maxRecDepth 100000 in
set_option maxHeartbeats 4000000 in
theorem w_X8_aside_2 {l : Launch} {g : Ly} {p : Program} {e : Env} {s : State} {m : MethodId} {args : Array Value} {below : List Frame} {meth : Method} {c : Code} (N : Nat) (X : XC p m meth c cX8_aside 2 s args (.code yX8_aside cX8_aside 2 none) RX8 none shR g) {t' : Mm} (x1 : Int32) (t : Mm) (H : Heap) (locs : List Loc) (ls : Array Slot) (hP : XP shR g t H) (hS : va_S (XA shR g) s.heap H locs) (hl : lv_has ls 2 [(0, .ref (g.2.2 (9, 0, 0))), (1, .int x1)]) (h : f_X8_aside_2 N x1 t = some t') : W p l e (rmv 1) s m args below meth c H locs 0 0 (MQ below (XQv shR g t') args s 0 0 (XA shR g)) (F0 m 2 ls []) :=
  o_lp_ind (P := fun x : Int32 × Mm => ∀ (H : Heap) (locs : List Loc) (ls : Array Slot), XP shR g x.2 H → va_S (XA shR g) s.heap H locs → lv_has ls 2 [(0, .ref (g.2.2 (9, 0, 0))), (1, .int x.1)] → W p l e (rmv 1) s m args below meth c H locs 0 0 (MQ below (XQv shR g t') args s 0 0 (XA shR g)) (F0 m 2 ls [])) (fun k hk x h H locs ls hP hS hl => wb_X8_aside_2 N X hk x.1 x.2 H locs ls hP hS hl h) N (x1, t) h H locs ls hP hS hl
set_option maxRecDepth 100000 in
set_option maxHeartbeats 4000000 in
theorem c_X8_aside (l : Launch) (g : Ly) (N : Nat) (hG : XG shR g) (t : Mm) {t' : Mm} (h : f_X8_aside N t = some t') : MI l yX8_aside cX8_aside 2 none 1 shR g [.ref (g.2.2 (9, 0, 0))] t (XQv shR g t') := by
  refine x_met hG (by decide +kernel) (Nat.le_of_ble_eq_true rfl) ?_
  intro p e s m below meth c ls X hP hl
  have hS : va_S (XA shR g) s.heap s.heap [] := va_S.rf
  have hl : lv_has ls 2 [(0, .ref (g.2.2 (9, 0, 0)))] := hl
  unfold f_X8_aside at h
  generalize ([.ref (g.2.2 (9, 0, 0))] : List Value).toArray = args at X ⊢
  refine lv_iconst (v := 0) X.1.1 X.1.2.1 dX8_aside_0 (by decide) ?_
  refine lv_istore_n (lv' := [(1, .int 0), (0, .ref (g.2.2 (9, 0, 0)))]) X.1.1 X.1.2.1 dX8_aside_1 rfl hl (by decide) rfl (fun ls hl => ?_)
  exact w_X8_aside_2 N X 0 t _ _ _ hP hS (lv_sub hl [1, 0] rfl) h
def b_X8_take_2 (N : Nat) (k2 : Int32 × Mm → Option (Mm)) (x1 : Int32) (t : Mm) : Option (Mm) := if 31 ≤ x1 then (some t) else (if o_inb x1 31 = true then (if o_inb x1 31 = true then (o_nm (sI t 9 0 4 (x1.toNatClampNeg) (t.1 9 0 5 (x1.toNatClampNeg))) fun t_4 => k2 ((x1 + 1), t_4)) else none) else none)
def f_X8_take_2 (N : Nat) (x1 : Int32) (t : Mm) : Option (Mm) := o_lp (fun k x => b_X8_take_2 N k x.1 x.2) N (x1, t)
/-- FordQuestionsModel.take()V -/
def f_X8_take (N : Nat) (t : Mm) : Option (Mm) := f_X8_take_2 N 0 t
theorem hd_X8_take : x_hd yX8_take 0 := by decide +kernel
set_option maxRecDepth 100000 in
set_option maxHeartbeats 4000000 in
theorem wb_X8_take_2 {l : Launch} {g : Ly} {p : Program} {e : Env} {s : State} {m : MethodId} {args : Array Value} {below : List Frame} {meth : Method} {c : Code} (N : Nat) (X : XC p m meth c cX8_take 2 s args (.code yX8_take cX8_take 2 none) RX8 none shR g) {t' : Mm} {k2 : Int32 × Mm → Option (Mm)} (hk2 : ∀ x : Int32 × Mm, k2 x = some t' → ∀ (H : Heap) (locs : List Loc) (ls : Array Slot), XP shR g x.2 H → va_S (XA shR g) s.heap H locs → lv_has ls 2 [(0, .ref (g.2.2 (9, 0, 0))), (1, .int x.1)] → W p l e (rmv 1) s m args below meth c H locs 0 0 (MQ below (XQv shR g t') args s 0 0 (XA shR g)) (F0 m 2 ls [])) (x1 : Int32) (t : Mm) (H : Heap) (locs : List Loc) (ls : Array Slot) (hP : XP shR g t H) (hS : va_S (XA shR g) s.heap H locs) (hl : lv_has ls 2 [(0, .ref (g.2.2 (9, 0, 0))), (1, .int x1)]) (h : b_X8_take_2 N k2 x1 t = some t') : W p l e (rmv 1) s m args below meth c H locs 0 0 (MQ below (XQv shR g t') args s 0 0 (XA shR g)) (F0 m 2 ls []) := by
  unfold b_X8_take_2 at h
  refine lv_iload_n X.1.1 X.1.2.1 dX8_take_2 rfl (lv_at hl 1 rfl) ?_
  refine lv_bipush (v := 31) X.1.1 X.1.2.1 dX8_take_3 (by decide) ?_
  refine lv_icmp_ge (tgt := 26) X.1.1 X.1.2.1 dX8_take_5 (by decide) (fun c_1 => ?_) (fun c_1 => ?_)
  · have h := o_pos c_1 h
    obtain rfl := o_ret h
    exact x_vret X hP hS dX8_take_26
  · have h := o_neg c_1 h
    refine lv_aload_n X.1.1 X.1.2.1 dX8_take_8 rfl (lv_at hl 0 rfl) ?_
    refine gt_X8_4 X hP (kyM (by decide)) wd_884 dX8_take_9 ?_
    refine lv_iload_n X.1.1 X.1.2.1 dX8_take_12 rfl (lv_at hl 1 rfl) ?_
    refine lv_aload_n X.1.1 X.1.2.1 dX8_take_13 rfl (lv_at hl 0 rfl) ?_
    refine gt_X8_5 X hP (kyM (by decide)) wd_885 dX8_take_14 ?_
    refine lv_iload_n X.1.1 X.1.2.1 dX8_take_17 rfl (lv_at hl 1 rfl) ?_
    obtain ⟨g_2, h⟩ := o_gd_inv h
    refine x_iald X hP (kyM (by decide)) (fun _ _ => rfl) g_2 dX8_take_18 ?_
    obtain ⟨g_3, h⟩ := o_gd_inv h
    obtain ⟨t_4, e_5, h⟩ := o_nm_inv h
    refine x_iast X hP hS (kyM (by decide)) (fun _ _ => rfl) g_3 dX8_take_19 (fun H locs hP hS => ?_)
    have hP : XP shR g t_4 H := by rw [e_5]; exact hP
    refine lv_iinc (v := (x1 + 1)) (lv' := [(1, .int (x1 + 1)), (0, .ref (g.2.2 (9, 0, 0)))]) X.1.1 X.1.2.1 dX8_take_20 hl (k := 1) rfl rfl (by decide) rfl (fun ls hl => ?_)
    refine lv_goto (tgt := 2) X.1.1 X.1.2.1 dX8_take_23 (by decide) ?_
    exact hk2 ((x1 + 1), t_4) h _ _ _ hP hS (lv_sub hl [1, 0] rfl)
set_option maxRecDepth 100000 in
set_option maxHeartbeats 4000000 in
theorem w_X8_take_2 {l : Launch} {g : Ly} {p : Program} {e : Env} {s : State} {m : MethodId} {args : Array Value} {below : List Frame} {meth : Method} {c : Code} (N : Nat) (X : XC p m meth c cX8_take 2 s args (.code yX8_take cX8_take 2 none) RX8 none shR g) {t' : Mm} (x1 : Int32) (t : Mm) (H : Heap) (locs : List Loc) (ls : Array Slot) (hP : XP shR g t H) (hS : va_S (XA shR g) s.heap H locs) (hl : lv_has ls 2 [(0, .ref (g.2.2 (9, 0, 0))), (1, .int x1)]) (h : f_X8_take_2 N x1 t = some t') : W p l e (rmv 1) s m args below meth c H locs 0 0 (MQ below (XQv shR g t') args s 0 0 (XA shR g)) (F0 m 2 ls []) :=
  o_lp_ind (P := fun x : Int32 × Mm => ∀ (H : Heap) (locs : List Loc) (ls : Array Slot), XP shR g x.2 H → va_S (XA shR g) s.heap H locs → lv_has ls 2 [(0, .ref (g.2.2 (9, 0, 0))), (1, .int x.1)] → W p l e (rmv 1) s m args below meth c H locs 0 0 (MQ below (XQv shR g t') args s 0 0 (XA shR g)) (F0 m 2 ls [])) (fun k hk x h H locs ls hP hS hl => wb_X8_take_2 N X hk x.1 x.2 H locs ls hP hS hl h) N (x1, t) h H locs ls hP hS hl
set_option maxRecDepth 100000 in
set_option maxHeartbeats 4000000 in
theorem c_X8_take (l : Launch) (g : Ly) (N : Nat) (hG : XG shR g) (t : Mm) {t' : Mm} (h : f_X8_take N t = some t') : MI l yX8_take cX8_take 2 none 1 shR g [.ref (g.2.2 (9, 0, 0))] t (XQv shR g t') := by
  refine x_met hG (by decide +kernel) (Nat.le_of_ble_eq_true rfl) ?_
  intro p e s m below meth c ls X hP hl
  have hS : va_S (XA shR g) s.heap s.heap [] := va_S.rf
  have hl : lv_has ls 2 [(0, .ref (g.2.2 (9, 0, 0)))] := hl
  unfold f_X8_take at h
  generalize ([.ref (g.2.2 (9, 0, 0))] : List Value).toArray = args at X ⊢
  refine lv_iconst (v := 0) X.1.1 X.1.2.1 dX8_take_0 (by decide) ?_
  refine lv_istore_n (lv' := [(1, .int 0), (0, .ref (g.2.2 (9, 0, 0)))]) X.1.1 X.1.2.1 dX8_take_1 rfl hl (by decide) rfl (fun ls hl => ?_)
  exact w_X8_take_2 N X 0 t _ _ _ hP hS (lv_sub hl [1, 0] rfl) h
def f_X8_othersIn_36 (N : Nat) (k4 : Int32 × Int32 × Int32 × Mm → Option (Int32 × Mm)) (x1 : Int32) (x3 : Int32) (s0 : Int32) (s1 : Int32) (t : Mm) : Option (Int32 × Mm) := k4 (x1, (s0 + s1), (x3 + 1), t)
def f_X8_othersIn_35 (N : Nat) (k4 : Int32 × Int32 × Int32 × Mm → Option (Int32 × Mm)) (x1 : Int32) (x3 : Int32) (s0 : Int32) (t : Mm) : Option (Int32 × Mm) := f_X8_othersIn_36 N k4 x1 x3 s0 0 t
def b_X8_othersIn_4 (N : Nat) (k4 : Int32 × Int32 × Int32 × Mm → Option (Int32 × Mm)) (x1 : Int32) (x2 : Int32) (x3 : Int32) (t : Mm) : Option (Int32 × Mm) := if (t.1 9 0 0 1) ≤ x3 then (some (x2, t)) else (if x3 = x1 then (f_X8_othersIn_35 N k4 x1 x3 x2 t) else (if o_inb (19 + x3) 31 = true then (if (t.1 9 0 5 ((19 + x3).toNatClampNeg)) = 1 then (f_X8_othersIn_36 N k4 x1 x3 x2 1 t) else (f_X8_othersIn_35 N k4 x1 x3 x2 t)) else none))
def f_X8_othersIn_4 (N : Nat) (x1 : Int32) (x2 : Int32) (x3 : Int32) (t : Mm) : Option (Int32 × Mm) := o_lp (fun k x => b_X8_othersIn_4 N k x.1 x.2.1 x.2.2.1 x.2.2.2) N (x1, x2, x3, t)
/-- FordQuestionsModel.othersIn(I)I -/
def f_X8_othersIn (N : Nat) (a0 : Int32) (t : Mm) : Option (Int32 × Mm) := f_X8_othersIn_4 N a0 0 0 t
theorem hd_X8_othersIn : x_hd yX8_othersIn 1 := by decide +kernel
set_option maxRecDepth 100000 in
set_option maxHeartbeats 4000000 in
theorem w_X8_othersIn_36 {l : Launch} {g : Ly} {p : Program} {e : Env} {s : State} {m : MethodId} {args : Array Value} {below : List Frame} {meth : Method} {c : Code} (N : Nat) (X : XC p m meth c cX8_othersIn 4 s args (.code yX8_othersIn cX8_othersIn 4 (some .int)) RX8 (some .int) shR g) {r : Int32} {t' : Mm} {k4 : Int32 × Int32 × Int32 × Mm → Option (Int32 × Mm)} (hk4 : ∀ x : Int32 × Int32 × Int32 × Mm, k4 x = some (r, t') → ∀ (H : Heap) (locs : List Loc) (ls : Array Slot), XP shR g x.2.2.2 H → va_S (XA shR g) s.heap H locs → lv_has ls 4 [(0, .ref (g.2.2 (9, 0, 0))), (1, .int x.1), (2, .int x.2.1), (3, .int x.2.2.1)] → W p l e (rmv 1) s m args below meth c H locs 0 0 (MQ below (XQi shR g r t') args s 0 0 (XA shR g)) (F0 m 4 ls [])) (x1 : Int32) (x3 : Int32) (s0 : Int32) (s1 : Int32) (t : Mm) (H : Heap) (locs : List Loc) (ls : Array Slot) (hP : XP shR g t H) (hS : va_S (XA shR g) s.heap H locs) (hl : lv_has ls 4 [(0, .ref (g.2.2 (9, 0, 0))), (1, .int x1), (3, .int x3)]) (h : f_X8_othersIn_36 N k4 x1 x3 s0 s1 t = some (r, t')) : W p l e (rmv 1) s m args below meth c H locs 0 0 (MQ below (XQi shR g r t') args s 0 0 (XA shR g)) (F0 m 36 ls [.int s1, .int s0]) := by
  unfold f_X8_othersIn_36 at h
  refine lv_iadd X.1.1 X.1.2.1 dX8_othersIn_36 ?_
  refine lv_istore_n (lv' := [(2, .int (s0 + s1)), (0, .ref (g.2.2 (9, 0, 0))), (1, .int x1), (3, .int x3)]) X.1.1 X.1.2.1 dX8_othersIn_37 rfl hl (by decide) rfl (fun ls hl => ?_)
  refine lv_iinc (v := (x3 + 1)) (lv' := [(3, .int (x3 + 1)), (2, .int (s0 + s1)), (0, .ref (g.2.2 (9, 0, 0))), (1, .int x1)]) X.1.1 X.1.2.1 dX8_othersIn_38 hl (k := 3) rfl rfl (by decide) rfl (fun ls hl => ?_)
  refine lv_goto (tgt := 4) X.1.1 X.1.2.1 dX8_othersIn_41 (by decide) ?_
  exact hk4 (x1, (s0 + s1), (x3 + 1), t) h _ _ _ hP hS (lv_sub hl [2, 3, 1, 0] rfl)
set_option maxRecDepth 100000 in
set_option maxHeartbeats 4000000 in
theorem w_X8_othersIn_35 {l : Launch} {g : Ly} {p : Program} {e : Env} {s : State} {m : MethodId} {args : Array Value} {below : List Frame} {meth : Method} {c : Code} (N : Nat) (X : XC p m meth c cX8_othersIn 4 s args (.code yX8_othersIn cX8_othersIn 4 (some .int)) RX8 (some .int) shR g) {r : Int32} {t' : Mm} {k4 : Int32 × Int32 × Int32 × Mm → Option (Int32 × Mm)} (hk4 : ∀ x : Int32 × Int32 × Int32 × Mm, k4 x = some (r, t') → ∀ (H : Heap) (locs : List Loc) (ls : Array Slot), XP shR g x.2.2.2 H → va_S (XA shR g) s.heap H locs → lv_has ls 4 [(0, .ref (g.2.2 (9, 0, 0))), (1, .int x.1), (2, .int x.2.1), (3, .int x.2.2.1)] → W p l e (rmv 1) s m args below meth c H locs 0 0 (MQ below (XQi shR g r t') args s 0 0 (XA shR g)) (F0 m 4 ls [])) (x1 : Int32) (x3 : Int32) (s0 : Int32) (t : Mm) (H : Heap) (locs : List Loc) (ls : Array Slot) (hP : XP shR g t H) (hS : va_S (XA shR g) s.heap H locs) (hl : lv_has ls 4 [(0, .ref (g.2.2 (9, 0, 0))), (1, .int x1), (3, .int x3)]) (h : f_X8_othersIn_35 N k4 x1 x3 s0 t = some (r, t')) : W p l e (rmv 1) s m args below meth c H locs 0 0 (MQ below (XQi shR g r t') args s 0 0 (XA shR g)) (F0 m 35 ls [.int s0]) := by
  unfold f_X8_othersIn_35 at h
  refine lv_iconst (v := 0) X.1.1 X.1.2.1 dX8_othersIn_35 (by decide) ?_
  exact w_X8_othersIn_36 N X hk4 x1 x3 s0 0 t _ _ _ hP hS (lv_sub hl [0, 1, 2] rfl) h
set_option maxRecDepth 100000 in
set_option maxHeartbeats 4000000 in
theorem wb_X8_othersIn_4 {l : Launch} {g : Ly} {p : Program} {e : Env} {s : State} {m : MethodId} {args : Array Value} {below : List Frame} {meth : Method} {c : Code} (N : Nat) (X : XC p m meth c cX8_othersIn 4 s args (.code yX8_othersIn cX8_othersIn 4 (some .int)) RX8 (some .int) shR g) {r : Int32} {t' : Mm} {k4 : Int32 × Int32 × Int32 × Mm → Option (Int32 × Mm)} (hk4 : ∀ x : Int32 × Int32 × Int32 × Mm, k4 x = some (r, t') → ∀ (H : Heap) (locs : List Loc) (ls : Array Slot), XP shR g x.2.2.2 H → va_S (XA shR g) s.heap H locs → lv_has ls 4 [(0, .ref (g.2.2 (9, 0, 0))), (1, .int x.1), (2, .int x.2.1), (3, .int x.2.2.1)] → W p l e (rmv 1) s m args below meth c H locs 0 0 (MQ below (XQi shR g r t') args s 0 0 (XA shR g)) (F0 m 4 ls [])) (x1 : Int32) (x2 : Int32) (x3 : Int32) (t : Mm) (H : Heap) (locs : List Loc) (ls : Array Slot) (hP : XP shR g t H) (hS : va_S (XA shR g) s.heap H locs) (hl : lv_has ls 4 [(0, .ref (g.2.2 (9, 0, 0))), (1, .int x1), (2, .int x2), (3, .int x3)]) (h : b_X8_othersIn_4 N k4 x1 x2 x3 t = some (r, t')) : W p l e (rmv 1) s m args below meth c H locs 0 0 (MQ below (XQi shR g r t') args s 0 0 (XA shR g)) (F0 m 4 ls []) := by
  unfold b_X8_othersIn_4 at h
  refine lv_iload_n X.1.1 X.1.2.1 dX8_othersIn_4 rfl (lv_at hl 3 rfl) ?_
  refine lv_aload_n X.1.1 X.1.2.1 dX8_othersIn_5 rfl (lv_at hl 0 rfl) ?_
  refine gt_X8_1 X hP (kyM (by decide)) wd_881 dX8_othersIn_6 ?_
  refine lv_icmp_ge (tgt := 44) X.1.1 X.1.2.1 dX8_othersIn_9 (by decide) (fun c_1 => ?_) (fun c_1 => ?_)
  · have h := o_pos c_1 h
    refine lv_iload_n X.1.1 X.1.2.1 dX8_othersIn_44 rfl (lv_at hl 2 rfl) ?_
    obtain ⟨rfl, rfl⟩ := o_ret2 h
    exact x_iret X hP hS dX8_othersIn_45
  · have h := o_neg c_1 h
    refine lv_iload_n X.1.1 X.1.2.1 dX8_othersIn_12 rfl (lv_at hl 2 rfl) ?_
    refine lv_iload_n X.1.1 X.1.2.1 dX8_othersIn_13 rfl (lv_at hl 3 rfl) ?_
    refine lv_iload_n X.1.1 X.1.2.1 dX8_othersIn_14 rfl (lv_at hl 1 rfl) ?_
    refine lv_icmp_eq (tgt := 35) X.1.1 X.1.2.1 dX8_othersIn_15 (by decide) (fun c_2 => ?_) (fun c_2 => ?_)
    · have h := o_pos c_2 h
      exact w_X8_othersIn_35 N X hk4 x1 x3 x2 t _ _ _ hP hS (lv_sub hl [0, 1, 3] rfl) h
    · have h := o_neg c_2 h
      refine lv_aload_n X.1.1 X.1.2.1 dX8_othersIn_18 rfl (lv_at hl 0 rfl) ?_
      refine gt_X8_5 X hP (kyM (by decide)) wd_885 dX8_othersIn_19 ?_
      refine lv_bipush (v := 19) X.1.1 X.1.2.1 dX8_othersIn_22 (by decide) ?_
      refine lv_iload_n X.1.1 X.1.2.1 dX8_othersIn_24 rfl (lv_at hl 3 rfl) ?_
      refine lv_iadd X.1.1 X.1.2.1 dX8_othersIn_25 ?_
      obtain ⟨g_3, h⟩ := o_gd_inv h
      refine x_iald X hP (kyM (by decide)) (fun _ _ => rfl) g_3 dX8_othersIn_26 ?_
      refine lv_iconst (v := 1) X.1.1 X.1.2.1 dX8_othersIn_27 (by decide) ?_
      refine lv_icmp_ne (tgt := 35) X.1.1 X.1.2.1 dX8_othersIn_28 (by decide) (fun c_4 => ?_) (fun c_4 => ?_)
      · have h := o_neg c_4 h
        exact w_X8_othersIn_35 N X hk4 x1 x3 x2 t _ _ _ hP hS (lv_sub hl [0, 1, 3] rfl) h
      · have h := o_pos c_4 h
        refine lv_iconst (v := 1) X.1.1 X.1.2.1 dX8_othersIn_31 (by decide) ?_
        refine lv_goto (tgt := 36) X.1.1 X.1.2.1 dX8_othersIn_32 (by decide) ?_
        exact w_X8_othersIn_36 N X hk4 x1 x3 x2 1 t _ _ _ hP hS (lv_sub hl [0, 1, 3] rfl) h
set_option maxRecDepth 100000 in
set_option maxHeartbeats 4000000 in
theorem w_X8_othersIn_4 {l : Launch} {g : Ly} {p : Program} {e : Env} {s : State} {m : MethodId} {args : Array Value} {below : List Frame} {meth : Method} {c : Code} (N : Nat) (X : XC p m meth c cX8_othersIn 4 s args (.code yX8_othersIn cX8_othersIn 4 (some .int)) RX8 (some .int) shR g) {r : Int32} {t' : Mm} (x1 : Int32) (x2 : Int32) (x3 : Int32) (t : Mm) (H : Heap) (locs : List Loc) (ls : Array Slot) (hP : XP shR g t H) (hS : va_S (XA shR g) s.heap H locs) (hl : lv_has ls 4 [(0, .ref (g.2.2 (9, 0, 0))), (1, .int x1), (2, .int x2), (3, .int x3)]) (h : f_X8_othersIn_4 N x1 x2 x3 t = some (r, t')) : W p l e (rmv 1) s m args below meth c H locs 0 0 (MQ below (XQi shR g r t') args s 0 0 (XA shR g)) (F0 m 4 ls []) :=
  o_lp_ind (P := fun x : Int32 × Int32 × Int32 × Mm => ∀ (H : Heap) (locs : List Loc) (ls : Array Slot), XP shR g x.2.2.2 H → va_S (XA shR g) s.heap H locs → lv_has ls 4 [(0, .ref (g.2.2 (9, 0, 0))), (1, .int x.1), (2, .int x.2.1), (3, .int x.2.2.1)] → W p l e (rmv 1) s m args below meth c H locs 0 0 (MQ below (XQi shR g r t') args s 0 0 (XA shR g)) (F0 m 4 ls [])) (fun k hk x h H locs ls hP hS hl => wb_X8_othersIn_4 N X hk x.1 x.2.1 x.2.2.1 x.2.2.2 H locs ls hP hS hl h) N (x1, x2, x3, t) h H locs ls hP hS hl
set_option maxRecDepth 100000 in
set_option maxHeartbeats 4000000 in
theorem c_X8_othersIn (l : Launch) (g : Ly) (N : Nat) (hG : XG shR g) (a0 : Int32) (t : Mm) {r : Int32} {t' : Mm} (h : f_X8_othersIn N a0 t = some (r, t')) : MI l yX8_othersIn cX8_othersIn 4 (some .int) 1 shR g [.ref (g.2.2 (9, 0, 0)), .int a0] t (XQi shR g r t') := by
  refine x_met hG (by decide +kernel) (Nat.le_of_ble_eq_true rfl) ?_
  intro p e s m below meth c ls X hP hl
  have hS : va_S (XA shR g) s.heap s.heap [] := va_S.rf
  have hl : lv_has ls 4 [(0, .ref (g.2.2 (9, 0, 0))), (1, .int a0)] := hl
  unfold f_X8_othersIn at h
  generalize ([.ref (g.2.2 (9, 0, 0)), .int a0] : List Value).toArray = args at X ⊢
  refine lv_iconst (v := 0) X.1.1 X.1.2.1 dX8_othersIn_0 (by decide) ?_
  refine lv_istore_n (lv' := [(2, .int 0), (0, .ref (g.2.2 (9, 0, 0))), (1, .int a0)]) X.1.1 X.1.2.1 dX8_othersIn_1 rfl hl (by decide) rfl (fun ls hl => ?_)
  refine lv_iconst (v := 0) X.1.1 X.1.2.1 dX8_othersIn_2 (by decide) ?_
  refine lv_istore_n (lv' := [(3, .int 0), (2, .int 0), (0, .ref (g.2.2 (9, 0, 0))), (1, .int a0)]) X.1.1 X.1.2.1 dX8_othersIn_3 rfl hl (by decide) rfl (fun ls hl => ?_)
  exact w_X8_othersIn_4 N X a0 0 0 t _ _ _ hP hS (lv_sub hl [2, 3, 1, 0] rfl) h
def f_X8_hoursOf_141 (N : Nat) (x6 : Int32) (t : Mm) : Option (Int32 × Mm) := if 1 ≤ x6 then (some (x6, t)) else (some (1, t))
def f_X8_hoursOf_121 (N : Nat) (x3 : Int32) (x6 : Int32) (t : Mm) : Option (Int32 × Mm) := if x3 = 4 then (if o_inb 29 31 = true then (if ((t.1 9 0 5 (Int32.toNatClampNeg 29)) - (t.1 9 0 5 (Int32.toNatClampNeg 29)) / 2 * 2) = 0 then (f_X8_hoursOf_141 N (x6 + (-1)) t) else (f_X8_hoursOf_141 N x6 t)) else none) else (f_X8_hoursOf_141 N x6 t)
def f_X8_hoursOf_119 (N : Nat) (x3 : Int32) (s0 : Int32) (t : Mm) : Option (Int32 × Mm) := f_X8_hoursOf_121 N x3 s0 t
def f_X8_hoursOf_107 (N : Nat) (x3 : Int32) (x6 : Int32) (t : Mm) : Option (Int32 × Mm) := if x6 ≤ 2 then (f_X8_hoursOf_119 N x3 x6 t) else (f_X8_hoursOf_119 N x3 2 t)
def f_X8_hoursOf_97 (N : Nat) (x3 : Int32) (x6 : Int32) (t : Mm) : Option (Int32 × Mm) := if x3 = 2 then (f_X8_hoursOf_107 N x3 x6 t) else (if x3 = 4 then (f_X8_hoursOf_107 N x3 x6 t) else (f_X8_hoursOf_121 N x3 x6 t))
def f_X8_hoursOf_80 (N : Nat) (x1 : Int32) (x3 : Int32) (s0 : Int32) (t : Mm) : Option (Int32 × Mm) := if x3 = 3 then (o_bd (f_X8_othersIn N x1 t) fun (r_11, t_9) => f_X8_hoursOf_97 N x3 (s0 + r_11) t_9) else (f_X8_hoursOf_97 N x3 s0 t)
def f_X8_hoursOf_71 (N : Nat) (x1 : Int32) (x3 : Int32) (x5 : Int32) (t : Mm) : Option (Int32 × Mm) := f_X8_hoursOf_80 N x1 x3 (2 * x5) t
def f_X8_hoursOf_21 (N : Nat) (x1 : Int32) (x2 : Int32) (s0 : Int32) (t : Mm) : Option (Int32 × Mm) := if o_inb (9 + x1) 31 = true then (if o_inb x2 8 = true then (o_bd (f_X8_has (t.1 9 0 5 ((9 + x1).toNatClampNeg)) (t.1 9 0 2 (x2.toNatClampNeg)) t) fun (r_17, t_15) => if o_inb (1 + x2) 31 = true then (o_nm ((t_15.1 9 0 5 ((1 + x2).toNatClampNeg))) fun x_20 => if r_17 = 0 then (if s0 = 1 then (f_X8_hoursOf_71 N x1 s0 x_20 t_15) else (if s0 = 3 then (f_X8_hoursOf_71 N x1 s0 x_20 t_15) else (f_X8_hoursOf_80 N x1 s0 x_20 t_15))) else (f_X8_hoursOf_80 N x1 s0 1 t_15)) else none) else none) else none
/-- FordQuestionsModel.hoursOf(II)I -/
def f_X8_hoursOf (N : Nat) (a0 : Int32) (a1 : Int32) (t : Mm) : Option (Int32 × Mm) := if a0 = (t.1 9 0 0 17) then (f_X8_hoursOf_21 N a0 a1 (t.1 9 0 0 18) t) else (if o_inb a0 5 = true then (f_X8_hoursOf_21 N a0 a1 (t.1 9 0 3 (a0.toNatClampNeg)) t) else none)
theorem hd_X8_hoursOf : x_hd yX8_hoursOf 2 := by decide +kernel
set_option maxRecDepth 100000 in
set_option maxHeartbeats 4000000 in
theorem w_X8_hoursOf_141 {l : Launch} {g : Ly} {p : Program} {e : Env} {s : State} {m : MethodId} {args : Array Value} {below : List Frame} {meth : Method} {c : Code} (N : Nat) (X : XC p m meth c cX8_hoursOf 7 s args (.code yX8_hoursOf cX8_hoursOf 7 (some .int)) RX8 (some .int) shR g) {r : Int32} {t' : Mm} (x6 : Int32) (t : Mm) (H : Heap) (locs : List Loc) (ls : Array Slot) (hP : XP shR g t H) (hS : va_S (XA shR g) s.heap H locs) (hl : lv_has ls 7 [(6, .int x6)]) (h : f_X8_hoursOf_141 N x6 t = some (r, t')) : W p l e (rmv 2) s m args below meth c H locs 0 0 (MQ below (XQi shR g r t') args s 0 0 (XA shR g)) (F0 m 141 ls []) := by
  unfold f_X8_hoursOf_141 at h
  refine lv_iload X.1.1 X.1.2.1 dX8_hoursOf_141 (lv_at hl 0 rfl) ?_
  refine lv_iconst (v := 1) X.1.1 X.1.2.1 dX8_hoursOf_143 (by decide) ?_
  refine lv_icmp_ge (tgt := 151) X.1.1 X.1.2.1 dX8_hoursOf_144 (by decide) (fun c_1 => ?_) (fun c_1 => ?_)
  · have h := o_pos c_1 h
    refine lv_iload X.1.1 X.1.2.1 dX8_hoursOf_151 (lv_at hl 0 rfl) ?_
    obtain ⟨rfl, rfl⟩ := o_ret2 h
    exact x_iret X hP hS dX8_hoursOf_153
  · have h := o_neg c_1 h
    refine lv_iconst (v := 1) X.1.1 X.1.2.1 dX8_hoursOf_147 (by decide) ?_
    refine lv_goto (tgt := 153) X.1.1 X.1.2.1 dX8_hoursOf_148 (by decide) ?_
    obtain ⟨rfl, rfl⟩ := o_ret2 h
    exact x_iret X hP hS dX8_hoursOf_153
set_option maxRecDepth 100000 in
set_option maxHeartbeats 4000000 in
theorem w_X8_hoursOf_121 {l : Launch} {g : Ly} {p : Program} {e : Env} {s : State} {m : MethodId} {args : Array Value} {below : List Frame} {meth : Method} {c : Code} (N : Nat) (X : XC p m meth c cX8_hoursOf 7 s args (.code yX8_hoursOf cX8_hoursOf 7 (some .int)) RX8 (some .int) shR g) {r : Int32} {t' : Mm} (x3 : Int32) (x6 : Int32) (t : Mm) (H : Heap) (locs : List Loc) (ls : Array Slot) (hP : XP shR g t H) (hS : va_S (XA shR g) s.heap H locs) (hl : lv_has ls 7 [(0, .ref (g.2.2 (9, 0, 0))), (3, .int x3), (6, .int x6)]) (h : f_X8_hoursOf_121 N x3 x6 t = some (r, t')) : W p l e (rmv 2) s m args below meth c H locs 0 0 (MQ below (XQi shR g r t') args s 0 0 (XA shR g)) (F0 m 121 ls []) := by
  unfold f_X8_hoursOf_121 at h
  refine lv_iload_n X.1.1 X.1.2.1 dX8_hoursOf_121 rfl (lv_at hl 1 rfl) ?_
  refine lv_iconst (v := 4) X.1.1 X.1.2.1 dX8_hoursOf_122 (by decide) ?_
  refine lv_icmp_ne (tgt := 141) X.1.1 X.1.2.1 dX8_hoursOf_123 (by decide) (fun c_2 => ?_) (fun c_2 => ?_)
  · have h := o_neg c_2 h
    exact w_X8_hoursOf_141 N X x6 t _ _ _ hP hS (lv_sub hl [2] rfl) h
  · have h := o_pos c_2 h
    refine lv_aload_n X.1.1 X.1.2.1 dX8_hoursOf_126 rfl (lv_at hl 0 rfl) ?_
    refine gt_X8_5 X hP (kyM (by decide)) wd_885 dX8_hoursOf_127 ?_
    refine lv_bipush (v := 29) X.1.1 X.1.2.1 dX8_hoursOf_130 (by decide) ?_
    obtain ⟨g_3, h⟩ := o_gd_inv h
    refine x_iald X hP (kyM (by decide)) (fun _ _ => rfl) g_3 dX8_hoursOf_132 ?_
    refine lv_iconst (v := 2) X.1.1 X.1.2.1 dX8_hoursOf_133 (by decide) ?_
    refine lv_irem X.1.1 X.1.2.1 dX8_hoursOf_134 (by decide) ?_
    refine lv_if_ne (tgt := 141) X.1.1 X.1.2.1 dX8_hoursOf_135 (by decide) (fun c_4 => ?_) (fun c_4 => ?_)
    · have h := o_neg c_4 h
      exact w_X8_hoursOf_141 N X x6 t _ _ _ hP hS (lv_sub hl [2] rfl) h
    · have h := o_pos c_4 h
      refine lv_iinc (v := (x6 + (-1))) (lv' := [(6, .int (x6 + (-1))), (0, .ref (g.2.2 (9, 0, 0))), (3, .int x3)]) X.1.1 X.1.2.1 dX8_hoursOf_138 hl (k := 2) rfl rfl (by decide) rfl (fun ls hl => ?_)
      exact w_X8_hoursOf_141 N X (x6 + (-1)) t _ _ _ hP hS (lv_sub hl [0] rfl) h
set_option maxRecDepth 100000 in
set_option maxHeartbeats 4000000 in
theorem w_X8_hoursOf_119 {l : Launch} {g : Ly} {p : Program} {e : Env} {s : State} {m : MethodId} {args : Array Value} {below : List Frame} {meth : Method} {c : Code} (N : Nat) (X : XC p m meth c cX8_hoursOf 7 s args (.code yX8_hoursOf cX8_hoursOf 7 (some .int)) RX8 (some .int) shR g) {r : Int32} {t' : Mm} (x3 : Int32) (s0 : Int32) (t : Mm) (H : Heap) (locs : List Loc) (ls : Array Slot) (hP : XP shR g t H) (hS : va_S (XA shR g) s.heap H locs) (hl : lv_has ls 7 [(0, .ref (g.2.2 (9, 0, 0))), (3, .int x3)]) (h : f_X8_hoursOf_119 N x3 s0 t = some (r, t')) : W p l e (rmv 2) s m args below meth c H locs 0 0 (MQ below (XQi shR g r t') args s 0 0 (XA shR g)) (F0 m 119 ls [.int s0]) := by
  unfold f_X8_hoursOf_119 at h
  refine lv_istore (lv' := [(6, .int s0), (0, .ref (g.2.2 (9, 0, 0))), (3, .int x3)]) X.1.1 X.1.2.1 dX8_hoursOf_119 hl (by decide) rfl (fun ls hl => ?_)
  exact w_X8_hoursOf_121 N X x3 s0 t _ _ _ hP hS (lv_sub hl [1, 2, 0] rfl) h
set_option maxRecDepth 100000 in
set_option maxHeartbeats 4000000 in
theorem w_X8_hoursOf_107 {l : Launch} {g : Ly} {p : Program} {e : Env} {s : State} {m : MethodId} {args : Array Value} {below : List Frame} {meth : Method} {c : Code} (N : Nat) (X : XC p m meth c cX8_hoursOf 7 s args (.code yX8_hoursOf cX8_hoursOf 7 (some .int)) RX8 (some .int) shR g) {r : Int32} {t' : Mm} (x3 : Int32) (x6 : Int32) (t : Mm) (H : Heap) (locs : List Loc) (ls : Array Slot) (hP : XP shR g t H) (hS : va_S (XA shR g) s.heap H locs) (hl : lv_has ls 7 [(0, .ref (g.2.2 (9, 0, 0))), (3, .int x3), (6, .int x6)]) (h : f_X8_hoursOf_107 N x3 x6 t = some (r, t')) : W p l e (rmv 2) s m args below meth c H locs 0 0 (MQ below (XQi shR g r t') args s 0 0 (XA shR g)) (F0 m 107 ls []) := by
  unfold f_X8_hoursOf_107 at h
  refine lv_iload X.1.1 X.1.2.1 dX8_hoursOf_107 (lv_at hl 2 rfl) ?_
  refine lv_iconst (v := 2) X.1.1 X.1.2.1 dX8_hoursOf_109 (by decide) ?_
  refine lv_icmp_le (tgt := 117) X.1.1 X.1.2.1 dX8_hoursOf_110 (by decide) (fun c_5 => ?_) (fun c_5 => ?_)
  · have h := o_pos c_5 h
    refine lv_iload X.1.1 X.1.2.1 dX8_hoursOf_117 (lv_at hl 2 rfl) ?_
    exact w_X8_hoursOf_119 N X x3 x6 t _ _ _ hP hS (lv_sub hl [0, 1] rfl) h
  · have h := o_neg c_5 h
    refine lv_iconst (v := 2) X.1.1 X.1.2.1 dX8_hoursOf_113 (by decide) ?_
    refine lv_goto (tgt := 119) X.1.1 X.1.2.1 dX8_hoursOf_114 (by decide) ?_
    exact w_X8_hoursOf_119 N X x3 2 t _ _ _ hP hS (lv_sub hl [0, 1] rfl) h
set_option maxRecDepth 100000 in
set_option maxHeartbeats 4000000 in
theorem w_X8_hoursOf_97 {l : Launch} {g : Ly} {p : Program} {e : Env} {s : State} {m : MethodId} {args : Array Value} {below : List Frame} {meth : Method} {c : Code} (N : Nat) (X : XC p m meth c cX8_hoursOf 7 s args (.code yX8_hoursOf cX8_hoursOf 7 (some .int)) RX8 (some .int) shR g) {r : Int32} {t' : Mm} (x3 : Int32) (x6 : Int32) (t : Mm) (H : Heap) (locs : List Loc) (ls : Array Slot) (hP : XP shR g t H) (hS : va_S (XA shR g) s.heap H locs) (hl : lv_has ls 7 [(0, .ref (g.2.2 (9, 0, 0))), (3, .int x3), (6, .int x6)]) (h : f_X8_hoursOf_97 N x3 x6 t = some (r, t')) : W p l e (rmv 2) s m args below meth c H locs 0 0 (MQ below (XQi shR g r t') args s 0 0 (XA shR g)) (F0 m 97 ls []) := by
  unfold f_X8_hoursOf_97 at h
  refine lv_iload_n X.1.1 X.1.2.1 dX8_hoursOf_97 rfl (lv_at hl 1 rfl) ?_
  refine lv_iconst (v := 2) X.1.1 X.1.2.1 dX8_hoursOf_98 (by decide) ?_
  refine lv_icmp_eq (tgt := 107) X.1.1 X.1.2.1 dX8_hoursOf_99 (by decide) (fun c_6 => ?_) (fun c_6 => ?_)
  · have h := o_pos c_6 h
    exact w_X8_hoursOf_107 N X x3 x6 t _ _ _ hP hS (lv_sub hl [0, 1, 2] rfl) h
  · have h := o_neg c_6 h
    refine lv_iload_n X.1.1 X.1.2.1 dX8_hoursOf_102 rfl (lv_at hl 1 rfl) ?_
    refine lv_iconst (v := 4) X.1.1 X.1.2.1 dX8_hoursOf_103 (by decide) ?_
    refine lv_icmp_ne (tgt := 121) X.1.1 X.1.2.1 dX8_hoursOf_104 (by decide) (fun c_7 => ?_) (fun c_7 => ?_)
    · have h := o_neg c_7 h
      exact w_X8_hoursOf_121 N X x3 x6 t _ _ _ hP hS (lv_sub hl [0, 1, 2] rfl) h
    · have h := o_pos c_7 h
      exact w_X8_hoursOf_107 N X x3 x6 t _ _ _ hP hS (lv_sub hl [0, 1, 2] rfl) h
set_option maxRecDepth 100000 in
set_option maxHeartbeats 4000000 in
theorem w_X8_hoursOf_80 {l : Launch} {g : Ly} {p : Program} {e : Env} {s : State} {m : MethodId} {args : Array Value} {below : List Frame} {meth : Method} {c : Code} (N : Nat) (X : XC p m meth c cX8_hoursOf 7 s args (.code yX8_hoursOf cX8_hoursOf 7 (some .int)) RX8 (some .int) shR g) {r : Int32} {t' : Mm} (x1 : Int32) (x3 : Int32) (s0 : Int32) (t : Mm) (H : Heap) (locs : List Loc) (ls : Array Slot) (hP : XP shR g t H) (hS : va_S (XA shR g) s.heap H locs) (hl : lv_has ls 7 [(0, .ref (g.2.2 (9, 0, 0))), (1, .int x1), (3, .int x3)]) (h : f_X8_hoursOf_80 N x1 x3 s0 t = some (r, t')) : W p l e (rmv 2) s m args below meth c H locs 0 0 (MQ below (XQi shR g r t') args s 0 0 (XA shR g)) (F0 m 80 ls [.int s0]) := by
  unfold f_X8_hoursOf_80 at h
  refine lv_istore (lv' := [(6, .int s0), (0, .ref (g.2.2 (9, 0, 0))), (1, .int x1), (3, .int x3)]) X.1.1 X.1.2.1 dX8_hoursOf_80 hl (by decide) rfl (fun ls hl => ?_)
  refine lv_iload_n X.1.1 X.1.2.1 dX8_hoursOf_82 rfl (lv_at hl 3 rfl) ?_
  refine lv_iconst (v := 3) X.1.1 X.1.2.1 dX8_hoursOf_83 (by decide) ?_
  refine lv_icmp_ne (tgt := 97) X.1.1 X.1.2.1 dX8_hoursOf_84 (by decide) (fun c_8 => ?_) (fun c_8 => ?_)
  · have h := o_neg c_8 h
    exact w_X8_hoursOf_97 N X x3 s0 t _ _ _ hP hS (lv_sub hl [1, 3, 0] rfl) h
  · have h := o_pos c_8 h
    refine lv_iload X.1.1 X.1.2.1 dX8_hoursOf_87 (lv_at hl 0 rfl) ?_
    refine lv_aload_n X.1.1 X.1.2.1 dX8_hoursOf_89 rfl (lv_at hl 1 rfl) ?_
    refine lv_iload_n X.1.1 X.1.2.1 dX8_hoursOf_90 rfl (lv_at hl 2 rfl) ?_
    obtain ⟨⟨r_11, t_9⟩, hc_10, h⟩ := o_bd_inv h
    refine x_calli (x_runV (As := [.int x1]) (rest := [.int s0]) X hP hS (c_X8_othersIn l g N X.2.2.2.2.1 x1 t hc_10) ⟨wd_1025, wd_1022, wd_1024, wd_29, wd_62⟩ hd_X8_othersIn ⟨by omega, by decide⟩ (x_recv X hP (ci := 8) rfl (kyM (by decide)) rfl) rfl hl.1 rfl (Nat.le_of_ble_eq_true rfl) dX8_hoursOf_91) hS (fun H locs hP hS => ?_)
    refine lv_iadd X.1.1 X.1.2.1 dX8_hoursOf_94 ?_
    refine lv_istore (lv' := [(6, .int (s0 + r_11)), (0, .ref (g.2.2 (9, 0, 0))), (1, .int x1), (3, .int x3)]) X.1.1 X.1.2.1 dX8_hoursOf_95 hl (by decide) rfl (fun ls hl => ?_)
    exact w_X8_hoursOf_97 N X x3 (s0 + r_11) t_9 _ _ _ hP hS (lv_sub hl [1, 3, 0] rfl) h
set_option maxRecDepth 100000 in
set_option maxHeartbeats 4000000 in
theorem w_X8_hoursOf_71 {l : Launch} {g : Ly} {p : Program} {e : Env} {s : State} {m : MethodId} {args : Array Value} {below : List Frame} {meth : Method} {c : Code} (N : Nat) (X : XC p m meth c cX8_hoursOf 7 s args (.code yX8_hoursOf cX8_hoursOf 7 (some .int)) RX8 (some .int) shR g) {r : Int32} {t' : Mm} (x1 : Int32) (x3 : Int32) (x5 : Int32) (t : Mm) (H : Heap) (locs : List Loc) (ls : Array Slot) (hP : XP shR g t H) (hS : va_S (XA shR g) s.heap H locs) (hl : lv_has ls 7 [(0, .ref (g.2.2 (9, 0, 0))), (1, .int x1), (3, .int x3), (5, .int x5)]) (h : f_X8_hoursOf_71 N x1 x3 x5 t = some (r, t')) : W p l e (rmv 2) s m args below meth c H locs 0 0 (MQ below (XQi shR g r t') args s 0 0 (XA shR g)) (F0 m 71 ls []) := by
  unfold f_X8_hoursOf_71 at h
  refine lv_iconst (v := 2) X.1.1 X.1.2.1 dX8_hoursOf_71 (by decide) ?_
  refine lv_iload X.1.1 X.1.2.1 dX8_hoursOf_72 (lv_at hl 3 rfl) ?_
  refine lv_imul X.1.1 X.1.2.1 dX8_hoursOf_74 ?_
  refine lv_goto (tgt := 80) X.1.1 X.1.2.1 dX8_hoursOf_75 (by decide) ?_
  exact w_X8_hoursOf_80 N X x1 x3 (2 * x5) t _ _ _ hP hS (lv_sub hl [0, 1, 2] rfl) h
set_option maxRecDepth 100000 in
set_option maxHeartbeats 4000000 in
theorem w_X8_hoursOf_21 {l : Launch} {g : Ly} {p : Program} {e : Env} {s : State} {m : MethodId} {args : Array Value} {below : List Frame} {meth : Method} {c : Code} (N : Nat) (X : XC p m meth c cX8_hoursOf 7 s args (.code yX8_hoursOf cX8_hoursOf 7 (some .int)) RX8 (some .int) shR g) {r : Int32} {t' : Mm} (x1 : Int32) (x2 : Int32) (s0 : Int32) (t : Mm) (H : Heap) (locs : List Loc) (ls : Array Slot) (hP : XP shR g t H) (hS : va_S (XA shR g) s.heap H locs) (hl : lv_has ls 7 [(0, .ref (g.2.2 (9, 0, 0))), (1, .int x1), (2, .int x2)]) (h : f_X8_hoursOf_21 N x1 x2 s0 t = some (r, t')) : W p l e (rmv 2) s m args below meth c H locs 0 0 (MQ below (XQi shR g r t') args s 0 0 (XA shR g)) (F0 m 21 ls [.int s0]) := by
  unfold f_X8_hoursOf_21 at h
  refine lv_istore_n (lv' := [(3, .int s0), (0, .ref (g.2.2 (9, 0, 0))), (1, .int x1), (2, .int x2)]) X.1.1 X.1.2.1 dX8_hoursOf_21 rfl hl (by decide) rfl (fun ls hl => ?_)
  refine lv_aload_n X.1.1 X.1.2.1 dX8_hoursOf_22 rfl (lv_at hl 1 rfl) ?_
  refine gt_X8_5 X hP (kyM (by decide)) wd_885 dX8_hoursOf_23 ?_
  refine lv_bipush (v := 9) X.1.1 X.1.2.1 dX8_hoursOf_26 (by decide) ?_
  refine lv_iload_n X.1.1 X.1.2.1 dX8_hoursOf_28 rfl (lv_at hl 2 rfl) ?_
  refine lv_iadd X.1.1 X.1.2.1 dX8_hoursOf_29 ?_
  obtain ⟨g_13, h⟩ := o_gd_inv h
  refine x_iald X hP (kyM (by decide)) (fun _ _ => rfl) g_13 dX8_hoursOf_30 ?_
  refine lv_aload_n X.1.1 X.1.2.1 dX8_hoursOf_31 rfl (lv_at hl 1 rfl) ?_
  refine gt_X8_2 X hP (kyM (by decide)) wd_882 dX8_hoursOf_32 ?_
  refine lv_iload_n X.1.1 X.1.2.1 dX8_hoursOf_35 rfl (lv_at hl 3 rfl) ?_
  obtain ⟨g_14, h⟩ := o_gd_inv h
  refine x_iald X hP (kyM (by decide)) (fun _ _ => rfl) g_14 dX8_hoursOf_36 ?_
  obtain ⟨⟨r_17, t_15⟩, hc_16, h⟩ := o_bd_inv h
  refine x_calli (x_runS (As := [.int (t.1 9 0 5 ((9 + x1).toNatClampNeg)), .int (t.1 9 0 2 (x2.toNatClampNeg))]) (rest := []) X hP hS (c_X8_has l g X.2.2.2.2.1 (t.1 9 0 5 ((9 + x1).toNatClampNeg)) (t.1 9 0 2 (x2.toNatClampNeg)) t hc_16) ⟨wd_1021, wd_1019, wd_1020, wd_62⟩ hd_X8_has ⟨by omega, by decide⟩ rfl hl.1 rfl (Nat.le_of_ble_eq_true rfl) dX8_hoursOf_37) hS (fun H locs hP hS => ?_)
  refine lv_istore (lv' := [(4, .int r_17), (3, .int s0), (0, .ref (g.2.2 (9, 0, 0))), (1, .int x1), (2, .int x2)]) X.1.1 X.1.2.1 dX8_hoursOf_40 hl (by decide) rfl (fun ls hl => ?_)
  refine lv_aload_n X.1.1 X.1.2.1 dX8_hoursOf_42 rfl (lv_at hl 2 rfl) ?_
  refine gt_X8_5 X hP (kyM (by decide)) wd_885 dX8_hoursOf_43 ?_
  refine lv_iconst (v := 1) X.1.1 X.1.2.1 dX8_hoursOf_46 (by decide) ?_
  refine lv_iload_n X.1.1 X.1.2.1 dX8_hoursOf_47 rfl (lv_at hl 4 rfl) ?_
  refine lv_iadd X.1.1 X.1.2.1 dX8_hoursOf_48 ?_
  obtain ⟨g_19, h⟩ := o_gd_inv h
  refine x_iald X hP (kyM (by decide)) (fun _ _ => rfl) g_19 dX8_hoursOf_49 ?_
  refine lv_topi (fun x_20 e_21 => ?_)
  have h := o_nm_to e_21 h
  refine lv_istore (lv' := [(5, .int x_20), (4, .int r_17), (3, .int s0), (0, .ref (g.2.2 (9, 0, 0))), (1, .int x1), (2, .int x2)]) X.1.1 X.1.2.1 dX8_hoursOf_50 hl (by decide) rfl (fun ls hl => ?_)
  refine lv_iload X.1.1 X.1.2.1 dX8_hoursOf_52 (lv_at hl 1 rfl) ?_
  refine lv_if_eq (tgt := 61) X.1.1 X.1.2.1 dX8_hoursOf_54 (by decide) (fun c_22 => ?_) (fun c_22 => ?_)
  · have h := o_pos c_22 h
    refine lv_iload_n X.1.1 X.1.2.1 dX8_hoursOf_61 rfl (lv_at hl 2 rfl) ?_
    refine lv_iconst (v := 1) X.1.1 X.1.2.1 dX8_hoursOf_62 (by decide) ?_
    refine lv_icmp_eq (tgt := 71) X.1.1 X.1.2.1 dX8_hoursOf_63 (by decide) (fun c_23 => ?_) (fun c_23 => ?_)
    · have h := o_pos c_23 h
      exact w_X8_hoursOf_71 N X x1 s0 x_20 t_15 _ _ _ hP hS (lv_sub hl [3, 4, 2, 0] rfl) h
    · have h := o_neg c_23 h
      refine lv_iload_n X.1.1 X.1.2.1 dX8_hoursOf_66 rfl (lv_at hl 2 rfl) ?_
      refine lv_iconst (v := 3) X.1.1 X.1.2.1 dX8_hoursOf_67 (by decide) ?_
      refine lv_icmp_ne (tgt := 78) X.1.1 X.1.2.1 dX8_hoursOf_68 (by decide) (fun c_24 => ?_) (fun c_24 => ?_)
      · have h := o_neg c_24 h
        refine lv_iload X.1.1 X.1.2.1 dX8_hoursOf_78 (lv_at hl 0 rfl) ?_
        exact w_X8_hoursOf_80 N X x1 s0 x_20 t_15 _ _ _ hP hS (lv_sub hl [3, 4, 2] rfl) h
      · have h := o_pos c_24 h
        exact w_X8_hoursOf_71 N X x1 s0 x_20 t_15 _ _ _ hP hS (lv_sub hl [3, 4, 2, 0] rfl) h
  · have h := o_neg c_22 h
    refine lv_iconst (v := 1) X.1.1 X.1.2.1 dX8_hoursOf_57 (by decide) ?_
    refine lv_goto (tgt := 80) X.1.1 X.1.2.1 dX8_hoursOf_58 (by decide) ?_
    exact w_X8_hoursOf_80 N X x1 s0 1 t_15 _ _ _ hP hS (lv_sub hl [3, 4, 2] rfl) h
set_option maxRecDepth 100000 in
set_option maxHeartbeats 4000000 in
theorem c_X8_hoursOf (l : Launch) (g : Ly) (N : Nat) (hG : XG shR g) (a0 : Int32) (a1 : Int32) (t : Mm) {r : Int32} {t' : Mm} (h : f_X8_hoursOf N a0 a1 t = some (r, t')) : MI l yX8_hoursOf cX8_hoursOf 7 (some .int) 2 shR g [.ref (g.2.2 (9, 0, 0)), .int a0, .int a1] t (XQi shR g r t') := by
  refine x_met hG (by decide +kernel) (Nat.le_of_ble_eq_true rfl) ?_
  intro p e s m below meth c ls X hP hl
  have hS : va_S (XA shR g) s.heap s.heap [] := va_S.rf
  have hl : lv_has ls 7 [(0, .ref (g.2.2 (9, 0, 0))), (1, .int a0), (2, .int a1)] := hl
  unfold f_X8_hoursOf at h
  generalize ([.ref (g.2.2 (9, 0, 0)), .int a0, .int a1] : List Value).toArray = args at X ⊢
  refine lv_iload_n X.1.1 X.1.2.1 dX8_hoursOf_0 rfl (lv_at hl 1 rfl) ?_
  refine lv_aload_n X.1.1 X.1.2.1 dX8_hoursOf_1 rfl (lv_at hl 0 rfl) ?_
  refine gt_X8_17 X hP (kyM (by decide)) wd_897 dX8_hoursOf_2 ?_
  refine lv_icmp_ne (tgt := 15) X.1.1 X.1.2.1 dX8_hoursOf_5 (by decide) (fun c_25 => ?_) (fun c_25 => ?_)
  · have h := o_neg c_25 h
    refine lv_aload_n X.1.1 X.1.2.1 dX8_hoursOf_15 rfl (lv_at hl 0 rfl) ?_
    refine gt_X8_3 X hP (kyM (by decide)) wd_883 dX8_hoursOf_16 ?_
    refine lv_iload_n X.1.1 X.1.2.1 dX8_hoursOf_19 rfl (lv_at hl 1 rfl) ?_
    obtain ⟨g_26, h⟩ := o_gd_inv h
    refine x_iald X hP (kyM (by decide)) (fun _ _ => rfl) g_26 dX8_hoursOf_20 ?_
    exact w_X8_hoursOf_21 N X a0 a1 (t.1 9 0 3 (a0.toNatClampNeg)) t _ _ _ hP hS (lv_sub hl [0, 1, 2] rfl) h
  · have h := o_pos c_25 h
    refine lv_aload_n X.1.1 X.1.2.1 dX8_hoursOf_8 rfl (lv_at hl 0 rfl) ?_
    refine gt_X8_18 X hP (kyM (by decide)) wd_898 dX8_hoursOf_9 ?_
    refine lv_goto (tgt := 21) X.1.1 X.1.2.1 dX8_hoursOf_12 (by decide) ?_
    exact w_X8_hoursOf_21 N X a0 a1 (t.1 9 0 0 18) t _ _ _ hP hS (lv_sub hl [0, 1, 2] rfl) h
def f_X8_lowestLeft_32 (N : Nat) (k10 : Int32 × Int32 × Mm → Option (Int32 × Mm)) (x2 : Int32) (s0 : Int32) (t : Mm) : Option (Int32 × Mm) := k10 (s0, (x2 + (-1)), t)
def b_X8_lowestLeft_10 (N : Nat) (k10 : Int32 × Int32 × Mm → Option (Int32 × Mm)) (x1 : Int32) (x2 : Int32) (t : Mm) : Option (Int32 × Mm) := if x2 < 0 then (some (x1, t)) else (if o_inb 0 31 = true then (o_bd (f_X8_has (t.1 9 0 5 (Int32.toNatClampNeg 0)) x2 t) fun (r_5, t_3) => if r_5 = 0 then (f_X8_lowestLeft_32 N k10 x2 x2 t_3) else (f_X8_lowestLeft_32 N k10 x2 x1 t_3)) else none)
def f_X8_lowestLeft_10 (N : Nat) (x1 : Int32) (x2 : Int32) (t : Mm) : Option (Int32 × Mm) := o_lp (fun k x => b_X8_lowestLeft_10 N k x.1 x.2.1 x.2.2) N (x1, x2, t)
/-- FordQuestionsModel.lowestLeft()I -/
def f_X8_lowestLeft (N : Nat) (t : Mm) : Option (Int32 × Mm) := f_X8_lowestLeft_10 N (-4) ((t.1 9 0 0 0) - 1) t
theorem hd_X8_lowestLeft : x_hd yX8_lowestLeft 0 := by decide +kernel
set_option maxRecDepth 100000 in
set_option maxHeartbeats 4000000 in
theorem w_X8_lowestLeft_32 {l : Launch} {g : Ly} {p : Program} {e : Env} {s : State} {m : MethodId} {args : Array Value} {below : List Frame} {meth : Method} {c : Code} (N : Nat) (X : XC p m meth c cX8_lowestLeft 3 s args (.code yX8_lowestLeft cX8_lowestLeft 3 (some .int)) RX8 (some .int) shR g) {r : Int32} {t' : Mm} {k10 : Int32 × Int32 × Mm → Option (Int32 × Mm)} (hk10 : ∀ x : Int32 × Int32 × Mm, k10 x = some (r, t') → ∀ (H : Heap) (locs : List Loc) (ls : Array Slot), XP shR g x.2.2 H → va_S (XA shR g) s.heap H locs → lv_has ls 3 [(0, .ref (g.2.2 (9, 0, 0))), (1, .int x.1), (2, .int x.2.1)] → W p l e (rmv 2) s m args below meth c H locs 0 0 (MQ below (XQi shR g r t') args s 0 0 (XA shR g)) (F0 m 10 ls [])) (x2 : Int32) (s0 : Int32) (t : Mm) (H : Heap) (locs : List Loc) (ls : Array Slot) (hP : XP shR g t H) (hS : va_S (XA shR g) s.heap H locs) (hl : lv_has ls 3 [(0, .ref (g.2.2 (9, 0, 0))), (2, .int x2)]) (h : f_X8_lowestLeft_32 N k10 x2 s0 t = some (r, t')) : W p l e (rmv 2) s m args below meth c H locs 0 0 (MQ below (XQi shR g r t') args s 0 0 (XA shR g)) (F0 m 32 ls [.int s0]) := by
  unfold f_X8_lowestLeft_32 at h
  refine lv_istore_n (lv' := [(1, .int s0), (0, .ref (g.2.2 (9, 0, 0))), (2, .int x2)]) X.1.1 X.1.2.1 dX8_lowestLeft_32 rfl hl (by decide) rfl (fun ls hl => ?_)
  refine lv_iinc (v := (x2 + (-1))) (lv' := [(2, .int (x2 + (-1))), (1, .int s0), (0, .ref (g.2.2 (9, 0, 0)))]) X.1.1 X.1.2.1 dX8_lowestLeft_33 hl (k := 2) rfl rfl (by decide) rfl (fun ls hl => ?_)
  refine lv_goto (tgt := 10) X.1.1 X.1.2.1 dX8_lowestLeft_36 (by decide) ?_
  exact hk10 (s0, (x2 + (-1)), t) h _ _ _ hP hS (lv_sub hl [2, 1, 0] rfl)
set_option maxRecDepth 100000 in
set_option maxHeartbeats 4000000 in
theorem wb_X8_lowestLeft_10 {l : Launch} {g : Ly} {p : Program} {e : Env} {s : State} {m : MethodId} {args : Array Value} {below : List Frame} {meth : Method} {c : Code} (N : Nat) (X : XC p m meth c cX8_lowestLeft 3 s args (.code yX8_lowestLeft cX8_lowestLeft 3 (some .int)) RX8 (some .int) shR g) {r : Int32} {t' : Mm} {k10 : Int32 × Int32 × Mm → Option (Int32 × Mm)} (hk10 : ∀ x : Int32 × Int32 × Mm, k10 x = some (r, t') → ∀ (H : Heap) (locs : List Loc) (ls : Array Slot), XP shR g x.2.2 H → va_S (XA shR g) s.heap H locs → lv_has ls 3 [(0, .ref (g.2.2 (9, 0, 0))), (1, .int x.1), (2, .int x.2.1)] → W p l e (rmv 2) s m args below meth c H locs 0 0 (MQ below (XQi shR g r t') args s 0 0 (XA shR g)) (F0 m 10 ls [])) (x1 : Int32) (x2 : Int32) (t : Mm) (H : Heap) (locs : List Loc) (ls : Array Slot) (hP : XP shR g t H) (hS : va_S (XA shR g) s.heap H locs) (hl : lv_has ls 3 [(0, .ref (g.2.2 (9, 0, 0))), (1, .int x1), (2, .int x2)]) (h : b_X8_lowestLeft_10 N k10 x1 x2 t = some (r, t')) : W p l e (rmv 2) s m args below meth c H locs 0 0 (MQ below (XQi shR g r t') args s 0 0 (XA shR g)) (F0 m 10 ls []) := by
  unfold b_X8_lowestLeft_10 at h
  refine lv_iload_n X.1.1 X.1.2.1 dX8_lowestLeft_10 rfl (lv_at hl 2 rfl) ?_
  refine lv_if_lt (tgt := 39) X.1.1 X.1.2.1 dX8_lowestLeft_11 (by decide) (fun c_1 => ?_) (fun c_1 => ?_)
  · have h := o_pos c_1 h
    refine lv_iload_n X.1.1 X.1.2.1 dX8_lowestLeft_39 rfl (lv_at hl 1 rfl) ?_
    obtain ⟨rfl, rfl⟩ := o_ret2 h
    exact x_iret X hP hS dX8_lowestLeft_40
  · have h := o_neg c_1 h
    refine lv_aload_n X.1.1 X.1.2.1 dX8_lowestLeft_14 rfl (lv_at hl 0 rfl) ?_
    refine gt_X8_5 X hP (kyM (by decide)) wd_885 dX8_lowestLeft_15 ?_
    refine lv_iconst (v := 0) X.1.1 X.1.2.1 dX8_lowestLeft_18 (by decide) ?_
    obtain ⟨g_2, h⟩ := o_gd_inv h
    refine x_iald X hP (kyM (by decide)) (fun _ _ => rfl) g_2 dX8_lowestLeft_19 ?_
    refine lv_iload_n X.1.1 X.1.2.1 dX8_lowestLeft_20 rfl (lv_at hl 2 rfl) ?_
    obtain ⟨⟨r_5, t_3⟩, hc_4, h⟩ := o_bd_inv h
    refine x_calli (x_runS (As := [.int (t.1 9 0 5 (Int32.toNatClampNeg 0)), .int x2]) (rest := []) X hP hS (c_X8_has l g X.2.2.2.2.1 (t.1 9 0 5 (Int32.toNatClampNeg 0)) x2 t hc_4) ⟨wd_1021, wd_1019, wd_1020, wd_62⟩ hd_X8_has ⟨by omega, by decide⟩ rfl hl.1 rfl (Nat.le_of_ble_eq_true rfl) dX8_lowestLeft_21) hS (fun H locs hP hS => ?_)
    refine lv_if_eq (tgt := 31) X.1.1 X.1.2.1 dX8_lowestLeft_24 (by decide) (fun c_7 => ?_) (fun c_7 => ?_)
    · have h := o_pos c_7 h
      refine lv_iload_n X.1.1 X.1.2.1 dX8_lowestLeft_31 rfl (lv_at hl 2 rfl) ?_
      exact w_X8_lowestLeft_32 N X hk10 x2 x2 t_3 _ _ _ hP hS (lv_sub hl [0, 2] rfl) h
    · have h := o_neg c_7 h
      refine lv_iload_n X.1.1 X.1.2.1 dX8_lowestLeft_27 rfl (lv_at hl 1 rfl) ?_
      refine lv_goto (tgt := 32) X.1.1 X.1.2.1 dX8_lowestLeft_28 (by decide) ?_
      exact w_X8_lowestLeft_32 N X hk10 x2 x1 t_3 _ _ _ hP hS (lv_sub hl [0, 2] rfl) h
set_option maxRecDepth 100000 in
set_option maxHeartbeats 4000000 in
theorem w_X8_lowestLeft_10 {l : Launch} {g : Ly} {p : Program} {e : Env} {s : State} {m : MethodId} {args : Array Value} {below : List Frame} {meth : Method} {c : Code} (N : Nat) (X : XC p m meth c cX8_lowestLeft 3 s args (.code yX8_lowestLeft cX8_lowestLeft 3 (some .int)) RX8 (some .int) shR g) {r : Int32} {t' : Mm} (x1 : Int32) (x2 : Int32) (t : Mm) (H : Heap) (locs : List Loc) (ls : Array Slot) (hP : XP shR g t H) (hS : va_S (XA shR g) s.heap H locs) (hl : lv_has ls 3 [(0, .ref (g.2.2 (9, 0, 0))), (1, .int x1), (2, .int x2)]) (h : f_X8_lowestLeft_10 N x1 x2 t = some (r, t')) : W p l e (rmv 2) s m args below meth c H locs 0 0 (MQ below (XQi shR g r t') args s 0 0 (XA shR g)) (F0 m 10 ls []) :=
  o_lp_ind (P := fun x : Int32 × Int32 × Mm => ∀ (H : Heap) (locs : List Loc) (ls : Array Slot), XP shR g x.2.2 H → va_S (XA shR g) s.heap H locs → lv_has ls 3 [(0, .ref (g.2.2 (9, 0, 0))), (1, .int x.1), (2, .int x.2.1)] → W p l e (rmv 2) s m args below meth c H locs 0 0 (MQ below (XQi shR g r t') args s 0 0 (XA shR g)) (F0 m 10 ls [])) (fun k hk x h H locs ls hP hS hl => wb_X8_lowestLeft_10 N X hk x.1 x.2.1 x.2.2 H locs ls hP hS hl h) N (x1, x2, t) h H locs ls hP hS hl
set_option maxRecDepth 100000 in
set_option maxHeartbeats 4000000 in
theorem c_X8_lowestLeft (l : Launch) (g : Ly) (N : Nat) (hG : XG shR g) (t : Mm) {r : Int32} {t' : Mm} (h : f_X8_lowestLeft N t = some (r, t')) : MI l yX8_lowestLeft cX8_lowestLeft 3 (some .int) 2 shR g [.ref (g.2.2 (9, 0, 0))] t (XQi shR g r t') := by
  refine x_met hG (by decide +kernel) (Nat.le_of_ble_eq_true rfl) ?_
  intro p e s m below meth c ls X hP hl
  have hS : va_S (XA shR g) s.heap s.heap [] := va_S.rf
  have hl : lv_has ls 3 [(0, .ref (g.2.2 (9, 0, 0)))] := hl
  unfold f_X8_lowestLeft at h
  generalize ([.ref (g.2.2 (9, 0, 0))] : List Value).toArray = args at X ⊢
  refine lv_bipush (v := (-4)) X.1.1 X.1.2.1 dX8_lowestLeft_0 (by decide) ?_
  refine lv_istore_n (lv' := [(1, .int (-4)), (0, .ref (g.2.2 (9, 0, 0)))]) X.1.1 X.1.2.1 dX8_lowestLeft_2 rfl hl (by decide) rfl (fun ls hl => ?_)
  refine lv_aload_n X.1.1 X.1.2.1 dX8_lowestLeft_3 rfl (lv_at hl 1 rfl) ?_
  refine gt_X8_0 X hP (kyM (by decide)) wd_880 dX8_lowestLeft_4 ?_
  refine lv_iconst (v := 1) X.1.1 X.1.2.1 dX8_lowestLeft_7 (by decide) ?_
  refine lv_isub X.1.1 X.1.2.1 dX8_lowestLeft_8 ?_
  refine lv_istore_n (lv' := [(2, .int ((t.1 9 0 0 0) - 1)), (1, .int (-4)), (0, .ref (g.2.2 (9, 0, 0)))]) X.1.1 X.1.2.1 dX8_lowestLeft_9 rfl hl (by decide) rfl (fun ls hl => ?_)
  exact w_X8_lowestLeft_10 N X (-4) ((t.1 9 0 0 0) - 1) t _ _ _ hP hS (lv_sub hl [2, 1, 0] rfl) h
def f_X8_goComes_20 (N : Nat) (x1 : Int32) (s0 : Int32) (t : Mm) : Option (Mm) := if s0 = (-4) then (if o_inb (19 + x1) 31 = true then (o_nm (sI t 9 0 5 ((19 + x1).toNatClampNeg) 2) fun t_18 => some t_18) else none) else (if o_inb 29 31 = true then (o_bd (f_X8_hoursOf N x1 s0 t) fun (r_5, t_3) => if o_inb (24 + x1) 31 = true then (o_nm (sI t_3 9 0 5 ((24 + x1).toNatClampNeg) ((t.1 9 0 5 (Int32.toNatClampNeg 29)) + r_5)) fun t_8 => if o_inb 0 31 = true then (if o_inb 0 31 = true then (o_nm (sI t_8 9 0 5 (Int32.toNatClampNeg 0) ((t_8.1 9 0 5 (Int32.toNatClampNeg 0)) ||| (1 <<< (s0 &&& 31)))) fun t_12 => if o_inb (19 + x1) 31 = true then (o_nm (sI t_12 9 0 5 ((19 + x1).toNatClampNeg) 1) fun t_15 => some t_15) else none) else none) else none) else none) else none)
/-- FordQuestionsModel.goComes(I)V -/
def f_X8_goComes (N : Nat) (a0 : Int32) (t : Mm) : Option (Mm) := if (t.1 9 0 0 19) = 0 then (o_bd (f_X8_lowestLeft N t) fun (r_23, t_21) => f_X8_goComes_20 N a0 r_23 t_21) else (if o_inb a0 5 = true then (f_X8_goComes_20 N a0 (t.1 9 0 20 (a0.toNatClampNeg)) t) else none)
theorem hd_X8_goComes : x_hd yX8_goComes 1 := by decide +kernel
set_option maxRecDepth 100000 in
set_option maxHeartbeats 4000000 in
theorem w_X8_goComes_20 {l : Launch} {g : Ly} {p : Program} {e : Env} {s : State} {m : MethodId} {args : Array Value} {below : List Frame} {meth : Method} {c : Code} (N : Nat) (X : XC p m meth c cX8_goComes 3 s args (.code yX8_goComes cX8_goComes 3 none) RX8 none shR g) {t' : Mm} (x1 : Int32) (s0 : Int32) (t : Mm) (H : Heap) (locs : List Loc) (ls : Array Slot) (hP : XP shR g t H) (hS : va_S (XA shR g) s.heap H locs) (hl : lv_has ls 3 [(0, .ref (g.2.2 (9, 0, 0))), (1, .int x1)]) (h : f_X8_goComes_20 N x1 s0 t = some t') : W p l e (rmv 3) s m args below meth c H locs 0 0 (MQ below (XQv shR g t') args s 0 0 (XA shR g)) (F0 m 20 ls [.int s0]) := by
  unfold f_X8_goComes_20 at h
  refine lv_istore_n (lv' := [(2, .int s0), (0, .ref (g.2.2 (9, 0, 0))), (1, .int x1)]) X.1.1 X.1.2.1 dX8_goComes_20 rfl hl (by decide) rfl (fun ls hl => ?_)
  refine lv_iload_n X.1.1 X.1.2.1 dX8_goComes_21 rfl (lv_at hl 0 rfl) ?_
  refine lv_bipush (v := (-4)) X.1.1 X.1.2.1 dX8_goComes_22 (by decide) ?_
  refine lv_icmp_ne (tgt := 38) X.1.1 X.1.2.1 dX8_goComes_24 (by decide) (fun c_1 => ?_) (fun c_1 => ?_)
  · have h := o_neg c_1 h
    refine lv_aload_n X.1.1 X.1.2.1 dX8_goComes_38 rfl (lv_at hl 1 rfl) ?_
    refine gt_X8_5 X hP (kyM (by decide)) wd_885 dX8_goComes_39 ?_
    refine lv_bipush (v := 24) X.1.1 X.1.2.1 dX8_goComes_42 (by decide) ?_
    refine lv_iload_n X.1.1 X.1.2.1 dX8_goComes_44 rfl (lv_at hl 2 rfl) ?_
    refine lv_iadd X.1.1 X.1.2.1 dX8_goComes_45 ?_
    refine lv_aload_n X.1.1 X.1.2.1 dX8_goComes_46 rfl (lv_at hl 1 rfl) ?_
    refine gt_X8_5 X hP (kyM (by decide)) wd_885 dX8_goComes_47 ?_
    refine lv_bipush (v := 29) X.1.1 X.1.2.1 dX8_goComes_50 (by decide) ?_
    obtain ⟨g_2, h⟩ := o_gd_inv h
    refine x_iald X hP (kyM (by decide)) (fun _ _ => rfl) g_2 dX8_goComes_52 ?_
    refine lv_aload_n X.1.1 X.1.2.1 dX8_goComes_53 rfl (lv_at hl 1 rfl) ?_
    refine lv_iload_n X.1.1 X.1.2.1 dX8_goComes_54 rfl (lv_at hl 2 rfl) ?_
    refine lv_iload_n X.1.1 X.1.2.1 dX8_goComes_55 rfl (lv_at hl 0 rfl) ?_
    obtain ⟨⟨r_5, t_3⟩, hc_4, h⟩ := o_bd_inv h
    refine x_calli (x_runV (As := [.int x1, .int s0]) (rest := [.int (t.1 9 0 5 (Int32.toNatClampNeg 29)), .int (24 + x1), .ref (g.2.2 (9, 0, 5))]) X hP hS (c_X8_hoursOf l g N X.2.2.2.2.1 x1 s0 t hc_4) ⟨wd_1018, wd_1015, wd_1017, wd_28, wd_62⟩ hd_X8_hoursOf ⟨by omega, by decide⟩ (x_recv X hP (ci := 8) rfl (kyM (by decide)) rfl) rfl hl.1 rfl (Nat.le_of_ble_eq_true rfl) dX8_goComes_56) hS (fun H locs hP hS => ?_)
    refine lv_iadd X.1.1 X.1.2.1 dX8_goComes_59 ?_
    obtain ⟨g_7, h⟩ := o_gd_inv h
    obtain ⟨t_8, e_9, h⟩ := o_nm_inv h
    refine x_iast X hP hS (kyM (by decide)) (fun _ _ => rfl) g_7 dX8_goComes_60 (fun H locs hP hS => ?_)
    have hP : XP shR g t_8 H := by rw [e_9]; exact hP
    refine lv_aload_n X.1.1 X.1.2.1 dX8_goComes_61 rfl (lv_at hl 1 rfl) ?_
    refine gt_X8_5 X hP (kyM (by decide)) wd_885 dX8_goComes_62 ?_
    refine lv_iconst (v := 0) X.1.1 X.1.2.1 dX8_goComes_65 (by decide) ?_
    refine lv_dup2_11 X.1.1 X.1.2.1 dX8_goComes_66 rfl rfl ?_
    obtain ⟨g_10, h⟩ := o_gd_inv h
    refine x_iald X hP (kyM (by decide)) (fun _ _ => rfl) g_10 dX8_goComes_67 ?_
    refine lv_iconst (v := 1) X.1.1 X.1.2.1 dX8_goComes_68 (by decide) ?_
    refine lv_iload_n X.1.1 X.1.2.1 dX8_goComes_69 rfl (lv_at hl 0 rfl) ?_
    refine lv_ishl X.1.1 X.1.2.1 dX8_goComes_70 ?_
    refine lv_ior X.1.1 X.1.2.1 dX8_goComes_71 ?_
    obtain ⟨g_11, h⟩ := o_gd_inv h
    obtain ⟨t_12, e_13, h⟩ := o_nm_inv h
    refine x_iast X hP hS (kyM (by decide)) (fun _ _ => rfl) g_11 dX8_goComes_72 (fun H locs hP hS => ?_)
    have hP : XP shR g t_12 H := by rw [e_13]; exact hP
    refine lv_aload_n X.1.1 X.1.2.1 dX8_goComes_73 rfl (lv_at hl 1 rfl) ?_
    refine gt_X8_5 X hP (kyM (by decide)) wd_885 dX8_goComes_74 ?_
    refine lv_bipush (v := 19) X.1.1 X.1.2.1 dX8_goComes_77 (by decide) ?_
    refine lv_iload_n X.1.1 X.1.2.1 dX8_goComes_79 rfl (lv_at hl 2 rfl) ?_
    refine lv_iadd X.1.1 X.1.2.1 dX8_goComes_80 ?_
    refine lv_iconst (v := 1) X.1.1 X.1.2.1 dX8_goComes_81 (by decide) ?_
    obtain ⟨g_14, h⟩ := o_gd_inv h
    obtain ⟨t_15, e_16, h⟩ := o_nm_inv h
    refine x_iast X hP hS (kyM (by decide)) (fun _ _ => rfl) g_14 dX8_goComes_82 (fun H locs hP hS => ?_)
    have hP : XP shR g t_15 H := by rw [e_16]; exact hP
    obtain rfl := o_ret h
    exact x_vret X hP hS dX8_goComes_83
  · have h := o_pos c_1 h
    refine lv_aload_n X.1.1 X.1.2.1 dX8_goComes_27 rfl (lv_at hl 1 rfl) ?_
    refine gt_X8_5 X hP (kyM (by decide)) wd_885 dX8_goComes_28 ?_
    refine lv_bipush (v := 19) X.1.1 X.1.2.1 dX8_goComes_31 (by decide) ?_
    refine lv_iload_n X.1.1 X.1.2.1 dX8_goComes_33 rfl (lv_at hl 2 rfl) ?_
    refine lv_iadd X.1.1 X.1.2.1 dX8_goComes_34 ?_
    refine lv_iconst (v := 2) X.1.1 X.1.2.1 dX8_goComes_35 (by decide) ?_
    obtain ⟨g_17, h⟩ := o_gd_inv h
    obtain ⟨t_18, e_19, h⟩ := o_nm_inv h
    refine x_iast X hP hS (kyM (by decide)) (fun _ _ => rfl) g_17 dX8_goComes_36 (fun H locs hP hS => ?_)
    have hP : XP shR g t_18 H := by rw [e_19]; exact hP
    obtain rfl := o_ret h
    exact x_vret X hP hS dX8_goComes_37
set_option maxRecDepth 100000 in
set_option maxHeartbeats 4000000 in
theorem c_X8_goComes (l : Launch) (g : Ly) (N : Nat) (hG : XG shR g) (a0 : Int32) (t : Mm) {t' : Mm} (h : f_X8_goComes N a0 t = some t') : MI l yX8_goComes cX8_goComes 3 none 3 shR g [.ref (g.2.2 (9, 0, 0)), .int a0] t (XQv shR g t') := by
  refine x_met hG (by decide +kernel) (Nat.le_of_ble_eq_true rfl) ?_
  intro p e s m below meth c ls X hP hl
  have hS : va_S (XA shR g) s.heap s.heap [] := va_S.rf
  have hl : lv_has ls 3 [(0, .ref (g.2.2 (9, 0, 0))), (1, .int a0)] := hl
  unfold f_X8_goComes at h
  generalize ([.ref (g.2.2 (9, 0, 0)), .int a0] : List Value).toArray = args at X ⊢
  refine lv_aload_n X.1.1 X.1.2.1 dX8_goComes_0 rfl (lv_at hl 0 rfl) ?_
  refine gt_X8_19 X hP (kyM (by decide)) wd_899 dX8_goComes_1 ?_
  refine lv_if_eq (tgt := 16) X.1.1 X.1.2.1 dX8_goComes_4 (by decide) (fun c_20 => ?_) (fun c_20 => ?_)
  · have h := o_pos c_20 h
    refine lv_aload_n X.1.1 X.1.2.1 dX8_goComes_16 rfl (lv_at hl 0 rfl) ?_
    obtain ⟨⟨r_23, t_21⟩, hc_22, h⟩ := o_bd_inv h
    refine x_calli (x_runV (As := []) (rest := []) X hP hS (c_X8_lowestLeft l g N X.2.2.2.2.1 t hc_22) ⟨wd_1101, wd_1098, wd_1100, wd_40, wd_62⟩ hd_X8_lowestLeft ⟨by omega, by decide⟩ (x_recv X hP (ci := 8) rfl (kyM (by decide)) rfl) rfl hl.1 rfl (Nat.le_of_ble_eq_true rfl) dX8_goComes_17) hS (fun H locs hP hS => ?_)
    exact w_X8_goComes_20 N X a0 r_23 t_21 _ _ _ hP hS (lv_sub hl [0, 1] rfl) h
  · have h := o_neg c_20 h
    refine lv_aload_n X.1.1 X.1.2.1 dX8_goComes_7 rfl (lv_at hl 0 rfl) ?_
    refine gt_X8_20 X hP (kyM (by decide)) wd_900 dX8_goComes_8 ?_
    refine lv_iload_n X.1.1 X.1.2.1 dX8_goComes_11 rfl (lv_at hl 1 rfl) ?_
    obtain ⟨g_25, h⟩ := o_gd_inv h
    refine x_iald X hP (kyM (by decide)) (fun _ _ => rfl) g_25 dX8_goComes_12 ?_
    refine lv_goto (tgt := 20) X.1.1 X.1.2.1 dX8_goComes_13 (by decide) ?_
    exact w_X8_goComes_20 N X a0 (t.1 9 0 20 (a0.toNatClampNeg)) t _ _ _ hP hS (lv_sub hl [0, 1] rfl) h
def f_X8_goHour_125 (N : Nat) (k65 : Int32 × Mm → Option (Mm)) (x1 : Int32) (t : Mm) : Option (Mm) := k65 ((x1 + 1), t)
def b_X8_goHour_65 (N : Nat) (k65 : Int32 × Mm → Option (Mm)) (x1 : Int32) (t : Mm) : Option (Mm) := if (t.1 9 0 0 1) ≤ x1 then (some t) else (if o_inb (19 + x1) 31 = true then (if (t.1 9 0 5 ((19 + x1).toNatClampNeg)) = 1 then (if o_inb (24 + x1) 31 = true then (if o_inb 29 31 = true then (if (t.1 9 0 5 (Int32.toNatClampNeg 29)) < (t.1 9 0 5 ((24 + x1).toNatClampNeg)) then (f_X8_goHour_125 N k65 x1 t) else (if o_inb (19 + x1) 31 = true then (o_nm (sI t 9 0 5 ((19 + x1).toNatClampNeg) 2) fun t_8 => if o_inb (24 + x1) 31 = true then (o_nm (sI t_8 9 0 5 ((24 + x1).toNatClampNeg) 0) fun t_11 => f_X8_goHour_125 N k65 x1 t_11) else none) else none)) else none) else none) else (f_X8_goHour_125 N k65 x1 t)) else none)
def f_X8_goHour_65 (N : Nat) (x1 : Int32) (t : Mm) : Option (Mm) := o_lp (fun k x => b_X8_goHour_65 N k x.1 x.2) N (x1, t)
def f_X8_goHour_46 (N : Nat) (k2 : Int32 × Mm → Option (Mm)) (x1 : Int32) (t : Mm) : Option (Mm) := k2 ((x1 + 1), t)
def b_X8_goHour_2 (N : Nat) (k2 : Int32 × Mm → Option (Mm)) (x1 : Int32) (t : Mm) : Option (Mm) := if (t.1 9 0 0 1) ≤ x1 then (if o_inb 29 31 = true then (if o_inb 29 31 = true then (o_nm (sI t 9 0 5 (Int32.toNatClampNeg 29) ((t.1 9 0 5 (Int32.toNatClampNeg 29)) + 1)) fun t_16 => f_X8_goHour_65 N 0 t_16) else none) else none) else (if o_inb (19 + x1) 31 = true then (if (t.1 9 0 5 ((19 + x1).toNatClampNeg)) = 0 then (if o_inb (14 + x1) 31 = true then (if o_inb 29 31 = true then (if (t.1 9 0 5 (Int32.toNatClampNeg 29)) < (t.1 9 0 5 ((14 + x1).toNatClampNeg)) then (f_X8_goHour_46 N k2 x1 t) else (o_bd (f_X8_goComes N x1 t) fun t_23 => f_X8_goHour_46 N k2 x1 t_23)) else none) else none) else (f_X8_goHour_46 N k2 x1 t)) else none)
def f_X8_goHour_2 (N : Nat) (x1 : Int32) (t : Mm) : Option (Mm) := o_lp (fun k x => b_X8_goHour_2 N k x.1 x.2) N (x1, t)
/-- FordQuestionsModel.goHour()V -/
def f_X8_goHour (N : Nat) (t : Mm) : Option (Mm) := f_X8_goHour_2 N 0 t
theorem hd_X8_goHour : x_hd yX8_goHour 0 := by decide +kernel
set_option maxRecDepth 100000 in
set_option maxHeartbeats 4000000 in
theorem w_X8_goHour_125 {l : Launch} {g : Ly} {p : Program} {e : Env} {s : State} {m : MethodId} {args : Array Value} {below : List Frame} {meth : Method} {c : Code} (N : Nat) (X : XC p m meth c cX8_goHour 2 s args (.code yX8_goHour cX8_goHour 2 none) RX8 none shR g) {t' : Mm} {k65 : Int32 × Mm → Option (Mm)} (hk65 : ∀ x : Int32 × Mm, k65 x = some t' → ∀ (H : Heap) (locs : List Loc) (ls : Array Slot), XP shR g x.2 H → va_S (XA shR g) s.heap H locs → lv_has ls 2 [(0, .ref (g.2.2 (9, 0, 0))), (1, .int x.1)] → W p l e (rmv 4) s m args below meth c H locs 0 0 (MQ below (XQv shR g t') args s 0 0 (XA shR g)) (F0 m 65 ls [])) (x1 : Int32) (t : Mm) (H : Heap) (locs : List Loc) (ls : Array Slot) (hP : XP shR g t H) (hS : va_S (XA shR g) s.heap H locs) (hl : lv_has ls 2 [(0, .ref (g.2.2 (9, 0, 0))), (1, .int x1)]) (h : f_X8_goHour_125 N k65 x1 t = some t') : W p l e (rmv 4) s m args below meth c H locs 0 0 (MQ below (XQv shR g t') args s 0 0 (XA shR g)) (F0 m 125 ls []) := by
  unfold f_X8_goHour_125 at h
  refine lv_iinc (v := (x1 + 1)) (lv' := [(1, .int (x1 + 1)), (0, .ref (g.2.2 (9, 0, 0)))]) X.1.1 X.1.2.1 dX8_goHour_125 hl (k := 1) rfl rfl (by decide) rfl (fun ls hl => ?_)
  refine lv_goto (tgt := 65) X.1.1 X.1.2.1 dX8_goHour_128 (by decide) ?_
  exact hk65 ((x1 + 1), t) h _ _ _ hP hS (lv_sub hl [1, 0] rfl)
set_option maxRecDepth 100000 in
set_option maxHeartbeats 4000000 in
theorem wb_X8_goHour_65 {l : Launch} {g : Ly} {p : Program} {e : Env} {s : State} {m : MethodId} {args : Array Value} {below : List Frame} {meth : Method} {c : Code} (N : Nat) (X : XC p m meth c cX8_goHour 2 s args (.code yX8_goHour cX8_goHour 2 none) RX8 none shR g) {t' : Mm} {k65 : Int32 × Mm → Option (Mm)} (hk65 : ∀ x : Int32 × Mm, k65 x = some t' → ∀ (H : Heap) (locs : List Loc) (ls : Array Slot), XP shR g x.2 H → va_S (XA shR g) s.heap H locs → lv_has ls 2 [(0, .ref (g.2.2 (9, 0, 0))), (1, .int x.1)] → W p l e (rmv 4) s m args below meth c H locs 0 0 (MQ below (XQv shR g t') args s 0 0 (XA shR g)) (F0 m 65 ls [])) (x1 : Int32) (t : Mm) (H : Heap) (locs : List Loc) (ls : Array Slot) (hP : XP shR g t H) (hS : va_S (XA shR g) s.heap H locs) (hl : lv_has ls 2 [(0, .ref (g.2.2 (9, 0, 0))), (1, .int x1)]) (h : b_X8_goHour_65 N k65 x1 t = some t') : W p l e (rmv 4) s m args below meth c H locs 0 0 (MQ below (XQv shR g t') args s 0 0 (XA shR g)) (F0 m 65 ls []) := by
  unfold b_X8_goHour_65 at h
  refine lv_iload_n X.1.1 X.1.2.1 dX8_goHour_65 rfl (lv_at hl 1 rfl) ?_
  refine lv_aload_n X.1.1 X.1.2.1 dX8_goHour_66 rfl (lv_at hl 0 rfl) ?_
  refine gt_X8_1 X hP (kyM (by decide)) wd_881 dX8_goHour_67 ?_
  refine lv_icmp_ge (tgt := 131) X.1.1 X.1.2.1 dX8_goHour_70 (by decide) (fun c_1 => ?_) (fun c_1 => ?_)
  · have h := o_pos c_1 h
    obtain rfl := o_ret h
    exact x_vret X hP hS dX8_goHour_131
  · have h := o_neg c_1 h
    refine lv_aload_n X.1.1 X.1.2.1 dX8_goHour_73 rfl (lv_at hl 0 rfl) ?_
    refine gt_X8_5 X hP (kyM (by decide)) wd_885 dX8_goHour_74 ?_
    refine lv_bipush (v := 19) X.1.1 X.1.2.1 dX8_goHour_77 (by decide) ?_
    refine lv_iload_n X.1.1 X.1.2.1 dX8_goHour_79 rfl (lv_at hl 1 rfl) ?_
    refine lv_iadd X.1.1 X.1.2.1 dX8_goHour_80 ?_
    obtain ⟨g_2, h⟩ := o_gd_inv h
    refine x_iald X hP (kyM (by decide)) (fun _ _ => rfl) g_2 dX8_goHour_81 ?_
    refine lv_iconst (v := 1) X.1.1 X.1.2.1 dX8_goHour_82 (by decide) ?_
    refine lv_icmp_ne (tgt := 125) X.1.1 X.1.2.1 dX8_goHour_83 (by decide) (fun c_3 => ?_) (fun c_3 => ?_)
    · have h := o_neg c_3 h
      exact w_X8_goHour_125 N X hk65 x1 t _ _ _ hP hS (lv_sub hl [0, 1] rfl) h
    · have h := o_pos c_3 h
      refine lv_aload_n X.1.1 X.1.2.1 dX8_goHour_86 rfl (lv_at hl 0 rfl) ?_
      refine gt_X8_5 X hP (kyM (by decide)) wd_885 dX8_goHour_87 ?_
      refine lv_bipush (v := 24) X.1.1 X.1.2.1 dX8_goHour_90 (by decide) ?_
      refine lv_iload_n X.1.1 X.1.2.1 dX8_goHour_92 rfl (lv_at hl 1 rfl) ?_
      refine lv_iadd X.1.1 X.1.2.1 dX8_goHour_93 ?_
      obtain ⟨g_4, h⟩ := o_gd_inv h
      refine x_iald X hP (kyM (by decide)) (fun _ _ => rfl) g_4 dX8_goHour_94 ?_
      refine lv_aload_n X.1.1 X.1.2.1 dX8_goHour_95 rfl (lv_at hl 0 rfl) ?_
      refine gt_X8_5 X hP (kyM (by decide)) wd_885 dX8_goHour_96 ?_
      refine lv_bipush (v := 29) X.1.1 X.1.2.1 dX8_goHour_99 (by decide) ?_
      obtain ⟨g_5, h⟩ := o_gd_inv h
      refine x_iald X hP (kyM (by decide)) (fun _ _ => rfl) g_5 dX8_goHour_101 ?_
      refine lv_icmp_gt (tgt := 125) X.1.1 X.1.2.1 dX8_goHour_102 (by decide) (fun c_6 => ?_) (fun c_6 => ?_)
      · have h := o_pos c_6 h
        exact w_X8_goHour_125 N X hk65 x1 t _ _ _ hP hS (lv_sub hl [0, 1] rfl) h
      · have h := o_neg c_6 h
        refine lv_aload_n X.1.1 X.1.2.1 dX8_goHour_105 rfl (lv_at hl 0 rfl) ?_
        refine gt_X8_5 X hP (kyM (by decide)) wd_885 dX8_goHour_106 ?_
        refine lv_bipush (v := 19) X.1.1 X.1.2.1 dX8_goHour_109 (by decide) ?_
        refine lv_iload_n X.1.1 X.1.2.1 dX8_goHour_111 rfl (lv_at hl 1 rfl) ?_
        refine lv_iadd X.1.1 X.1.2.1 dX8_goHour_112 ?_
        refine lv_iconst (v := 2) X.1.1 X.1.2.1 dX8_goHour_113 (by decide) ?_
        obtain ⟨g_7, h⟩ := o_gd_inv h
        obtain ⟨t_8, e_9, h⟩ := o_nm_inv h
        refine x_iast X hP hS (kyM (by decide)) (fun _ _ => rfl) g_7 dX8_goHour_114 (fun H locs hP hS => ?_)
        have hP : XP shR g t_8 H := by rw [e_9]; exact hP
        refine lv_aload_n X.1.1 X.1.2.1 dX8_goHour_115 rfl (lv_at hl 0 rfl) ?_
        refine gt_X8_5 X hP (kyM (by decide)) wd_885 dX8_goHour_116 ?_
        refine lv_bipush (v := 24) X.1.1 X.1.2.1 dX8_goHour_119 (by decide) ?_
        refine lv_iload_n X.1.1 X.1.2.1 dX8_goHour_121 rfl (lv_at hl 1 rfl) ?_
        refine lv_iadd X.1.1 X.1.2.1 dX8_goHour_122 ?_
        refine lv_iconst (v := 0) X.1.1 X.1.2.1 dX8_goHour_123 (by decide) ?_
        obtain ⟨g_10, h⟩ := o_gd_inv h
        obtain ⟨t_11, e_12, h⟩ := o_nm_inv h
        refine x_iast X hP hS (kyM (by decide)) (fun _ _ => rfl) g_10 dX8_goHour_124 (fun H locs hP hS => ?_)
        have hP : XP shR g t_11 H := by rw [e_12]; exact hP
        exact w_X8_goHour_125 N X hk65 x1 t_11 _ _ _ hP hS (lv_sub hl [0, 1] rfl) h
set_option maxRecDepth 100000 in
set_option maxHeartbeats 4000000 in
theorem w_X8_goHour_65 {l : Launch} {g : Ly} {p : Program} {e : Env} {s : State} {m : MethodId} {args : Array Value} {below : List Frame} {meth : Method} {c : Code} (N : Nat) (X : XC p m meth c cX8_goHour 2 s args (.code yX8_goHour cX8_goHour 2 none) RX8 none shR g) {t' : Mm} (x1 : Int32) (t : Mm) (H : Heap) (locs : List Loc) (ls : Array Slot) (hP : XP shR g t H) (hS : va_S (XA shR g) s.heap H locs) (hl : lv_has ls 2 [(0, .ref (g.2.2 (9, 0, 0))), (1, .int x1)]) (h : f_X8_goHour_65 N x1 t = some t') : W p l e (rmv 4) s m args below meth c H locs 0 0 (MQ below (XQv shR g t') args s 0 0 (XA shR g)) (F0 m 65 ls []) :=
  o_lp_ind (P := fun x : Int32 × Mm => ∀ (H : Heap) (locs : List Loc) (ls : Array Slot), XP shR g x.2 H → va_S (XA shR g) s.heap H locs → lv_has ls 2 [(0, .ref (g.2.2 (9, 0, 0))), (1, .int x.1)] → W p l e (rmv 4) s m args below meth c H locs 0 0 (MQ below (XQv shR g t') args s 0 0 (XA shR g)) (F0 m 65 ls [])) (fun k hk x h H locs ls hP hS hl => wb_X8_goHour_65 N X hk x.1 x.2 H locs ls hP hS hl h) N (x1, t) h H locs ls hP hS hl
set_option maxRecDepth 100000 in
set_option maxHeartbeats 4000000 in
theorem w_X8_goHour_46 {l : Launch} {g : Ly} {p : Program} {e : Env} {s : State} {m : MethodId} {args : Array Value} {below : List Frame} {meth : Method} {c : Code} (N : Nat) (X : XC p m meth c cX8_goHour 2 s args (.code yX8_goHour cX8_goHour 2 none) RX8 none shR g) {t' : Mm} {k2 : Int32 × Mm → Option (Mm)} (hk2 : ∀ x : Int32 × Mm, k2 x = some t' → ∀ (H : Heap) (locs : List Loc) (ls : Array Slot), XP shR g x.2 H → va_S (XA shR g) s.heap H locs → lv_has ls 2 [(0, .ref (g.2.2 (9, 0, 0))), (1, .int x.1)] → W p l e (rmv 4) s m args below meth c H locs 0 0 (MQ below (XQv shR g t') args s 0 0 (XA shR g)) (F0 m 2 ls [])) (x1 : Int32) (t : Mm) (H : Heap) (locs : List Loc) (ls : Array Slot) (hP : XP shR g t H) (hS : va_S (XA shR g) s.heap H locs) (hl : lv_has ls 2 [(0, .ref (g.2.2 (9, 0, 0))), (1, .int x1)]) (h : f_X8_goHour_46 N k2 x1 t = some t') : W p l e (rmv 4) s m args below meth c H locs 0 0 (MQ below (XQv shR g t') args s 0 0 (XA shR g)) (F0 m 46 ls []) := by
  unfold f_X8_goHour_46 at h
  refine lv_iinc (v := (x1 + 1)) (lv' := [(1, .int (x1 + 1)), (0, .ref (g.2.2 (9, 0, 0)))]) X.1.1 X.1.2.1 dX8_goHour_46 hl (k := 1) rfl rfl (by decide) rfl (fun ls hl => ?_)
  refine lv_goto (tgt := 2) X.1.1 X.1.2.1 dX8_goHour_49 (by decide) ?_
  exact hk2 ((x1 + 1), t) h _ _ _ hP hS (lv_sub hl [1, 0] rfl)
set_option maxRecDepth 100000 in
set_option maxHeartbeats 4000000 in
theorem wb_X8_goHour_2 {l : Launch} {g : Ly} {p : Program} {e : Env} {s : State} {m : MethodId} {args : Array Value} {below : List Frame} {meth : Method} {c : Code} (N : Nat) (X : XC p m meth c cX8_goHour 2 s args (.code yX8_goHour cX8_goHour 2 none) RX8 none shR g) {t' : Mm} {k2 : Int32 × Mm → Option (Mm)} (hk2 : ∀ x : Int32 × Mm, k2 x = some t' → ∀ (H : Heap) (locs : List Loc) (ls : Array Slot), XP shR g x.2 H → va_S (XA shR g) s.heap H locs → lv_has ls 2 [(0, .ref (g.2.2 (9, 0, 0))), (1, .int x.1)] → W p l e (rmv 4) s m args below meth c H locs 0 0 (MQ below (XQv shR g t') args s 0 0 (XA shR g)) (F0 m 2 ls [])) (x1 : Int32) (t : Mm) (H : Heap) (locs : List Loc) (ls : Array Slot) (hP : XP shR g t H) (hS : va_S (XA shR g) s.heap H locs) (hl : lv_has ls 2 [(0, .ref (g.2.2 (9, 0, 0))), (1, .int x1)]) (h : b_X8_goHour_2 N k2 x1 t = some t') : W p l e (rmv 4) s m args below meth c H locs 0 0 (MQ below (XQv shR g t') args s 0 0 (XA shR g)) (F0 m 2 ls []) := by
  unfold b_X8_goHour_2 at h
  refine lv_iload_n X.1.1 X.1.2.1 dX8_goHour_2 rfl (lv_at hl 1 rfl) ?_
  refine lv_aload_n X.1.1 X.1.2.1 dX8_goHour_3 rfl (lv_at hl 0 rfl) ?_
  refine gt_X8_1 X hP (kyM (by decide)) wd_881 dX8_goHour_4 ?_
  refine lv_icmp_ge (tgt := 52) X.1.1 X.1.2.1 dX8_goHour_7 (by decide) (fun c_13 => ?_) (fun c_13 => ?_)
  · have h := o_pos c_13 h
    refine lv_aload_n X.1.1 X.1.2.1 dX8_goHour_52 rfl (lv_at hl 0 rfl) ?_
    refine gt_X8_5 X hP (kyM (by decide)) wd_885 dX8_goHour_53 ?_
    refine lv_bipush (v := 29) X.1.1 X.1.2.1 dX8_goHour_56 (by decide) ?_
    refine lv_dup2_11 X.1.1 X.1.2.1 dX8_goHour_58 rfl rfl ?_
    obtain ⟨g_14, h⟩ := o_gd_inv h
    refine x_iald X hP (kyM (by decide)) (fun _ _ => rfl) g_14 dX8_goHour_59 ?_
    refine lv_iconst (v := 1) X.1.1 X.1.2.1 dX8_goHour_60 (by decide) ?_
    refine lv_iadd X.1.1 X.1.2.1 dX8_goHour_61 ?_
    obtain ⟨g_15, h⟩ := o_gd_inv h
    obtain ⟨t_16, e_17, h⟩ := o_nm_inv h
    refine x_iast X hP hS (kyM (by decide)) (fun _ _ => rfl) g_15 dX8_goHour_62 (fun H locs hP hS => ?_)
    have hP : XP shR g t_16 H := by rw [e_17]; exact hP
    refine lv_iconst (v := 0) X.1.1 X.1.2.1 dX8_goHour_63 (by decide) ?_
    refine lv_istore_n (lv' := [(1, .int 0), (0, .ref (g.2.2 (9, 0, 0)))]) X.1.1 X.1.2.1 dX8_goHour_64 rfl hl (by decide) rfl (fun ls hl => ?_)
    exact w_X8_goHour_65 N X 0 t_16 _ _ _ hP hS (lv_sub hl [1, 0] rfl) h
  · have h := o_neg c_13 h
    refine lv_aload_n X.1.1 X.1.2.1 dX8_goHour_10 rfl (lv_at hl 0 rfl) ?_
    refine gt_X8_5 X hP (kyM (by decide)) wd_885 dX8_goHour_11 ?_
    refine lv_bipush (v := 19) X.1.1 X.1.2.1 dX8_goHour_14 (by decide) ?_
    refine lv_iload_n X.1.1 X.1.2.1 dX8_goHour_16 rfl (lv_at hl 1 rfl) ?_
    refine lv_iadd X.1.1 X.1.2.1 dX8_goHour_17 ?_
    obtain ⟨g_18, h⟩ := o_gd_inv h
    refine x_iald X hP (kyM (by decide)) (fun _ _ => rfl) g_18 dX8_goHour_18 ?_
    refine lv_if_ne (tgt := 46) X.1.1 X.1.2.1 dX8_goHour_19 (by decide) (fun c_19 => ?_) (fun c_19 => ?_)
    · have h := o_neg c_19 h
      exact w_X8_goHour_46 N X hk2 x1 t _ _ _ hP hS (lv_sub hl [0, 1] rfl) h
    · have h := o_pos c_19 h
      refine lv_aload_n X.1.1 X.1.2.1 dX8_goHour_22 rfl (lv_at hl 0 rfl) ?_
      refine gt_X8_5 X hP (kyM (by decide)) wd_885 dX8_goHour_23 ?_
      refine lv_bipush (v := 14) X.1.1 X.1.2.1 dX8_goHour_26 (by decide) ?_
      refine lv_iload_n X.1.1 X.1.2.1 dX8_goHour_28 rfl (lv_at hl 1 rfl) ?_
      refine lv_iadd X.1.1 X.1.2.1 dX8_goHour_29 ?_
      obtain ⟨g_20, h⟩ := o_gd_inv h
      refine x_iald X hP (kyM (by decide)) (fun _ _ => rfl) g_20 dX8_goHour_30 ?_
      refine lv_aload_n X.1.1 X.1.2.1 dX8_goHour_31 rfl (lv_at hl 0 rfl) ?_
      refine gt_X8_5 X hP (kyM (by decide)) wd_885 dX8_goHour_32 ?_
      refine lv_bipush (v := 29) X.1.1 X.1.2.1 dX8_goHour_35 (by decide) ?_
      obtain ⟨g_21, h⟩ := o_gd_inv h
      refine x_iald X hP (kyM (by decide)) (fun _ _ => rfl) g_21 dX8_goHour_37 ?_
      refine lv_icmp_gt (tgt := 46) X.1.1 X.1.2.1 dX8_goHour_38 (by decide) (fun c_22 => ?_) (fun c_22 => ?_)
      · have h := o_pos c_22 h
        exact w_X8_goHour_46 N X hk2 x1 t _ _ _ hP hS (lv_sub hl [0, 1] rfl) h
      · have h := o_neg c_22 h
        refine lv_aload_n X.1.1 X.1.2.1 dX8_goHour_41 rfl (lv_at hl 0 rfl) ?_
        refine lv_iload_n X.1.1 X.1.2.1 dX8_goHour_42 rfl (lv_at hl 1 rfl) ?_
        obtain ⟨t_23, hc_24, h⟩ := o_bd_inv h
        refine x_callv (x_runV (As := [.int x1]) (rest := []) X hP hS (c_X8_goComes l g N X.2.2.2.2.1 x1 t hc_24) ⟨wd_1097, wd_1094, wd_1096, wd_39, wd_62⟩ hd_X8_goComes ⟨by omega, by decide⟩ (x_recv X hP (ci := 8) rfl (kyM (by decide)) rfl) rfl hl.1 rfl (Nat.le_of_ble_eq_true rfl) dX8_goHour_43) hS (fun H locs hP hS => ?_)
        exact w_X8_goHour_46 N X hk2 x1 t_23 _ _ _ hP hS (lv_sub hl [0, 1] rfl) h
set_option maxRecDepth 100000 in
set_option maxHeartbeats 4000000 in
theorem w_X8_goHour_2 {l : Launch} {g : Ly} {p : Program} {e : Env} {s : State} {m : MethodId} {args : Array Value} {below : List Frame} {meth : Method} {c : Code} (N : Nat) (X : XC p m meth c cX8_goHour 2 s args (.code yX8_goHour cX8_goHour 2 none) RX8 none shR g) {t' : Mm} (x1 : Int32) (t : Mm) (H : Heap) (locs : List Loc) (ls : Array Slot) (hP : XP shR g t H) (hS : va_S (XA shR g) s.heap H locs) (hl : lv_has ls 2 [(0, .ref (g.2.2 (9, 0, 0))), (1, .int x1)]) (h : f_X8_goHour_2 N x1 t = some t') : W p l e (rmv 4) s m args below meth c H locs 0 0 (MQ below (XQv shR g t') args s 0 0 (XA shR g)) (F0 m 2 ls []) :=
  o_lp_ind (P := fun x : Int32 × Mm => ∀ (H : Heap) (locs : List Loc) (ls : Array Slot), XP shR g x.2 H → va_S (XA shR g) s.heap H locs → lv_has ls 2 [(0, .ref (g.2.2 (9, 0, 0))), (1, .int x.1)] → W p l e (rmv 4) s m args below meth c H locs 0 0 (MQ below (XQv shR g t') args s 0 0 (XA shR g)) (F0 m 2 ls [])) (fun k hk x h H locs ls hP hS hl => wb_X8_goHour_2 N X hk x.1 x.2 H locs ls hP hS hl h) N (x1, t) h H locs ls hP hS hl
set_option maxRecDepth 100000 in
set_option maxHeartbeats 4000000 in
theorem c_X8_goHour (l : Launch) (g : Ly) (N : Nat) (hG : XG shR g) (t : Mm) {t' : Mm} (h : f_X8_goHour N t = some t') : MI l yX8_goHour cX8_goHour 2 none 4 shR g [.ref (g.2.2 (9, 0, 0))] t (XQv shR g t') := by
  refine x_met hG (by decide +kernel) (Nat.le_of_ble_eq_true rfl) ?_
  intro p e s m below meth c ls X hP hl
  have hS : va_S (XA shR g) s.heap s.heap [] := va_S.rf
  have hl : lv_has ls 2 [(0, .ref (g.2.2 (9, 0, 0)))] := hl
  unfold f_X8_goHour at h
  generalize ([.ref (g.2.2 (9, 0, 0))] : List Value).toArray = args at X ⊢
  refine lv_iconst (v := 0) X.1.1 X.1.2.1 dX8_goHour_0 (by decide) ?_
  refine lv_istore_n (lv' := [(1, .int 0), (0, .ref (g.2.2 (9, 0, 0)))]) X.1.1 X.1.2.1 dX8_goHour_1 rfl hl (by decide) rfl (fun ls hl => ?_)
  exact w_X8_goHour_2 N X 0 t _ _ _ hP hS (lv_sub hl [1, 0] rfl) h
def b_X8_goHours_2 (N : Nat) (k2 : Int32 × Int32 × Mm → Option (Mm)) (x1 : Int32) (x2 : Int32) (t : Mm) : Option (Mm) := if x1 ≤ x2 then (some t) else (o_bd (f_X8_goHour N t) fun t_2 => k2 (x1, (x2 + 1), t_2))
def f_X8_goHours_2 (N : Nat) (x1 : Int32) (x2 : Int32) (t : Mm) : Option (Mm) := o_lp (fun k x => b_X8_goHours_2 N k x.1 x.2.1 x.2.2) N (x1, x2, t)
/-- FordQuestionsModel.goHours(I)V -/
def f_X8_goHours (N : Nat) (a0 : Int32) (t : Mm) : Option (Mm) := f_X8_goHours_2 N a0 0 t
theorem hd_X8_goHours : x_hd yX8_goHours 1 := by decide +kernel
set_option maxRecDepth 100000 in
set_option maxHeartbeats 4000000 in
theorem wb_X8_goHours_2 {l : Launch} {g : Ly} {p : Program} {e : Env} {s : State} {m : MethodId} {args : Array Value} {below : List Frame} {meth : Method} {c : Code} (N : Nat) (X : XC p m meth c cX8_goHours 3 s args (.code yX8_goHours cX8_goHours 3 none) RX8 none shR g) {t' : Mm} {k2 : Int32 × Int32 × Mm → Option (Mm)} (hk2 : ∀ x : Int32 × Int32 × Mm, k2 x = some t' → ∀ (H : Heap) (locs : List Loc) (ls : Array Slot), XP shR g x.2.2 H → va_S (XA shR g) s.heap H locs → lv_has ls 3 [(0, .ref (g.2.2 (9, 0, 0))), (1, .int x.1), (2, .int x.2.1)] → W p l e (rmv 5) s m args below meth c H locs 0 0 (MQ below (XQv shR g t') args s 0 0 (XA shR g)) (F0 m 2 ls [])) (x1 : Int32) (x2 : Int32) (t : Mm) (H : Heap) (locs : List Loc) (ls : Array Slot) (hP : XP shR g t H) (hS : va_S (XA shR g) s.heap H locs) (hl : lv_has ls 3 [(0, .ref (g.2.2 (9, 0, 0))), (1, .int x1), (2, .int x2)]) (h : b_X8_goHours_2 N k2 x1 x2 t = some t') : W p l e (rmv 5) s m args below meth c H locs 0 0 (MQ below (XQv shR g t') args s 0 0 (XA shR g)) (F0 m 2 ls []) := by
  unfold b_X8_goHours_2 at h
  refine lv_iload_n X.1.1 X.1.2.1 dX8_goHours_2 rfl (lv_at hl 2 rfl) ?_
  refine lv_iload_n X.1.1 X.1.2.1 dX8_goHours_3 rfl (lv_at hl 1 rfl) ?_
  refine lv_icmp_ge (tgt := 17) X.1.1 X.1.2.1 dX8_goHours_4 (by decide) (fun c_1 => ?_) (fun c_1 => ?_)
  · have h := o_pos c_1 h
    obtain rfl := o_ret h
    exact x_vret X hP hS dX8_goHours_17
  · have h := o_neg c_1 h
    refine lv_aload_n X.1.1 X.1.2.1 dX8_goHours_7 rfl (lv_at hl 0 rfl) ?_
    obtain ⟨t_2, hc_3, h⟩ := o_bd_inv h
    refine x_callv (x_runV (As := []) (rest := []) X hP hS (c_X8_goHour l g N X.2.2.2.2.1 t hc_3) ⟨wd_1093, wd_1090, wd_1092, wd_38, wd_62⟩ hd_X8_goHour ⟨by omega, by decide⟩ (x_recv X hP (ci := 8) rfl (kyM (by decide)) rfl) rfl hl.1 rfl (Nat.le_of_ble_eq_true rfl) dX8_goHours_8) hS (fun H locs hP hS => ?_)
    refine lv_iinc (v := (x2 + 1)) (lv' := [(2, .int (x2 + 1)), (0, .ref (g.2.2 (9, 0, 0))), (1, .int x1)]) X.1.1 X.1.2.1 dX8_goHours_11 hl (k := 2) rfl rfl (by decide) rfl (fun ls hl => ?_)
    refine lv_goto (tgt := 2) X.1.1 X.1.2.1 dX8_goHours_14 (by decide) ?_
    exact hk2 (x1, (x2 + 1), t_2) h _ _ _ hP hS (lv_sub hl [1, 2, 0] rfl)
set_option maxRecDepth 100000 in
set_option maxHeartbeats 4000000 in
theorem w_X8_goHours_2 {l : Launch} {g : Ly} {p : Program} {e : Env} {s : State} {m : MethodId} {args : Array Value} {below : List Frame} {meth : Method} {c : Code} (N : Nat) (X : XC p m meth c cX8_goHours 3 s args (.code yX8_goHours cX8_goHours 3 none) RX8 none shR g) {t' : Mm} (x1 : Int32) (x2 : Int32) (t : Mm) (H : Heap) (locs : List Loc) (ls : Array Slot) (hP : XP shR g t H) (hS : va_S (XA shR g) s.heap H locs) (hl : lv_has ls 3 [(0, .ref (g.2.2 (9, 0, 0))), (1, .int x1), (2, .int x2)]) (h : f_X8_goHours_2 N x1 x2 t = some t') : W p l e (rmv 5) s m args below meth c H locs 0 0 (MQ below (XQv shR g t') args s 0 0 (XA shR g)) (F0 m 2 ls []) :=
  o_lp_ind (P := fun x : Int32 × Int32 × Mm => ∀ (H : Heap) (locs : List Loc) (ls : Array Slot), XP shR g x.2.2 H → va_S (XA shR g) s.heap H locs → lv_has ls 3 [(0, .ref (g.2.2 (9, 0, 0))), (1, .int x.1), (2, .int x.2.1)] → W p l e (rmv 5) s m args below meth c H locs 0 0 (MQ below (XQv shR g t') args s 0 0 (XA shR g)) (F0 m 2 ls [])) (fun k hk x h H locs ls hP hS hl => wb_X8_goHours_2 N X hk x.1 x.2.1 x.2.2 H locs ls hP hS hl h) N (x1, x2, t) h H locs ls hP hS hl
set_option maxRecDepth 100000 in
set_option maxHeartbeats 4000000 in
theorem c_X8_goHours (l : Launch) (g : Ly) (N : Nat) (hG : XG shR g) (a0 : Int32) (t : Mm) {t' : Mm} (h : f_X8_goHours N a0 t = some t') : MI l yX8_goHours cX8_goHours 3 none 5 shR g [.ref (g.2.2 (9, 0, 0)), .int a0] t (XQv shR g t') := by
  refine x_met hG (by decide +kernel) (Nat.le_of_ble_eq_true rfl) ?_
  intro p e s m below meth c ls X hP hl
  have hS : va_S (XA shR g) s.heap s.heap [] := va_S.rf
  have hl : lv_has ls 3 [(0, .ref (g.2.2 (9, 0, 0))), (1, .int a0)] := hl
  unfold f_X8_goHours at h
  generalize ([.ref (g.2.2 (9, 0, 0)), .int a0] : List Value).toArray = args at X ⊢
  refine lv_iconst (v := 0) X.1.1 X.1.2.1 dX8_goHours_0 (by decide) ?_
  refine lv_istore_n (lv' := [(2, .int 0), (0, .ref (g.2.2 (9, 0, 0))), (1, .int a0)]) X.1.1 X.1.2.1 dX8_goHours_1 rfl hl (by decide) rfl (fun ls hl => ?_)
  exact w_X8_goHours_2 N X a0 0 t _ _ _ hP hS (lv_sub hl [1, 2, 0] rfl) h
def f_X8_placed_33 (N : Nat) (k4 : Int32 × Int32 × Int32 × Mm → Option (Int32 × Mm)) (x1 : Int32) (x3 : Int32) (s0 : Int32) (s1 : Int32) (t : Mm) : Option (Int32 × Mm) := k4 (x1, (s0 ||| s1), (x3 + 1), t)
def b_X8_placed_4 (N : Nat) (k4 : Int32 × Int32 × Int32 × Mm → Option (Int32 × Mm)) (x1 : Int32) (x2 : Int32) (x3 : Int32) (t : Mm) : Option (Int32 × Mm) := if (t.1 9 0 0 1) ≤ x3 then (some (x2, t)) else (if o_inb (19 + x3) 31 = true then (if (t.1 9 0 5 ((19 + x3).toNatClampNeg)) = x1 then (f_X8_placed_33 N k4 x1 x3 x2 (1 <<< (x3 &&& 31)) t) else (f_X8_placed_33 N k4 x1 x3 x2 0 t)) else none)
def f_X8_placed_4 (N : Nat) (x1 : Int32) (x2 : Int32) (x3 : Int32) (t : Mm) : Option (Int32 × Mm) := o_lp (fun k x => b_X8_placed_4 N k x.1 x.2.1 x.2.2.1 x.2.2.2) N (x1, x2, x3, t)
/-- FordQuestionsModel.placed(I)I -/
def f_X8_placed (N : Nat) (a0 : Int32) (t : Mm) : Option (Int32 × Mm) := f_X8_placed_4 N a0 0 0 t
theorem hd_X8_placed : x_hd yX8_placed 1 := by decide +kernel
set_option maxRecDepth 100000 in
set_option maxHeartbeats 4000000 in
theorem w_X8_placed_33 {l : Launch} {g : Ly} {p : Program} {e : Env} {s : State} {m : MethodId} {args : Array Value} {below : List Frame} {meth : Method} {c : Code} (N : Nat) (X : XC p m meth c cX8_placed 4 s args (.code yX8_placed cX8_placed 4 (some .int)) RX8 (some .int) shR g) {r : Int32} {t' : Mm} {k4 : Int32 × Int32 × Int32 × Mm → Option (Int32 × Mm)} (hk4 : ∀ x : Int32 × Int32 × Int32 × Mm, k4 x = some (r, t') → ∀ (H : Heap) (locs : List Loc) (ls : Array Slot), XP shR g x.2.2.2 H → va_S (XA shR g) s.heap H locs → lv_has ls 4 [(0, .ref (g.2.2 (9, 0, 0))), (1, .int x.1), (2, .int x.2.1), (3, .int x.2.2.1)] → W p l e (rmv 1) s m args below meth c H locs 0 0 (MQ below (XQi shR g r t') args s 0 0 (XA shR g)) (F0 m 4 ls [])) (x1 : Int32) (x3 : Int32) (s0 : Int32) (s1 : Int32) (t : Mm) (H : Heap) (locs : List Loc) (ls : Array Slot) (hP : XP shR g t H) (hS : va_S (XA shR g) s.heap H locs) (hl : lv_has ls 4 [(0, .ref (g.2.2 (9, 0, 0))), (1, .int x1), (3, .int x3)]) (h : f_X8_placed_33 N k4 x1 x3 s0 s1 t = some (r, t')) : W p l e (rmv 1) s m args below meth c H locs 0 0 (MQ below (XQi shR g r t') args s 0 0 (XA shR g)) (F0 m 33 ls [.int s1, .int s0]) := by
  unfold f_X8_placed_33 at h
  refine lv_ior X.1.1 X.1.2.1 dX8_placed_33 ?_
  refine lv_istore_n (lv' := [(2, .int (s0 ||| s1)), (0, .ref (g.2.2 (9, 0, 0))), (1, .int x1), (3, .int x3)]) X.1.1 X.1.2.1 dX8_placed_34 rfl hl (by decide) rfl (fun ls hl => ?_)
  refine lv_iinc (v := (x3 + 1)) (lv' := [(3, .int (x3 + 1)), (2, .int (s0 ||| s1)), (0, .ref (g.2.2 (9, 0, 0))), (1, .int x1)]) X.1.1 X.1.2.1 dX8_placed_35 hl (k := 3) rfl rfl (by decide) rfl (fun ls hl => ?_)
  refine lv_goto (tgt := 4) X.1.1 X.1.2.1 dX8_placed_38 (by decide) ?_
  exact hk4 (x1, (s0 ||| s1), (x3 + 1), t) h _ _ _ hP hS (lv_sub hl [2, 3, 1, 0] rfl)
set_option maxRecDepth 100000 in
set_option maxHeartbeats 4000000 in
theorem wb_X8_placed_4 {l : Launch} {g : Ly} {p : Program} {e : Env} {s : State} {m : MethodId} {args : Array Value} {below : List Frame} {meth : Method} {c : Code} (N : Nat) (X : XC p m meth c cX8_placed 4 s args (.code yX8_placed cX8_placed 4 (some .int)) RX8 (some .int) shR g) {r : Int32} {t' : Mm} {k4 : Int32 × Int32 × Int32 × Mm → Option (Int32 × Mm)} (hk4 : ∀ x : Int32 × Int32 × Int32 × Mm, k4 x = some (r, t') → ∀ (H : Heap) (locs : List Loc) (ls : Array Slot), XP shR g x.2.2.2 H → va_S (XA shR g) s.heap H locs → lv_has ls 4 [(0, .ref (g.2.2 (9, 0, 0))), (1, .int x.1), (2, .int x.2.1), (3, .int x.2.2.1)] → W p l e (rmv 1) s m args below meth c H locs 0 0 (MQ below (XQi shR g r t') args s 0 0 (XA shR g)) (F0 m 4 ls [])) (x1 : Int32) (x2 : Int32) (x3 : Int32) (t : Mm) (H : Heap) (locs : List Loc) (ls : Array Slot) (hP : XP shR g t H) (hS : va_S (XA shR g) s.heap H locs) (hl : lv_has ls 4 [(0, .ref (g.2.2 (9, 0, 0))), (1, .int x1), (2, .int x2), (3, .int x3)]) (h : b_X8_placed_4 N k4 x1 x2 x3 t = some (r, t')) : W p l e (rmv 1) s m args below meth c H locs 0 0 (MQ below (XQi shR g r t') args s 0 0 (XA shR g)) (F0 m 4 ls []) := by
  unfold b_X8_placed_4 at h
  refine lv_iload_n X.1.1 X.1.2.1 dX8_placed_4 rfl (lv_at hl 3 rfl) ?_
  refine lv_aload_n X.1.1 X.1.2.1 dX8_placed_5 rfl (lv_at hl 0 rfl) ?_
  refine gt_X8_1 X hP (kyM (by decide)) wd_881 dX8_placed_6 ?_
  refine lv_icmp_ge (tgt := 41) X.1.1 X.1.2.1 dX8_placed_9 (by decide) (fun c_1 => ?_) (fun c_1 => ?_)
  · have h := o_pos c_1 h
    refine lv_iload_n X.1.1 X.1.2.1 dX8_placed_41 rfl (lv_at hl 2 rfl) ?_
    obtain ⟨rfl, rfl⟩ := o_ret2 h
    exact x_iret X hP hS dX8_placed_42
  · have h := o_neg c_1 h
    refine lv_iload_n X.1.1 X.1.2.1 dX8_placed_12 rfl (lv_at hl 2 rfl) ?_
    refine lv_aload_n X.1.1 X.1.2.1 dX8_placed_13 rfl (lv_at hl 0 rfl) ?_
    refine gt_X8_5 X hP (kyM (by decide)) wd_885 dX8_placed_14 ?_
    refine lv_bipush (v := 19) X.1.1 X.1.2.1 dX8_placed_17 (by decide) ?_
    refine lv_iload_n X.1.1 X.1.2.1 dX8_placed_19 rfl (lv_at hl 3 rfl) ?_
    refine lv_iadd X.1.1 X.1.2.1 dX8_placed_20 ?_
    obtain ⟨g_2, h⟩ := o_gd_inv h
    refine x_iald X hP (kyM (by decide)) (fun _ _ => rfl) g_2 dX8_placed_21 ?_
    refine lv_iload_n X.1.1 X.1.2.1 dX8_placed_22 rfl (lv_at hl 1 rfl) ?_
    refine lv_icmp_ne (tgt := 32) X.1.1 X.1.2.1 dX8_placed_23 (by decide) (fun c_3 => ?_) (fun c_3 => ?_)
    · have h := o_neg c_3 h
      refine lv_iconst (v := 0) X.1.1 X.1.2.1 dX8_placed_32 (by decide) ?_
      exact w_X8_placed_33 N X hk4 x1 x3 x2 0 t _ _ _ hP hS (lv_sub hl [0, 1, 3] rfl) h
    · have h := o_pos c_3 h
      refine lv_iconst (v := 1) X.1.1 X.1.2.1 dX8_placed_26 (by decide) ?_
      refine lv_iload_n X.1.1 X.1.2.1 dX8_placed_27 rfl (lv_at hl 3 rfl) ?_
      refine lv_ishl X.1.1 X.1.2.1 dX8_placed_28 ?_
      refine lv_goto (tgt := 33) X.1.1 X.1.2.1 dX8_placed_29 (by decide) ?_
      exact w_X8_placed_33 N X hk4 x1 x3 x2 (1 <<< (x3 &&& 31)) t _ _ _ hP hS (lv_sub hl [0, 1, 3] rfl) h
set_option maxRecDepth 100000 in
set_option maxHeartbeats 4000000 in
theorem w_X8_placed_4 {l : Launch} {g : Ly} {p : Program} {e : Env} {s : State} {m : MethodId} {args : Array Value} {below : List Frame} {meth : Method} {c : Code} (N : Nat) (X : XC p m meth c cX8_placed 4 s args (.code yX8_placed cX8_placed 4 (some .int)) RX8 (some .int) shR g) {r : Int32} {t' : Mm} (x1 : Int32) (x2 : Int32) (x3 : Int32) (t : Mm) (H : Heap) (locs : List Loc) (ls : Array Slot) (hP : XP shR g t H) (hS : va_S (XA shR g) s.heap H locs) (hl : lv_has ls 4 [(0, .ref (g.2.2 (9, 0, 0))), (1, .int x1), (2, .int x2), (3, .int x3)]) (h : f_X8_placed_4 N x1 x2 x3 t = some (r, t')) : W p l e (rmv 1) s m args below meth c H locs 0 0 (MQ below (XQi shR g r t') args s 0 0 (XA shR g)) (F0 m 4 ls []) :=
  o_lp_ind (P := fun x : Int32 × Int32 × Int32 × Mm => ∀ (H : Heap) (locs : List Loc) (ls : Array Slot), XP shR g x.2.2.2 H → va_S (XA shR g) s.heap H locs → lv_has ls 4 [(0, .ref (g.2.2 (9, 0, 0))), (1, .int x.1), (2, .int x.2.1), (3, .int x.2.2.1)] → W p l e (rmv 1) s m args below meth c H locs 0 0 (MQ below (XQi shR g r t') args s 0 0 (XA shR g)) (F0 m 4 ls [])) (fun k hk x h H locs ls hP hS hl => wb_X8_placed_4 N X hk x.1 x.2.1 x.2.2.1 x.2.2.2 H locs ls hP hS hl h) N (x1, x2, x3, t) h H locs ls hP hS hl
set_option maxRecDepth 100000 in
set_option maxHeartbeats 4000000 in
theorem c_X8_placed (l : Launch) (g : Ly) (N : Nat) (hG : XG shR g) (a0 : Int32) (t : Mm) {r : Int32} {t' : Mm} (h : f_X8_placed N a0 t = some (r, t')) : MI l yX8_placed cX8_placed 4 (some .int) 1 shR g [.ref (g.2.2 (9, 0, 0)), .int a0] t (XQi shR g r t') := by
  refine x_met hG (by decide +kernel) (Nat.le_of_ble_eq_true rfl) ?_
  intro p e s m below meth c ls X hP hl
  have hS : va_S (XA shR g) s.heap s.heap [] := va_S.rf
  have hl : lv_has ls 4 [(0, .ref (g.2.2 (9, 0, 0))), (1, .int a0)] := hl
  unfold f_X8_placed at h
  generalize ([.ref (g.2.2 (9, 0, 0)), .int a0] : List Value).toArray = args at X ⊢
  refine lv_iconst (v := 0) X.1.1 X.1.2.1 dX8_placed_0 (by decide) ?_
  refine lv_istore_n (lv' := [(2, .int 0), (0, .ref (g.2.2 (9, 0, 0))), (1, .int a0)]) X.1.1 X.1.2.1 dX8_placed_1 rfl hl (by decide) rfl (fun ls hl => ?_)
  refine lv_iconst (v := 0) X.1.1 X.1.2.1 dX8_placed_2 (by decide) ?_
  refine lv_istore_n (lv' := [(3, .int 0), (2, .int 0), (0, .ref (g.2.2 (9, 0, 0))), (1, .int a0)]) X.1.1 X.1.2.1 dX8_placed_3 rfl hl (by decide) rfl (fun ls hl => ?_)
  exact w_X8_placed_4 N X a0 0 0 t _ _ _ hP hS (lv_sub hl [2, 3, 1, 0] rfl) h
def f_X8_inMany_31 (N : Nat) (k4 : Int32 × Int32 × Mm → Option (Int32 × Mm)) (x2 : Int32) (s0 : Int32) (s1 : Int32) (t : Mm) : Option (Int32 × Mm) := k4 ((s0 + s1), (x2 + 1), t)
def b_X8_inMany_4 (N : Nat) (k4 : Int32 × Int32 × Mm → Option (Int32 × Mm)) (x1 : Int32) (x2 : Int32) (t : Mm) : Option (Int32 × Mm) := if (t.1 9 0 0 1) ≤ x2 then (some (x1, t)) else (if o_inb (19 + x2) 31 = true then (if (t.1 9 0 5 ((19 + x2).toNatClampNeg)) = 1 then (f_X8_inMany_31 N k4 x2 x1 1 t) else (f_X8_inMany_31 N k4 x2 x1 0 t)) else none)
def f_X8_inMany_4 (N : Nat) (x1 : Int32) (x2 : Int32) (t : Mm) : Option (Int32 × Mm) := o_lp (fun k x => b_X8_inMany_4 N k x.1 x.2.1 x.2.2) N (x1, x2, t)
/-- FordQuestionsModel.inMany()I -/
def f_X8_inMany (N : Nat) (t : Mm) : Option (Int32 × Mm) := f_X8_inMany_4 N 0 0 t
theorem hd_X8_inMany : x_hd yX8_inMany 0 := by decide +kernel
set_option maxRecDepth 100000 in
set_option maxHeartbeats 4000000 in
theorem w_X8_inMany_31 {l : Launch} {g : Ly} {p : Program} {e : Env} {s : State} {m : MethodId} {args : Array Value} {below : List Frame} {meth : Method} {c : Code} (N : Nat) (X : XC p m meth c cX8_inMany 3 s args (.code yX8_inMany cX8_inMany 3 (some .int)) RX8 (some .int) shR g) {r : Int32} {t' : Mm} {k4 : Int32 × Int32 × Mm → Option (Int32 × Mm)} (hk4 : ∀ x : Int32 × Int32 × Mm, k4 x = some (r, t') → ∀ (H : Heap) (locs : List Loc) (ls : Array Slot), XP shR g x.2.2 H → va_S (XA shR g) s.heap H locs → lv_has ls 3 [(0, .ref (g.2.2 (9, 0, 0))), (1, .int x.1), (2, .int x.2.1)] → W p l e (rmv 1) s m args below meth c H locs 0 0 (MQ below (XQi shR g r t') args s 0 0 (XA shR g)) (F0 m 4 ls [])) (x2 : Int32) (s0 : Int32) (s1 : Int32) (t : Mm) (H : Heap) (locs : List Loc) (ls : Array Slot) (hP : XP shR g t H) (hS : va_S (XA shR g) s.heap H locs) (hl : lv_has ls 3 [(0, .ref (g.2.2 (9, 0, 0))), (2, .int x2)]) (h : f_X8_inMany_31 N k4 x2 s0 s1 t = some (r, t')) : W p l e (rmv 1) s m args below meth c H locs 0 0 (MQ below (XQi shR g r t') args s 0 0 (XA shR g)) (F0 m 31 ls [.int s1, .int s0]) := by
  unfold f_X8_inMany_31 at h
  refine lv_iadd X.1.1 X.1.2.1 dX8_inMany_31 ?_
  refine lv_istore_n (lv' := [(1, .int (s0 + s1)), (0, .ref (g.2.2 (9, 0, 0))), (2, .int x2)]) X.1.1 X.1.2.1 dX8_inMany_32 rfl hl (by decide) rfl (fun ls hl => ?_)
  refine lv_iinc (v := (x2 + 1)) (lv' := [(2, .int (x2 + 1)), (1, .int (s0 + s1)), (0, .ref (g.2.2 (9, 0, 0)))]) X.1.1 X.1.2.1 dX8_inMany_33 hl (k := 2) rfl rfl (by decide) rfl (fun ls hl => ?_)
  refine lv_goto (tgt := 4) X.1.1 X.1.2.1 dX8_inMany_36 (by decide) ?_
  exact hk4 ((s0 + s1), (x2 + 1), t) h _ _ _ hP hS (lv_sub hl [2, 1, 0] rfl)
set_option maxRecDepth 100000 in
set_option maxHeartbeats 4000000 in
theorem wb_X8_inMany_4 {l : Launch} {g : Ly} {p : Program} {e : Env} {s : State} {m : MethodId} {args : Array Value} {below : List Frame} {meth : Method} {c : Code} (N : Nat) (X : XC p m meth c cX8_inMany 3 s args (.code yX8_inMany cX8_inMany 3 (some .int)) RX8 (some .int) shR g) {r : Int32} {t' : Mm} {k4 : Int32 × Int32 × Mm → Option (Int32 × Mm)} (hk4 : ∀ x : Int32 × Int32 × Mm, k4 x = some (r, t') → ∀ (H : Heap) (locs : List Loc) (ls : Array Slot), XP shR g x.2.2 H → va_S (XA shR g) s.heap H locs → lv_has ls 3 [(0, .ref (g.2.2 (9, 0, 0))), (1, .int x.1), (2, .int x.2.1)] → W p l e (rmv 1) s m args below meth c H locs 0 0 (MQ below (XQi shR g r t') args s 0 0 (XA shR g)) (F0 m 4 ls [])) (x1 : Int32) (x2 : Int32) (t : Mm) (H : Heap) (locs : List Loc) (ls : Array Slot) (hP : XP shR g t H) (hS : va_S (XA shR g) s.heap H locs) (hl : lv_has ls 3 [(0, .ref (g.2.2 (9, 0, 0))), (1, .int x1), (2, .int x2)]) (h : b_X8_inMany_4 N k4 x1 x2 t = some (r, t')) : W p l e (rmv 1) s m args below meth c H locs 0 0 (MQ below (XQi shR g r t') args s 0 0 (XA shR g)) (F0 m 4 ls []) := by
  unfold b_X8_inMany_4 at h
  refine lv_iload_n X.1.1 X.1.2.1 dX8_inMany_4 rfl (lv_at hl 2 rfl) ?_
  refine lv_aload_n X.1.1 X.1.2.1 dX8_inMany_5 rfl (lv_at hl 0 rfl) ?_
  refine gt_X8_1 X hP (kyM (by decide)) wd_881 dX8_inMany_6 ?_
  refine lv_icmp_ge (tgt := 39) X.1.1 X.1.2.1 dX8_inMany_9 (by decide) (fun c_1 => ?_) (fun c_1 => ?_)
  · have h := o_pos c_1 h
    refine lv_iload_n X.1.1 X.1.2.1 dX8_inMany_39 rfl (lv_at hl 1 rfl) ?_
    obtain ⟨rfl, rfl⟩ := o_ret2 h
    exact x_iret X hP hS dX8_inMany_40
  · have h := o_neg c_1 h
    refine lv_iload_n X.1.1 X.1.2.1 dX8_inMany_12 rfl (lv_at hl 1 rfl) ?_
    refine lv_aload_n X.1.1 X.1.2.1 dX8_inMany_13 rfl (lv_at hl 0 rfl) ?_
    refine gt_X8_5 X hP (kyM (by decide)) wd_885 dX8_inMany_14 ?_
    refine lv_bipush (v := 19) X.1.1 X.1.2.1 dX8_inMany_17 (by decide) ?_
    refine lv_iload_n X.1.1 X.1.2.1 dX8_inMany_19 rfl (lv_at hl 2 rfl) ?_
    refine lv_iadd X.1.1 X.1.2.1 dX8_inMany_20 ?_
    obtain ⟨g_2, h⟩ := o_gd_inv h
    refine x_iald X hP (kyM (by decide)) (fun _ _ => rfl) g_2 dX8_inMany_21 ?_
    refine lv_iconst (v := 1) X.1.1 X.1.2.1 dX8_inMany_22 (by decide) ?_
    refine lv_icmp_ne (tgt := 30) X.1.1 X.1.2.1 dX8_inMany_23 (by decide) (fun c_3 => ?_) (fun c_3 => ?_)
    · have h := o_neg c_3 h
      refine lv_iconst (v := 0) X.1.1 X.1.2.1 dX8_inMany_30 (by decide) ?_
      exact w_X8_inMany_31 N X hk4 x2 x1 0 t _ _ _ hP hS (lv_sub hl [0, 2] rfl) h
    · have h := o_pos c_3 h
      refine lv_iconst (v := 1) X.1.1 X.1.2.1 dX8_inMany_26 (by decide) ?_
      refine lv_goto (tgt := 31) X.1.1 X.1.2.1 dX8_inMany_27 (by decide) ?_
      exact w_X8_inMany_31 N X hk4 x2 x1 1 t _ _ _ hP hS (lv_sub hl [0, 2] rfl) h
set_option maxRecDepth 100000 in
set_option maxHeartbeats 4000000 in
theorem w_X8_inMany_4 {l : Launch} {g : Ly} {p : Program} {e : Env} {s : State} {m : MethodId} {args : Array Value} {below : List Frame} {meth : Method} {c : Code} (N : Nat) (X : XC p m meth c cX8_inMany 3 s args (.code yX8_inMany cX8_inMany 3 (some .int)) RX8 (some .int) shR g) {r : Int32} {t' : Mm} (x1 : Int32) (x2 : Int32) (t : Mm) (H : Heap) (locs : List Loc) (ls : Array Slot) (hP : XP shR g t H) (hS : va_S (XA shR g) s.heap H locs) (hl : lv_has ls 3 [(0, .ref (g.2.2 (9, 0, 0))), (1, .int x1), (2, .int x2)]) (h : f_X8_inMany_4 N x1 x2 t = some (r, t')) : W p l e (rmv 1) s m args below meth c H locs 0 0 (MQ below (XQi shR g r t') args s 0 0 (XA shR g)) (F0 m 4 ls []) :=
  o_lp_ind (P := fun x : Int32 × Int32 × Mm => ∀ (H : Heap) (locs : List Loc) (ls : Array Slot), XP shR g x.2.2 H → va_S (XA shR g) s.heap H locs → lv_has ls 3 [(0, .ref (g.2.2 (9, 0, 0))), (1, .int x.1), (2, .int x.2.1)] → W p l e (rmv 1) s m args below meth c H locs 0 0 (MQ below (XQi shR g r t') args s 0 0 (XA shR g)) (F0 m 4 ls [])) (fun k hk x h H locs ls hP hS hl => wb_X8_inMany_4 N X hk x.1 x.2.1 x.2.2 H locs ls hP hS hl h) N (x1, x2, t) h H locs ls hP hS hl
set_option maxRecDepth 100000 in
set_option maxHeartbeats 4000000 in
theorem c_X8_inMany (l : Launch) (g : Ly) (N : Nat) (hG : XG shR g) (t : Mm) {r : Int32} {t' : Mm} (h : f_X8_inMany N t = some (r, t')) : MI l yX8_inMany cX8_inMany 3 (some .int) 1 shR g [.ref (g.2.2 (9, 0, 0))] t (XQi shR g r t') := by
  refine x_met hG (by decide +kernel) (Nat.le_of_ble_eq_true rfl) ?_
  intro p e s m below meth c ls X hP hl
  have hS : va_S (XA shR g) s.heap s.heap [] := va_S.rf
  have hl : lv_has ls 3 [(0, .ref (g.2.2 (9, 0, 0)))] := hl
  unfold f_X8_inMany at h
  generalize ([.ref (g.2.2 (9, 0, 0))] : List Value).toArray = args at X ⊢
  refine lv_iconst (v := 0) X.1.1 X.1.2.1 dX8_inMany_0 (by decide) ?_
  refine lv_istore_n (lv' := [(1, .int 0), (0, .ref (g.2.2 (9, 0, 0)))]) X.1.1 X.1.2.1 dX8_inMany_1 rfl hl (by decide) rfl (fun ls hl => ?_)
  refine lv_iconst (v := 0) X.1.1 X.1.2.1 dX8_inMany_2 (by decide) ?_
  refine lv_istore_n (lv' := [(2, .int 0), (1, .int 0), (0, .ref (g.2.2 (9, 0, 0)))]) X.1.1 X.1.2.1 dX8_inMany_3 rfl hl (by decide) rfl (fun ls hl => ?_)
  exact w_X8_inMany_4 N X 0 0 t _ _ _ hP hS (lv_sub hl [2, 1, 0] rfl) h
def b_X8_lastHour_2 (N : Nat) (k2 : Int32 × Mm → Option (Int32 × Mm)) (x1 : Int32) (t : Mm) : Option (Int32 × Mm) := if 101 ≤ x1 then (some ((-4), t)) else (o_bd (f_X8_placed N 2 t) fun (r_4, t_2) => if r_4 = ((1 <<< ((t_2.1 9 0 0 1) &&& 31)) - 1) then (some (x1, t_2)) else (o_bd (f_X8_goHour N t_2) fun t_7 => k2 ((x1 + 1), t_7)))
def f_X8_lastHour_2 (N : Nat) (x1 : Int32) (t : Mm) : Option (Int32 × Mm) := o_lp (fun k x => b_X8_lastHour_2 N k x.1 x.2) N (x1, t)
/-- FordQuestionsModel.lastHour()I -/
def f_X8_lastHour (N : Nat) (t : Mm) : Option (Int32 × Mm) := f_X8_lastHour_2 N 0 t
theorem hd_X8_lastHour : x_hd yX8_lastHour 0 := by decide +kernel
set_option maxRecDepth 100000 in
set_option maxHeartbeats 4000000 in
theorem wb_X8_lastHour_2 {l : Launch} {g : Ly} {p : Program} {e : Env} {s : State} {m : MethodId} {args : Array Value} {below : List Frame} {meth : Method} {c : Code} (N : Nat) (X : XC p m meth c cX8_lastHour 2 s args (.code yX8_lastHour cX8_lastHour 2 (some .int)) RX8 (some .int) shR g) {r : Int32} {t' : Mm} {k2 : Int32 × Mm → Option (Int32 × Mm)} (hk2 : ∀ x : Int32 × Mm, k2 x = some (r, t') → ∀ (H : Heap) (locs : List Loc) (ls : Array Slot), XP shR g x.2 H → va_S (XA shR g) s.heap H locs → lv_has ls 2 [(0, .ref (g.2.2 (9, 0, 0))), (1, .int x.1)] → W p l e (rmv 5) s m args below meth c H locs 0 0 (MQ below (XQi shR g r t') args s 0 0 (XA shR g)) (F0 m 2 ls [])) (x1 : Int32) (t : Mm) (H : Heap) (locs : List Loc) (ls : Array Slot) (hP : XP shR g t H) (hS : va_S (XA shR g) s.heap H locs) (hl : lv_has ls 2 [(0, .ref (g.2.2 (9, 0, 0))), (1, .int x1)]) (h : b_X8_lastHour_2 N k2 x1 t = some (r, t')) : W p l e (rmv 5) s m args below meth c H locs 0 0 (MQ below (XQi shR g r t') args s 0 0 (XA shR g)) (F0 m 2 ls []) := by
  unfold b_X8_lastHour_2 at h
  refine lv_iload_n X.1.1 X.1.2.1 dX8_lastHour_2 rfl (lv_at hl 1 rfl) ?_
  refine lv_bipush (v := 101) X.1.1 X.1.2.1 dX8_lastHour_3 (by decide) ?_
  refine lv_icmp_ge (tgt := 36) X.1.1 X.1.2.1 dX8_lastHour_5 (by decide) (fun c_1 => ?_) (fun c_1 => ?_)
  · have h := o_pos c_1 h
    refine lv_bipush (v := (-4)) X.1.1 X.1.2.1 dX8_lastHour_36 (by decide) ?_
    obtain ⟨rfl, rfl⟩ := o_ret2 h
    exact x_iret X hP hS dX8_lastHour_38
  · have h := o_neg c_1 h
    refine lv_aload_n X.1.1 X.1.2.1 dX8_lastHour_8 rfl (lv_at hl 0 rfl) ?_
    refine lv_iconst (v := 2) X.1.1 X.1.2.1 dX8_lastHour_9 (by decide) ?_
    obtain ⟨⟨r_4, t_2⟩, hc_3, h⟩ := o_bd_inv h
    refine x_calli (x_runV (As := [.int 2]) (rest := []) X hP hS (c_X8_placed l g N X.2.2.2.2.1 2 t hc_3) ⟨wd_1081, wd_1078, wd_1080, wd_36, wd_62⟩ hd_X8_placed ⟨by omega, by decide⟩ (x_recv X hP (ci := 8) rfl (kyM (by decide)) rfl) rfl hl.1 rfl (Nat.le_of_ble_eq_true rfl) dX8_lastHour_10) hS (fun H locs hP hS => ?_)
    refine lv_iconst (v := 1) X.1.1 X.1.2.1 dX8_lastHour_13 (by decide) ?_
    refine lv_aload_n X.1.1 X.1.2.1 dX8_lastHour_14 rfl (lv_at hl 0 rfl) ?_
    refine gt_X8_1 X hP (kyM (by decide)) wd_881 dX8_lastHour_15 ?_
    refine lv_ishl X.1.1 X.1.2.1 dX8_lastHour_18 ?_
    refine lv_iconst (v := 1) X.1.1 X.1.2.1 dX8_lastHour_19 (by decide) ?_
    refine lv_isub X.1.1 X.1.2.1 dX8_lastHour_20 ?_
    refine lv_icmp_ne (tgt := 26) X.1.1 X.1.2.1 dX8_lastHour_21 (by decide) (fun c_6 => ?_) (fun c_6 => ?_)
    · have h := o_neg c_6 h
      refine lv_aload_n X.1.1 X.1.2.1 dX8_lastHour_26 rfl (lv_at hl 0 rfl) ?_
      obtain ⟨t_7, hc_8, h⟩ := o_bd_inv h
      refine x_callv (x_runV (As := []) (rest := []) X hP hS (c_X8_goHour l g N X.2.2.2.2.1 t_2 hc_8) ⟨wd_1093, wd_1090, wd_1092, wd_38, wd_62⟩ hd_X8_goHour ⟨by omega, by decide⟩ (x_recv X hP (ci := 8) rfl (kyM (by decide)) rfl) rfl hl.1 rfl (Nat.le_of_ble_eq_true rfl) dX8_lastHour_27) hS (fun H locs hP hS => ?_)
      refine lv_iinc (v := (x1 + 1)) (lv' := [(1, .int (x1 + 1)), (0, .ref (g.2.2 (9, 0, 0)))]) X.1.1 X.1.2.1 dX8_lastHour_30 hl (k := 1) rfl rfl (by decide) rfl (fun ls hl => ?_)
      refine lv_goto (tgt := 2) X.1.1 X.1.2.1 dX8_lastHour_33 (by decide) ?_
      exact hk2 ((x1 + 1), t_7) h _ _ _ hP hS (lv_sub hl [1, 0] rfl)
    · have h := o_pos c_6 h
      refine lv_iload_n X.1.1 X.1.2.1 dX8_lastHour_24 rfl (lv_at hl 1 rfl) ?_
      obtain ⟨rfl, rfl⟩ := o_ret2 h
      exact x_iret X hP hS dX8_lastHour_25
set_option maxRecDepth 100000 in
set_option maxHeartbeats 4000000 in
theorem w_X8_lastHour_2 {l : Launch} {g : Ly} {p : Program} {e : Env} {s : State} {m : MethodId} {args : Array Value} {below : List Frame} {meth : Method} {c : Code} (N : Nat) (X : XC p m meth c cX8_lastHour 2 s args (.code yX8_lastHour cX8_lastHour 2 (some .int)) RX8 (some .int) shR g) {r : Int32} {t' : Mm} (x1 : Int32) (t : Mm) (H : Heap) (locs : List Loc) (ls : Array Slot) (hP : XP shR g t H) (hS : va_S (XA shR g) s.heap H locs) (hl : lv_has ls 2 [(0, .ref (g.2.2 (9, 0, 0))), (1, .int x1)]) (h : f_X8_lastHour_2 N x1 t = some (r, t')) : W p l e (rmv 5) s m args below meth c H locs 0 0 (MQ below (XQi shR g r t') args s 0 0 (XA shR g)) (F0 m 2 ls []) :=
  o_lp_ind (P := fun x : Int32 × Mm => ∀ (H : Heap) (locs : List Loc) (ls : Array Slot), XP shR g x.2 H → va_S (XA shR g) s.heap H locs → lv_has ls 2 [(0, .ref (g.2.2 (9, 0, 0))), (1, .int x.1)] → W p l e (rmv 5) s m args below meth c H locs 0 0 (MQ below (XQi shR g r t') args s 0 0 (XA shR g)) (F0 m 2 ls [])) (fun k hk x h H locs ls hP hS hl => wb_X8_lastHour_2 N X hk x.1 x.2 H locs ls hP hS hl h) N (x1, t) h H locs ls hP hS hl
set_option maxRecDepth 100000 in
set_option maxHeartbeats 4000000 in
theorem c_X8_lastHour (l : Launch) (g : Ly) (N : Nat) (hG : XG shR g) (t : Mm) {r : Int32} {t' : Mm} (h : f_X8_lastHour N t = some (r, t')) : MI l yX8_lastHour cX8_lastHour 2 (some .int) 5 shR g [.ref (g.2.2 (9, 0, 0))] t (XQi shR g r t') := by
  refine x_met hG (by decide +kernel) (Nat.le_of_ble_eq_true rfl) ?_
  intro p e s m below meth c ls X hP hl
  have hS : va_S (XA shR g) s.heap s.heap [] := va_S.rf
  have hl : lv_has ls 2 [(0, .ref (g.2.2 (9, 0, 0)))] := hl
  unfold f_X8_lastHour at h
  generalize ([.ref (g.2.2 (9, 0, 0))] : List Value).toArray = args at X ⊢
  refine lv_iconst (v := 0) X.1.1 X.1.2.1 dX8_lastHour_0 (by decide) ?_
  refine lv_istore_n (lv' := [(1, .int 0), (0, .ref (g.2.2 (9, 0, 0)))]) X.1.1 X.1.2.1 dX8_lastHour_1 rfl hl (by decide) rfl (fun ls hl => ?_)
  exact w_X8_lastHour_2 N X 0 t _ _ _ hP hS (lv_sub hl [1, 0] rfl) h
def f_X8_isSooner_24 (s0 : Int32) (s1 : Int32) (t : Mm) : Option (Int32 × Mm) := if s1 ≤ s0 then (some (0, t)) else (some (1, t))
def f_X8_isSooner_12 (x1 : Int32) (s0 : Int32) (t : Mm) : Option (Int32 × Mm) := if x1 = (-4) then (f_X8_isSooner_24 s0 101 t) else (f_X8_isSooner_24 s0 x1 t)
/-- FordQuestionsModel.isSooner(II)Z -/
def f_X8_isSooner (a0 : Int32) (a1 : Int32) (t : Mm) : Option (Int32 × Mm) := if a0 = (-4) then (f_X8_isSooner_12 a1 101 t) else (f_X8_isSooner_12 a1 a0 t)
theorem hd_X8_isSooner : x_hd yX8_isSooner 2 := by decide +kernel
set_option maxRecDepth 100000 in
set_option maxHeartbeats 4000000 in
theorem w_X8_isSooner_24 {l : Launch} {g : Ly} {p : Program} {e : Env} {s : State} {m : MethodId} {args : Array Value} {below : List Frame} {meth : Method} {c : Code} (X : XC p m meth c cX8_isSooner 2 s args (.code yX8_isSooner cX8_isSooner 2 (some .boolean)) RX8 (some .boolean) shR g) {r : Int32} {t' : Mm} (s0 : Int32) (s1 : Int32) (t : Mm) (H : Heap) (locs : List Loc) (ls : Array Slot) (hP : XP shR g t H) (hS : va_S (XA shR g) s.heap H locs) (hl : lv_has ls 2 []) (h : f_X8_isSooner_24 s0 s1 t = some (r, t')) : W p l e (rmv 1) s m args below meth c H locs 0 0 (MQ below (XQi shR g r t') args s 0 0 (XA shR g)) (F0 m 24 ls [.int s1, .int s0]) := by
  unfold f_X8_isSooner_24 at h
  refine lv_icmp_ge (tgt := 31) X.1.1 X.1.2.1 dX8_isSooner_24 (by decide) (fun c_1 => ?_) (fun c_1 => ?_)
  · have h := o_pos c_1 h
    refine lv_iconst (v := 0) X.1.1 X.1.2.1 dX8_isSooner_31 (by decide) ?_
    obtain ⟨rfl, rfl⟩ := o_ret2 h
    exact x_zret rfl X hP hS dX8_isSooner_32
  · have h := o_neg c_1 h
    refine lv_iconst (v := 1) X.1.1 X.1.2.1 dX8_isSooner_27 (by decide) ?_
    refine lv_goto (tgt := 32) X.1.1 X.1.2.1 dX8_isSooner_28 (by decide) ?_
    obtain ⟨rfl, rfl⟩ := o_ret2 h
    exact x_zret rfl X hP hS dX8_isSooner_32
set_option maxRecDepth 100000 in
set_option maxHeartbeats 4000000 in
theorem w_X8_isSooner_12 {l : Launch} {g : Ly} {p : Program} {e : Env} {s : State} {m : MethodId} {args : Array Value} {below : List Frame} {meth : Method} {c : Code} (X : XC p m meth c cX8_isSooner 2 s args (.code yX8_isSooner cX8_isSooner 2 (some .boolean)) RX8 (some .boolean) shR g) {r : Int32} {t' : Mm} (x1 : Int32) (s0 : Int32) (t : Mm) (H : Heap) (locs : List Loc) (ls : Array Slot) (hP : XP shR g t H) (hS : va_S (XA shR g) s.heap H locs) (hl : lv_has ls 2 [(1, .int x1)]) (h : f_X8_isSooner_12 x1 s0 t = some (r, t')) : W p l e (rmv 1) s m args below meth c H locs 0 0 (MQ below (XQi shR g r t') args s 0 0 (XA shR g)) (F0 m 12 ls [.int s0]) := by
  unfold f_X8_isSooner_12 at h
  refine lv_iload_n X.1.1 X.1.2.1 dX8_isSooner_12 rfl (lv_at hl 0 rfl) ?_
  refine lv_bipush (v := (-4)) X.1.1 X.1.2.1 dX8_isSooner_13 (by decide) ?_
  refine lv_icmp_ne (tgt := 23) X.1.1 X.1.2.1 dX8_isSooner_15 (by decide) (fun c_2 => ?_) (fun c_2 => ?_)
  · have h := o_neg c_2 h
    refine lv_iload_n X.1.1 X.1.2.1 dX8_isSooner_23 rfl (lv_at hl 0 rfl) ?_
    exact w_X8_isSooner_24 X s0 x1 t _ _ _ hP hS (lv_sub hl [] rfl) h
  · have h := o_pos c_2 h
    refine lv_bipush (v := 101) X.1.1 X.1.2.1 dX8_isSooner_18 (by decide) ?_
    refine lv_goto (tgt := 24) X.1.1 X.1.2.1 dX8_isSooner_20 (by decide) ?_
    exact w_X8_isSooner_24 X s0 101 t _ _ _ hP hS (lv_sub hl [] rfl) h
set_option maxRecDepth 100000 in
set_option maxHeartbeats 4000000 in
theorem c_X8_isSooner (l : Launch) (g : Ly) (hG : XG shR g) (a0 : Int32) (a1 : Int32) (t : Mm) {r : Int32} {t' : Mm} (h : f_X8_isSooner a0 a1 t = some (r, t')) : MI l yX8_isSooner cX8_isSooner 2 (some .boolean) 1 shR g [.int a0, .int a1] t (XQi shR g r t') := by
  refine x_met hG (by decide +kernel) (Nat.le_of_ble_eq_true rfl) ?_
  intro p e s m below meth c ls X hP hl
  have hS : va_S (XA shR g) s.heap s.heap [] := va_S.rf
  have hl : lv_has ls 2 [(0, .int a0), (1, .int a1)] := hl
  unfold f_X8_isSooner at h
  generalize ([.int a0, .int a1] : List Value).toArray = args at X ⊢
  refine lv_iload_n X.1.1 X.1.2.1 dX8_isSooner_0 rfl (lv_at hl 0 rfl) ?_
  refine lv_bipush (v := (-4)) X.1.1 X.1.2.1 dX8_isSooner_1 (by decide) ?_
  refine lv_icmp_ne (tgt := 11) X.1.1 X.1.2.1 dX8_isSooner_3 (by decide) (fun c_3 => ?_) (fun c_3 => ?_)
  · have h := o_neg c_3 h
    refine lv_iload_n X.1.1 X.1.2.1 dX8_isSooner_11 rfl (lv_at hl 0 rfl) ?_
    exact w_X8_isSooner_12 X a1 a0 t _ _ _ hP hS (lv_sub hl [1] rfl) h
  · have h := o_pos c_3 h
    refine lv_bipush (v := 101) X.1.1 X.1.2.1 dX8_isSooner_6 (by decide) ?_
    refine lv_goto (tgt := 12) X.1.1 X.1.2.1 dX8_isSooner_8 (by decide) ?_
    exact w_X8_isSooner_12 X a1 101 t _ _ _ hP hS (lv_sub hl [1] rfl) h
/-- FordQuestionsModel.question(II)I -/
def f_X8_question (a0 : Int32) (a1 : Int32) (t : Mm) : Option (Int32 × Mm) := o_bd (f_X8_in (a0.toInt64) 0 7 t) fun (r_3, t_1) => if r_3 = 0 then (some ((-1), t_1)) else (o_bd (f_X8_in (a1.toInt64) 1 9 t_1) fun (r_8, t_6) => if r_8 = 0 then (some ((-1), t_6)) else (if (t_6.1 9 0 0 0) = 8 then (some ((-3), t_6)) else (if o_inb (t_6.1 9 0 0 0) 8 = true then (o_nm (sI t_6 9 0 2 ((t_6.1 9 0 0 0).toNatClampNeg) a0) fun t_13 => if o_inb (1 + (t_13.1 9 0 0 0)) 31 = true then (o_nm (sI t_13 9 0 4 ((1 + (t_13.1 9 0 0 0)).toNatClampNeg) a1) fun t_16 => o_nm (sI t_16 9 0 0 0 ((t_16.1 9 0 0 0) + 1)) fun t_18 => o_nm (sI t_18 9 0 0 7 0) fun t_20 => some (((t_20.1 9 0 0 0) - 1), t_20)) else none) else none)))
theorem hd_X8_question : x_hd yX8_question 2 := by decide +kernel
set_option maxRecDepth 100000 in
set_option maxHeartbeats 4000000 in
theorem c_X8_question (l : Launch) (g : Ly) (hG : XG shR g) (a0 : Int32) (a1 : Int32) (t : Mm) {r : Int32} {t' : Mm} (h : f_X8_question a0 a1 t = some (r, t')) : MI l yX8_question cX8_question 3 (some .int) 2 shR g [.ref (g.2.2 (9, 0, 0)), .int a0, .int a1] t (XQi shR g r t') := by
  refine x_met hG (by decide +kernel) (Nat.le_of_ble_eq_true rfl) ?_
  intro p e s m below meth c ls X hP hl
  have hS : va_S (XA shR g) s.heap s.heap [] := va_S.rf
  have hl : lv_has ls 3 [(0, .ref (g.2.2 (9, 0, 0))), (1, .int a0), (2, .int a1)] := hl
  unfold f_X8_question at h
  generalize ([.ref (g.2.2 (9, 0, 0)), .int a0, .int a1] : List Value).toArray = args at X ⊢
  refine lv_iload_n X.1.1 X.1.2.1 dX8_question_0 rfl (lv_at hl 1 rfl) ?_
  refine lv_i2l (v := (a0.toInt64)) X.1.1 X.1.2.1 dX8_question_1 rfl ?_
  refine lv_lconst (v := 0) X.1.1 X.1.2.1 dX8_question_2 (by decide) ?_
  refine lv_ldc2 (v := 7) X.1.1 X.1.2.1 X.1.2.2.2.1 (X.1.2.2.2.2 _ (List.mem_cons_of_mem _ wd_978)) dX8_question_3 ?_
  obtain ⟨⟨r_3, t_1⟩, hc_2, h⟩ := o_bd_inv h
  refine x_calli (x_runS (As := [.long (a0.toInt64), .long 0, .long 7]) (rest := []) X hP hS (c_X8_in l g X.2.2.2.2.1 (a0.toInt64) 0 7 t hc_2) ⟨wd_981, wd_979, wd_980, wd_62⟩ hd_X8_in ⟨by omega, by decide⟩ rfl hl.1 rfl (Nat.le_of_ble_eq_true rfl) dX8_question_6) hS (fun H locs hP hS => ?_)
  refine lv_if_eq (tgt := 24) X.1.1 X.1.2.1 dX8_question_9 (by decide) (fun c_5 => ?_) (fun c_5 => ?_)
  · have h := o_pos c_5 h
    refine lv_iconst (v := (-1)) X.1.1 X.1.2.1 dX8_question_24 (by decide) ?_
    obtain ⟨rfl, rfl⟩ := o_ret2 h
    exact x_iret X hP hS dX8_question_25
  · have h := o_neg c_5 h
    refine lv_iload_n X.1.1 X.1.2.1 dX8_question_12 rfl (lv_at hl 2 rfl) ?_
    refine lv_i2l (v := (a1.toInt64)) X.1.1 X.1.2.1 dX8_question_13 rfl ?_
    refine lv_lconst (v := 1) X.1.1 X.1.2.1 dX8_question_14 (by decide) ?_
    refine lv_ldc2 (v := 9) X.1.1 X.1.2.1 X.1.2.2.2.1 (X.1.2.2.2.2 _ (List.mem_cons_of_mem _ wd_982)) dX8_question_15 ?_
    obtain ⟨⟨r_8, t_6⟩, hc_7, h⟩ := o_bd_inv h
    refine x_calli (x_runS (As := [.long (a1.toInt64), .long 1, .long 9]) (rest := []) X hP hS (c_X8_in l g X.2.2.2.2.1 (a1.toInt64) 1 9 t_1 hc_7) ⟨wd_981, wd_979, wd_980, wd_62⟩ hd_X8_in ⟨by omega, by decide⟩ rfl hl.1 rfl (Nat.le_of_ble_eq_true rfl) dX8_question_18) hS (fun H locs hP hS => ?_)
    refine lv_if_ne (tgt := 26) X.1.1 X.1.2.1 dX8_question_21 (by decide) (fun c_10 => ?_) (fun c_10 => ?_)
    · have h := o_neg c_10 h
      refine lv_aload_n X.1.1 X.1.2.1 dX8_question_26 rfl (lv_at hl 0 rfl) ?_
      refine gt_X8_0 X hP (kyM (by decide)) wd_880 dX8_question_27 ?_
      refine lv_bipush (v := 8) X.1.1 X.1.2.1 dX8_question_30 (by decide) ?_
      refine lv_icmp_ne (tgt := 38) X.1.1 X.1.2.1 dX8_question_32 (by decide) (fun c_11 => ?_) (fun c_11 => ?_)
      · have h := o_neg c_11 h
        refine lv_aload_n X.1.1 X.1.2.1 dX8_question_38 rfl (lv_at hl 0 rfl) ?_
        refine gt_X8_2 X hP (kyM (by decide)) wd_882 dX8_question_39 ?_
        refine lv_aload_n X.1.1 X.1.2.1 dX8_question_42 rfl (lv_at hl 0 rfl) ?_
        refine gt_X8_0 X hP (kyM (by decide)) wd_880 dX8_question_43 ?_
        refine lv_iload_n X.1.1 X.1.2.1 dX8_question_46 rfl (lv_at hl 1 rfl) ?_
        obtain ⟨g_12, h⟩ := o_gd_inv h
        obtain ⟨t_13, e_14, h⟩ := o_nm_inv h
        refine x_iast X hP hS (kyM (by decide)) (fun _ _ => rfl) g_12 dX8_question_47 (fun H locs hP hS => ?_)
        have hP : XP shR g t_13 H := by rw [e_14]; exact hP
        refine lv_aload_n X.1.1 X.1.2.1 dX8_question_48 rfl (lv_at hl 0 rfl) ?_
        refine gt_X8_4 X hP (kyM (by decide)) wd_884 dX8_question_49 ?_
        refine lv_iconst (v := 1) X.1.1 X.1.2.1 dX8_question_52 (by decide) ?_
        refine lv_aload_n X.1.1 X.1.2.1 dX8_question_53 rfl (lv_at hl 0 rfl) ?_
        refine gt_X8_0 X hP (kyM (by decide)) wd_880 dX8_question_54 ?_
        refine lv_iadd X.1.1 X.1.2.1 dX8_question_57 ?_
        refine lv_iload_n X.1.1 X.1.2.1 dX8_question_58 rfl (lv_at hl 2 rfl) ?_
        obtain ⟨g_15, h⟩ := o_gd_inv h
        obtain ⟨t_16, e_17, h⟩ := o_nm_inv h
        refine x_iast X hP hS (kyM (by decide)) (fun _ _ => rfl) g_15 dX8_question_59 (fun H locs hP hS => ?_)
        have hP : XP shR g t_16 H := by rw [e_17]; exact hP
        refine lv_aload_n X.1.1 X.1.2.1 dX8_question_60 rfl (lv_at hl 0 rfl) ?_
        refine lv_dup X.1.1 X.1.2.1 dX8_question_61 rfl ?_
        refine gt_X8_0 X hP (kyM (by decide)) wd_880 dX8_question_62 ?_
        refine lv_iconst (v := 1) X.1.1 X.1.2.1 dX8_question_65 (by decide) ?_
        refine lv_iadd X.1.1 X.1.2.1 dX8_question_66 ?_
        obtain ⟨t_18, e_19, h⟩ := o_nm_inv h
        refine pt_X8_0 (x := ((t_16.1 9 0 0 0) + 1)) X hP hS (kyM (by decide)) wd_880 dX8_question_67 (fun H locs hP hS => ?_)
        have hP : XP shR g t_18 H := by rw [e_19]; exact hP
        refine lv_aload_n X.1.1 X.1.2.1 dX8_question_70 rfl (lv_at hl 0 rfl) ?_
        refine lv_iconst (v := 0) X.1.1 X.1.2.1 dX8_question_71 (by decide) ?_
        obtain ⟨t_20, e_21, h⟩ := o_nm_inv h
        refine pt_X8_7 (x := 0) X hP hS (kyM (by decide)) wd_887 dX8_question_72 (fun H locs hP hS => ?_)
        have hP : XP shR g t_20 H := by rw [e_21]; exact hP
        refine lv_aload_n X.1.1 X.1.2.1 dX8_question_75 rfl (lv_at hl 0 rfl) ?_
        refine gt_X8_0 X hP (kyM (by decide)) wd_880 dX8_question_76 ?_
        refine lv_iconst (v := 1) X.1.1 X.1.2.1 dX8_question_79 (by decide) ?_
        refine lv_isub X.1.1 X.1.2.1 dX8_question_80 ?_
        obtain ⟨rfl, rfl⟩ := o_ret2 h
        exact x_iret X hP hS dX8_question_81
      · have h := o_pos c_11 h
        refine lv_bipush (v := (-3)) X.1.1 X.1.2.1 dX8_question_35 (by decide) ?_
        obtain ⟨rfl, rfl⟩ := o_ret2 h
        exact x_iret X hP hS dX8_question_37
    · have h := o_pos c_10 h
      refine lv_iconst (v := (-1)) X.1.1 X.1.2.1 dX8_question_24 (by decide) ?_
      obtain ⟨rfl, rfl⟩ := o_ret2 h
      exact x_iret X hP hS dX8_question_25
/-- FordQuestionsModel.crosser(III)I -/
def f_X8_crosser (a0 : Int32) (a1 : Int32) (a2 : Int32) (t : Mm) : Option (Int32 × Mm) := o_bd (f_X8_in (a0.toInt64) 0 4 t) fun (r_3, t_1) => if r_3 = 0 then (some ((-1), t_1)) else (o_bd (f_X8_in (a1.toInt64) 0 255 t_1) fun (r_8, t_6) => if r_8 = 0 then (some ((-1), t_6)) else (o_bd (f_X8_in (a2.toInt64) 0 40 t_6) fun (r_13, t_11) => if r_13 = 0 then (some ((-1), t_11)) else (if (t_11.1 9 0 0 1) = 5 then (some ((-3), t_11)) else (if o_inb (t_11.1 9 0 0 1) 5 = true then (o_nm (sI t_11 9 0 3 ((t_11.1 9 0 0 1).toNatClampNeg) a0) fun t_18 => if o_inb (9 + (t_18.1 9 0 0 1)) 31 = true then (o_nm (sI t_18 9 0 4 ((9 + (t_18.1 9 0 0 1)).toNatClampNeg) a1) fun t_21 => if o_inb (14 + (t_21.1 9 0 0 1)) 31 = true then (o_nm (sI t_21 9 0 4 ((14 + (t_21.1 9 0 0 1)).toNatClampNeg) a2) fun t_24 => o_nm (sI t_24 9 0 0 1 ((t_24.1 9 0 0 1) + 1)) fun t_26 => o_nm (sI t_26 9 0 0 7 0) fun t_28 => some (((t_28.1 9 0 0 1) - 1), t_28)) else none) else none) else none))))
theorem hd_X8_crosser : x_hd yX8_crosser 3 := by decide +kernel
set_option maxRecDepth 100000 in
set_option maxHeartbeats 4000000 in
theorem c_X8_crosser (l : Launch) (g : Ly) (hG : XG shR g) (a0 : Int32) (a1 : Int32) (a2 : Int32) (t : Mm) {r : Int32} {t' : Mm} (h : f_X8_crosser a0 a1 a2 t = some (r, t')) : MI l yX8_crosser cX8_crosser 4 (some .int) 2 shR g [.ref (g.2.2 (9, 0, 0)), .int a0, .int a1, .int a2] t (XQi shR g r t') := by
  refine x_met hG (by decide +kernel) (Nat.le_of_ble_eq_true rfl) ?_
  intro p e s m below meth c ls X hP hl
  have hS : va_S (XA shR g) s.heap s.heap [] := va_S.rf
  have hl : lv_has ls 4 [(0, .ref (g.2.2 (9, 0, 0))), (1, .int a0), (2, .int a1), (3, .int a2)] := hl
  unfold f_X8_crosser at h
  generalize ([.ref (g.2.2 (9, 0, 0)), .int a0, .int a1, .int a2] : List Value).toArray = args at X ⊢
  refine lv_iload_n X.1.1 X.1.2.1 dX8_crosser_0 rfl (lv_at hl 1 rfl) ?_
  refine lv_i2l (v := (a0.toInt64)) X.1.1 X.1.2.1 dX8_crosser_1 rfl ?_
  refine lv_lconst (v := 0) X.1.1 X.1.2.1 dX8_crosser_2 (by decide) ?_
  refine lv_ldc2 (v := 4) X.1.1 X.1.2.1 X.1.2.2.2.1 (X.1.2.2.2.2 _ (List.mem_cons_of_mem _ wd_987)) dX8_crosser_3 ?_
  obtain ⟨⟨r_3, t_1⟩, hc_2, h⟩ := o_bd_inv h
  refine x_calli (x_runS (As := [.long (a0.toInt64), .long 0, .long 4]) (rest := []) X hP hS (c_X8_in l g X.2.2.2.2.1 (a0.toInt64) 0 4 t hc_2) ⟨wd_981, wd_979, wd_980, wd_62⟩ hd_X8_in ⟨by omega, by decide⟩ rfl hl.1 rfl (Nat.le_of_ble_eq_true rfl) dX8_crosser_6) hS (fun H locs hP hS => ?_)
  refine lv_if_eq (tgt := 36) X.1.1 X.1.2.1 dX8_crosser_9 (by decide) (fun c_5 => ?_) (fun c_5 => ?_)
  · have h := o_pos c_5 h
    refine lv_iconst (v := (-1)) X.1.1 X.1.2.1 dX8_crosser_36 (by decide) ?_
    obtain ⟨rfl, rfl⟩ := o_ret2 h
    exact x_iret X hP hS dX8_crosser_37
  · have h := o_neg c_5 h
    refine lv_iload_n X.1.1 X.1.2.1 dX8_crosser_12 rfl (lv_at hl 2 rfl) ?_
    refine lv_i2l (v := (a1.toInt64)) X.1.1 X.1.2.1 dX8_crosser_13 rfl ?_
    refine lv_lconst (v := 0) X.1.1 X.1.2.1 dX8_crosser_14 (by decide) ?_
    refine lv_ldc2 (v := 255) X.1.1 X.1.2.1 X.1.2.2.2.1 (X.1.2.2.2.2 _ (List.mem_cons_of_mem _ wd_988)) dX8_crosser_15 ?_
    obtain ⟨⟨r_8, t_6⟩, hc_7, h⟩ := o_bd_inv h
    refine x_calli (x_runS (As := [.long (a1.toInt64), .long 0, .long 255]) (rest := []) X hP hS (c_X8_in l g X.2.2.2.2.1 (a1.toInt64) 0 255 t_1 hc_7) ⟨wd_981, wd_979, wd_980, wd_62⟩ hd_X8_in ⟨by omega, by decide⟩ rfl hl.1 rfl (Nat.le_of_ble_eq_true rfl) dX8_crosser_18) hS (fun H locs hP hS => ?_)
    refine lv_if_eq (tgt := 36) X.1.1 X.1.2.1 dX8_crosser_21 (by decide) (fun c_10 => ?_) (fun c_10 => ?_)
    · have h := o_pos c_10 h
      refine lv_iconst (v := (-1)) X.1.1 X.1.2.1 dX8_crosser_36 (by decide) ?_
      obtain ⟨rfl, rfl⟩ := o_ret2 h
      exact x_iret X hP hS dX8_crosser_37
    · have h := o_neg c_10 h
      refine lv_iload_n X.1.1 X.1.2.1 dX8_crosser_24 rfl (lv_at hl 3 rfl) ?_
      refine lv_i2l (v := (a2.toInt64)) X.1.1 X.1.2.1 dX8_crosser_25 rfl ?_
      refine lv_lconst (v := 0) X.1.1 X.1.2.1 dX8_crosser_26 (by decide) ?_
      refine lv_ldc2 (v := 40) X.1.1 X.1.2.1 X.1.2.2.2.1 (X.1.2.2.2.2 _ (List.mem_cons_of_mem _ wd_989)) dX8_crosser_27 ?_
      obtain ⟨⟨r_13, t_11⟩, hc_12, h⟩ := o_bd_inv h
      refine x_calli (x_runS (As := [.long (a2.toInt64), .long 0, .long 40]) (rest := []) X hP hS (c_X8_in l g X.2.2.2.2.1 (a2.toInt64) 0 40 t_6 hc_12) ⟨wd_981, wd_979, wd_980, wd_62⟩ hd_X8_in ⟨by omega, by decide⟩ rfl hl.1 rfl (Nat.le_of_ble_eq_true rfl) dX8_crosser_30) hS (fun H locs hP hS => ?_)
      refine lv_if_ne (tgt := 38) X.1.1 X.1.2.1 dX8_crosser_33 (by decide) (fun c_15 => ?_) (fun c_15 => ?_)
      · have h := o_neg c_15 h
        refine lv_aload_n X.1.1 X.1.2.1 dX8_crosser_38 rfl (lv_at hl 0 rfl) ?_
        refine gt_X8_1 X hP (kyM (by decide)) wd_881 dX8_crosser_39 ?_
        refine lv_iconst (v := 5) X.1.1 X.1.2.1 dX8_crosser_42 (by decide) ?_
        refine lv_icmp_ne (tgt := 49) X.1.1 X.1.2.1 dX8_crosser_43 (by decide) (fun c_16 => ?_) (fun c_16 => ?_)
        · have h := o_neg c_16 h
          refine lv_aload_n X.1.1 X.1.2.1 dX8_crosser_49 rfl (lv_at hl 0 rfl) ?_
          refine gt_X8_3 X hP (kyM (by decide)) wd_883 dX8_crosser_50 ?_
          refine lv_aload_n X.1.1 X.1.2.1 dX8_crosser_53 rfl (lv_at hl 0 rfl) ?_
          refine gt_X8_1 X hP (kyM (by decide)) wd_881 dX8_crosser_54 ?_
          refine lv_iload_n X.1.1 X.1.2.1 dX8_crosser_57 rfl (lv_at hl 1 rfl) ?_
          obtain ⟨g_17, h⟩ := o_gd_inv h
          obtain ⟨t_18, e_19, h⟩ := o_nm_inv h
          refine x_iast X hP hS (kyM (by decide)) (fun _ _ => rfl) g_17 dX8_crosser_58 (fun H locs hP hS => ?_)
          have hP : XP shR g t_18 H := by rw [e_19]; exact hP
          refine lv_aload_n X.1.1 X.1.2.1 dX8_crosser_59 rfl (lv_at hl 0 rfl) ?_
          refine gt_X8_4 X hP (kyM (by decide)) wd_884 dX8_crosser_60 ?_
          refine lv_bipush (v := 9) X.1.1 X.1.2.1 dX8_crosser_63 (by decide) ?_
          refine lv_aload_n X.1.1 X.1.2.1 dX8_crosser_65 rfl (lv_at hl 0 rfl) ?_
          refine gt_X8_1 X hP (kyM (by decide)) wd_881 dX8_crosser_66 ?_
          refine lv_iadd X.1.1 X.1.2.1 dX8_crosser_69 ?_
          refine lv_iload_n X.1.1 X.1.2.1 dX8_crosser_70 rfl (lv_at hl 2 rfl) ?_
          obtain ⟨g_20, h⟩ := o_gd_inv h
          obtain ⟨t_21, e_22, h⟩ := o_nm_inv h
          refine x_iast X hP hS (kyM (by decide)) (fun _ _ => rfl) g_20 dX8_crosser_71 (fun H locs hP hS => ?_)
          have hP : XP shR g t_21 H := by rw [e_22]; exact hP
          refine lv_aload_n X.1.1 X.1.2.1 dX8_crosser_72 rfl (lv_at hl 0 rfl) ?_
          refine gt_X8_4 X hP (kyM (by decide)) wd_884 dX8_crosser_73 ?_
          refine lv_bipush (v := 14) X.1.1 X.1.2.1 dX8_crosser_76 (by decide) ?_
          refine lv_aload_n X.1.1 X.1.2.1 dX8_crosser_78 rfl (lv_at hl 0 rfl) ?_
          refine gt_X8_1 X hP (kyM (by decide)) wd_881 dX8_crosser_79 ?_
          refine lv_iadd X.1.1 X.1.2.1 dX8_crosser_82 ?_
          refine lv_iload_n X.1.1 X.1.2.1 dX8_crosser_83 rfl (lv_at hl 3 rfl) ?_
          obtain ⟨g_23, h⟩ := o_gd_inv h
          obtain ⟨t_24, e_25, h⟩ := o_nm_inv h
          refine x_iast X hP hS (kyM (by decide)) (fun _ _ => rfl) g_23 dX8_crosser_84 (fun H locs hP hS => ?_)
          have hP : XP shR g t_24 H := by rw [e_25]; exact hP
          refine lv_aload_n X.1.1 X.1.2.1 dX8_crosser_85 rfl (lv_at hl 0 rfl) ?_
          refine lv_dup X.1.1 X.1.2.1 dX8_crosser_86 rfl ?_
          refine gt_X8_1 X hP (kyM (by decide)) wd_881 dX8_crosser_87 ?_
          refine lv_iconst (v := 1) X.1.1 X.1.2.1 dX8_crosser_90 (by decide) ?_
          refine lv_iadd X.1.1 X.1.2.1 dX8_crosser_91 ?_
          obtain ⟨t_26, e_27, h⟩ := o_nm_inv h
          refine pt_X8_1 (x := ((t_24.1 9 0 0 1) + 1)) X hP hS (kyM (by decide)) wd_881 dX8_crosser_92 (fun H locs hP hS => ?_)
          have hP : XP shR g t_26 H := by rw [e_27]; exact hP
          refine lv_aload_n X.1.1 X.1.2.1 dX8_crosser_95 rfl (lv_at hl 0 rfl) ?_
          refine lv_iconst (v := 0) X.1.1 X.1.2.1 dX8_crosser_96 (by decide) ?_
          obtain ⟨t_28, e_29, h⟩ := o_nm_inv h
          refine pt_X8_7 (x := 0) X hP hS (kyM (by decide)) wd_887 dX8_crosser_97 (fun H locs hP hS => ?_)
          have hP : XP shR g t_28 H := by rw [e_29]; exact hP
          refine lv_aload_n X.1.1 X.1.2.1 dX8_crosser_100 rfl (lv_at hl 0 rfl) ?_
          refine gt_X8_1 X hP (kyM (by decide)) wd_881 dX8_crosser_101 ?_
          refine lv_iconst (v := 1) X.1.1 X.1.2.1 dX8_crosser_104 (by decide) ?_
          refine lv_isub X.1.1 X.1.2.1 dX8_crosser_105 ?_
          obtain ⟨rfl, rfl⟩ := o_ret2 h
          exact x_iret X hP hS dX8_crosser_106
        · have h := o_pos c_16 h
          refine lv_bipush (v := (-3)) X.1.1 X.1.2.1 dX8_crosser_46 (by decide) ?_
          obtain ⟨rfl, rfl⟩ := o_ret2 h
          exact x_iret X hP hS dX8_crosser_48
      · have h := o_pos c_15 h
        refine lv_iconst (v := (-1)) X.1.1 X.1.2.1 dX8_crosser_36 (by decide) ?_
        obtain ⟨rfl, rfl⟩ := o_ret2 h
        exact x_iret X hP hS dX8_crosser_37
/-- FordQuestionsModel.of(II)I -/
def f_X8_of (a0 : Int32) (a1 : Int32) (t : Mm) : Option (Int32 × Mm) := o_bd (f_X8_isQuestion a0 t) fun (r_3, t_1) => if r_3 = 0 then (some ((-1), t_1)) else (o_bd (f_X8_in (a1.toInt64) 0 2 t_1) fun (r_8, t_6) => if r_8 = 0 then (some ((-1), t_6)) else (if a1 = 0 then (if o_inb a0 8 = true then (some ((t_6.1 9 0 2 (a0.toNatClampNeg)), t_6)) else none) else (if a1 = 1 then (if o_inb (1 + a0) 31 = true then (some ((t_6.1 9 0 4 ((1 + a0).toNatClampNeg)), t_6)) else none) else (if o_inb 0 31 = true then (some ((((t_6.1 9 0 4 (Int32.toNatClampNeg 0)) >>> (a0 &&& 31)) &&& 1), t_6)) else none))))
theorem hd_X8_of : x_hd yX8_of 2 := by decide +kernel
set_option maxRecDepth 100000 in
set_option maxHeartbeats 4000000 in
theorem c_X8_of (l : Launch) (g : Ly) (hG : XG shR g) (a0 : Int32) (a1 : Int32) (t : Mm) {r : Int32} {t' : Mm} (h : f_X8_of a0 a1 t = some (r, t')) : MI l yX8_of cX8_of 3 (some .int) 3 shR g [.ref (g.2.2 (9, 0, 0)), .int a0, .int a1] t (XQi shR g r t') := by
  refine x_met hG (by decide +kernel) (Nat.le_of_ble_eq_true rfl) ?_
  intro p e s m below meth c ls X hP hl
  have hS : va_S (XA shR g) s.heap s.heap [] := va_S.rf
  have hl : lv_has ls 3 [(0, .ref (g.2.2 (9, 0, 0))), (1, .int a0), (2, .int a1)] := hl
  unfold f_X8_of at h
  generalize ([.ref (g.2.2 (9, 0, 0)), .int a0, .int a1] : List Value).toArray = args at X ⊢
  refine lv_aload_n X.1.1 X.1.2.1 dX8_of_0 rfl (lv_at hl 0 rfl) ?_
  refine lv_iload_n X.1.1 X.1.2.1 dX8_of_1 rfl (lv_at hl 1 rfl) ?_
  obtain ⟨⟨r_3, t_1⟩, hc_2, h⟩ := o_bd_inv h
  refine x_calli (x_runV (As := [.int a0]) (rest := []) X hP hS (c_X8_isQuestion l g X.2.2.2.2.1 a0 t hc_2) ⟨wd_997, wd_994, wd_996, wd_25, wd_62⟩ hd_X8_isQuestion ⟨by omega, by decide⟩ (x_recv X hP (ci := 8) rfl (kyM (by decide)) rfl) rfl hl.1 rfl (Nat.le_of_ble_eq_true rfl) dX8_of_2) hS (fun H locs hP hS => ?_)
  refine lv_if_eq (tgt := 20) X.1.1 X.1.2.1 dX8_of_5 (by decide) (fun c_5 => ?_) (fun c_5 => ?_)
  · have h := o_pos c_5 h
    refine lv_iconst (v := (-1)) X.1.1 X.1.2.1 dX8_of_20 (by decide) ?_
    obtain ⟨rfl, rfl⟩ := o_ret2 h
    exact x_iret X hP hS dX8_of_21
  · have h := o_neg c_5 h
    refine lv_iload_n X.1.1 X.1.2.1 dX8_of_8 rfl (lv_at hl 2 rfl) ?_
    refine lv_i2l (v := (a1.toInt64)) X.1.1 X.1.2.1 dX8_of_9 rfl ?_
    refine lv_lconst (v := 0) X.1.1 X.1.2.1 dX8_of_10 (by decide) ?_
    refine lv_ldc2 (v := 2) X.1.1 X.1.2.1 X.1.2.2.2.1 (X.1.2.2.2.2 _ (List.mem_cons_of_mem _ wd_998)) dX8_of_11 ?_
    obtain ⟨⟨r_8, t_6⟩, hc_7, h⟩ := o_bd_inv h
    refine x_calli (x_runS (As := [.long (a1.toInt64), .long 0, .long 2]) (rest := []) X hP hS (c_X8_in l g X.2.2.2.2.1 (a1.toInt64) 0 2 t_1 hc_7) ⟨wd_981, wd_979, wd_980, wd_62⟩ hd_X8_in ⟨by omega, by decide⟩ rfl hl.1 rfl (Nat.le_of_ble_eq_true rfl) dX8_of_14) hS (fun H locs hP hS => ?_)
    refine lv_if_ne (tgt := 22) X.1.1 X.1.2.1 dX8_of_17 (by decide) (fun c_10 => ?_) (fun c_10 => ?_)
    · have h := o_neg c_10 h
      refine lv_iload_n X.1.1 X.1.2.1 dX8_of_22 rfl (lv_at hl 2 rfl) ?_
      refine lv_if_ne (tgt := 35) X.1.1 X.1.2.1 dX8_of_23 (by decide) (fun c_11 => ?_) (fun c_11 => ?_)
      · have h := o_neg c_11 h
        refine lv_iload_n X.1.1 X.1.2.1 dX8_of_35 rfl (lv_at hl 2 rfl) ?_
        refine lv_iconst (v := 1) X.1.1 X.1.2.1 dX8_of_36 (by decide) ?_
        refine lv_icmp_ne (tgt := 51) X.1.1 X.1.2.1 dX8_of_37 (by decide) (fun c_12 => ?_) (fun c_12 => ?_)
        · have h := o_neg c_12 h
          refine lv_aload_n X.1.1 X.1.2.1 dX8_of_51 rfl (lv_at hl 0 rfl) ?_
          refine gt_X8_4 X hP (kyM (by decide)) wd_884 dX8_of_52 ?_
          refine lv_iconst (v := 0) X.1.1 X.1.2.1 dX8_of_55 (by decide) ?_
          obtain ⟨g_13, h⟩ := o_gd_inv h
          refine x_iald X hP (kyM (by decide)) (fun _ _ => rfl) g_13 dX8_of_56 ?_
          refine lv_iload_n X.1.1 X.1.2.1 dX8_of_57 rfl (lv_at hl 1 rfl) ?_
          refine lv_ishr X.1.1 X.1.2.1 dX8_of_58 ?_
          refine lv_iconst (v := 1) X.1.1 X.1.2.1 dX8_of_59 (by decide) ?_
          refine lv_iand X.1.1 X.1.2.1 dX8_of_60 ?_
          obtain ⟨rfl, rfl⟩ := o_ret2 h
          exact x_iret X hP hS dX8_of_61
        · have h := o_pos c_12 h
          refine lv_aload_n X.1.1 X.1.2.1 dX8_of_40 rfl (lv_at hl 0 rfl) ?_
          refine gt_X8_4 X hP (kyM (by decide)) wd_884 dX8_of_41 ?_
          refine lv_iconst (v := 1) X.1.1 X.1.2.1 dX8_of_44 (by decide) ?_
          refine lv_iload_n X.1.1 X.1.2.1 dX8_of_45 rfl (lv_at hl 1 rfl) ?_
          refine lv_iadd X.1.1 X.1.2.1 dX8_of_46 ?_
          obtain ⟨g_14, h⟩ := o_gd_inv h
          refine x_iald X hP (kyM (by decide)) (fun _ _ => rfl) g_14 dX8_of_47 ?_
          refine lv_goto (tgt := 61) X.1.1 X.1.2.1 dX8_of_48 (by decide) ?_
          obtain ⟨rfl, rfl⟩ := o_ret2 h
          exact x_iret X hP hS dX8_of_61
      · have h := o_pos c_11 h
        refine lv_aload_n X.1.1 X.1.2.1 dX8_of_26 rfl (lv_at hl 0 rfl) ?_
        refine gt_X8_2 X hP (kyM (by decide)) wd_882 dX8_of_27 ?_
        refine lv_iload_n X.1.1 X.1.2.1 dX8_of_30 rfl (lv_at hl 1 rfl) ?_
        obtain ⟨g_15, h⟩ := o_gd_inv h
        refine x_iald X hP (kyM (by decide)) (fun _ _ => rfl) g_15 dX8_of_31 ?_
        refine lv_goto (tgt := 61) X.1.1 X.1.2.1 dX8_of_32 (by decide) ?_
        obtain ⟨rfl, rfl⟩ := o_ret2 h
        exact x_iret X hP hS dX8_of_61
    · have h := o_pos c_10 h
      refine lv_iconst (v := (-1)) X.1.1 X.1.2.1 dX8_of_20 (by decide) ?_
      obtain ⟨rfl, rfl⟩ := o_ret2 h
      exact x_iret X hP hS dX8_of_21
/-- FordQuestionsModel.at(II)I -/
def f_X8_at (a0 : Int32) (a1 : Int32) (t : Mm) : Option (Int32 × Mm) := o_bd (f_X8_isCrosser a0 t) fun (r_3, t_1) => if r_3 = 0 then (some ((-1), t_1)) else (o_bd (f_X8_in (a1.toInt64) 0 4 t_1) fun (r_8, t_6) => if r_8 = 0 then (some ((-1), t_6)) else (if a1 = 0 then (if o_inb a0 5 = true then (some ((t_6.1 9 0 3 (a0.toNatClampNeg)), t_6)) else none) else (if a1 = 1 then (if o_inb (9 + a0) 31 = true then (some ((t_6.1 9 0 4 ((9 + a0).toNatClampNeg)), t_6)) else none) else (if a1 = 2 then (if o_inb (14 + a0) 31 = true then (some ((t_6.1 9 0 4 ((14 + a0).toNatClampNeg)), t_6)) else none) else (if a1 = 3 then (if o_inb (19 + a0) 31 = true then (some ((t_6.1 9 0 4 ((19 + a0).toNatClampNeg)), t_6)) else none) else (if o_inb (19 + a0) 31 = true then (if (t_6.1 9 0 4 ((19 + a0).toNatClampNeg)) = 1 then (if o_inb (24 + a0) 31 = true then (some ((t_6.1 9 0 4 ((24 + a0).toNatClampNeg)), t_6)) else none) else (some ((-4), t_6))) else none))))))
theorem hd_X8_at : x_hd yX8_at 2 := by decide +kernel
set_option maxRecDepth 100000 in
set_option maxHeartbeats 4000000 in
theorem c_X8_at (l : Launch) (g : Ly) (hG : XG shR g) (a0 : Int32) (a1 : Int32) (t : Mm) {r : Int32} {t' : Mm} (h : f_X8_at a0 a1 t = some (r, t')) : MI l yX8_at cX8_at 3 (some .int) 3 shR g [.ref (g.2.2 (9, 0, 0)), .int a0, .int a1] t (XQi shR g r t') := by
  refine x_met hG (by decide +kernel) (Nat.le_of_ble_eq_true rfl) ?_
  intro p e s m below meth c ls X hP hl
  have hS : va_S (XA shR g) s.heap s.heap [] := va_S.rf
  have hl : lv_has ls 3 [(0, .ref (g.2.2 (9, 0, 0))), (1, .int a0), (2, .int a1)] := hl
  unfold f_X8_at at h
  generalize ([.ref (g.2.2 (9, 0, 0)), .int a0, .int a1] : List Value).toArray = args at X ⊢
  refine lv_aload_n X.1.1 X.1.2.1 dX8_at_0 rfl (lv_at hl 0 rfl) ?_
  refine lv_iload_n X.1.1 X.1.2.1 dX8_at_1 rfl (lv_at hl 1 rfl) ?_
  obtain ⟨⟨r_3, t_1⟩, hc_2, h⟩ := o_bd_inv h
  refine x_calli (x_runV (As := [.int a0]) (rest := []) X hP hS (c_X8_isCrosser l g X.2.2.2.2.1 a0 t hc_2) ⟨wd_1006, wd_1003, wd_1005, wd_26, wd_62⟩ hd_X8_isCrosser ⟨by omega, by decide⟩ (x_recv X hP (ci := 8) rfl (kyM (by decide)) rfl) rfl hl.1 rfl (Nat.le_of_ble_eq_true rfl) dX8_at_2) hS (fun H locs hP hS => ?_)
  refine lv_if_eq (tgt := 20) X.1.1 X.1.2.1 dX8_at_5 (by decide) (fun c_5 => ?_) (fun c_5 => ?_)
  · have h := o_pos c_5 h
    refine lv_iconst (v := (-1)) X.1.1 X.1.2.1 dX8_at_20 (by decide) ?_
    obtain ⟨rfl, rfl⟩ := o_ret2 h
    exact x_iret X hP hS dX8_at_21
  · have h := o_neg c_5 h
    refine lv_iload_n X.1.1 X.1.2.1 dX8_at_8 rfl (lv_at hl 2 rfl) ?_
    refine lv_i2l (v := (a1.toInt64)) X.1.1 X.1.2.1 dX8_at_9 rfl ?_
    refine lv_lconst (v := 0) X.1.1 X.1.2.1 dX8_at_10 (by decide) ?_
    refine lv_ldc2 (v := 4) X.1.1 X.1.2.1 X.1.2.2.2.1 (X.1.2.2.2.2 _ (List.mem_cons_of_mem _ wd_987)) dX8_at_11 ?_
    obtain ⟨⟨r_8, t_6⟩, hc_7, h⟩ := o_bd_inv h
    refine x_calli (x_runS (As := [.long (a1.toInt64), .long 0, .long 4]) (rest := []) X hP hS (c_X8_in l g X.2.2.2.2.1 (a1.toInt64) 0 4 t_1 hc_7) ⟨wd_981, wd_979, wd_980, wd_62⟩ hd_X8_in ⟨by omega, by decide⟩ rfl hl.1 rfl (Nat.le_of_ble_eq_true rfl) dX8_at_14) hS (fun H locs hP hS => ?_)
    refine lv_if_ne (tgt := 22) X.1.1 X.1.2.1 dX8_at_17 (by decide) (fun c_10 => ?_) (fun c_10 => ?_)
    · have h := o_neg c_10 h
      refine lv_iload_n X.1.1 X.1.2.1 dX8_at_22 rfl (lv_at hl 2 rfl) ?_
      by_cases c_11 : a1 = 0
      · have h := o_pos c_11 h
        refine lv_tableIn (off := 29) (tgt := 52) X.1.1 X.1.2.1 dX8_at_23 (by rw [c_11]; decide) (by rw [c_11]; decide) (by rw [c_11]; rfl) (by decide) ?_
        refine lv_aload_n X.1.1 X.1.2.1 dX8_at_52 rfl (lv_at hl 0 rfl) ?_
        refine gt_X8_3 X hP (kyM (by decide)) wd_883 dX8_at_53 ?_
        refine lv_iload_n X.1.1 X.1.2.1 dX8_at_56 rfl (lv_at hl 1 rfl) ?_
        obtain ⟨g_12, h⟩ := o_gd_inv h
        refine x_iald X hP (kyM (by decide)) (fun _ _ => rfl) g_12 dX8_at_57 ?_
        obtain ⟨rfl, rfl⟩ := o_ret2 h
        exact x_iret X hP hS dX8_at_58
      · have h := o_neg c_11 h
        by_cases c_13 : a1 = 1
        · have h := o_pos c_13 h
          refine lv_tableIn (off := 36) (tgt := 59) X.1.1 X.1.2.1 dX8_at_23 (by rw [c_13]; decide) (by rw [c_13]; decide) (by rw [c_13]; rfl) (by decide) ?_
          refine lv_aload_n X.1.1 X.1.2.1 dX8_at_59 rfl (lv_at hl 0 rfl) ?_
          refine gt_X8_4 X hP (kyM (by decide)) wd_884 dX8_at_60 ?_
          refine lv_bipush (v := 9) X.1.1 X.1.2.1 dX8_at_63 (by decide) ?_
          refine lv_iload_n X.1.1 X.1.2.1 dX8_at_65 rfl (lv_at hl 1 rfl) ?_
          refine lv_iadd X.1.1 X.1.2.1 dX8_at_66 ?_
          obtain ⟨g_14, h⟩ := o_gd_inv h
          refine x_iald X hP (kyM (by decide)) (fun _ _ => rfl) g_14 dX8_at_67 ?_
          obtain ⟨rfl, rfl⟩ := o_ret2 h
          exact x_iret X hP hS dX8_at_68
        · have h := o_neg c_13 h
          by_cases c_15 : a1 = 2
          · have h := o_pos c_15 h
            refine lv_tableIn (off := 46) (tgt := 69) X.1.1 X.1.2.1 dX8_at_23 (by rw [c_15]; decide) (by rw [c_15]; decide) (by rw [c_15]; rfl) (by decide) ?_
            refine lv_aload_n X.1.1 X.1.2.1 dX8_at_69 rfl (lv_at hl 0 rfl) ?_
            refine gt_X8_4 X hP (kyM (by decide)) wd_884 dX8_at_70 ?_
            refine lv_bipush (v := 14) X.1.1 X.1.2.1 dX8_at_73 (by decide) ?_
            refine lv_iload_n X.1.1 X.1.2.1 dX8_at_75 rfl (lv_at hl 1 rfl) ?_
            refine lv_iadd X.1.1 X.1.2.1 dX8_at_76 ?_
            obtain ⟨g_16, h⟩ := o_gd_inv h
            refine x_iald X hP (kyM (by decide)) (fun _ _ => rfl) g_16 dX8_at_77 ?_
            obtain ⟨rfl, rfl⟩ := o_ret2 h
            exact x_iret X hP hS dX8_at_78
          · have h := o_neg c_15 h
            by_cases c_17 : a1 = 3
            · have h := o_pos c_17 h
              refine lv_tableIn (off := 56) (tgt := 79) X.1.1 X.1.2.1 dX8_at_23 (by rw [c_17]; decide) (by rw [c_17]; decide) (by rw [c_17]; rfl) (by decide) ?_
              refine lv_aload_n X.1.1 X.1.2.1 dX8_at_79 rfl (lv_at hl 0 rfl) ?_
              refine gt_X8_4 X hP (kyM (by decide)) wd_884 dX8_at_80 ?_
              refine lv_bipush (v := 19) X.1.1 X.1.2.1 dX8_at_83 (by decide) ?_
              refine lv_iload_n X.1.1 X.1.2.1 dX8_at_85 rfl (lv_at hl 1 rfl) ?_
              refine lv_iadd X.1.1 X.1.2.1 dX8_at_86 ?_
              obtain ⟨g_18, h⟩ := o_gd_inv h
              refine x_iald X hP (kyM (by decide)) (fun _ _ => rfl) g_18 dX8_at_87 ?_
              obtain ⟨rfl, rfl⟩ := o_ret2 h
              exact x_iret X hP hS dX8_at_88
            · have h := o_neg c_17 h
              have qc_11 := x_ne (n := 0) c_11 (by decide)
              have qc_13 := x_ne (n := 1) c_13 (by decide)
              have qc_15 := x_ne (n := 2) c_15 (by decide)
              have qc_17 := x_ne (n := 3) c_17 (by decide)
              refine lv_tableOut (tgt := 89) X.1.1 X.1.2.1 dX8_at_23 (by omega) (by decide) ?_
              refine lv_aload_n X.1.1 X.1.2.1 dX8_at_89 rfl (lv_at hl 0 rfl) ?_
              refine gt_X8_4 X hP (kyM (by decide)) wd_884 dX8_at_90 ?_
              refine lv_bipush (v := 19) X.1.1 X.1.2.1 dX8_at_93 (by decide) ?_
              refine lv_iload_n X.1.1 X.1.2.1 dX8_at_95 rfl (lv_at hl 1 rfl) ?_
              refine lv_iadd X.1.1 X.1.2.1 dX8_at_96 ?_
              obtain ⟨g_19, h⟩ := o_gd_inv h
              refine x_iald X hP (kyM (by decide)) (fun _ _ => rfl) g_19 dX8_at_97 ?_
              refine lv_iconst (v := 1) X.1.1 X.1.2.1 dX8_at_98 (by decide) ?_
              refine lv_icmp_ne (tgt := 114) X.1.1 X.1.2.1 dX8_at_99 (by decide) (fun c_20 => ?_) (fun c_20 => ?_)
              · have h := o_neg c_20 h
                refine lv_bipush (v := (-4)) X.1.1 X.1.2.1 dX8_at_114 (by decide) ?_
                obtain ⟨rfl, rfl⟩ := o_ret2 h
                exact x_iret X hP hS dX8_at_116
              · have h := o_pos c_20 h
                refine lv_aload_n X.1.1 X.1.2.1 dX8_at_102 rfl (lv_at hl 0 rfl) ?_
                refine gt_X8_4 X hP (kyM (by decide)) wd_884 dX8_at_103 ?_
                refine lv_bipush (v := 24) X.1.1 X.1.2.1 dX8_at_106 (by decide) ?_
                refine lv_iload_n X.1.1 X.1.2.1 dX8_at_108 rfl (lv_at hl 1 rfl) ?_
                refine lv_iadd X.1.1 X.1.2.1 dX8_at_109 ?_
                obtain ⟨g_21, h⟩ := o_gd_inv h
                refine x_iald X hP (kyM (by decide)) (fun _ _ => rfl) g_21 dX8_at_110 ?_
                refine lv_goto (tgt := 116) X.1.1 X.1.2.1 dX8_at_111 (by decide) ?_
                obtain ⟨rfl, rfl⟩ := o_ret2 h
                exact x_iret X hP hS dX8_at_116
    · have h := o_pos c_10 h
      refine lv_iconst (v := (-1)) X.1.1 X.1.2.1 dX8_at_20 (by decide) ?_
      obtain ⟨rfl, rfl⟩ := o_ret2 h
      exact x_iret X hP hS dX8_at_21
/-- FordQuestionsModel.takes(II)I -/
def f_X8_takes (N : Nat) (a0 : Int32) (a1 : Int32) (t : Mm) : Option (Int32 × Mm) := o_bd (f_X8_isCrosser a0 t) fun (r_3, t_1) => if r_3 = 0 then (some ((-1), t_1)) else (o_bd (f_X8_isQuestion a1 t_1) fun (r_8, t_6) => if r_8 = 0 then (some ((-1), t_6)) else (o_bd (f_X8_aside N t_6) fun t_11 => o_bd (f_X8_hoursOf N a0 a1 t_11) fun (r_15, t_13) => some (r_15, t_13)))
theorem hd_X8_takes : x_hd yX8_takes 2 := by decide +kernel
set_option maxRecDepth 100000 in
set_option maxHeartbeats 4000000 in
theorem c_X8_takes (l : Launch) (g : Ly) (N : Nat) (hG : XG shR g) (a0 : Int32) (a1 : Int32) (t : Mm) {r : Int32} {t' : Mm} (h : f_X8_takes N a0 a1 t = some (r, t')) : MI l yX8_takes cX8_takes 3 (some .int) 3 shR g [.ref (g.2.2 (9, 0, 0)), .int a0, .int a1] t (XQi shR g r t') := by
  refine x_met hG (by decide +kernel) (Nat.le_of_ble_eq_true rfl) ?_
  intro p e s m below meth c ls X hP hl
  have hS : va_S (XA shR g) s.heap s.heap [] := va_S.rf
  have hl : lv_has ls 3 [(0, .ref (g.2.2 (9, 0, 0))), (1, .int a0), (2, .int a1)] := hl
  unfold f_X8_takes at h
  generalize ([.ref (g.2.2 (9, 0, 0)), .int a0, .int a1] : List Value).toArray = args at X ⊢
  refine lv_aload_n X.1.1 X.1.2.1 dX8_takes_0 rfl (lv_at hl 0 rfl) ?_
  refine lv_iload_n X.1.1 X.1.2.1 dX8_takes_1 rfl (lv_at hl 1 rfl) ?_
  obtain ⟨⟨r_3, t_1⟩, hc_2, h⟩ := o_bd_inv h
  refine x_calli (x_runV (As := [.int a0]) (rest := []) X hP hS (c_X8_isCrosser l g X.2.2.2.2.1 a0 t hc_2) ⟨wd_1006, wd_1003, wd_1005, wd_26, wd_62⟩ hd_X8_isCrosser ⟨by omega, by decide⟩ (x_recv X hP (ci := 8) rfl (kyM (by decide)) rfl) rfl hl.1 rfl (Nat.le_of_ble_eq_true rfl) dX8_takes_2) hS (fun H locs hP hS => ?_)
  refine lv_if_eq (tgt := 16) X.1.1 X.1.2.1 dX8_takes_5 (by decide) (fun c_5 => ?_) (fun c_5 => ?_)
  · have h := o_pos c_5 h
    refine lv_iconst (v := (-1)) X.1.1 X.1.2.1 dX8_takes_16 (by decide) ?_
    obtain ⟨rfl, rfl⟩ := o_ret2 h
    exact x_iret X hP hS dX8_takes_17
  · have h := o_neg c_5 h
    refine lv_aload_n X.1.1 X.1.2.1 dX8_takes_8 rfl (lv_at hl 0 rfl) ?_
    refine lv_iload_n X.1.1 X.1.2.1 dX8_takes_9 rfl (lv_at hl 2 rfl) ?_
    obtain ⟨⟨r_8, t_6⟩, hc_7, h⟩ := o_bd_inv h
    refine x_calli (x_runV (As := [.int a1]) (rest := []) X hP hS (c_X8_isQuestion l g X.2.2.2.2.1 a1 t_1 hc_7) ⟨wd_997, wd_994, wd_996, wd_25, wd_62⟩ hd_X8_isQuestion ⟨by omega, by decide⟩ (x_recv X hP (ci := 8) rfl (kyM (by decide)) rfl) rfl hl.1 rfl (Nat.le_of_ble_eq_true rfl) dX8_takes_10) hS (fun H locs hP hS => ?_)
    refine lv_if_ne (tgt := 18) X.1.1 X.1.2.1 dX8_takes_13 (by decide) (fun c_10 => ?_) (fun c_10 => ?_)
    · have h := o_neg c_10 h
      refine lv_aload_n X.1.1 X.1.2.1 dX8_takes_18 rfl (lv_at hl 0 rfl) ?_
      obtain ⟨t_11, hc_12, h⟩ := o_bd_inv h
      refine x_callv (x_runV (As := []) (rest := []) X hP hS (c_X8_aside l g N X.2.2.2.2.1 t_6 hc_12) ⟨wd_1014, wd_1011, wd_1013, wd_27, wd_62⟩ hd_X8_aside ⟨by omega, by decide⟩ (x_recv X hP (ci := 8) rfl (kyM (by decide)) rfl) rfl hl.1 rfl (Nat.le_of_ble_eq_true rfl) dX8_takes_19) hS (fun H locs hP hS => ?_)
      refine lv_aload_n X.1.1 X.1.2.1 dX8_takes_22 rfl (lv_at hl 0 rfl) ?_
      refine lv_iload_n X.1.1 X.1.2.1 dX8_takes_23 rfl (lv_at hl 1 rfl) ?_
      refine lv_iload_n X.1.1 X.1.2.1 dX8_takes_24 rfl (lv_at hl 2 rfl) ?_
      obtain ⟨⟨r_15, t_13⟩, hc_14, h⟩ := o_bd_inv h
      refine x_calli (x_runV (As := [.int a0, .int a1]) (rest := []) X hP hS (c_X8_hoursOf l g N X.2.2.2.2.1 a0 a1 t_11 hc_14) ⟨wd_1018, wd_1015, wd_1017, wd_28, wd_62⟩ hd_X8_hoursOf ⟨by omega, by decide⟩ (x_recv X hP (ci := 8) rfl (kyM (by decide)) rfl) rfl hl.1 rfl (Nat.le_of_ble_eq_true rfl) dX8_takes_25) hS (fun H locs hP hS => ?_)
      obtain ⟨rfl, rfl⟩ := o_ret2 h
      exact x_iret X hP hS dX8_takes_28
    · have h := o_pos c_10 h
      refine lv_iconst (v := (-1)) X.1.1 X.1.2.1 dX8_takes_16 (by decide) ?_
      obtain ⟨rfl, rfl⟩ := o_ret2 h
      exact x_iret X hP hS dX8_takes_17
/-- FordQuestionsModel.type(I)I -/
def f_X8_type (a0 : Int32) (t : Mm) : Option (Int32 × Mm) := o_bd (f_X8_in (a0.toInt64) 32 126 t) fun (r_3, t_1) => if r_3 = 0 then (some ((-1), t_1)) else (if (t_1.1 9 0 0 15) = 90 then (some ((-3), t_1)) else (if o_inb (t_1.1 9 0 0 15) 90 = true then (o_nm (sI t_1 9 0 16 ((t_1.1 9 0 0 15).toNatClampNeg) a0) fun t_8 => o_nm (sI t_8 9 0 0 15 ((t_8.1 9 0 0 15) + 1)) fun t_10 => some ((t_10.1 9 0 0 15), t_10)) else none))
theorem hd_X8_type : x_hd yX8_type 1 := by decide +kernel
set_option maxRecDepth 100000 in
set_option maxHeartbeats 4000000 in
theorem c_X8_type (l : Launch) (g : Ly) (hG : XG shR g) (a0 : Int32) (t : Mm) {r : Int32} {t' : Mm} (h : f_X8_type a0 t = some (r, t')) : MI l yX8_type cX8_type 2 (some .int) 2 shR g [.ref (g.2.2 (9, 0, 0)), .int a0] t (XQi shR g r t') := by
  refine x_met hG (by decide +kernel) (Nat.le_of_ble_eq_true rfl) ?_
  intro p e s m below meth c ls X hP hl
  have hS : va_S (XA shR g) s.heap s.heap [] := va_S.rf
  have hl : lv_has ls 2 [(0, .ref (g.2.2 (9, 0, 0))), (1, .int a0)] := hl
  unfold f_X8_type at h
  generalize ([.ref (g.2.2 (9, 0, 0)), .int a0] : List Value).toArray = args at X ⊢
  refine lv_iload_n X.1.1 X.1.2.1 dX8_type_0 rfl (lv_at hl 1 rfl) ?_
  refine lv_i2l (v := (a0.toInt64)) X.1.1 X.1.2.1 dX8_type_1 rfl ?_
  refine lv_ldc2 (v := 32) X.1.1 X.1.2.1 X.1.2.2.2.1 (X.1.2.2.2.2 _ (List.mem_cons_of_mem _ wd_1030)) dX8_type_2 ?_
  refine lv_ldc2 (v := 126) X.1.1 X.1.2.1 X.1.2.2.2.1 (X.1.2.2.2.2 _ (List.mem_cons_of_mem _ wd_1031)) dX8_type_5 ?_
  obtain ⟨⟨r_3, t_1⟩, hc_2, h⟩ := o_bd_inv h
  refine x_calli (x_runS (As := [.long (a0.toInt64), .long 32, .long 126]) (rest := []) X hP hS (c_X8_in l g X.2.2.2.2.1 (a0.toInt64) 32 126 t hc_2) ⟨wd_981, wd_979, wd_980, wd_62⟩ hd_X8_in ⟨by omega, by decide⟩ rfl hl.1 rfl (Nat.le_of_ble_eq_true rfl) dX8_type_8) hS (fun H locs hP hS => ?_)
  refine lv_if_ne (tgt := 16) X.1.1 X.1.2.1 dX8_type_11 (by decide) (fun c_5 => ?_) (fun c_5 => ?_)
  · have h := o_neg c_5 h
    refine lv_aload_n X.1.1 X.1.2.1 dX8_type_16 rfl (lv_at hl 0 rfl) ?_
    refine gt_X8_15 X hP (kyM (by decide)) wd_895 dX8_type_17 ?_
    refine lv_bipush (v := 90) X.1.1 X.1.2.1 dX8_type_20 (by decide) ?_
    refine lv_icmp_ne (tgt := 28) X.1.1 X.1.2.1 dX8_type_22 (by decide) (fun c_6 => ?_) (fun c_6 => ?_)
    · have h := o_neg c_6 h
      refine lv_aload_n X.1.1 X.1.2.1 dX8_type_28 rfl (lv_at hl 0 rfl) ?_
      refine gt_X8_16 X hP (kyM (by decide)) wd_896 dX8_type_29 ?_
      refine lv_aload_n X.1.1 X.1.2.1 dX8_type_32 rfl (lv_at hl 0 rfl) ?_
      refine gt_X8_15 X hP (kyM (by decide)) wd_895 dX8_type_33 ?_
      refine lv_iload_n X.1.1 X.1.2.1 dX8_type_36 rfl (lv_at hl 1 rfl) ?_
      obtain ⟨g_7, h⟩ := o_gd_inv h
      obtain ⟨t_8, e_9, h⟩ := o_nm_inv h
      refine x_iast X hP hS (kyM (by decide)) (fun _ _ => rfl) g_7 dX8_type_37 (fun H locs hP hS => ?_)
      have hP : XP shR g t_8 H := by rw [e_9]; exact hP
      refine lv_aload_n X.1.1 X.1.2.1 dX8_type_38 rfl (lv_at hl 0 rfl) ?_
      refine lv_dup X.1.1 X.1.2.1 dX8_type_39 rfl ?_
      refine gt_X8_15 X hP (kyM (by decide)) wd_895 dX8_type_40 ?_
      refine lv_iconst (v := 1) X.1.1 X.1.2.1 dX8_type_43 (by decide) ?_
      refine lv_iadd X.1.1 X.1.2.1 dX8_type_44 ?_
      obtain ⟨t_10, e_11, h⟩ := o_nm_inv h
      refine pt_X8_15 (x := ((t_8.1 9 0 0 15) + 1)) X hP hS (kyM (by decide)) wd_895 dX8_type_45 (fun H locs hP hS => ?_)
      have hP : XP shR g t_10 H := by rw [e_11]; exact hP
      refine lv_aload_n X.1.1 X.1.2.1 dX8_type_48 rfl (lv_at hl 0 rfl) ?_
      refine gt_X8_15 X hP (kyM (by decide)) wd_895 dX8_type_49 ?_
      obtain ⟨rfl, rfl⟩ := o_ret2 h
      exact x_iret X hP hS dX8_type_52
    · have h := o_pos c_6 h
      refine lv_bipush (v := (-3)) X.1.1 X.1.2.1 dX8_type_25 (by decide) ?_
      obtain ⟨rfl, rfl⟩ := o_ret2 h
      exact x_iret X hP hS dX8_type_27
  · have h := o_pos c_5 h
    refine lv_iconst (v := (-1)) X.1.1 X.1.2.1 dX8_type_14 (by decide) ?_
    obtain ⟨rfl, rfl⟩ := o_ret2 h
    exact x_iret X hP hS dX8_type_15
def f_X8_next_38 (N : Nat) (t : Mm) : Option (Int32 × Mm) := o_nm (sI t 9 0 0 22 (t.1 9 0 0 21)) fun t_1 => o_nm (sI t_1 9 0 0 21 ((t_1.1 9 0 0 21) + 1)) fun t_3 => if (t_3.1 9 0 0 15) ≤ (t_3.1 9 0 0 22) then (some (0, t_3)) else (if o_inb (t_3.1 9 0 0 22) 90 = true then (some ((t_3.1 9 0 16 ((t_3.1 9 0 0 22).toNatClampNeg)), t_3)) else none)
def b_X8_next_0 (N : Nat) (k0 : Mm → Option (Int32 × Mm)) (t : Mm) : Option (Int32 × Mm) := if (t.1 9 0 0 15) ≤ (t.1 9 0 0 21) then (f_X8_next_38 N t) else (if o_inb (t.1 9 0 0 21) 90 = true then (if (t.1 9 0 16 ((t.1 9 0 0 21).toNatClampNeg)) = 32 then (o_nm (sI t 9 0 0 21 ((t.1 9 0 0 21) + 1)) fun t_10 => k0 t_10) else (f_X8_next_38 N t)) else none)
def f_X8_next_0 (N : Nat) (t : Mm) : Option (Int32 × Mm) := o_lp (fun k x => b_X8_next_0 N k x) N t
/-- FordQuestionsModel.next()I -/
def f_X8_next (N : Nat) (t : Mm) : Option (Int32 × Mm) := f_X8_next_0 N t
theorem hd_X8_next : x_hd yX8_next 0 := by decide +kernel
set_option maxRecDepth 100000 in
set_option maxHeartbeats 4000000 in
theorem w_X8_next_38 {l : Launch} {g : Ly} {p : Program} {e : Env} {s : State} {m : MethodId} {args : Array Value} {below : List Frame} {meth : Method} {c : Code} (N : Nat) (X : XC p m meth c cX8_next 1 s args (.code yX8_next cX8_next 1 (some .int)) RX8 (some .int) shR g) {r : Int32} {t' : Mm} (t : Mm) (H : Heap) (locs : List Loc) (ls : Array Slot) (hP : XP shR g t H) (hS : va_S (XA shR g) s.heap H locs) (hl : lv_has ls 1 [(0, .ref (g.2.2 (9, 0, 0)))]) (h : f_X8_next_38 N t = some (r, t')) : W p l e (rmv 1) s m args below meth c H locs 0 0 (MQ below (XQi shR g r t') args s 0 0 (XA shR g)) (F0 m 38 ls []) := by
  unfold f_X8_next_38 at h
  refine lv_aload_n X.1.1 X.1.2.1 dX8_next_38 rfl (lv_at hl 0 rfl) ?_
  refine lv_aload_n X.1.1 X.1.2.1 dX8_next_39 rfl (lv_at hl 0 rfl) ?_
  refine gt_X8_21 X hP (kyM (by decide)) wd_901 dX8_next_40 ?_
  obtain ⟨t_1, e_2, h⟩ := o_nm_inv h
  refine pt_X8_22 (x := (t.1 9 0 0 21)) X hP hS (kyM (by decide)) wd_902 dX8_next_43 (fun H locs hP hS => ?_)
  have hP : XP shR g t_1 H := by rw [e_2]; exact hP
  refine lv_aload_n X.1.1 X.1.2.1 dX8_next_46 rfl (lv_at hl 0 rfl) ?_
  refine lv_dup X.1.1 X.1.2.1 dX8_next_47 rfl ?_
  refine gt_X8_21 X hP (kyM (by decide)) wd_901 dX8_next_48 ?_
  refine lv_iconst (v := 1) X.1.1 X.1.2.1 dX8_next_51 (by decide) ?_
  refine lv_iadd X.1.1 X.1.2.1 dX8_next_52 ?_
  obtain ⟨t_3, e_4, h⟩ := o_nm_inv h
  refine pt_X8_21 (x := ((t_1.1 9 0 0 21) + 1)) X hP hS (kyM (by decide)) wd_901 dX8_next_53 (fun H locs hP hS => ?_)
  have hP : XP shR g t_3 H := by rw [e_4]; exact hP
  refine lv_aload_n X.1.1 X.1.2.1 dX8_next_56 rfl (lv_at hl 0 rfl) ?_
  refine gt_X8_22 X hP (kyM (by decide)) wd_902 dX8_next_57 ?_
  refine lv_aload_n X.1.1 X.1.2.1 dX8_next_60 rfl (lv_at hl 0 rfl) ?_
  refine gt_X8_15 X hP (kyM (by decide)) wd_895 dX8_next_61 ?_
  refine lv_icmp_ge (tgt := 79) X.1.1 X.1.2.1 dX8_next_64 (by decide) (fun c_5 => ?_) (fun c_5 => ?_)
  · have h := o_pos c_5 h
    refine lv_iconst (v := 0) X.1.1 X.1.2.1 dX8_next_79 (by decide) ?_
    obtain ⟨rfl, rfl⟩ := o_ret2 h
    exact x_iret X hP hS dX8_next_80
  · have h := o_neg c_5 h
    refine lv_aload_n X.1.1 X.1.2.1 dX8_next_67 rfl (lv_at hl 0 rfl) ?_
    refine gt_X8_16 X hP (kyM (by decide)) wd_896 dX8_next_68 ?_
    refine lv_aload_n X.1.1 X.1.2.1 dX8_next_71 rfl (lv_at hl 0 rfl) ?_
    refine gt_X8_22 X hP (kyM (by decide)) wd_902 dX8_next_72 ?_
    obtain ⟨g_6, h⟩ := o_gd_inv h
    refine x_iald X hP (kyM (by decide)) (fun _ _ => rfl) g_6 dX8_next_75 ?_
    refine lv_goto (tgt := 80) X.1.1 X.1.2.1 dX8_next_76 (by decide) ?_
    obtain ⟨rfl, rfl⟩ := o_ret2 h
    exact x_iret X hP hS dX8_next_80
set_option maxRecDepth 100000 in
set_option maxHeartbeats 4000000 in
theorem wb_X8_next_0 {l : Launch} {g : Ly} {p : Program} {e : Env} {s : State} {m : MethodId} {args : Array Value} {below : List Frame} {meth : Method} {c : Code} (N : Nat) (X : XC p m meth c cX8_next 1 s args (.code yX8_next cX8_next 1 (some .int)) RX8 (some .int) shR g) {r : Int32} {t' : Mm} {k0 : Mm → Option (Int32 × Mm)} (hk0 : ∀ x : Mm, k0 x = some (r, t') → ∀ (H : Heap) (locs : List Loc) (ls : Array Slot), XP shR g x H → va_S (XA shR g) s.heap H locs → lv_has ls 1 [(0, .ref (g.2.2 (9, 0, 0)))] → W p l e (rmv 1) s m args below meth c H locs 0 0 (MQ below (XQi shR g r t') args s 0 0 (XA shR g)) (F0 m 0 ls [])) (t : Mm) (H : Heap) (locs : List Loc) (ls : Array Slot) (hP : XP shR g t H) (hS : va_S (XA shR g) s.heap H locs) (hl : lv_has ls 1 [(0, .ref (g.2.2 (9, 0, 0)))]) (h : b_X8_next_0 N k0 t = some (r, t')) : W p l e (rmv 1) s m args below meth c H locs 0 0 (MQ below (XQi shR g r t') args s 0 0 (XA shR g)) (F0 m 0 ls []) := by
  unfold b_X8_next_0 at h
  refine lv_aload_n X.1.1 X.1.2.1 dX8_next_0 rfl (lv_at hl 0 rfl) ?_
  refine gt_X8_21 X hP (kyM (by decide)) wd_901 dX8_next_1 ?_
  refine lv_aload_n X.1.1 X.1.2.1 dX8_next_4 rfl (lv_at hl 0 rfl) ?_
  refine gt_X8_15 X hP (kyM (by decide)) wd_895 dX8_next_5 ?_
  refine lv_icmp_ge (tgt := 38) X.1.1 X.1.2.1 dX8_next_8 (by decide) (fun c_7 => ?_) (fun c_7 => ?_)
  · have h := o_pos c_7 h
    exact w_X8_next_38 N X t _ _ _ hP hS (lv_sub hl [0] rfl) h
  · have h := o_neg c_7 h
    refine lv_aload_n X.1.1 X.1.2.1 dX8_next_11 rfl (lv_at hl 0 rfl) ?_
    refine gt_X8_16 X hP (kyM (by decide)) wd_896 dX8_next_12 ?_
    refine lv_aload_n X.1.1 X.1.2.1 dX8_next_15 rfl (lv_at hl 0 rfl) ?_
    refine gt_X8_21 X hP (kyM (by decide)) wd_901 dX8_next_16 ?_
    obtain ⟨g_8, h⟩ := o_gd_inv h
    refine x_iald X hP (kyM (by decide)) (fun _ _ => rfl) g_8 dX8_next_19 ?_
    refine lv_bipush (v := 32) X.1.1 X.1.2.1 dX8_next_20 (by decide) ?_
    refine lv_icmp_ne (tgt := 38) X.1.1 X.1.2.1 dX8_next_22 (by decide) (fun c_9 => ?_) (fun c_9 => ?_)
    · have h := o_neg c_9 h
      exact w_X8_next_38 N X t _ _ _ hP hS (lv_sub hl [0] rfl) h
    · have h := o_pos c_9 h
      refine lv_aload_n X.1.1 X.1.2.1 dX8_next_25 rfl (lv_at hl 0 rfl) ?_
      refine lv_dup X.1.1 X.1.2.1 dX8_next_26 rfl ?_
      refine gt_X8_21 X hP (kyM (by decide)) wd_901 dX8_next_27 ?_
      refine lv_iconst (v := 1) X.1.1 X.1.2.1 dX8_next_30 (by decide) ?_
      refine lv_iadd X.1.1 X.1.2.1 dX8_next_31 ?_
      obtain ⟨t_10, e_11, h⟩ := o_nm_inv h
      refine pt_X8_21 (x := ((t.1 9 0 0 21) + 1)) X hP hS (kyM (by decide)) wd_901 dX8_next_32 (fun H locs hP hS => ?_)
      have hP : XP shR g t_10 H := by rw [e_11]; exact hP
      refine lv_goto (tgt := 0) X.1.1 X.1.2.1 dX8_next_35 (by decide) ?_
      exact hk0 t_10 h _ _ _ hP hS (lv_sub hl [0] rfl)
set_option maxRecDepth 100000 in
set_option maxHeartbeats 4000000 in
theorem w_X8_next_0 {l : Launch} {g : Ly} {p : Program} {e : Env} {s : State} {m : MethodId} {args : Array Value} {below : List Frame} {meth : Method} {c : Code} (N : Nat) (X : XC p m meth c cX8_next 1 s args (.code yX8_next cX8_next 1 (some .int)) RX8 (some .int) shR g) {r : Int32} {t' : Mm} (t : Mm) (H : Heap) (locs : List Loc) (ls : Array Slot) (hP : XP shR g t H) (hS : va_S (XA shR g) s.heap H locs) (hl : lv_has ls 1 [(0, .ref (g.2.2 (9, 0, 0)))]) (h : f_X8_next_0 N t = some (r, t')) : W p l e (rmv 1) s m args below meth c H locs 0 0 (MQ below (XQi shR g r t') args s 0 0 (XA shR g)) (F0 m 0 ls []) :=
  o_lp_ind (P := fun x : Mm => ∀ (H : Heap) (locs : List Loc) (ls : Array Slot), XP shR g x H → va_S (XA shR g) s.heap H locs → lv_has ls 1 [(0, .ref (g.2.2 (9, 0, 0)))] → W p l e (rmv 1) s m args below meth c H locs 0 0 (MQ below (XQi shR g r t') args s 0 0 (XA shR g)) (F0 m 0 ls [])) (fun k hk x h H locs ls hP hS hl => wb_X8_next_0 N X hk x H locs ls hP hS hl h) N t h H locs ls hP hS hl
set_option maxRecDepth 100000 in
set_option maxHeartbeats 4000000 in
theorem c_X8_next (l : Launch) (g : Ly) (N : Nat) (hG : XG shR g) (t : Mm) {r : Int32} {t' : Mm} (h : f_X8_next N t = some (r, t')) : MI l yX8_next cX8_next 1 (some .int) 1 shR g [.ref (g.2.2 (9, 0, 0))] t (XQi shR g r t') := by
  refine x_met hG (by decide +kernel) (Nat.le_of_ble_eq_true rfl) ?_
  intro p e s m below meth c ls X hP hl
  have hS : va_S (XA shR g) s.heap s.heap [] := va_S.rf
  have hl : lv_has ls 1 [(0, .ref (g.2.2 (9, 0, 0)))] := hl
  unfold f_X8_next at h
  generalize ([.ref (g.2.2 (9, 0, 0))] : List Value).toArray = args at X ⊢
  exact w_X8_next_0 N X t _ _ _ hP hS (lv_sub hl [0] rfl) h
/-- FordQuestionsModel.isDigit(I)Z -/
def f_X8_isDigit (a0 : Int32) (t : Mm) : Option (Int32 × Mm) := o_bd (f_X8_in (a0.toInt64) 48 57 t) fun (r_3, t_1) => if (r_3 = 0 ∨ r_3 = 1) then some (r_3, t_1) else none
theorem hd_X8_isDigit : x_hd yX8_isDigit 1 := by decide +kernel
set_option maxRecDepth 100000 in
set_option maxHeartbeats 4000000 in
theorem c_X8_isDigit (l : Launch) (g : Ly) (hG : XG shR g) (a0 : Int32) (t : Mm) {r : Int32} {t' : Mm} (h : f_X8_isDigit a0 t = some (r, t')) : MI l yX8_isDigit cX8_isDigit 1 (some .boolean) 2 shR g [.int a0] t (XQi shR g r t') := by
  refine x_met hG (by decide +kernel) (Nat.le_of_ble_eq_true rfl) ?_
  intro p e s m below meth c ls X hP hl
  have hS : va_S (XA shR g) s.heap s.heap [] := va_S.rf
  have hl : lv_has ls 1 [(0, .int a0)] := hl
  unfold f_X8_isDigit at h
  generalize ([.int a0] : List Value).toArray = args at X ⊢
  refine lv_iload_n X.1.1 X.1.2.1 dX8_isDigit_0 rfl (lv_at hl 0 rfl) ?_
  refine lv_i2l (v := (a0.toInt64)) X.1.1 X.1.2.1 dX8_isDigit_1 rfl ?_
  refine lv_ldc2 (v := 48) X.1.1 X.1.2.1 X.1.2.2.2.1 (X.1.2.2.2.2 _ (List.mem_cons_of_mem _ wd_1073)) dX8_isDigit_2 ?_
  refine lv_ldc2 (v := 57) X.1.1 X.1.2.1 X.1.2.2.2.1 (X.1.2.2.2.2 _ (List.mem_cons_of_mem _ wd_1054)) dX8_isDigit_5 ?_
  obtain ⟨⟨r_3, t_1⟩, hc_2, h⟩ := o_bd_inv h
  refine x_calli (x_runS (As := [.long (a0.toInt64), .long 48, .long 57]) (rest := []) X hP hS (c_X8_in l g X.2.2.2.2.1 (a0.toInt64) 48 57 t hc_2) ⟨wd_981, wd_979, wd_980, wd_62⟩ hd_X8_in ⟨by omega, by decide⟩ rfl hl.1 rfl (Nat.le_of_ble_eq_true rfl) dX8_isDigit_8) hS (fun H locs hP hS => ?_)
  obtain ⟨g_5, h⟩ := o_gd_inv h
  obtain ⟨rfl, rfl⟩ := o_ret2 h
  exact x_zret (x_narZ g_5) X hP hS dX8_isDigit_11
/-- FordQuestionsModel.isTopic(I)Z -/
def f_X8_isTopic (a0 : Int32) (t : Mm) : Option (Int32 × Mm) := o_bd (f_X8_in (a0.toInt64) 97 104 t) fun (r_3, t_1) => if (r_3 = 0 ∨ r_3 = 1) then some (r_3, t_1) else none
theorem hd_X8_isTopic : x_hd yX8_isTopic 1 := by decide +kernel
set_option maxRecDepth 100000 in
set_option maxHeartbeats 4000000 in
theorem c_X8_isTopic (l : Launch) (g : Ly) (hG : XG shR g) (a0 : Int32) (t : Mm) {r : Int32} {t' : Mm} (h : f_X8_isTopic a0 t = some (r, t')) : MI l yX8_isTopic cX8_isTopic 1 (some .boolean) 2 shR g [.int a0] t (XQi shR g r t') := by
  refine x_met hG (by decide +kernel) (Nat.le_of_ble_eq_true rfl) ?_
  intro p e s m below meth c ls X hP hl
  have hS : va_S (XA shR g) s.heap s.heap [] := va_S.rf
  have hl : lv_has ls 1 [(0, .int a0)] := hl
  unfold f_X8_isTopic at h
  generalize ([.int a0] : List Value).toArray = args at X ⊢
  refine lv_iload_n X.1.1 X.1.2.1 dX8_isTopic_0 rfl (lv_at hl 0 rfl) ?_
  refine lv_i2l (v := (a0.toInt64)) X.1.1 X.1.2.1 dX8_isTopic_1 rfl ?_
  refine lv_ldc2 (v := 97) X.1.1 X.1.2.1 X.1.2.2.2.1 (X.1.2.2.2.2 _ (List.mem_cons_of_mem _ wd_1051)) dX8_isTopic_2 ?_
  refine lv_ldc2 (v := 104) X.1.1 X.1.2.1 X.1.2.2.2.1 (X.1.2.2.2.2 _ (List.mem_cons_of_mem _ wd_1052)) dX8_isTopic_5 ?_
  obtain ⟨⟨r_3, t_1⟩, hc_2, h⟩ := o_bd_inv h
  refine x_calli (x_runS (As := [.long (a0.toInt64), .long 97, .long 104]) (rest := []) X hP hS (c_X8_in l g X.2.2.2.2.1 (a0.toInt64) 97 104 t hc_2) ⟨wd_981, wd_979, wd_980, wd_62⟩ hd_X8_in ⟨by omega, by decide⟩ rfl hl.1 rfl (Nat.le_of_ble_eq_true rfl) dX8_isTopic_8) hS (fun H locs hP hS => ?_)
  obtain ⟨g_5, h⟩ := o_gd_inv h
  obtain ⟨rfl, rfl⟩ := o_ret2 h
  exact x_zret (x_narZ g_5) X hP hS dX8_isTopic_11
/-- FordQuestionsModel.kindBy(I)I -/
def f_X8_kindBy (a0 : Int32) (t : Mm) : Option (Int32 × Mm) := if a0 = 112 then (some (0, t)) else (if a0 = 115 then (some (1, t)) else (if a0 = 114 then (some (2, t)) else (if a0 = 100 then (some (3, t)) else (if a0 = 103 then (some (4, t)) else (some ((-4), t))))))
theorem hd_X8_kindBy : x_hd yX8_kindBy 1 := by decide +kernel
set_option maxRecDepth 100000 in
set_option maxHeartbeats 4000000 in
theorem c_X8_kindBy (l : Launch) (g : Ly) (hG : XG shR g) (a0 : Int32) (t : Mm) {r : Int32} {t' : Mm} (h : f_X8_kindBy a0 t = some (r, t')) : MI l yX8_kindBy cX8_kindBy 1 (some .int) 1 shR g [.int a0] t (XQi shR g r t') := by
  refine x_met hG (by decide +kernel) (Nat.le_of_ble_eq_true rfl) ?_
  intro p e s m below meth c ls X hP hl
  have hS : va_S (XA shR g) s.heap s.heap [] := va_S.rf
  have hl : lv_has ls 1 [(0, .int a0)] := hl
  unfold f_X8_kindBy at h
  generalize ([.int a0] : List Value).toArray = args at X ⊢
  refine lv_iload_n X.1.1 X.1.2.1 dX8_kindBy_0 rfl (lv_at hl 0 rfl) ?_
  refine lv_bipush (v := 112) X.1.1 X.1.2.1 dX8_kindBy_1 (by decide) ?_
  refine lv_icmp_ne (tgt := 10) X.1.1 X.1.2.1 dX8_kindBy_3 (by decide) (fun c_1 => ?_) (fun c_1 => ?_)
  · have h := o_neg c_1 h
    refine lv_iload_n X.1.1 X.1.2.1 dX8_kindBy_10 rfl (lv_at hl 0 rfl) ?_
    refine lv_bipush (v := 115) X.1.1 X.1.2.1 dX8_kindBy_11 (by decide) ?_
    refine lv_icmp_ne (tgt := 20) X.1.1 X.1.2.1 dX8_kindBy_13 (by decide) (fun c_2 => ?_) (fun c_2 => ?_)
    · have h := o_neg c_2 h
      refine lv_iload_n X.1.1 X.1.2.1 dX8_kindBy_20 rfl (lv_at hl 0 rfl) ?_
      refine lv_bipush (v := 114) X.1.1 X.1.2.1 dX8_kindBy_21 (by decide) ?_
      refine lv_icmp_ne (tgt := 30) X.1.1 X.1.2.1 dX8_kindBy_23 (by decide) (fun c_3 => ?_) (fun c_3 => ?_)
      · have h := o_neg c_3 h
        refine lv_iload_n X.1.1 X.1.2.1 dX8_kindBy_30 rfl (lv_at hl 0 rfl) ?_
        refine lv_bipush (v := 100) X.1.1 X.1.2.1 dX8_kindBy_31 (by decide) ?_
        refine lv_icmp_ne (tgt := 40) X.1.1 X.1.2.1 dX8_kindBy_33 (by decide) (fun c_4 => ?_) (fun c_4 => ?_)
        · have h := o_neg c_4 h
          refine lv_iload_n X.1.1 X.1.2.1 dX8_kindBy_40 rfl (lv_at hl 0 rfl) ?_
          refine lv_bipush (v := 103) X.1.1 X.1.2.1 dX8_kindBy_41 (by decide) ?_
          refine lv_icmp_ne (tgt := 50) X.1.1 X.1.2.1 dX8_kindBy_43 (by decide) (fun c_5 => ?_) (fun c_5 => ?_)
          · have h := o_neg c_5 h
            refine lv_bipush (v := (-4)) X.1.1 X.1.2.1 dX8_kindBy_50 (by decide) ?_
            obtain ⟨rfl, rfl⟩ := o_ret2 h
            exact x_iret X hP hS dX8_kindBy_52
          · have h := o_pos c_5 h
            refine lv_iconst (v := 4) X.1.1 X.1.2.1 dX8_kindBy_46 (by decide) ?_
            refine lv_goto (tgt := 52) X.1.1 X.1.2.1 dX8_kindBy_47 (by decide) ?_
            obtain ⟨rfl, rfl⟩ := o_ret2 h
            exact x_iret X hP hS dX8_kindBy_52
        · have h := o_pos c_4 h
          refine lv_iconst (v := 3) X.1.1 X.1.2.1 dX8_kindBy_36 (by decide) ?_
          refine lv_goto (tgt := 52) X.1.1 X.1.2.1 dX8_kindBy_37 (by decide) ?_
          obtain ⟨rfl, rfl⟩ := o_ret2 h
          exact x_iret X hP hS dX8_kindBy_52
      · have h := o_pos c_3 h
        refine lv_iconst (v := 2) X.1.1 X.1.2.1 dX8_kindBy_26 (by decide) ?_
        refine lv_goto (tgt := 52) X.1.1 X.1.2.1 dX8_kindBy_27 (by decide) ?_
        obtain ⟨rfl, rfl⟩ := o_ret2 h
        exact x_iret X hP hS dX8_kindBy_52
    · have h := o_pos c_2 h
      refine lv_iconst (v := 1) X.1.1 X.1.2.1 dX8_kindBy_16 (by decide) ?_
      refine lv_goto (tgt := 52) X.1.1 X.1.2.1 dX8_kindBy_17 (by decide) ?_
      obtain ⟨rfl, rfl⟩ := o_ret2 h
      exact x_iret X hP hS dX8_kindBy_52
  · have h := o_pos c_1 h
    refine lv_iconst (v := 0) X.1.1 X.1.2.1 dX8_kindBy_6 (by decide) ?_
    refine lv_goto (tgt := 52) X.1.1 X.1.2.1 dX8_kindBy_7 (by decide) ?_
    obtain ⟨rfl, rfl⟩ := o_ret2 h
    exact x_iret X hP hS dX8_kindBy_52
def f_X8_questionsAll_141 (N : Nat) (t : Mm) : Option (Int32 × Mm) := if (t.1 9 0 0 23) ≤ 0 then (some (0, t)) else (some (1, t))
def f_X8_questionsAll_128 (N : Nat) (k8 : Mm → Option (Int32 × Mm)) (t : Mm) : Option (Int32 × Mm) := o_nm (sI t 9 0 0 23 ((t.1 9 0 0 23) + 1)) fun t_2 => k8 t_2
def b_X8_questionsAll_8 (N : Nat) (k8 : Mm → Option (Int32 × Mm)) (t : Mm) : Option (Int32 × Mm) := o_bd (f_X8_isTopic (t.1 9 0 0 28) t) fun (r_6, t_4) => if r_6 = 0 then (f_X8_questionsAll_141 N t_4) else (if 8 ≤ (t_4.1 9 0 0 23) then (f_X8_questionsAll_141 N t_4) else (if o_inb (t_4.1 9 0 0 23) 8 = true then (o_nm (sI t_4 9 0 25 ((t_4.1 9 0 0 23).toNatClampNeg) ((t_4.1 9 0 0 28) - 97)) fun t_11 => o_bd (f_X8_next N t_11) fun (r_15, t_13) => o_nm (sI t_13 9 0 0 28 r_15) fun t_17 => o_bd (f_X8_in ((t_17.1 9 0 0 28).toInt64) 49 57 t_17) fun (r_21, t_19) => if r_21 = 0 then (some (0, t_19)) else (if o_inb (1 + (t_19.1 9 0 0 23)) 31 = true then (o_nm (sI t_19 9 0 27 ((1 + (t_19.1 9 0 0 23)).toNatClampNeg) ((t_19.1 9 0 0 28) - 48)) fun t_25 => o_bd (f_X8_next N t_25) fun (r_29, t_27) => o_nm (sI t_27 9 0 0 28 r_29) fun t_31 => if (t_31.1 9 0 0 28) = 33 then (if o_inb 0 31 = true then (if o_inb 0 31 = true then (o_nm (sI t_31 9 0 27 (Int32.toNatClampNeg 0) ((t_31.1 9 0 27 (Int32.toNatClampNeg 0)) ||| (1 <<< ((t_31.1 9 0 0 23) &&& 31)))) fun t_36 => o_bd (f_X8_next N t_36) fun (r_40, t_38) => o_nm (sI t_38 9 0 0 28 r_40) fun t_42 => f_X8_questionsAll_128 N k8 t_42) else none) else none) else (f_X8_questionsAll_128 N k8 t_31)) else none)) else none))
def f_X8_questionsAll_8 (N : Nat) (t : Mm) : Option (Int32 × Mm) := o_lp (fun k x => b_X8_questionsAll_8 N k x) N t
/-- FordQuestionsModel.questionsAll()Z -/
def f_X8_questionsAll (N : Nat) (t : Mm) : Option (Int32 × Mm) := o_bd (f_X8_next N t) fun (r_46, t_44) => o_nm (sI t_44 9 0 0 28 r_46) fun t_48 => f_X8_questionsAll_8 N t_48
theorem hd_X8_questionsAll : x_hd yX8_questionsAll 0 := by decide +kernel
set_option maxRecDepth 100000 in
set_option maxHeartbeats 4000000 in
theorem w_X8_questionsAll_141 {l : Launch} {g : Ly} {p : Program} {e : Env} {s : State} {m : MethodId} {args : Array Value} {below : List Frame} {meth : Method} {c : Code} (N : Nat) (X : XC p m meth c cX8_questionsAll 1 s args (.code yX8_questionsAll cX8_questionsAll 1 (some .boolean)) RX8 (some .boolean) shR g) {r : Int32} {t' : Mm} (t : Mm) (H : Heap) (locs : List Loc) (ls : Array Slot) (hP : XP shR g t H) (hS : va_S (XA shR g) s.heap H locs) (hl : lv_has ls 1 [(0, .ref (g.2.2 (9, 0, 0)))]) (h : f_X8_questionsAll_141 N t = some (r, t')) : W p l e (rmv 3) s m args below meth c H locs 0 0 (MQ below (XQi shR g r t') args s 0 0 (XA shR g)) (F0 m 141 ls []) := by
  unfold f_X8_questionsAll_141 at h
  refine lv_aload_n X.1.1 X.1.2.1 dX8_questionsAll_141 rfl (lv_at hl 0 rfl) ?_
  refine gt_X8_23 X hP (kyM (by decide)) wd_903 dX8_questionsAll_142 ?_
  refine lv_if_le (tgt := 152) X.1.1 X.1.2.1 dX8_questionsAll_145 (by decide) (fun c_1 => ?_) (fun c_1 => ?_)
  · have h := o_pos c_1 h
    refine lv_iconst (v := 0) X.1.1 X.1.2.1 dX8_questionsAll_152 (by decide) ?_
    obtain ⟨rfl, rfl⟩ := o_ret2 h
    exact x_zret rfl X hP hS dX8_questionsAll_153
  · have h := o_neg c_1 h
    refine lv_iconst (v := 1) X.1.1 X.1.2.1 dX8_questionsAll_148 (by decide) ?_
    refine lv_goto (tgt := 153) X.1.1 X.1.2.1 dX8_questionsAll_149 (by decide) ?_
    obtain ⟨rfl, rfl⟩ := o_ret2 h
    exact x_zret rfl X hP hS dX8_questionsAll_153
set_option maxRecDepth 100000 in
set_option maxHeartbeats 4000000 in
theorem w_X8_questionsAll_128 {l : Launch} {g : Ly} {p : Program} {e : Env} {s : State} {m : MethodId} {args : Array Value} {below : List Frame} {meth : Method} {c : Code} (N : Nat) (X : XC p m meth c cX8_questionsAll 1 s args (.code yX8_questionsAll cX8_questionsAll 1 (some .boolean)) RX8 (some .boolean) shR g) {r : Int32} {t' : Mm} {k8 : Mm → Option (Int32 × Mm)} (hk8 : ∀ x : Mm, k8 x = some (r, t') → ∀ (H : Heap) (locs : List Loc) (ls : Array Slot), XP shR g x H → va_S (XA shR g) s.heap H locs → lv_has ls 1 [(0, .ref (g.2.2 (9, 0, 0)))] → W p l e (rmv 3) s m args below meth c H locs 0 0 (MQ below (XQi shR g r t') args s 0 0 (XA shR g)) (F0 m 8 ls [])) (t : Mm) (H : Heap) (locs : List Loc) (ls : Array Slot) (hP : XP shR g t H) (hS : va_S (XA shR g) s.heap H locs) (hl : lv_has ls 1 [(0, .ref (g.2.2 (9, 0, 0)))]) (h : f_X8_questionsAll_128 N k8 t = some (r, t')) : W p l e (rmv 3) s m args below meth c H locs 0 0 (MQ below (XQi shR g r t') args s 0 0 (XA shR g)) (F0 m 128 ls []) := by
  unfold f_X8_questionsAll_128 at h
  refine lv_aload_n X.1.1 X.1.2.1 dX8_questionsAll_128 rfl (lv_at hl 0 rfl) ?_
  refine lv_dup X.1.1 X.1.2.1 dX8_questionsAll_129 rfl ?_
  refine gt_X8_23 X hP (kyM (by decide)) wd_903 dX8_questionsAll_130 ?_
  refine lv_iconst (v := 1) X.1.1 X.1.2.1 dX8_questionsAll_133 (by decide) ?_
  refine lv_iadd X.1.1 X.1.2.1 dX8_questionsAll_134 ?_
  obtain ⟨t_2, e_3, h⟩ := o_nm_inv h
  refine pt_X8_23 (x := ((t.1 9 0 0 23) + 1)) X hP hS (kyM (by decide)) wd_903 dX8_questionsAll_135 (fun H locs hP hS => ?_)
  have hP : XP shR g t_2 H := by rw [e_3]; exact hP
  refine lv_goto (tgt := 8) X.1.1 X.1.2.1 dX8_questionsAll_138 (by decide) ?_
  exact hk8 t_2 h _ _ _ hP hS (lv_sub hl [0] rfl)
set_option maxRecDepth 100000 in
set_option maxHeartbeats 4000000 in
theorem wb_X8_questionsAll_8 {l : Launch} {g : Ly} {p : Program} {e : Env} {s : State} {m : MethodId} {args : Array Value} {below : List Frame} {meth : Method} {c : Code} (N : Nat) (X : XC p m meth c cX8_questionsAll 1 s args (.code yX8_questionsAll cX8_questionsAll 1 (some .boolean)) RX8 (some .boolean) shR g) {r : Int32} {t' : Mm} {k8 : Mm → Option (Int32 × Mm)} (hk8 : ∀ x : Mm, k8 x = some (r, t') → ∀ (H : Heap) (locs : List Loc) (ls : Array Slot), XP shR g x H → va_S (XA shR g) s.heap H locs → lv_has ls 1 [(0, .ref (g.2.2 (9, 0, 0)))] → W p l e (rmv 3) s m args below meth c H locs 0 0 (MQ below (XQi shR g r t') args s 0 0 (XA shR g)) (F0 m 8 ls [])) (t : Mm) (H : Heap) (locs : List Loc) (ls : Array Slot) (hP : XP shR g t H) (hS : va_S (XA shR g) s.heap H locs) (hl : lv_has ls 1 [(0, .ref (g.2.2 (9, 0, 0)))]) (h : b_X8_questionsAll_8 N k8 t = some (r, t')) : W p l e (rmv 3) s m args below meth c H locs 0 0 (MQ below (XQi shR g r t') args s 0 0 (XA shR g)) (F0 m 8 ls []) := by
  unfold b_X8_questionsAll_8 at h
  refine lv_aload_n X.1.1 X.1.2.1 dX8_questionsAll_8 rfl (lv_at hl 0 rfl) ?_
  refine gt_X8_28 X hP (kyM (by decide)) wd_908 dX8_questionsAll_9 ?_
  obtain ⟨⟨r_6, t_4⟩, hc_5, h⟩ := o_bd_inv h
  refine x_calli (x_runS (As := [.int (t.1 9 0 0 28)]) (rest := []) X hP hS (c_X8_isTopic l g X.2.2.2.2.1 (t.1 9 0 0 28) t hc_5) ⟨wd_1050, wd_1048, wd_1049, wd_62⟩ hd_X8_isTopic ⟨by omega, by decide⟩ rfl hl.1 rfl (Nat.le_of_ble_eq_true rfl) dX8_questionsAll_12) hS (fun H locs hP hS => ?_)
  refine lv_if_eq (tgt := 141) X.1.1 X.1.2.1 dX8_questionsAll_15 (by decide) (fun c_8 => ?_) (fun c_8 => ?_)
  · have h := o_pos c_8 h
    exact w_X8_questionsAll_141 N X t_4 _ _ _ hP hS (lv_sub hl [0] rfl) h
  · have h := o_neg c_8 h
    refine lv_aload_n X.1.1 X.1.2.1 dX8_questionsAll_18 rfl (lv_at hl 0 rfl) ?_
    refine gt_X8_23 X hP (kyM (by decide)) wd_903 dX8_questionsAll_19 ?_
    refine lv_bipush (v := 8) X.1.1 X.1.2.1 dX8_questionsAll_22 (by decide) ?_
    refine lv_icmp_ge (tgt := 141) X.1.1 X.1.2.1 dX8_questionsAll_24 (by decide) (fun c_9 => ?_) (fun c_9 => ?_)
    · have h := o_pos c_9 h
      exact w_X8_questionsAll_141 N X t_4 _ _ _ hP hS (lv_sub hl [0] rfl) h
    · have h := o_neg c_9 h
      refine lv_aload_n X.1.1 X.1.2.1 dX8_questionsAll_27 rfl (lv_at hl 0 rfl) ?_
      refine gt_X8_25 X hP (kyM (by decide)) wd_905 dX8_questionsAll_28 ?_
      refine lv_aload_n X.1.1 X.1.2.1 dX8_questionsAll_31 rfl (lv_at hl 0 rfl) ?_
      refine gt_X8_23 X hP (kyM (by decide)) wd_903 dX8_questionsAll_32 ?_
      refine lv_aload_n X.1.1 X.1.2.1 dX8_questionsAll_35 rfl (lv_at hl 0 rfl) ?_
      refine gt_X8_28 X hP (kyM (by decide)) wd_908 dX8_questionsAll_36 ?_
      refine lv_bipush (v := 97) X.1.1 X.1.2.1 dX8_questionsAll_39 (by decide) ?_
      refine lv_isub X.1.1 X.1.2.1 dX8_questionsAll_41 ?_
      obtain ⟨g_10, h⟩ := o_gd_inv h
      obtain ⟨t_11, e_12, h⟩ := o_nm_inv h
      refine x_iast X hP hS (kyM (by decide)) (fun _ _ => rfl) g_10 dX8_questionsAll_42 (fun H locs hP hS => ?_)
      have hP : XP shR g t_11 H := by rw [e_12]; exact hP
      refine lv_aload_n X.1.1 X.1.2.1 dX8_questionsAll_43 rfl (lv_at hl 0 rfl) ?_
      refine lv_aload_n X.1.1 X.1.2.1 dX8_questionsAll_44 rfl (lv_at hl 0 rfl) ?_
      obtain ⟨⟨r_15, t_13⟩, hc_14, h⟩ := o_bd_inv h
      refine x_calli (x_runV (As := []) (rest := [.ref (g.2.2 (9, 0, 0))]) X hP hS (c_X8_next l g N X.2.2.2.2.1 t_11 hc_14) ⟨wd_1047, wd_1044, wd_1046, wd_32, wd_62⟩ hd_X8_next ⟨by omega, by decide⟩ (x_recv X hP (ci := 8) rfl (kyM (by decide)) rfl) rfl hl.1 rfl (Nat.le_of_ble_eq_true rfl) dX8_questionsAll_45) hS (fun H locs hP hS => ?_)
      obtain ⟨t_17, e_18, h⟩ := o_nm_inv h
      refine pt_X8_28 (x := r_15) X hP hS (kyM (by decide)) wd_908 dX8_questionsAll_48 (fun H locs hP hS => ?_)
      have hP : XP shR g t_17 H := by rw [e_18]; exact hP
      refine lv_aload_n X.1.1 X.1.2.1 dX8_questionsAll_51 rfl (lv_at hl 0 rfl) ?_
      refine gt_X8_28 X hP (kyM (by decide)) wd_908 dX8_questionsAll_52 ?_
      refine lv_i2l (v := ((t_17.1 9 0 0 28).toInt64)) X.1.1 X.1.2.1 dX8_questionsAll_55 rfl ?_
      refine lv_ldc2 (v := 49) X.1.1 X.1.2.1 X.1.2.2.2.1 (X.1.2.2.2.2 _ (List.mem_cons_of_mem _ wd_1053)) dX8_questionsAll_56 ?_
      refine lv_ldc2 (v := 57) X.1.1 X.1.2.1 X.1.2.2.2.1 (X.1.2.2.2.2 _ (List.mem_cons_of_mem _ wd_1054)) dX8_questionsAll_59 ?_
      obtain ⟨⟨r_21, t_19⟩, hc_20, h⟩ := o_bd_inv h
      refine x_calli (x_runS (As := [.long ((t_17.1 9 0 0 28).toInt64), .long 49, .long 57]) (rest := []) X hP hS (c_X8_in l g X.2.2.2.2.1 ((t_17.1 9 0 0 28).toInt64) 49 57 t_17 hc_20) ⟨wd_981, wd_979, wd_980, wd_62⟩ hd_X8_in ⟨by omega, by decide⟩ rfl hl.1 rfl (Nat.le_of_ble_eq_true rfl) dX8_questionsAll_62) hS (fun H locs hP hS => ?_)
      refine lv_if_ne (tgt := 70) X.1.1 X.1.2.1 dX8_questionsAll_65 (by decide) (fun c_23 => ?_) (fun c_23 => ?_)
      · have h := o_neg c_23 h
        refine lv_aload_n X.1.1 X.1.2.1 dX8_questionsAll_70 rfl (lv_at hl 0 rfl) ?_
        refine gt_X8_27 X hP (kyM (by decide)) wd_907 dX8_questionsAll_71 ?_
        refine lv_iconst (v := 1) X.1.1 X.1.2.1 dX8_questionsAll_74 (by decide) ?_
        refine lv_aload_n X.1.1 X.1.2.1 dX8_questionsAll_75 rfl (lv_at hl 0 rfl) ?_
        refine gt_X8_23 X hP (kyM (by decide)) wd_903 dX8_questionsAll_76 ?_
        refine lv_iadd X.1.1 X.1.2.1 dX8_questionsAll_79 ?_
        refine lv_aload_n X.1.1 X.1.2.1 dX8_questionsAll_80 rfl (lv_at hl 0 rfl) ?_
        refine gt_X8_28 X hP (kyM (by decide)) wd_908 dX8_questionsAll_81 ?_
        refine lv_bipush (v := 48) X.1.1 X.1.2.1 dX8_questionsAll_84 (by decide) ?_
        refine lv_isub X.1.1 X.1.2.1 dX8_questionsAll_86 ?_
        obtain ⟨g_24, h⟩ := o_gd_inv h
        obtain ⟨t_25, e_26, h⟩ := o_nm_inv h
        refine x_iast X hP hS (kyM (by decide)) (fun _ _ => rfl) g_24 dX8_questionsAll_87 (fun H locs hP hS => ?_)
        have hP : XP shR g t_25 H := by rw [e_26]; exact hP
        refine lv_aload_n X.1.1 X.1.2.1 dX8_questionsAll_88 rfl (lv_at hl 0 rfl) ?_
        refine lv_aload_n X.1.1 X.1.2.1 dX8_questionsAll_89 rfl (lv_at hl 0 rfl) ?_
        obtain ⟨⟨r_29, t_27⟩, hc_28, h⟩ := o_bd_inv h
        refine x_calli (x_runV (As := []) (rest := [.ref (g.2.2 (9, 0, 0))]) X hP hS (c_X8_next l g N X.2.2.2.2.1 t_25 hc_28) ⟨wd_1047, wd_1044, wd_1046, wd_32, wd_62⟩ hd_X8_next ⟨by omega, by decide⟩ (x_recv X hP (ci := 8) rfl (kyM (by decide)) rfl) rfl hl.1 rfl (Nat.le_of_ble_eq_true rfl) dX8_questionsAll_90) hS (fun H locs hP hS => ?_)
        obtain ⟨t_31, e_32, h⟩ := o_nm_inv h
        refine pt_X8_28 (x := r_29) X hP hS (kyM (by decide)) wd_908 dX8_questionsAll_93 (fun H locs hP hS => ?_)
        have hP : XP shR g t_31 H := by rw [e_32]; exact hP
        refine lv_aload_n X.1.1 X.1.2.1 dX8_questionsAll_96 rfl (lv_at hl 0 rfl) ?_
        refine gt_X8_28 X hP (kyM (by decide)) wd_908 dX8_questionsAll_97 ?_
        refine lv_bipush (v := 33) X.1.1 X.1.2.1 dX8_questionsAll_100 (by decide) ?_
        refine lv_icmp_ne (tgt := 128) X.1.1 X.1.2.1 dX8_questionsAll_102 (by decide) (fun c_33 => ?_) (fun c_33 => ?_)
        · have h := o_neg c_33 h
          exact w_X8_questionsAll_128 N X hk8 t_31 _ _ _ hP hS (lv_sub hl [0] rfl) h
        · have h := o_pos c_33 h
          refine lv_aload_n X.1.1 X.1.2.1 dX8_questionsAll_105 rfl (lv_at hl 0 rfl) ?_
          refine gt_X8_27 X hP (kyM (by decide)) wd_907 dX8_questionsAll_106 ?_
          refine lv_iconst (v := 0) X.1.1 X.1.2.1 dX8_questionsAll_109 (by decide) ?_
          refine lv_dup2_11 X.1.1 X.1.2.1 dX8_questionsAll_110 rfl rfl ?_
          obtain ⟨g_34, h⟩ := o_gd_inv h
          refine x_iald X hP (kyM (by decide)) (fun _ _ => rfl) g_34 dX8_questionsAll_111 ?_
          refine lv_iconst (v := 1) X.1.1 X.1.2.1 dX8_questionsAll_112 (by decide) ?_
          refine lv_aload_n X.1.1 X.1.2.1 dX8_questionsAll_113 rfl (lv_at hl 0 rfl) ?_
          refine gt_X8_23 X hP (kyM (by decide)) wd_903 dX8_questionsAll_114 ?_
          refine lv_ishl X.1.1 X.1.2.1 dX8_questionsAll_117 ?_
          refine lv_ior X.1.1 X.1.2.1 dX8_questionsAll_118 ?_
          obtain ⟨g_35, h⟩ := o_gd_inv h
          obtain ⟨t_36, e_37, h⟩ := o_nm_inv h
          refine x_iast X hP hS (kyM (by decide)) (fun _ _ => rfl) g_35 dX8_questionsAll_119 (fun H locs hP hS => ?_)
          have hP : XP shR g t_36 H := by rw [e_37]; exact hP
          refine lv_aload_n X.1.1 X.1.2.1 dX8_questionsAll_120 rfl (lv_at hl 0 rfl) ?_
          refine lv_aload_n X.1.1 X.1.2.1 dX8_questionsAll_121 rfl (lv_at hl 0 rfl) ?_
          obtain ⟨⟨r_40, t_38⟩, hc_39, h⟩ := o_bd_inv h
          refine x_calli (x_runV (As := []) (rest := [.ref (g.2.2 (9, 0, 0))]) X hP hS (c_X8_next l g N X.2.2.2.2.1 t_36 hc_39) ⟨wd_1047, wd_1044, wd_1046, wd_32, wd_62⟩ hd_X8_next ⟨by omega, by decide⟩ (x_recv X hP (ci := 8) rfl (kyM (by decide)) rfl) rfl hl.1 rfl (Nat.le_of_ble_eq_true rfl) dX8_questionsAll_122) hS (fun H locs hP hS => ?_)
          obtain ⟨t_42, e_43, h⟩ := o_nm_inv h
          refine pt_X8_28 (x := r_40) X hP hS (kyM (by decide)) wd_908 dX8_questionsAll_125 (fun H locs hP hS => ?_)
          have hP : XP shR g t_42 H := by rw [e_43]; exact hP
          exact w_X8_questionsAll_128 N X hk8 t_42 _ _ _ hP hS (lv_sub hl [0] rfl) h
      · have h := o_pos c_23 h
        refine lv_iconst (v := 0) X.1.1 X.1.2.1 dX8_questionsAll_68 (by decide) ?_
        obtain ⟨rfl, rfl⟩ := o_ret2 h
        exact x_zret rfl X hP hS dX8_questionsAll_69
set_option maxRecDepth 100000 in
set_option maxHeartbeats 4000000 in
theorem w_X8_questionsAll_8 {l : Launch} {g : Ly} {p : Program} {e : Env} {s : State} {m : MethodId} {args : Array Value} {below : List Frame} {meth : Method} {c : Code} (N : Nat) (X : XC p m meth c cX8_questionsAll 1 s args (.code yX8_questionsAll cX8_questionsAll 1 (some .boolean)) RX8 (some .boolean) shR g) {r : Int32} {t' : Mm} (t : Mm) (H : Heap) (locs : List Loc) (ls : Array Slot) (hP : XP shR g t H) (hS : va_S (XA shR g) s.heap H locs) (hl : lv_has ls 1 [(0, .ref (g.2.2 (9, 0, 0)))]) (h : f_X8_questionsAll_8 N t = some (r, t')) : W p l e (rmv 3) s m args below meth c H locs 0 0 (MQ below (XQi shR g r t') args s 0 0 (XA shR g)) (F0 m 8 ls []) :=
  o_lp_ind (P := fun x : Mm => ∀ (H : Heap) (locs : List Loc) (ls : Array Slot), XP shR g x H → va_S (XA shR g) s.heap H locs → lv_has ls 1 [(0, .ref (g.2.2 (9, 0, 0)))] → W p l e (rmv 3) s m args below meth c H locs 0 0 (MQ below (XQi shR g r t') args s 0 0 (XA shR g)) (F0 m 8 ls [])) (fun k hk x h H locs ls hP hS hl => wb_X8_questionsAll_8 N X hk x H locs ls hP hS hl h) N t h H locs ls hP hS hl
set_option maxRecDepth 100000 in
set_option maxHeartbeats 4000000 in
theorem c_X8_questionsAll (l : Launch) (g : Ly) (N : Nat) (hG : XG shR g) (t : Mm) {r : Int32} {t' : Mm} (h : f_X8_questionsAll N t = some (r, t')) : MI l yX8_questionsAll cX8_questionsAll 1 (some .boolean) 3 shR g [.ref (g.2.2 (9, 0, 0))] t (XQi shR g r t') := by
  refine x_met hG (by decide +kernel) (Nat.le_of_ble_eq_true rfl) ?_
  intro p e s m below meth c ls X hP hl
  have hS : va_S (XA shR g) s.heap s.heap [] := va_S.rf
  have hl : lv_has ls 1 [(0, .ref (g.2.2 (9, 0, 0)))] := hl
  unfold f_X8_questionsAll at h
  generalize ([.ref (g.2.2 (9, 0, 0))] : List Value).toArray = args at X ⊢
  refine lv_aload_n X.1.1 X.1.2.1 dX8_questionsAll_0 rfl (lv_at hl 0 rfl) ?_
  refine lv_aload_n X.1.1 X.1.2.1 dX8_questionsAll_1 rfl (lv_at hl 0 rfl) ?_
  obtain ⟨⟨r_46, t_44⟩, hc_45, h⟩ := o_bd_inv h
  refine x_calli (x_runV (As := []) (rest := [.ref (g.2.2 (9, 0, 0))]) X hP hS (c_X8_next l g N X.2.2.2.2.1 t hc_45) ⟨wd_1047, wd_1044, wd_1046, wd_32, wd_62⟩ hd_X8_next ⟨by omega, by decide⟩ (x_recv X hP (ci := 8) rfl (kyM (by decide)) rfl) rfl hl.1 rfl (Nat.le_of_ble_eq_true rfl) dX8_questionsAll_2) hS (fun H locs hP hS => ?_)
  obtain ⟨t_48, e_49, h⟩ := o_nm_inv h
  refine pt_X8_28 (x := r_46) X hP hS (kyM (by decide)) wd_908 dX8_questionsAll_5 (fun H locs hP hS => ?_)
  have hP : XP shR g t_48 H := by rw [e_49]; exact hP
  exact w_X8_questionsAll_8 N X t_48 _ _ _ hP hS (lv_sub hl [0] rfl) h
def f_X8_knowsAll_70 (N : Nat) (x2 : Int32) (t : Mm) : Option (Int32 × Mm) := if o_inb (9 + (t.1 9 0 0 24)) 31 = true then (o_nm (sI t 9 0 27 ((9 + (t.1 9 0 0 24)).toNatClampNeg) x2) fun t_2 => some (1, t_2)) else none
def b_X8_knowsAll_24 (N : Nat) (k24 : Int32 × Int32 × Mm → Option (Int32 × Mm)) (x1 : Int32) (x2 : Int32) (t : Mm) : Option (Int32 × Mm) := o_bd (f_X8_isTopic (t.1 9 0 0 28) t) fun (r_6, t_4) => if r_6 = 0 then (f_X8_knowsAll_70 N x2 t_4) else (if (t_4.1 9 0 0 28) ≤ x1 then (f_X8_knowsAll_70 N x2 t_4) else (o_nm ((x2 ||| (1 <<< (((t_4.1 9 0 0 28) - 97) &&& 31)))) fun x_10 => o_bd (f_X8_next N t_4) fun (r_14, t_12) => o_nm (sI t_12 9 0 0 28 r_14) fun t_16 => k24 ((t_4.1 9 0 0 28), x_10, t_16)))
def f_X8_knowsAll_24 (N : Nat) (x1 : Int32) (x2 : Int32) (t : Mm) : Option (Int32 × Mm) := o_lp (fun k x => b_X8_knowsAll_24 N k x.1 x.2.1 x.2.2) N (x1, x2, t)
/-- FordQuestionsModel.knowsAll()Z -/
def f_X8_knowsAll (N : Nat) (t : Mm) : Option (Int32 × Mm) := o_bd (f_X8_next N t) fun (r_20, t_18) => o_nm (sI t_18 9 0 0 28 r_20) fun t_22 => o_bd (f_X8_isTopic (t_22.1 9 0 0 28) t_22) fun (r_26, t_24) => if r_26 = 0 then (some (0, t_24)) else (f_X8_knowsAll_24 N 0 0 t_24)
theorem hd_X8_knowsAll : x_hd yX8_knowsAll 0 := by decide +kernel
set_option maxRecDepth 100000 in
set_option maxHeartbeats 4000000 in
theorem w_X8_knowsAll_70 {l : Launch} {g : Ly} {p : Program} {e : Env} {s : State} {m : MethodId} {args : Array Value} {below : List Frame} {meth : Method} {c : Code} (N : Nat) (X : XC p m meth c cX8_knowsAll 3 s args (.code yX8_knowsAll cX8_knowsAll 3 (some .boolean)) RX8 (some .boolean) shR g) {r : Int32} {t' : Mm} (x2 : Int32) (t : Mm) (H : Heap) (locs : List Loc) (ls : Array Slot) (hP : XP shR g t H) (hS : va_S (XA shR g) s.heap H locs) (hl : lv_has ls 3 [(0, .ref (g.2.2 (9, 0, 0))), (2, .int x2)]) (h : f_X8_knowsAll_70 N x2 t = some (r, t')) : W p l e (rmv 3) s m args below meth c H locs 0 0 (MQ below (XQi shR g r t') args s 0 0 (XA shR g)) (F0 m 70 ls []) := by
  unfold f_X8_knowsAll_70 at h
  refine lv_aload_n X.1.1 X.1.2.1 dX8_knowsAll_70 rfl (lv_at hl 0 rfl) ?_
  refine gt_X8_27 X hP (kyM (by decide)) wd_907 dX8_knowsAll_71 ?_
  refine lv_bipush (v := 9) X.1.1 X.1.2.1 dX8_knowsAll_74 (by decide) ?_
  refine lv_aload_n X.1.1 X.1.2.1 dX8_knowsAll_76 rfl (lv_at hl 0 rfl) ?_
  refine gt_X8_24 X hP (kyM (by decide)) wd_904 dX8_knowsAll_77 ?_
  refine lv_iadd X.1.1 X.1.2.1 dX8_knowsAll_80 ?_
  refine lv_iload_n X.1.1 X.1.2.1 dX8_knowsAll_81 rfl (lv_at hl 1 rfl) ?_
  obtain ⟨g_1, h⟩ := o_gd_inv h
  obtain ⟨t_2, e_3, h⟩ := o_nm_inv h
  refine x_iast X hP hS (kyM (by decide)) (fun _ _ => rfl) g_1 dX8_knowsAll_82 (fun H locs hP hS => ?_)
  have hP : XP shR g t_2 H := by rw [e_3]; exact hP
  refine lv_iconst (v := 1) X.1.1 X.1.2.1 dX8_knowsAll_83 (by decide) ?_
  obtain ⟨rfl, rfl⟩ := o_ret2 h
  exact x_zret rfl X hP hS dX8_knowsAll_84
set_option maxRecDepth 100000 in
set_option maxHeartbeats 4000000 in
theorem wb_X8_knowsAll_24 {l : Launch} {g : Ly} {p : Program} {e : Env} {s : State} {m : MethodId} {args : Array Value} {below : List Frame} {meth : Method} {c : Code} (N : Nat) (X : XC p m meth c cX8_knowsAll 3 s args (.code yX8_knowsAll cX8_knowsAll 3 (some .boolean)) RX8 (some .boolean) shR g) {r : Int32} {t' : Mm} {k24 : Int32 × Int32 × Mm → Option (Int32 × Mm)} (hk24 : ∀ x : Int32 × Int32 × Mm, k24 x = some (r, t') → ∀ (H : Heap) (locs : List Loc) (ls : Array Slot), XP shR g x.2.2 H → va_S (XA shR g) s.heap H locs → lv_has ls 3 [(0, .ref (g.2.2 (9, 0, 0))), (1, .int x.1), (2, .int x.2.1)] → W p l e (rmv 3) s m args below meth c H locs 0 0 (MQ below (XQi shR g r t') args s 0 0 (XA shR g)) (F0 m 24 ls [])) (x1 : Int32) (x2 : Int32) (t : Mm) (H : Heap) (locs : List Loc) (ls : Array Slot) (hP : XP shR g t H) (hS : va_S (XA shR g) s.heap H locs) (hl : lv_has ls 3 [(0, .ref (g.2.2 (9, 0, 0))), (1, .int x1), (2, .int x2)]) (h : b_X8_knowsAll_24 N k24 x1 x2 t = some (r, t')) : W p l e (rmv 3) s m args below meth c H locs 0 0 (MQ below (XQi shR g r t') args s 0 0 (XA shR g)) (F0 m 24 ls []) := by
  unfold b_X8_knowsAll_24 at h
  refine lv_aload_n X.1.1 X.1.2.1 dX8_knowsAll_24 rfl (lv_at hl 0 rfl) ?_
  refine gt_X8_28 X hP (kyM (by decide)) wd_908 dX8_knowsAll_25 ?_
  obtain ⟨⟨r_6, t_4⟩, hc_5, h⟩ := o_bd_inv h
  refine x_calli (x_runS (As := [.int (t.1 9 0 0 28)]) (rest := []) X hP hS (c_X8_isTopic l g X.2.2.2.2.1 (t.1 9 0 0 28) t hc_5) ⟨wd_1050, wd_1048, wd_1049, wd_62⟩ hd_X8_isTopic ⟨by omega, by decide⟩ rfl hl.1 rfl (Nat.le_of_ble_eq_true rfl) dX8_knowsAll_28) hS (fun H locs hP hS => ?_)
  refine lv_if_eq (tgt := 70) X.1.1 X.1.2.1 dX8_knowsAll_31 (by decide) (fun c_8 => ?_) (fun c_8 => ?_)
  · have h := o_pos c_8 h
    exact w_X8_knowsAll_70 N X x2 t_4 _ _ _ hP hS (lv_sub hl [0, 2] rfl) h
  · have h := o_neg c_8 h
    refine lv_aload_n X.1.1 X.1.2.1 dX8_knowsAll_34 rfl (lv_at hl 0 rfl) ?_
    refine gt_X8_28 X hP (kyM (by decide)) wd_908 dX8_knowsAll_35 ?_
    refine lv_iload_n X.1.1 X.1.2.1 dX8_knowsAll_38 rfl (lv_at hl 1 rfl) ?_
    refine lv_icmp_le (tgt := 70) X.1.1 X.1.2.1 dX8_knowsAll_39 (by decide) (fun c_9 => ?_) (fun c_9 => ?_)
    · have h := o_pos c_9 h
      exact w_X8_knowsAll_70 N X x2 t_4 _ _ _ hP hS (lv_sub hl [0, 2] rfl) h
    · have h := o_neg c_9 h
      refine lv_iload_n X.1.1 X.1.2.1 dX8_knowsAll_42 rfl (lv_at hl 2 rfl) ?_
      refine lv_iconst (v := 1) X.1.1 X.1.2.1 dX8_knowsAll_43 (by decide) ?_
      refine lv_aload_n X.1.1 X.1.2.1 dX8_knowsAll_44 rfl (lv_at hl 0 rfl) ?_
      refine gt_X8_28 X hP (kyM (by decide)) wd_908 dX8_knowsAll_45 ?_
      refine lv_bipush (v := 97) X.1.1 X.1.2.1 dX8_knowsAll_48 (by decide) ?_
      refine lv_isub X.1.1 X.1.2.1 dX8_knowsAll_50 ?_
      refine lv_ishl X.1.1 X.1.2.1 dX8_knowsAll_51 ?_
      refine lv_ior X.1.1 X.1.2.1 dX8_knowsAll_52 ?_
      refine lv_topi (fun x_10 e_11 => ?_)
      have h := o_nm_to e_11 h
      refine lv_istore_n (lv' := [(2, .int x_10), (0, .ref (g.2.2 (9, 0, 0))), (1, .int x1)]) X.1.1 X.1.2.1 dX8_knowsAll_53 rfl hl (by decide) rfl (fun ls hl => ?_)
      refine lv_aload_n X.1.1 X.1.2.1 dX8_knowsAll_54 rfl (lv_at hl 1 rfl) ?_
      refine gt_X8_28 X hP (kyM (by decide)) wd_908 dX8_knowsAll_55 ?_
      refine lv_istore_n (lv' := [(1, .int (t_4.1 9 0 0 28)), (2, .int x_10), (0, .ref (g.2.2 (9, 0, 0)))]) X.1.1 X.1.2.1 dX8_knowsAll_58 rfl hl (by decide) rfl (fun ls hl => ?_)
      refine lv_aload_n X.1.1 X.1.2.1 dX8_knowsAll_59 rfl (lv_at hl 2 rfl) ?_
      refine lv_aload_n X.1.1 X.1.2.1 dX8_knowsAll_60 rfl (lv_at hl 2 rfl) ?_
      obtain ⟨⟨r_14, t_12⟩, hc_13, h⟩ := o_bd_inv h
      refine x_calli (x_runV (As := []) (rest := [.ref (g.2.2 (9, 0, 0))]) X hP hS (c_X8_next l g N X.2.2.2.2.1 t_4 hc_13) ⟨wd_1047, wd_1044, wd_1046, wd_32, wd_62⟩ hd_X8_next ⟨by omega, by decide⟩ (x_recv X hP (ci := 8) rfl (kyM (by decide)) rfl) rfl hl.1 rfl (Nat.le_of_ble_eq_true rfl) dX8_knowsAll_61) hS (fun H locs hP hS => ?_)
      obtain ⟨t_16, e_17, h⟩ := o_nm_inv h
      refine pt_X8_28 (x := r_14) X hP hS (kyM (by decide)) wd_908 dX8_knowsAll_64 (fun H locs hP hS => ?_)
      have hP : XP shR g t_16 H := by rw [e_17]; exact hP
      refine lv_goto (tgt := 24) X.1.1 X.1.2.1 dX8_knowsAll_67 (by decide) ?_
      exact hk24 ((t_4.1 9 0 0 28), x_10, t_16) h _ _ _ hP hS (lv_sub hl [2, 0, 1] rfl)
set_option maxRecDepth 100000 in
set_option maxHeartbeats 4000000 in
theorem w_X8_knowsAll_24 {l : Launch} {g : Ly} {p : Program} {e : Env} {s : State} {m : MethodId} {args : Array Value} {below : List Frame} {meth : Method} {c : Code} (N : Nat) (X : XC p m meth c cX8_knowsAll 3 s args (.code yX8_knowsAll cX8_knowsAll 3 (some .boolean)) RX8 (some .boolean) shR g) {r : Int32} {t' : Mm} (x1 : Int32) (x2 : Int32) (t : Mm) (H : Heap) (locs : List Loc) (ls : Array Slot) (hP : XP shR g t H) (hS : va_S (XA shR g) s.heap H locs) (hl : lv_has ls 3 [(0, .ref (g.2.2 (9, 0, 0))), (1, .int x1), (2, .int x2)]) (h : f_X8_knowsAll_24 N x1 x2 t = some (r, t')) : W p l e (rmv 3) s m args below meth c H locs 0 0 (MQ below (XQi shR g r t') args s 0 0 (XA shR g)) (F0 m 24 ls []) :=
  o_lp_ind (P := fun x : Int32 × Int32 × Mm => ∀ (H : Heap) (locs : List Loc) (ls : Array Slot), XP shR g x.2.2 H → va_S (XA shR g) s.heap H locs → lv_has ls 3 [(0, .ref (g.2.2 (9, 0, 0))), (1, .int x.1), (2, .int x.2.1)] → W p l e (rmv 3) s m args below meth c H locs 0 0 (MQ below (XQi shR g r t') args s 0 0 (XA shR g)) (F0 m 24 ls [])) (fun k hk x h H locs ls hP hS hl => wb_X8_knowsAll_24 N X hk x.1 x.2.1 x.2.2 H locs ls hP hS hl h) N (x1, x2, t) h H locs ls hP hS hl
set_option maxRecDepth 100000 in
set_option maxHeartbeats 4000000 in
theorem c_X8_knowsAll (l : Launch) (g : Ly) (N : Nat) (hG : XG shR g) (t : Mm) {r : Int32} {t' : Mm} (h : f_X8_knowsAll N t = some (r, t')) : MI l yX8_knowsAll cX8_knowsAll 3 (some .boolean) 3 shR g [.ref (g.2.2 (9, 0, 0))] t (XQi shR g r t') := by
  refine x_met hG (by decide +kernel) (Nat.le_of_ble_eq_true rfl) ?_
  intro p e s m below meth c ls X hP hl
  have hS : va_S (XA shR g) s.heap s.heap [] := va_S.rf
  have hl : lv_has ls 3 [(0, .ref (g.2.2 (9, 0, 0)))] := hl
  unfold f_X8_knowsAll at h
  generalize ([.ref (g.2.2 (9, 0, 0))] : List Value).toArray = args at X ⊢
  refine lv_aload_n X.1.1 X.1.2.1 dX8_knowsAll_0 rfl (lv_at hl 0 rfl) ?_
  refine lv_aload_n X.1.1 X.1.2.1 dX8_knowsAll_1 rfl (lv_at hl 0 rfl) ?_
  obtain ⟨⟨r_20, t_18⟩, hc_19, h⟩ := o_bd_inv h
  refine x_calli (x_runV (As := []) (rest := [.ref (g.2.2 (9, 0, 0))]) X hP hS (c_X8_next l g N X.2.2.2.2.1 t hc_19) ⟨wd_1047, wd_1044, wd_1046, wd_32, wd_62⟩ hd_X8_next ⟨by omega, by decide⟩ (x_recv X hP (ci := 8) rfl (kyM (by decide)) rfl) rfl hl.1 rfl (Nat.le_of_ble_eq_true rfl) dX8_knowsAll_2) hS (fun H locs hP hS => ?_)
  obtain ⟨t_22, e_23, h⟩ := o_nm_inv h
  refine pt_X8_28 (x := r_20) X hP hS (kyM (by decide)) wd_908 dX8_knowsAll_5 (fun H locs hP hS => ?_)
  have hP : XP shR g t_22 H := by rw [e_23]; exact hP
  refine lv_aload_n X.1.1 X.1.2.1 dX8_knowsAll_8 rfl (lv_at hl 0 rfl) ?_
  refine gt_X8_28 X hP (kyM (by decide)) wd_908 dX8_knowsAll_9 ?_
  obtain ⟨⟨r_26, t_24⟩, hc_25, h⟩ := o_bd_inv h
  refine x_calli (x_runS (As := [.int (t_22.1 9 0 0 28)]) (rest := []) X hP hS (c_X8_isTopic l g X.2.2.2.2.1 (t_22.1 9 0 0 28) t_22 hc_25) ⟨wd_1050, wd_1048, wd_1049, wd_62⟩ hd_X8_isTopic ⟨by omega, by decide⟩ rfl hl.1 rfl (Nat.le_of_ble_eq_true rfl) dX8_knowsAll_12) hS (fun H locs hP hS => ?_)
  refine lv_if_ne (tgt := 20) X.1.1 X.1.2.1 dX8_knowsAll_15 (by decide) (fun c_28 => ?_) (fun c_28 => ?_)
  · have h := o_neg c_28 h
    refine lv_iconst (v := 0) X.1.1 X.1.2.1 dX8_knowsAll_20 (by decide) ?_
    refine lv_istore_n (lv' := [(1, .int 0), (0, .ref (g.2.2 (9, 0, 0)))]) X.1.1 X.1.2.1 dX8_knowsAll_21 rfl hl (by decide) rfl (fun ls hl => ?_)
    refine lv_iconst (v := 0) X.1.1 X.1.2.1 dX8_knowsAll_22 (by decide) ?_
    refine lv_istore_n (lv' := [(2, .int 0), (1, .int 0), (0, .ref (g.2.2 (9, 0, 0)))]) X.1.1 X.1.2.1 dX8_knowsAll_23 rfl hl (by decide) rfl (fun ls hl => ?_)
    exact w_X8_knowsAll_24 N X 0 0 t_24 _ _ _ hP hS (lv_sub hl [2, 1, 0] rfl) h
  · have h := o_pos c_28 h
    refine lv_iconst (v := 0) X.1.1 X.1.2.1 dX8_knowsAll_18 (by decide) ?_
    obtain ⟨rfl, rfl⟩ := o_ret2 h
    exact x_zret rfl X hP hS dX8_knowsAll_19
def f_X8_comesAt_82 (N : Nat) (x1 : Int32) (t : Mm) : Option (Int32 × Mm) := if o_inb (14 + (t.1 9 0 0 24)) 31 = true then (o_nm (sI t 9 0 27 ((14 + (t.1 9 0 0 24)).toNatClampNeg) x1) fun t_2 => if x1 ≤ 40 then (o_bd (f_X8_next N t_2) fun (r_7, t_5) => o_nm (sI t_5 9 0 0 28 r_7) fun t_9 => some (1, t_9)) else (some (0, t_2))) else none
/-- FordQuestionsModel.comesAt()Z -/
def f_X8_comesAt (N : Nat) (t : Mm) : Option (Int32 × Mm) := o_bd (f_X8_next N t) fun (r_13, t_11) => o_nm (sI t_11 9 0 0 28 r_13) fun t_15 => o_bd (f_X8_isDigit (t_15.1 9 0 0 28) t_15) fun (r_19, t_17) => if r_19 = 0 then (some (0, t_17)) else (if (t_17.1 9 0 0 15) ≤ (t_17.1 9 0 0 21) then (f_X8_comesAt_82 N ((t_17.1 9 0 0 28) - 48) t_17) else (if o_inb (t_17.1 9 0 0 21) 90 = true then (o_bd (f_X8_isDigit (t_17.1 9 0 16 ((t_17.1 9 0 0 21).toNatClampNeg)) t_17) fun (r_26, t_24) => if r_26 = 0 then (f_X8_comesAt_82 N ((t_17.1 9 0 0 28) - 48) t_24) else (if o_inb (t_24.1 9 0 0 21) 90 = true then (o_nm ((((10 * ((t_17.1 9 0 0 28) - 48)) + (t_24.1 9 0 16 ((t_24.1 9 0 0 21).toNatClampNeg))) - 48)) fun x_30 => o_nm (sI t_24 9 0 0 21 ((t_24.1 9 0 0 21) + 1)) fun t_32 => f_X8_comesAt_82 N x_30 t_32) else none)) else none))
theorem hd_X8_comesAt : x_hd yX8_comesAt 0 := by decide +kernel
set_option maxRecDepth 100000 in
set_option maxHeartbeats 4000000 in
theorem w_X8_comesAt_82 {l : Launch} {g : Ly} {p : Program} {e : Env} {s : State} {m : MethodId} {args : Array Value} {below : List Frame} {meth : Method} {c : Code} (N : Nat) (X : XC p m meth c cX8_comesAt 2 s args (.code yX8_comesAt cX8_comesAt 2 (some .boolean)) RX8 (some .boolean) shR g) {r : Int32} {t' : Mm} (x1 : Int32) (t : Mm) (H : Heap) (locs : List Loc) (ls : Array Slot) (hP : XP shR g t H) (hS : va_S (XA shR g) s.heap H locs) (hl : lv_has ls 2 [(0, .ref (g.2.2 (9, 0, 0))), (1, .int x1)]) (h : f_X8_comesAt_82 N x1 t = some (r, t')) : W p l e (rmv 3) s m args below meth c H locs 0 0 (MQ below (XQi shR g r t') args s 0 0 (XA shR g)) (F0 m 82 ls []) := by
  unfold f_X8_comesAt_82 at h
  refine lv_aload_n X.1.1 X.1.2.1 dX8_comesAt_82 rfl (lv_at hl 0 rfl) ?_
  refine gt_X8_27 X hP (kyM (by decide)) wd_907 dX8_comesAt_83 ?_
  refine lv_bipush (v := 14) X.1.1 X.1.2.1 dX8_comesAt_86 (by decide) ?_
  refine lv_aload_n X.1.1 X.1.2.1 dX8_comesAt_88 rfl (lv_at hl 0 rfl) ?_
  refine gt_X8_24 X hP (kyM (by decide)) wd_904 dX8_comesAt_89 ?_
  refine lv_iadd X.1.1 X.1.2.1 dX8_comesAt_92 ?_
  refine lv_iload_n X.1.1 X.1.2.1 dX8_comesAt_93 rfl (lv_at hl 1 rfl) ?_
  obtain ⟨g_1, h⟩ := o_gd_inv h
  obtain ⟨t_2, e_3, h⟩ := o_nm_inv h
  refine x_iast X hP hS (kyM (by decide)) (fun _ _ => rfl) g_1 dX8_comesAt_94 (fun H locs hP hS => ?_)
  have hP : XP shR g t_2 H := by rw [e_3]; exact hP
  refine lv_iload_n X.1.1 X.1.2.1 dX8_comesAt_95 rfl (lv_at hl 1 rfl) ?_
  refine lv_bipush (v := 40) X.1.1 X.1.2.1 dX8_comesAt_96 (by decide) ?_
  refine lv_icmp_le (tgt := 103) X.1.1 X.1.2.1 dX8_comesAt_98 (by decide) (fun c_4 => ?_) (fun c_4 => ?_)
  · have h := o_pos c_4 h
    refine lv_aload_n X.1.1 X.1.2.1 dX8_comesAt_103 rfl (lv_at hl 0 rfl) ?_
    refine lv_aload_n X.1.1 X.1.2.1 dX8_comesAt_104 rfl (lv_at hl 0 rfl) ?_
    obtain ⟨⟨r_7, t_5⟩, hc_6, h⟩ := o_bd_inv h
    refine x_calli (x_runV (As := []) (rest := [.ref (g.2.2 (9, 0, 0))]) X hP hS (c_X8_next l g N X.2.2.2.2.1 t_2 hc_6) ⟨wd_1047, wd_1044, wd_1046, wd_32, wd_62⟩ hd_X8_next ⟨by omega, by decide⟩ (x_recv X hP (ci := 8) rfl (kyM (by decide)) rfl) rfl hl.1 rfl (Nat.le_of_ble_eq_true rfl) dX8_comesAt_105) hS (fun H locs hP hS => ?_)
    obtain ⟨t_9, e_10, h⟩ := o_nm_inv h
    refine pt_X8_28 (x := r_7) X hP hS (kyM (by decide)) wd_908 dX8_comesAt_108 (fun H locs hP hS => ?_)
    have hP : XP shR g t_9 H := by rw [e_10]; exact hP
    refine lv_iconst (v := 1) X.1.1 X.1.2.1 dX8_comesAt_111 (by decide) ?_
    obtain ⟨rfl, rfl⟩ := o_ret2 h
    exact x_zret rfl X hP hS dX8_comesAt_112
  · have h := o_neg c_4 h
    refine lv_iconst (v := 0) X.1.1 X.1.2.1 dX8_comesAt_101 (by decide) ?_
    obtain ⟨rfl, rfl⟩ := o_ret2 h
    exact x_zret rfl X hP hS dX8_comesAt_102
set_option maxRecDepth 100000 in
set_option maxHeartbeats 4000000 in
theorem c_X8_comesAt (l : Launch) (g : Ly) (N : Nat) (hG : XG shR g) (t : Mm) {r : Int32} {t' : Mm} (h : f_X8_comesAt N t = some (r, t')) : MI l yX8_comesAt cX8_comesAt 2 (some .boolean) 3 shR g [.ref (g.2.2 (9, 0, 0))] t (XQi shR g r t') := by
  refine x_met hG (by decide +kernel) (Nat.le_of_ble_eq_true rfl) ?_
  intro p e s m below meth c ls X hP hl
  have hS : va_S (XA shR g) s.heap s.heap [] := va_S.rf
  have hl : lv_has ls 2 [(0, .ref (g.2.2 (9, 0, 0)))] := hl
  unfold f_X8_comesAt at h
  generalize ([.ref (g.2.2 (9, 0, 0))] : List Value).toArray = args at X ⊢
  refine lv_aload_n X.1.1 X.1.2.1 dX8_comesAt_0 rfl (lv_at hl 0 rfl) ?_
  refine lv_aload_n X.1.1 X.1.2.1 dX8_comesAt_1 rfl (lv_at hl 0 rfl) ?_
  obtain ⟨⟨r_13, t_11⟩, hc_12, h⟩ := o_bd_inv h
  refine x_calli (x_runV (As := []) (rest := [.ref (g.2.2 (9, 0, 0))]) X hP hS (c_X8_next l g N X.2.2.2.2.1 t hc_12) ⟨wd_1047, wd_1044, wd_1046, wd_32, wd_62⟩ hd_X8_next ⟨by omega, by decide⟩ (x_recv X hP (ci := 8) rfl (kyM (by decide)) rfl) rfl hl.1 rfl (Nat.le_of_ble_eq_true rfl) dX8_comesAt_2) hS (fun H locs hP hS => ?_)
  obtain ⟨t_15, e_16, h⟩ := o_nm_inv h
  refine pt_X8_28 (x := r_13) X hP hS (kyM (by decide)) wd_908 dX8_comesAt_5 (fun H locs hP hS => ?_)
  have hP : XP shR g t_15 H := by rw [e_16]; exact hP
  refine lv_aload_n X.1.1 X.1.2.1 dX8_comesAt_8 rfl (lv_at hl 0 rfl) ?_
  refine gt_X8_28 X hP (kyM (by decide)) wd_908 dX8_comesAt_9 ?_
  obtain ⟨⟨r_19, t_17⟩, hc_18, h⟩ := o_bd_inv h
  refine x_calli (x_runS (As := [.int (t_15.1 9 0 0 28)]) (rest := []) X hP hS (c_X8_isDigit l g X.2.2.2.2.1 (t_15.1 9 0 0 28) t_15 hc_18) ⟨wd_1072, wd_1070, wd_1071, wd_62⟩ hd_X8_isDigit ⟨by omega, by decide⟩ rfl hl.1 rfl (Nat.le_of_ble_eq_true rfl) dX8_comesAt_12) hS (fun H locs hP hS => ?_)
  refine lv_if_ne (tgt := 20) X.1.1 X.1.2.1 dX8_comesAt_15 (by decide) (fun c_21 => ?_) (fun c_21 => ?_)
  · have h := o_neg c_21 h
    refine lv_aload_n X.1.1 X.1.2.1 dX8_comesAt_20 rfl (lv_at hl 0 rfl) ?_
    refine gt_X8_28 X hP (kyM (by decide)) wd_908 dX8_comesAt_21 ?_
    refine lv_bipush (v := 48) X.1.1 X.1.2.1 dX8_comesAt_24 (by decide) ?_
    refine lv_isub X.1.1 X.1.2.1 dX8_comesAt_26 ?_
    refine lv_istore_n (lv' := [(1, .int ((t_17.1 9 0 0 28) - 48)), (0, .ref (g.2.2 (9, 0, 0)))]) X.1.1 X.1.2.1 dX8_comesAt_27 rfl hl (by decide) rfl (fun ls hl => ?_)
    refine lv_aload_n X.1.1 X.1.2.1 dX8_comesAt_28 rfl (lv_at hl 1 rfl) ?_
    refine gt_X8_21 X hP (kyM (by decide)) wd_901 dX8_comesAt_29 ?_
    refine lv_aload_n X.1.1 X.1.2.1 dX8_comesAt_32 rfl (lv_at hl 1 rfl) ?_
    refine gt_X8_15 X hP (kyM (by decide)) wd_895 dX8_comesAt_33 ?_
    refine lv_icmp_ge (tgt := 82) X.1.1 X.1.2.1 dX8_comesAt_36 (by decide) (fun c_22 => ?_) (fun c_22 => ?_)
    · have h := o_pos c_22 h
      exact w_X8_comesAt_82 N X ((t_17.1 9 0 0 28) - 48) t_17 _ _ _ hP hS (lv_sub hl [1, 0] rfl) h
    · have h := o_neg c_22 h
      refine lv_aload_n X.1.1 X.1.2.1 dX8_comesAt_39 rfl (lv_at hl 1 rfl) ?_
      refine gt_X8_16 X hP (kyM (by decide)) wd_896 dX8_comesAt_40 ?_
      refine lv_aload_n X.1.1 X.1.2.1 dX8_comesAt_43 rfl (lv_at hl 1 rfl) ?_
      refine gt_X8_21 X hP (kyM (by decide)) wd_901 dX8_comesAt_44 ?_
      obtain ⟨g_23, h⟩ := o_gd_inv h
      refine x_iald X hP (kyM (by decide)) (fun _ _ => rfl) g_23 dX8_comesAt_47 ?_
      obtain ⟨⟨r_26, t_24⟩, hc_25, h⟩ := o_bd_inv h
      refine x_calli (x_runS (As := [.int (t_17.1 9 0 16 ((t_17.1 9 0 0 21).toNatClampNeg))]) (rest := []) X hP hS (c_X8_isDigit l g X.2.2.2.2.1 (t_17.1 9 0 16 ((t_17.1 9 0 0 21).toNatClampNeg)) t_17 hc_25) ⟨wd_1072, wd_1070, wd_1071, wd_62⟩ hd_X8_isDigit ⟨by omega, by decide⟩ rfl hl.1 rfl (Nat.le_of_ble_eq_true rfl) dX8_comesAt_48) hS (fun H locs hP hS => ?_)
      refine lv_if_eq (tgt := 82) X.1.1 X.1.2.1 dX8_comesAt_51 (by decide) (fun c_28 => ?_) (fun c_28 => ?_)
      · have h := o_pos c_28 h
        exact w_X8_comesAt_82 N X ((t_17.1 9 0 0 28) - 48) t_24 _ _ _ hP hS (lv_sub hl [1, 0] rfl) h
      · have h := o_neg c_28 h
        refine lv_bipush (v := 10) X.1.1 X.1.2.1 dX8_comesAt_54 (by decide) ?_
        refine lv_iload_n X.1.1 X.1.2.1 dX8_comesAt_56 rfl (lv_at hl 0 rfl) ?_
        refine lv_imul X.1.1 X.1.2.1 dX8_comesAt_57 ?_
        refine lv_aload_n X.1.1 X.1.2.1 dX8_comesAt_58 rfl (lv_at hl 1 rfl) ?_
        refine gt_X8_16 X hP (kyM (by decide)) wd_896 dX8_comesAt_59 ?_
        refine lv_aload_n X.1.1 X.1.2.1 dX8_comesAt_62 rfl (lv_at hl 1 rfl) ?_
        refine gt_X8_21 X hP (kyM (by decide)) wd_901 dX8_comesAt_63 ?_
        obtain ⟨g_29, h⟩ := o_gd_inv h
        refine x_iald X hP (kyM (by decide)) (fun _ _ => rfl) g_29 dX8_comesAt_66 ?_
        refine lv_iadd X.1.1 X.1.2.1 dX8_comesAt_67 ?_
        refine lv_bipush (v := 48) X.1.1 X.1.2.1 dX8_comesAt_68 (by decide) ?_
        refine lv_isub X.1.1 X.1.2.1 dX8_comesAt_70 ?_
        refine lv_topi (fun x_30 e_31 => ?_)
        have h := o_nm_to e_31 h
        refine lv_istore_n (lv' := [(1, .int x_30), (0, .ref (g.2.2 (9, 0, 0)))]) X.1.1 X.1.2.1 dX8_comesAt_71 rfl hl (by decide) rfl (fun ls hl => ?_)
        refine lv_aload_n X.1.1 X.1.2.1 dX8_comesAt_72 rfl (lv_at hl 1 rfl) ?_
        refine lv_dup X.1.1 X.1.2.1 dX8_comesAt_73 rfl ?_
        refine gt_X8_21 X hP (kyM (by decide)) wd_901 dX8_comesAt_74 ?_
        refine lv_iconst (v := 1) X.1.1 X.1.2.1 dX8_comesAt_77 (by decide) ?_
        refine lv_iadd X.1.1 X.1.2.1 dX8_comesAt_78 ?_
        obtain ⟨t_32, e_33, h⟩ := o_nm_inv h
        refine pt_X8_21 (x := ((t_24.1 9 0 0 21) + 1)) X hP hS (kyM (by decide)) wd_901 dX8_comesAt_79 (fun H locs hP hS => ?_)
        have hP : XP shR g t_32 H := by rw [e_33]; exact hP
        exact w_X8_comesAt_82 N X x_30 t_32 _ _ _ hP hS (lv_sub hl [1, 0] rfl) h
  · have h := o_pos c_21 h
    refine lv_iconst (v := 0) X.1.1 X.1.2.1 dX8_comesAt_18 (by decide) ?_
    obtain ⟨rfl, rfl⟩ := o_ret2 h
    exact x_zret rfl X hP hS dX8_comesAt_19
def f_X8_crosserOne_96 (N : Nat) (t : Mm) : Option (Int32 × Mm) := o_nm (sI t 9 0 0 24 ((t.1 9 0 0 24) + 1)) fun t_1 => some (1, t_1)
def f_X8_crosserOne_78 (N : Nat) (t : Mm) : Option (Int32 × Mm) := if (t.1 9 0 0 28) = 64 then (o_bd (f_X8_comesAt N t) fun (r_6, t_4) => if r_6 = 0 then (some (0, t_4)) else (f_X8_crosserOne_96 N t_4)) else (f_X8_crosserOne_96 N t)
/-- FordQuestionsModel.crosserOne()Z -/
def f_X8_crosserOne (N : Nat) (t : Mm) : Option (Int32 × Mm) := o_bd (f_X8_next N t) fun (r_11, t_9) => o_bd (f_X8_kindBy r_11 t_9) fun (r_15, t_13) => if r_15 = (-4) then (some (0, t_13)) else (if o_inb (t_13.1 9 0 0 24) 5 = true then (o_nm (sI t_13 9 0 26 ((t_13.1 9 0 0 24).toNatClampNeg) r_15) fun t_19 => if o_inb (9 + (t_19.1 9 0 0 24)) 31 = true then (o_nm (sI t_19 9 0 27 ((9 + (t_19.1 9 0 0 24)).toNatClampNeg) 0) fun t_22 => if o_inb (14 + (t_22.1 9 0 0 24)) 31 = true then (o_nm (sI t_22 9 0 27 ((14 + (t_22.1 9 0 0 24)).toNatClampNeg) 0) fun t_25 => o_bd (f_X8_next N t_25) fun (r_29, t_27) => o_nm (sI t_27 9 0 0 28 r_29) fun t_31 => if (t_31.1 9 0 0 28) = 58 then (o_bd (f_X8_knowsAll N t_31) fun (r_36, t_34) => if r_36 = 0 then (some (0, t_34)) else (f_X8_crosserOne_78 N t_34)) else (f_X8_crosserOne_78 N t_31)) else none) else none) else none)
theorem hd_X8_crosserOne : x_hd yX8_crosserOne 0 := by decide +kernel
set_option maxRecDepth 100000 in
set_option maxHeartbeats 4000000 in
theorem w_X8_crosserOne_96 {l : Launch} {g : Ly} {p : Program} {e : Env} {s : State} {m : MethodId} {args : Array Value} {below : List Frame} {meth : Method} {c : Code} (N : Nat) (X : XC p m meth c cX8_crosserOne 2 s args (.code yX8_crosserOne cX8_crosserOne 2 (some .boolean)) RX8 (some .boolean) shR g) {r : Int32} {t' : Mm} (t : Mm) (H : Heap) (locs : List Loc) (ls : Array Slot) (hP : XP shR g t H) (hS : va_S (XA shR g) s.heap H locs) (hl : lv_has ls 2 [(0, .ref (g.2.2 (9, 0, 0)))]) (h : f_X8_crosserOne_96 N t = some (r, t')) : W p l e (rmv 4) s m args below meth c H locs 0 0 (MQ below (XQi shR g r t') args s 0 0 (XA shR g)) (F0 m 96 ls []) := by
  unfold f_X8_crosserOne_96 at h
  refine lv_aload_n X.1.1 X.1.2.1 dX8_crosserOne_96 rfl (lv_at hl 0 rfl) ?_
  refine lv_dup X.1.1 X.1.2.1 dX8_crosserOne_97 rfl ?_
  refine gt_X8_24 X hP (kyM (by decide)) wd_904 dX8_crosserOne_98 ?_
  refine lv_iconst (v := 1) X.1.1 X.1.2.1 dX8_crosserOne_101 (by decide) ?_
  refine lv_iadd X.1.1 X.1.2.1 dX8_crosserOne_102 ?_
  obtain ⟨t_1, e_2, h⟩ := o_nm_inv h
  refine pt_X8_24 (x := ((t.1 9 0 0 24) + 1)) X hP hS (kyM (by decide)) wd_904 dX8_crosserOne_103 (fun H locs hP hS => ?_)
  have hP : XP shR g t_1 H := by rw [e_2]; exact hP
  refine lv_iconst (v := 1) X.1.1 X.1.2.1 dX8_crosserOne_106 (by decide) ?_
  obtain ⟨rfl, rfl⟩ := o_ret2 h
  exact x_zret rfl X hP hS dX8_crosserOne_107
set_option maxRecDepth 100000 in
set_option maxHeartbeats 4000000 in
theorem w_X8_crosserOne_78 {l : Launch} {g : Ly} {p : Program} {e : Env} {s : State} {m : MethodId} {args : Array Value} {below : List Frame} {meth : Method} {c : Code} (N : Nat) (X : XC p m meth c cX8_crosserOne 2 s args (.code yX8_crosserOne cX8_crosserOne 2 (some .boolean)) RX8 (some .boolean) shR g) {r : Int32} {t' : Mm} (t : Mm) (H : Heap) (locs : List Loc) (ls : Array Slot) (hP : XP shR g t H) (hS : va_S (XA shR g) s.heap H locs) (hl : lv_has ls 2 [(0, .ref (g.2.2 (9, 0, 0)))]) (h : f_X8_crosserOne_78 N t = some (r, t')) : W p l e (rmv 4) s m args below meth c H locs 0 0 (MQ below (XQi shR g r t') args s 0 0 (XA shR g)) (F0 m 78 ls []) := by
  unfold f_X8_crosserOne_78 at h
  refine lv_aload_n X.1.1 X.1.2.1 dX8_crosserOne_78 rfl (lv_at hl 0 rfl) ?_
  refine gt_X8_28 X hP (kyM (by decide)) wd_908 dX8_crosserOne_79 ?_
  refine lv_bipush (v := 64) X.1.1 X.1.2.1 dX8_crosserOne_82 (by decide) ?_
  refine lv_icmp_ne (tgt := 96) X.1.1 X.1.2.1 dX8_crosserOne_84 (by decide) (fun c_3 => ?_) (fun c_3 => ?_)
  · have h := o_neg c_3 h
    exact w_X8_crosserOne_96 N X t _ _ _ hP hS (lv_sub hl [0] rfl) h
  · have h := o_pos c_3 h
    refine lv_aload_n X.1.1 X.1.2.1 dX8_crosserOne_87 rfl (lv_at hl 0 rfl) ?_
    obtain ⟨⟨r_6, t_4⟩, hc_5, h⟩ := o_bd_inv h
    refine x_calli (x_runV (As := []) (rest := []) X hP hS (c_X8_comesAt l g N X.2.2.2.2.1 t hc_5) ⟨wd_1069, wd_1066, wd_1068, wd_35, wd_62⟩ hd_X8_comesAt ⟨by omega, by decide⟩ (x_recv X hP (ci := 8) rfl (kyM (by decide)) rfl) rfl hl.1 rfl (Nat.le_of_ble_eq_true rfl) dX8_crosserOne_88) hS (fun H locs hP hS => ?_)
    refine lv_if_ne (tgt := 96) X.1.1 X.1.2.1 dX8_crosserOne_91 (by decide) (fun c_8 => ?_) (fun c_8 => ?_)
    · have h := o_neg c_8 h
      exact w_X8_crosserOne_96 N X t_4 _ _ _ hP hS (lv_sub hl [0] rfl) h
    · have h := o_pos c_8 h
      refine lv_iconst (v := 0) X.1.1 X.1.2.1 dX8_crosserOne_94 (by decide) ?_
      obtain ⟨rfl, rfl⟩ := o_ret2 h
      exact x_zret rfl X hP hS dX8_crosserOne_95
set_option maxRecDepth 100000 in
set_option maxHeartbeats 4000000 in
theorem c_X8_crosserOne (l : Launch) (g : Ly) (N : Nat) (hG : XG shR g) (t : Mm) {r : Int32} {t' : Mm} (h : f_X8_crosserOne N t = some (r, t')) : MI l yX8_crosserOne cX8_crosserOne 2 (some .boolean) 4 shR g [.ref (g.2.2 (9, 0, 0))] t (XQi shR g r t') := by
  refine x_met hG (by decide +kernel) (Nat.le_of_ble_eq_true rfl) ?_
  intro p e s m below meth c ls X hP hl
  have hS : va_S (XA shR g) s.heap s.heap [] := va_S.rf
  have hl : lv_has ls 2 [(0, .ref (g.2.2 (9, 0, 0)))] := hl
  unfold f_X8_crosserOne at h
  generalize ([.ref (g.2.2 (9, 0, 0))] : List Value).toArray = args at X ⊢
  refine lv_aload_n X.1.1 X.1.2.1 dX8_crosserOne_0 rfl (lv_at hl 0 rfl) ?_
  obtain ⟨⟨r_11, t_9⟩, hc_10, h⟩ := o_bd_inv h
  refine x_calli (x_runV (As := []) (rest := []) X hP hS (c_X8_next l g N X.2.2.2.2.1 t hc_10) ⟨wd_1047, wd_1044, wd_1046, wd_32, wd_62⟩ hd_X8_next ⟨by omega, by decide⟩ (x_recv X hP (ci := 8) rfl (kyM (by decide)) rfl) rfl hl.1 rfl (Nat.le_of_ble_eq_true rfl) dX8_crosserOne_1) hS (fun H locs hP hS => ?_)
  obtain ⟨⟨r_15, t_13⟩, hc_14, h⟩ := o_bd_inv h
  refine x_calli (x_runS (As := [.int r_11]) (rest := []) X hP hS (c_X8_kindBy l g X.2.2.2.2.1 r_11 t_9 hc_14) ⟨wd_1061, wd_1059, wd_1060, wd_62⟩ hd_X8_kindBy ⟨by omega, by decide⟩ rfl hl.1 rfl (Nat.le_of_ble_eq_true rfl) dX8_crosserOne_4) hS (fun H locs hP hS => ?_)
  refine lv_istore_n (lv' := [(1, .int r_15), (0, .ref (g.2.2 (9, 0, 0)))]) X.1.1 X.1.2.1 dX8_crosserOne_7 rfl hl (by decide) rfl (fun ls hl => ?_)
  refine lv_iload_n X.1.1 X.1.2.1 dX8_crosserOne_8 rfl (lv_at hl 0 rfl) ?_
  refine lv_bipush (v := (-4)) X.1.1 X.1.2.1 dX8_crosserOne_9 (by decide) ?_
  refine lv_icmp_ne (tgt := 16) X.1.1 X.1.2.1 dX8_crosserOne_11 (by decide) (fun c_17 => ?_) (fun c_17 => ?_)
  · have h := o_neg c_17 h
    refine lv_aload_n X.1.1 X.1.2.1 dX8_crosserOne_16 rfl (lv_at hl 1 rfl) ?_
    refine gt_X8_26 X hP (kyM (by decide)) wd_906 dX8_crosserOne_17 ?_
    refine lv_aload_n X.1.1 X.1.2.1 dX8_crosserOne_20 rfl (lv_at hl 1 rfl) ?_
    refine gt_X8_24 X hP (kyM (by decide)) wd_904 dX8_crosserOne_21 ?_
    refine lv_iload_n X.1.1 X.1.2.1 dX8_crosserOne_24 rfl (lv_at hl 0 rfl) ?_
    obtain ⟨g_18, h⟩ := o_gd_inv h
    obtain ⟨t_19, e_20, h⟩ := o_nm_inv h
    refine x_iast X hP hS (kyM (by decide)) (fun _ _ => rfl) g_18 dX8_crosserOne_25 (fun H locs hP hS => ?_)
    have hP : XP shR g t_19 H := by rw [e_20]; exact hP
    refine lv_aload_n X.1.1 X.1.2.1 dX8_crosserOne_26 rfl (lv_at hl 1 rfl) ?_
    refine gt_X8_27 X hP (kyM (by decide)) wd_907 dX8_crosserOne_27 ?_
    refine lv_bipush (v := 9) X.1.1 X.1.2.1 dX8_crosserOne_30 (by decide) ?_
    refine lv_aload_n X.1.1 X.1.2.1 dX8_crosserOne_32 rfl (lv_at hl 1 rfl) ?_
    refine gt_X8_24 X hP (kyM (by decide)) wd_904 dX8_crosserOne_33 ?_
    refine lv_iadd X.1.1 X.1.2.1 dX8_crosserOne_36 ?_
    refine lv_iconst (v := 0) X.1.1 X.1.2.1 dX8_crosserOne_37 (by decide) ?_
    obtain ⟨g_21, h⟩ := o_gd_inv h
    obtain ⟨t_22, e_23, h⟩ := o_nm_inv h
    refine x_iast X hP hS (kyM (by decide)) (fun _ _ => rfl) g_21 dX8_crosserOne_38 (fun H locs hP hS => ?_)
    have hP : XP shR g t_22 H := by rw [e_23]; exact hP
    refine lv_aload_n X.1.1 X.1.2.1 dX8_crosserOne_39 rfl (lv_at hl 1 rfl) ?_
    refine gt_X8_27 X hP (kyM (by decide)) wd_907 dX8_crosserOne_40 ?_
    refine lv_bipush (v := 14) X.1.1 X.1.2.1 dX8_crosserOne_43 (by decide) ?_
    refine lv_aload_n X.1.1 X.1.2.1 dX8_crosserOne_45 rfl (lv_at hl 1 rfl) ?_
    refine gt_X8_24 X hP (kyM (by decide)) wd_904 dX8_crosserOne_46 ?_
    refine lv_iadd X.1.1 X.1.2.1 dX8_crosserOne_49 ?_
    refine lv_iconst (v := 0) X.1.1 X.1.2.1 dX8_crosserOne_50 (by decide) ?_
    obtain ⟨g_24, h⟩ := o_gd_inv h
    obtain ⟨t_25, e_26, h⟩ := o_nm_inv h
    refine x_iast X hP hS (kyM (by decide)) (fun _ _ => rfl) g_24 dX8_crosserOne_51 (fun H locs hP hS => ?_)
    have hP : XP shR g t_25 H := by rw [e_26]; exact hP
    refine lv_aload_n X.1.1 X.1.2.1 dX8_crosserOne_52 rfl (lv_at hl 1 rfl) ?_
    refine lv_aload_n X.1.1 X.1.2.1 dX8_crosserOne_53 rfl (lv_at hl 1 rfl) ?_
    obtain ⟨⟨r_29, t_27⟩, hc_28, h⟩ := o_bd_inv h
    refine x_calli (x_runV (As := []) (rest := [.ref (g.2.2 (9, 0, 0))]) X hP hS (c_X8_next l g N X.2.2.2.2.1 t_25 hc_28) ⟨wd_1047, wd_1044, wd_1046, wd_32, wd_62⟩ hd_X8_next ⟨by omega, by decide⟩ (x_recv X hP (ci := 8) rfl (kyM (by decide)) rfl) rfl hl.1 rfl (Nat.le_of_ble_eq_true rfl) dX8_crosserOne_54) hS (fun H locs hP hS => ?_)
    obtain ⟨t_31, e_32, h⟩ := o_nm_inv h
    refine pt_X8_28 (x := r_29) X hP hS (kyM (by decide)) wd_908 dX8_crosserOne_57 (fun H locs hP hS => ?_)
    have hP : XP shR g t_31 H := by rw [e_32]; exact hP
    refine lv_aload_n X.1.1 X.1.2.1 dX8_crosserOne_60 rfl (lv_at hl 1 rfl) ?_
    refine gt_X8_28 X hP (kyM (by decide)) wd_908 dX8_crosserOne_61 ?_
    refine lv_bipush (v := 58) X.1.1 X.1.2.1 dX8_crosserOne_64 (by decide) ?_
    refine lv_icmp_ne (tgt := 78) X.1.1 X.1.2.1 dX8_crosserOne_66 (by decide) (fun c_33 => ?_) (fun c_33 => ?_)
    · have h := o_neg c_33 h
      exact w_X8_crosserOne_78 N X t_31 _ _ _ hP hS (lv_sub hl [1] rfl) h
    · have h := o_pos c_33 h
      refine lv_aload_n X.1.1 X.1.2.1 dX8_crosserOne_69 rfl (lv_at hl 1 rfl) ?_
      obtain ⟨⟨r_36, t_34⟩, hc_35, h⟩ := o_bd_inv h
      refine x_calli (x_runV (As := []) (rest := []) X hP hS (c_X8_knowsAll l g N X.2.2.2.2.1 t_31 hc_35) ⟨wd_1065, wd_1062, wd_1064, wd_34, wd_62⟩ hd_X8_knowsAll ⟨by omega, by decide⟩ (x_recv X hP (ci := 8) rfl (kyM (by decide)) rfl) rfl hl.1 rfl (Nat.le_of_ble_eq_true rfl) dX8_crosserOne_70) hS (fun H locs hP hS => ?_)
      refine lv_if_ne (tgt := 78) X.1.1 X.1.2.1 dX8_crosserOne_73 (by decide) (fun c_38 => ?_) (fun c_38 => ?_)
      · have h := o_neg c_38 h
        exact w_X8_crosserOne_78 N X t_34 _ _ _ hP hS (lv_sub hl [1] rfl) h
      · have h := o_pos c_38 h
        refine lv_iconst (v := 0) X.1.1 X.1.2.1 dX8_crosserOne_76 (by decide) ?_
        obtain ⟨rfl, rfl⟩ := o_ret2 h
        exact x_zret rfl X hP hS dX8_crosserOne_77
  · have h := o_pos c_17 h
    refine lv_iconst (v := 0) X.1.1 X.1.2.1 dX8_crosserOne_14 (by decide) ?_
    obtain ⟨rfl, rfl⟩ := o_ret2 h
    exact x_zret rfl X hP hS dX8_crosserOne_15
def f_X8_isFord_95 (N : Nat) (k60 : Int32 × Mm → Option (Int32 × Mm)) (s0 : Int32) (t : Mm) : Option (Int32 × Mm) := k60 (s0, t)
def f_X8_isFord_94 (N : Nat) (k60 : Int32 × Mm → Option (Int32 × Mm)) (t : Mm) : Option (Int32 × Mm) := f_X8_isFord_95 N k60 0 t
def b_X8_isFord_60 (N : Nat) (k60 : Int32 × Mm → Option (Int32 × Mm)) (x1 : Int32) (t : Mm) : Option (Int32 × Mm) := if x1 = 0 then (if (t.1 9 0 0 28) = 0 then (some (1, t)) else (some (0, t))) else (o_bd (f_X8_crosserOne N t) fun (r_5, t_3) => if r_5 = 0 then (some (0, t_3)) else (if (t_3.1 9 0 0 28) = 44 then (if 5 ≤ (t_3.1 9 0 0 24) then (f_X8_isFord_94 N k60 t_3) else (f_X8_isFord_95 N k60 1 t_3)) else (f_X8_isFord_94 N k60 t_3)))
def f_X8_isFord_60 (N : Nat) (x1 : Int32) (t : Mm) : Option (Int32 × Mm) := o_lp (fun k x => b_X8_isFord_60 N k x.1 x.2) N (x1, t)
def f_X8_isFord_59 (N : Nat) (s0 : Int32) (t : Mm) : Option (Int32 × Mm) := f_X8_isFord_60 N s0 t
def b_X8_isFord_12 (N : Nat) (k12 : Int32 × Mm → Option (Int32 × Mm)) (x1 : Int32) (t : Mm) : Option (Int32 × Mm) := if 31 ≤ x1 then (o_nm (sI t 9 0 0 21 0) fun t_11 => o_bd (f_X8_questionsAll N t_11) fun (r_15, t_13) => if r_15 = 0 then (some (0, t_13)) else (if (t_13.1 9 0 0 28) = 59 then (f_X8_isFord_59 N 1 t_13) else (f_X8_isFord_59 N 0 t_13))) else (if o_inb x1 31 = true then (o_nm (sI t 9 0 27 (x1.toNatClampNeg) 0) fun t_20 => k12 ((x1 + 1), t_20)) else none)
def f_X8_isFord_12 (N : Nat) (x1 : Int32) (t : Mm) : Option (Int32 × Mm) := o_lp (fun k x => b_X8_isFord_12 N k x.1 x.2) N (x1, t)
/-- FordQuestionsModel.isFord()Z -/
def f_X8_isFord (N : Nat) (t : Mm) : Option (Int32 × Mm) := o_nm (sI t 9 0 0 23 0) fun t_22 => o_nm (sI t_22 9 0 0 24 0) fun t_24 => f_X8_isFord_12 N 0 t_24
theorem hd_X8_isFord : x_hd yX8_isFord 0 := by decide +kernel
set_option maxRecDepth 100000 in
set_option maxHeartbeats 4000000 in
theorem w_X8_isFord_95 {l : Launch} {g : Ly} {p : Program} {e : Env} {s : State} {m : MethodId} {args : Array Value} {below : List Frame} {meth : Method} {c : Code} (N : Nat) (X : XC p m meth c cX8_isFord 2 s args (.code yX8_isFord cX8_isFord 2 (some .boolean)) RX8 (some .boolean) shR g) {r : Int32} {t' : Mm} {k60 : Int32 × Mm → Option (Int32 × Mm)} (hk60 : ∀ x : Int32 × Mm, k60 x = some (r, t') → ∀ (H : Heap) (locs : List Loc) (ls : Array Slot), XP shR g x.2 H → va_S (XA shR g) s.heap H locs → lv_has ls 2 [(0, .ref (g.2.2 (9, 0, 0))), (1, .int x.1)] → W p l e (rmv 5) s m args below meth c H locs 0 0 (MQ below (XQi shR g r t') args s 0 0 (XA shR g)) (F0 m 60 ls [])) (s0 : Int32) (t : Mm) (H : Heap) (locs : List Loc) (ls : Array Slot) (hP : XP shR g t H) (hS : va_S (XA shR g) s.heap H locs) (hl : lv_has ls 2 [(0, .ref (g.2.2 (9, 0, 0)))]) (h : f_X8_isFord_95 N k60 s0 t = some (r, t')) : W p l e (rmv 5) s m args below meth c H locs 0 0 (MQ below (XQi shR g r t') args s 0 0 (XA shR g)) (F0 m 95 ls [.int s0]) := by
  unfold f_X8_isFord_95 at h
  refine lv_istore_n (lv' := [(1, .int s0), (0, .ref (g.2.2 (9, 0, 0)))]) X.1.1 X.1.2.1 dX8_isFord_95 rfl hl (by decide) rfl (fun ls hl => ?_)
  refine lv_goto (tgt := 60) X.1.1 X.1.2.1 dX8_isFord_96 (by decide) ?_
  exact hk60 (s0, t) h _ _ _ hP hS (lv_sub hl [1, 0] rfl)
set_option maxRecDepth 100000 in
set_option maxHeartbeats 4000000 in
theorem w_X8_isFord_94 {l : Launch} {g : Ly} {p : Program} {e : Env} {s : State} {m : MethodId} {args : Array Value} {below : List Frame} {meth : Method} {c : Code} (N : Nat) (X : XC p m meth c cX8_isFord 2 s args (.code yX8_isFord cX8_isFord 2 (some .boolean)) RX8 (some .boolean) shR g) {r : Int32} {t' : Mm} {k60 : Int32 × Mm → Option (Int32 × Mm)} (hk60 : ∀ x : Int32 × Mm, k60 x = some (r, t') → ∀ (H : Heap) (locs : List Loc) (ls : Array Slot), XP shR g x.2 H → va_S (XA shR g) s.heap H locs → lv_has ls 2 [(0, .ref (g.2.2 (9, 0, 0))), (1, .int x.1)] → W p l e (rmv 5) s m args below meth c H locs 0 0 (MQ below (XQi shR g r t') args s 0 0 (XA shR g)) (F0 m 60 ls [])) (t : Mm) (H : Heap) (locs : List Loc) (ls : Array Slot) (hP : XP shR g t H) (hS : va_S (XA shR g) s.heap H locs) (hl : lv_has ls 2 [(0, .ref (g.2.2 (9, 0, 0)))]) (h : f_X8_isFord_94 N k60 t = some (r, t')) : W p l e (rmv 5) s m args below meth c H locs 0 0 (MQ below (XQi shR g r t') args s 0 0 (XA shR g)) (F0 m 94 ls []) := by
  unfold f_X8_isFord_94 at h
  refine lv_iconst (v := 0) X.1.1 X.1.2.1 dX8_isFord_94 (by decide) ?_
  exact w_X8_isFord_95 N X hk60 0 t _ _ _ hP hS (lv_sub hl [0] rfl) h
set_option maxRecDepth 100000 in
set_option maxHeartbeats 4000000 in
theorem wb_X8_isFord_60 {l : Launch} {g : Ly} {p : Program} {e : Env} {s : State} {m : MethodId} {args : Array Value} {below : List Frame} {meth : Method} {c : Code} (N : Nat) (X : XC p m meth c cX8_isFord 2 s args (.code yX8_isFord cX8_isFord 2 (some .boolean)) RX8 (some .boolean) shR g) {r : Int32} {t' : Mm} {k60 : Int32 × Mm → Option (Int32 × Mm)} (hk60 : ∀ x : Int32 × Mm, k60 x = some (r, t') → ∀ (H : Heap) (locs : List Loc) (ls : Array Slot), XP shR g x.2 H → va_S (XA shR g) s.heap H locs → lv_has ls 2 [(0, .ref (g.2.2 (9, 0, 0))), (1, .int x.1)] → W p l e (rmv 5) s m args below meth c H locs 0 0 (MQ below (XQi shR g r t') args s 0 0 (XA shR g)) (F0 m 60 ls [])) (x1 : Int32) (t : Mm) (H : Heap) (locs : List Loc) (ls : Array Slot) (hP : XP shR g t H) (hS : va_S (XA shR g) s.heap H locs) (hl : lv_has ls 2 [(0, .ref (g.2.2 (9, 0, 0))), (1, .int x1)]) (h : b_X8_isFord_60 N k60 x1 t = some (r, t')) : W p l e (rmv 5) s m args below meth c H locs 0 0 (MQ below (XQi shR g r t') args s 0 0 (XA shR g)) (F0 m 60 ls []) := by
  unfold b_X8_isFord_60 at h
  refine lv_iload_n X.1.1 X.1.2.1 dX8_isFord_60 rfl (lv_at hl 1 rfl) ?_
  refine lv_if_eq (tgt := 99) X.1.1 X.1.2.1 dX8_isFord_61 (by decide) (fun c_1 => ?_) (fun c_1 => ?_)
  · have h := o_pos c_1 h
    refine lv_aload_n X.1.1 X.1.2.1 dX8_isFord_99 rfl (lv_at hl 0 rfl) ?_
    refine gt_X8_28 X hP (kyM (by decide)) wd_908 dX8_isFord_100 ?_
    refine lv_if_ne (tgt := 110) X.1.1 X.1.2.1 dX8_isFord_103 (by decide) (fun c_2 => ?_) (fun c_2 => ?_)
    · have h := o_neg c_2 h
      refine lv_iconst (v := 0) X.1.1 X.1.2.1 dX8_isFord_110 (by decide) ?_
      obtain ⟨rfl, rfl⟩ := o_ret2 h
      exact x_zret rfl X hP hS dX8_isFord_111
    · have h := o_pos c_2 h
      refine lv_iconst (v := 1) X.1.1 X.1.2.1 dX8_isFord_106 (by decide) ?_
      refine lv_goto (tgt := 111) X.1.1 X.1.2.1 dX8_isFord_107 (by decide) ?_
      obtain ⟨rfl, rfl⟩ := o_ret2 h
      exact x_zret rfl X hP hS dX8_isFord_111
  · have h := o_neg c_1 h
    refine lv_aload_n X.1.1 X.1.2.1 dX8_isFord_64 rfl (lv_at hl 0 rfl) ?_
    obtain ⟨⟨r_5, t_3⟩, hc_4, h⟩ := o_bd_inv h
    refine x_calli (x_runV (As := []) (rest := []) X hP hS (c_X8_crosserOne l g N X.2.2.2.2.1 t hc_4) ⟨wd_1058, wd_1055, wd_1057, wd_33, wd_62⟩ hd_X8_crosserOne ⟨by omega, by decide⟩ (x_recv X hP (ci := 8) rfl (kyM (by decide)) rfl) rfl hl.1 rfl (Nat.le_of_ble_eq_true rfl) dX8_isFord_65) hS (fun H locs hP hS => ?_)
    refine lv_if_ne (tgt := 73) X.1.1 X.1.2.1 dX8_isFord_68 (by decide) (fun c_7 => ?_) (fun c_7 => ?_)
    · have h := o_neg c_7 h
      refine lv_aload_n X.1.1 X.1.2.1 dX8_isFord_73 rfl (lv_at hl 0 rfl) ?_
      refine gt_X8_28 X hP (kyM (by decide)) wd_908 dX8_isFord_74 ?_
      refine lv_bipush (v := 44) X.1.1 X.1.2.1 dX8_isFord_77 (by decide) ?_
      refine lv_icmp_ne (tgt := 94) X.1.1 X.1.2.1 dX8_isFord_79 (by decide) (fun c_8 => ?_) (fun c_8 => ?_)
      · have h := o_neg c_8 h
        exact w_X8_isFord_94 N X hk60 t_3 _ _ _ hP hS (lv_sub hl [0] rfl) h
      · have h := o_pos c_8 h
        refine lv_aload_n X.1.1 X.1.2.1 dX8_isFord_82 rfl (lv_at hl 0 rfl) ?_
        refine gt_X8_24 X hP (kyM (by decide)) wd_904 dX8_isFord_83 ?_
        refine lv_iconst (v := 5) X.1.1 X.1.2.1 dX8_isFord_86 (by decide) ?_
        refine lv_icmp_ge (tgt := 94) X.1.1 X.1.2.1 dX8_isFord_87 (by decide) (fun c_9 => ?_) (fun c_9 => ?_)
        · have h := o_pos c_9 h
          exact w_X8_isFord_94 N X hk60 t_3 _ _ _ hP hS (lv_sub hl [0] rfl) h
        · have h := o_neg c_9 h
          refine lv_iconst (v := 1) X.1.1 X.1.2.1 dX8_isFord_90 (by decide) ?_
          refine lv_goto (tgt := 95) X.1.1 X.1.2.1 dX8_isFord_91 (by decide) ?_
          exact w_X8_isFord_95 N X hk60 1 t_3 _ _ _ hP hS (lv_sub hl [0] rfl) h
    · have h := o_pos c_7 h
      refine lv_iconst (v := 0) X.1.1 X.1.2.1 dX8_isFord_71 (by decide) ?_
      obtain ⟨rfl, rfl⟩ := o_ret2 h
      exact x_zret rfl X hP hS dX8_isFord_72
set_option maxRecDepth 100000 in
set_option maxHeartbeats 4000000 in
theorem w_X8_isFord_60 {l : Launch} {g : Ly} {p : Program} {e : Env} {s : State} {m : MethodId} {args : Array Value} {below : List Frame} {meth : Method} {c : Code} (N : Nat) (X : XC p m meth c cX8_isFord 2 s args (.code yX8_isFord cX8_isFord 2 (some .boolean)) RX8 (some .boolean) shR g) {r : Int32} {t' : Mm} (x1 : Int32) (t : Mm) (H : Heap) (locs : List Loc) (ls : Array Slot) (hP : XP shR g t H) (hS : va_S (XA shR g) s.heap H locs) (hl : lv_has ls 2 [(0, .ref (g.2.2 (9, 0, 0))), (1, .int x1)]) (h : f_X8_isFord_60 N x1 t = some (r, t')) : W p l e (rmv 5) s m args below meth c H locs 0 0 (MQ below (XQi shR g r t') args s 0 0 (XA shR g)) (F0 m 60 ls []) :=
  o_lp_ind (P := fun x : Int32 × Mm => ∀ (H : Heap) (locs : List Loc) (ls : Array Slot), XP shR g x.2 H → va_S (XA shR g) s.heap H locs → lv_has ls 2 [(0, .ref (g.2.2 (9, 0, 0))), (1, .int x.1)] → W p l e (rmv 5) s m args below meth c H locs 0 0 (MQ below (XQi shR g r t') args s 0 0 (XA shR g)) (F0 m 60 ls [])) (fun k hk x h H locs ls hP hS hl => wb_X8_isFord_60 N X hk x.1 x.2 H locs ls hP hS hl h) N (x1, t) h H locs ls hP hS hl
set_option maxRecDepth 100000 in
set_option maxHeartbeats 4000000 in
theorem w_X8_isFord_59 {l : Launch} {g : Ly} {p : Program} {e : Env} {s : State} {m : MethodId} {args : Array Value} {below : List Frame} {meth : Method} {c : Code} (N : Nat) (X : XC p m meth c cX8_isFord 2 s args (.code yX8_isFord cX8_isFord 2 (some .boolean)) RX8 (some .boolean) shR g) {r : Int32} {t' : Mm} (s0 : Int32) (t : Mm) (H : Heap) (locs : List Loc) (ls : Array Slot) (hP : XP shR g t H) (hS : va_S (XA shR g) s.heap H locs) (hl : lv_has ls 2 [(0, .ref (g.2.2 (9, 0, 0)))]) (h : f_X8_isFord_59 N s0 t = some (r, t')) : W p l e (rmv 5) s m args below meth c H locs 0 0 (MQ below (XQi shR g r t') args s 0 0 (XA shR g)) (F0 m 59 ls [.int s0]) := by
  unfold f_X8_isFord_59 at h
  refine lv_istore_n (lv' := [(1, .int s0), (0, .ref (g.2.2 (9, 0, 0)))]) X.1.1 X.1.2.1 dX8_isFord_59 rfl hl (by decide) rfl (fun ls hl => ?_)
  exact w_X8_isFord_60 N X s0 t _ _ _ hP hS (lv_sub hl [1, 0] rfl) h
set_option maxRecDepth 100000 in
set_option maxHeartbeats 4000000 in
theorem wb_X8_isFord_12 {l : Launch} {g : Ly} {p : Program} {e : Env} {s : State} {m : MethodId} {args : Array Value} {below : List Frame} {meth : Method} {c : Code} (N : Nat) (X : XC p m meth c cX8_isFord 2 s args (.code yX8_isFord cX8_isFord 2 (some .boolean)) RX8 (some .boolean) shR g) {r : Int32} {t' : Mm} {k12 : Int32 × Mm → Option (Int32 × Mm)} (hk12 : ∀ x : Int32 × Mm, k12 x = some (r, t') → ∀ (H : Heap) (locs : List Loc) (ls : Array Slot), XP shR g x.2 H → va_S (XA shR g) s.heap H locs → lv_has ls 2 [(0, .ref (g.2.2 (9, 0, 0))), (1, .int x.1)] → W p l e (rmv 5) s m args below meth c H locs 0 0 (MQ below (XQi shR g r t') args s 0 0 (XA shR g)) (F0 m 12 ls [])) (x1 : Int32) (t : Mm) (H : Heap) (locs : List Loc) (ls : Array Slot) (hP : XP shR g t H) (hS : va_S (XA shR g) s.heap H locs) (hl : lv_has ls 2 [(0, .ref (g.2.2 (9, 0, 0))), (1, .int x1)]) (h : b_X8_isFord_12 N k12 x1 t = some (r, t')) : W p l e (rmv 5) s m args below meth c H locs 0 0 (MQ below (XQi shR g r t') args s 0 0 (XA shR g)) (F0 m 12 ls []) := by
  unfold b_X8_isFord_12 at h
  refine lv_iload_n X.1.1 X.1.2.1 dX8_isFord_12 rfl (lv_at hl 1 rfl) ?_
  refine lv_bipush (v := 31) X.1.1 X.1.2.1 dX8_isFord_13 (by decide) ?_
  refine lv_icmp_ge (tgt := 31) X.1.1 X.1.2.1 dX8_isFord_15 (by decide) (fun c_10 => ?_) (fun c_10 => ?_)
  · have h := o_pos c_10 h
    refine lv_aload_n X.1.1 X.1.2.1 dX8_isFord_31 rfl (lv_at hl 0 rfl) ?_
    refine lv_iconst (v := 0) X.1.1 X.1.2.1 dX8_isFord_32 (by decide) ?_
    obtain ⟨t_11, e_12, h⟩ := o_nm_inv h
    refine pt_X8_21 (x := 0) X hP hS (kyM (by decide)) wd_901 dX8_isFord_33 (fun H locs hP hS => ?_)
    have hP : XP shR g t_11 H := by rw [e_12]; exact hP
    refine lv_aload_n X.1.1 X.1.2.1 dX8_isFord_36 rfl (lv_at hl 0 rfl) ?_
    obtain ⟨⟨r_15, t_13⟩, hc_14, h⟩ := o_bd_inv h
    refine x_calli (x_runV (As := []) (rest := []) X hP hS (c_X8_questionsAll l g N X.2.2.2.2.1 t_11 hc_14) ⟨wd_1043, wd_1040, wd_1042, wd_31, wd_62⟩ hd_X8_questionsAll ⟨by omega, by decide⟩ (x_recv X hP (ci := 8) rfl (kyM (by decide)) rfl) rfl hl.1 rfl (Nat.le_of_ble_eq_true rfl) dX8_isFord_37) hS (fun H locs hP hS => ?_)
    refine lv_if_ne (tgt := 45) X.1.1 X.1.2.1 dX8_isFord_40 (by decide) (fun c_17 => ?_) (fun c_17 => ?_)
    · have h := o_neg c_17 h
      refine lv_aload_n X.1.1 X.1.2.1 dX8_isFord_45 rfl (lv_at hl 0 rfl) ?_
      refine gt_X8_28 X hP (kyM (by decide)) wd_908 dX8_isFord_46 ?_
      refine lv_bipush (v := 59) X.1.1 X.1.2.1 dX8_isFord_49 (by decide) ?_
      refine lv_icmp_ne (tgt := 58) X.1.1 X.1.2.1 dX8_isFord_51 (by decide) (fun c_18 => ?_) (fun c_18 => ?_)
      · have h := o_neg c_18 h
        refine lv_iconst (v := 0) X.1.1 X.1.2.1 dX8_isFord_58 (by decide) ?_
        exact w_X8_isFord_59 N X 0 t_13 _ _ _ hP hS (lv_sub hl [0] rfl) h
      · have h := o_pos c_18 h
        refine lv_iconst (v := 1) X.1.1 X.1.2.1 dX8_isFord_54 (by decide) ?_
        refine lv_goto (tgt := 59) X.1.1 X.1.2.1 dX8_isFord_55 (by decide) ?_
        exact w_X8_isFord_59 N X 1 t_13 _ _ _ hP hS (lv_sub hl [0] rfl) h
    · have h := o_pos c_17 h
      refine lv_iconst (v := 0) X.1.1 X.1.2.1 dX8_isFord_43 (by decide) ?_
      obtain ⟨rfl, rfl⟩ := o_ret2 h
      exact x_zret rfl X hP hS dX8_isFord_44
  · have h := o_neg c_10 h
    refine lv_aload_n X.1.1 X.1.2.1 dX8_isFord_18 rfl (lv_at hl 0 rfl) ?_
    refine gt_X8_27 X hP (kyM (by decide)) wd_907 dX8_isFord_19 ?_
    refine lv_iload_n X.1.1 X.1.2.1 dX8_isFord_22 rfl (lv_at hl 1 rfl) ?_
    refine lv_iconst (v := 0) X.1.1 X.1.2.1 dX8_isFord_23 (by decide) ?_
    obtain ⟨g_19, h⟩ := o_gd_inv h
    obtain ⟨t_20, e_21, h⟩ := o_nm_inv h
    refine x_iast X hP hS (kyM (by decide)) (fun _ _ => rfl) g_19 dX8_isFord_24 (fun H locs hP hS => ?_)
    have hP : XP shR g t_20 H := by rw [e_21]; exact hP
    refine lv_iinc (v := (x1 + 1)) (lv' := [(1, .int (x1 + 1)), (0, .ref (g.2.2 (9, 0, 0)))]) X.1.1 X.1.2.1 dX8_isFord_25 hl (k := 1) rfl rfl (by decide) rfl (fun ls hl => ?_)
    refine lv_goto (tgt := 12) X.1.1 X.1.2.1 dX8_isFord_28 (by decide) ?_
    exact hk12 ((x1 + 1), t_20) h _ _ _ hP hS (lv_sub hl [1, 0] rfl)
set_option maxRecDepth 100000 in
set_option maxHeartbeats 4000000 in
theorem w_X8_isFord_12 {l : Launch} {g : Ly} {p : Program} {e : Env} {s : State} {m : MethodId} {args : Array Value} {below : List Frame} {meth : Method} {c : Code} (N : Nat) (X : XC p m meth c cX8_isFord 2 s args (.code yX8_isFord cX8_isFord 2 (some .boolean)) RX8 (some .boolean) shR g) {r : Int32} {t' : Mm} (x1 : Int32) (t : Mm) (H : Heap) (locs : List Loc) (ls : Array Slot) (hP : XP shR g t H) (hS : va_S (XA shR g) s.heap H locs) (hl : lv_has ls 2 [(0, .ref (g.2.2 (9, 0, 0))), (1, .int x1)]) (h : f_X8_isFord_12 N x1 t = some (r, t')) : W p l e (rmv 5) s m args below meth c H locs 0 0 (MQ below (XQi shR g r t') args s 0 0 (XA shR g)) (F0 m 12 ls []) :=
  o_lp_ind (P := fun x : Int32 × Mm => ∀ (H : Heap) (locs : List Loc) (ls : Array Slot), XP shR g x.2 H → va_S (XA shR g) s.heap H locs → lv_has ls 2 [(0, .ref (g.2.2 (9, 0, 0))), (1, .int x.1)] → W p l e (rmv 5) s m args below meth c H locs 0 0 (MQ below (XQi shR g r t') args s 0 0 (XA shR g)) (F0 m 12 ls [])) (fun k hk x h H locs ls hP hS hl => wb_X8_isFord_12 N X hk x.1 x.2 H locs ls hP hS hl h) N (x1, t) h H locs ls hP hS hl
set_option maxRecDepth 100000 in
set_option maxHeartbeats 4000000 in
theorem c_X8_isFord (l : Launch) (g : Ly) (N : Nat) (hG : XG shR g) (t : Mm) {r : Int32} {t' : Mm} (h : f_X8_isFord N t = some (r, t')) : MI l yX8_isFord cX8_isFord 2 (some .boolean) 5 shR g [.ref (g.2.2 (9, 0, 0))] t (XQi shR g r t') := by
  refine x_met hG (by decide +kernel) (Nat.le_of_ble_eq_true rfl) ?_
  intro p e s m below meth c ls X hP hl
  have hS : va_S (XA shR g) s.heap s.heap [] := va_S.rf
  have hl : lv_has ls 2 [(0, .ref (g.2.2 (9, 0, 0)))] := hl
  unfold f_X8_isFord at h
  generalize ([.ref (g.2.2 (9, 0, 0))] : List Value).toArray = args at X ⊢
  refine lv_aload_n X.1.1 X.1.2.1 dX8_isFord_0 rfl (lv_at hl 0 rfl) ?_
  refine lv_iconst (v := 0) X.1.1 X.1.2.1 dX8_isFord_1 (by decide) ?_
  obtain ⟨t_22, e_23, h⟩ := o_nm_inv h
  refine pt_X8_23 (x := 0) X hP hS (kyM (by decide)) wd_903 dX8_isFord_2 (fun H locs hP hS => ?_)
  have hP : XP shR g t_22 H := by rw [e_23]; exact hP
  refine lv_aload_n X.1.1 X.1.2.1 dX8_isFord_5 rfl (lv_at hl 0 rfl) ?_
  refine lv_iconst (v := 0) X.1.1 X.1.2.1 dX8_isFord_6 (by decide) ?_
  obtain ⟨t_24, e_25, h⟩ := o_nm_inv h
  refine pt_X8_24 (x := 0) X hP hS (kyM (by decide)) wd_904 dX8_isFord_7 (fun H locs hP hS => ?_)
  have hP : XP shR g t_24 H := by rw [e_25]; exact hP
  refine lv_iconst (v := 0) X.1.1 X.1.2.1 dX8_isFord_10 (by decide) ?_
  refine lv_istore_n (lv' := [(1, .int 0), (0, .ref (g.2.2 (9, 0, 0)))]) X.1.1 X.1.2.1 dX8_isFord_11 rfl hl (by decide) rfl (fun ls hl => ?_)
  exact w_X8_isFord_12 N X 0 t_24 _ _ _ hP hS (lv_sub hl [1, 0] rfl) h
def b_X8_ford_111 (N : Nat) (k111 : Int32 × Mm → Option (Int32 × Mm)) (x3 : Int32) (t : Mm) : Option (Int32 × Mm) := if 30 ≤ x3 then (o_nm (sI t 9 0 0 7 0) fun t_2 => some ((t_2.1 9 0 0 0), t_2)) else (if o_inb x3 31 = true then (if o_inb x3 31 = true then (o_nm (sI t 9 0 4 (x3.toNatClampNeg) (t.1 9 0 27 (x3.toNatClampNeg))) fun t_6 => k111 ((x3 + 1), t_6)) else none) else none)
def f_X8_ford_111 (N : Nat) (x3 : Int32) (t : Mm) : Option (Int32 × Mm) := o_lp (fun k x => b_X8_ford_111 N k x.1 x.2) N (x3, t)
def b_X8_ford_86 (N : Nat) (k86 : Int32 × Mm → Option (Int32 × Mm)) (x3 : Int32) (t : Mm) : Option (Int32 × Mm) := if 5 ≤ x3 then (f_X8_ford_111 N 0 t) else (if o_inb x3 5 = true then (if o_inb x3 5 = true then (o_nm (sI t 9 0 3 (x3.toNatClampNeg) (t.1 9 0 26 (x3.toNatClampNeg))) fun t_11 => k86 ((x3 + 1), t_11)) else none) else none)
def f_X8_ford_86 (N : Nat) (x3 : Int32) (t : Mm) : Option (Int32 × Mm) := o_lp (fun k x => b_X8_ford_86 N k x.1 x.2) N (x3, t)
def b_X8_ford_60 (N : Nat) (k60 : Int32 × Mm → Option (Int32 × Mm)) (x3 : Int32) (t : Mm) : Option (Int32 × Mm) := if 8 ≤ x3 then (f_X8_ford_86 N 0 t) else (if o_inb x3 8 = true then (if o_inb x3 8 = true then (o_nm (sI t 9 0 2 (x3.toNatClampNeg) (t.1 9 0 25 (x3.toNatClampNeg))) fun t_16 => k60 ((x3 + 1), t_16)) else none) else none)
def f_X8_ford_60 (N : Nat) (x3 : Int32) (t : Mm) : Option (Int32 × Mm) := o_lp (fun k x => b_X8_ford_60 N k x.1 x.2) N (x3, t)
def f_X8_ford_27 (N : Nat) (x1 : Int32) (s0 : Int32) (t : Mm) : Option (Int32 × Mm) := o_nm (sI t 9 0 0 15 0) fun t_18 => if x1 = 0 then (some (((-20) - s0), t_18)) else (o_nm (sI t_18 9 0 0 0 (t_18.1 9 0 0 23)) fun t_21 => o_nm (sI t_21 9 0 0 1 (t_21.1 9 0 0 24)) fun t_23 => f_X8_ford_60 N 0 t_23)
/-- FordQuestionsModel.ford()I -/
def f_X8_ford (N : Nat) (t : Mm) : Option (Int32 × Mm) := o_bd (f_X8_isFord N t) fun (r_27, t_25) => if (t_25.1 9 0 0 15) ≤ (t_25.1 9 0 0 22) then (f_X8_ford_27 N r_27 (t_25.1 9 0 0 15) t_25) else (f_X8_ford_27 N r_27 (t_25.1 9 0 0 22) t_25)
theorem hd_X8_ford : x_hd yX8_ford 0 := by decide +kernel
set_option maxRecDepth 100000 in
set_option maxHeartbeats 4000000 in
theorem wb_X8_ford_111 {l : Launch} {g : Ly} {p : Program} {e : Env} {s : State} {m : MethodId} {args : Array Value} {below : List Frame} {meth : Method} {c : Code} (N : Nat) (X : XC p m meth c cX8_ford 4 s args (.code yX8_ford cX8_ford 4 (some .int)) RX8 (some .int) shR g) {r : Int32} {t' : Mm} {k111 : Int32 × Mm → Option (Int32 × Mm)} (hk111 : ∀ x : Int32 × Mm, k111 x = some (r, t') → ∀ (H : Heap) (locs : List Loc) (ls : Array Slot), XP shR g x.2 H → va_S (XA shR g) s.heap H locs → lv_has ls 4 [(0, .ref (g.2.2 (9, 0, 0))), (3, .int x.1)] → W p l e (rmv 6) s m args below meth c H locs 0 0 (MQ below (XQi shR g r t') args s 0 0 (XA shR g)) (F0 m 111 ls [])) (x3 : Int32) (t : Mm) (H : Heap) (locs : List Loc) (ls : Array Slot) (hP : XP shR g t H) (hS : va_S (XA shR g) s.heap H locs) (hl : lv_has ls 4 [(0, .ref (g.2.2 (9, 0, 0))), (3, .int x3)]) (h : b_X8_ford_111 N k111 x3 t = some (r, t')) : W p l e (rmv 6) s m args below meth c H locs 0 0 (MQ below (XQi shR g r t') args s 0 0 (XA shR g)) (F0 m 111 ls []) := by
  unfold b_X8_ford_111 at h
  refine lv_iload_n X.1.1 X.1.2.1 dX8_ford_111 rfl (lv_at hl 1 rfl) ?_
  refine lv_bipush (v := 30) X.1.1 X.1.2.1 dX8_ford_112 (by decide) ?_
  refine lv_icmp_ge (tgt := 135) X.1.1 X.1.2.1 dX8_ford_114 (by decide) (fun c_1 => ?_) (fun c_1 => ?_)
  · have h := o_pos c_1 h
    refine lv_aload_n X.1.1 X.1.2.1 dX8_ford_135 rfl (lv_at hl 0 rfl) ?_
    refine lv_iconst (v := 0) X.1.1 X.1.2.1 dX8_ford_136 (by decide) ?_
    obtain ⟨t_2, e_3, h⟩ := o_nm_inv h
    refine pt_X8_7 (x := 0) X hP hS (kyM (by decide)) wd_887 dX8_ford_137 (fun H locs hP hS => ?_)
    have hP : XP shR g t_2 H := by rw [e_3]; exact hP
    refine lv_aload_n X.1.1 X.1.2.1 dX8_ford_140 rfl (lv_at hl 0 rfl) ?_
    refine gt_X8_0 X hP (kyM (by decide)) wd_880 dX8_ford_141 ?_
    obtain ⟨rfl, rfl⟩ := o_ret2 h
    exact x_iret X hP hS dX8_ford_144
  · have h := o_neg c_1 h
    refine lv_aload_n X.1.1 X.1.2.1 dX8_ford_117 rfl (lv_at hl 0 rfl) ?_
    refine gt_X8_4 X hP (kyM (by decide)) wd_884 dX8_ford_118 ?_
    refine lv_iload_n X.1.1 X.1.2.1 dX8_ford_121 rfl (lv_at hl 1 rfl) ?_
    refine lv_aload_n X.1.1 X.1.2.1 dX8_ford_122 rfl (lv_at hl 0 rfl) ?_
    refine gt_X8_27 X hP (kyM (by decide)) wd_907 dX8_ford_123 ?_
    refine lv_iload_n X.1.1 X.1.2.1 dX8_ford_126 rfl (lv_at hl 1 rfl) ?_
    obtain ⟨g_4, h⟩ := o_gd_inv h
    refine x_iald X hP (kyM (by decide)) (fun _ _ => rfl) g_4 dX8_ford_127 ?_
    obtain ⟨g_5, h⟩ := o_gd_inv h
    obtain ⟨t_6, e_7, h⟩ := o_nm_inv h
    refine x_iast X hP hS (kyM (by decide)) (fun _ _ => rfl) g_5 dX8_ford_128 (fun H locs hP hS => ?_)
    have hP : XP shR g t_6 H := by rw [e_7]; exact hP
    refine lv_iinc (v := (x3 + 1)) (lv' := [(3, .int (x3 + 1)), (0, .ref (g.2.2 (9, 0, 0)))]) X.1.1 X.1.2.1 dX8_ford_129 hl (k := 1) rfl rfl (by decide) rfl (fun ls hl => ?_)
    refine lv_goto (tgt := 111) X.1.1 X.1.2.1 dX8_ford_132 (by decide) ?_
    exact hk111 ((x3 + 1), t_6) h _ _ _ hP hS (lv_sub hl [1, 0] rfl)
set_option maxRecDepth 100000 in
set_option maxHeartbeats 4000000 in
theorem w_X8_ford_111 {l : Launch} {g : Ly} {p : Program} {e : Env} {s : State} {m : MethodId} {args : Array Value} {below : List Frame} {meth : Method} {c : Code} (N : Nat) (X : XC p m meth c cX8_ford 4 s args (.code yX8_ford cX8_ford 4 (some .int)) RX8 (some .int) shR g) {r : Int32} {t' : Mm} (x3 : Int32) (t : Mm) (H : Heap) (locs : List Loc) (ls : Array Slot) (hP : XP shR g t H) (hS : va_S (XA shR g) s.heap H locs) (hl : lv_has ls 4 [(0, .ref (g.2.2 (9, 0, 0))), (3, .int x3)]) (h : f_X8_ford_111 N x3 t = some (r, t')) : W p l e (rmv 6) s m args below meth c H locs 0 0 (MQ below (XQi shR g r t') args s 0 0 (XA shR g)) (F0 m 111 ls []) :=
  o_lp_ind (P := fun x : Int32 × Mm => ∀ (H : Heap) (locs : List Loc) (ls : Array Slot), XP shR g x.2 H → va_S (XA shR g) s.heap H locs → lv_has ls 4 [(0, .ref (g.2.2 (9, 0, 0))), (3, .int x.1)] → W p l e (rmv 6) s m args below meth c H locs 0 0 (MQ below (XQi shR g r t') args s 0 0 (XA shR g)) (F0 m 111 ls [])) (fun k hk x h H locs ls hP hS hl => wb_X8_ford_111 N X hk x.1 x.2 H locs ls hP hS hl h) N (x3, t) h H locs ls hP hS hl
set_option maxRecDepth 100000 in
set_option maxHeartbeats 4000000 in
theorem wb_X8_ford_86 {l : Launch} {g : Ly} {p : Program} {e : Env} {s : State} {m : MethodId} {args : Array Value} {below : List Frame} {meth : Method} {c : Code} (N : Nat) (X : XC p m meth c cX8_ford 4 s args (.code yX8_ford cX8_ford 4 (some .int)) RX8 (some .int) shR g) {r : Int32} {t' : Mm} {k86 : Int32 × Mm → Option (Int32 × Mm)} (hk86 : ∀ x : Int32 × Mm, k86 x = some (r, t') → ∀ (H : Heap) (locs : List Loc) (ls : Array Slot), XP shR g x.2 H → va_S (XA shR g) s.heap H locs → lv_has ls 4 [(0, .ref (g.2.2 (9, 0, 0))), (3, .int x.1)] → W p l e (rmv 6) s m args below meth c H locs 0 0 (MQ below (XQi shR g r t') args s 0 0 (XA shR g)) (F0 m 86 ls [])) (x3 : Int32) (t : Mm) (H : Heap) (locs : List Loc) (ls : Array Slot) (hP : XP shR g t H) (hS : va_S (XA shR g) s.heap H locs) (hl : lv_has ls 4 [(0, .ref (g.2.2 (9, 0, 0))), (3, .int x3)]) (h : b_X8_ford_86 N k86 x3 t = some (r, t')) : W p l e (rmv 6) s m args below meth c H locs 0 0 (MQ below (XQi shR g r t') args s 0 0 (XA shR g)) (F0 m 86 ls []) := by
  unfold b_X8_ford_86 at h
  refine lv_iload_n X.1.1 X.1.2.1 dX8_ford_86 rfl (lv_at hl 1 rfl) ?_
  refine lv_iconst (v := 5) X.1.1 X.1.2.1 dX8_ford_87 (by decide) ?_
  refine lv_icmp_ge (tgt := 109) X.1.1 X.1.2.1 dX8_ford_88 (by decide) (fun c_8 => ?_) (fun c_8 => ?_)
  · have h := o_pos c_8 h
    refine lv_iconst (v := 0) X.1.1 X.1.2.1 dX8_ford_109 (by decide) ?_
    refine lv_istore_n (lv' := [(3, .int 0), (0, .ref (g.2.2 (9, 0, 0)))]) X.1.1 X.1.2.1 dX8_ford_110 rfl hl (by decide) rfl (fun ls hl => ?_)
    exact w_X8_ford_111 N X 0 t _ _ _ hP hS (lv_sub hl [1, 0] rfl) h
  · have h := o_neg c_8 h
    refine lv_aload_n X.1.1 X.1.2.1 dX8_ford_91 rfl (lv_at hl 0 rfl) ?_
    refine gt_X8_3 X hP (kyM (by decide)) wd_883 dX8_ford_92 ?_
    refine lv_iload_n X.1.1 X.1.2.1 dX8_ford_95 rfl (lv_at hl 1 rfl) ?_
    refine lv_aload_n X.1.1 X.1.2.1 dX8_ford_96 rfl (lv_at hl 0 rfl) ?_
    refine gt_X8_26 X hP (kyM (by decide)) wd_906 dX8_ford_97 ?_
    refine lv_iload_n X.1.1 X.1.2.1 dX8_ford_100 rfl (lv_at hl 1 rfl) ?_
    obtain ⟨g_9, h⟩ := o_gd_inv h
    refine x_iald X hP (kyM (by decide)) (fun _ _ => rfl) g_9 dX8_ford_101 ?_
    obtain ⟨g_10, h⟩ := o_gd_inv h
    obtain ⟨t_11, e_12, h⟩ := o_nm_inv h
    refine x_iast X hP hS (kyM (by decide)) (fun _ _ => rfl) g_10 dX8_ford_102 (fun H locs hP hS => ?_)
    have hP : XP shR g t_11 H := by rw [e_12]; exact hP
    refine lv_iinc (v := (x3 + 1)) (lv' := [(3, .int (x3 + 1)), (0, .ref (g.2.2 (9, 0, 0)))]) X.1.1 X.1.2.1 dX8_ford_103 hl (k := 1) rfl rfl (by decide) rfl (fun ls hl => ?_)
    refine lv_goto (tgt := 86) X.1.1 X.1.2.1 dX8_ford_106 (by decide) ?_
    exact hk86 ((x3 + 1), t_11) h _ _ _ hP hS (lv_sub hl [1, 0] rfl)
set_option maxRecDepth 100000 in
set_option maxHeartbeats 4000000 in
theorem w_X8_ford_86 {l : Launch} {g : Ly} {p : Program} {e : Env} {s : State} {m : MethodId} {args : Array Value} {below : List Frame} {meth : Method} {c : Code} (N : Nat) (X : XC p m meth c cX8_ford 4 s args (.code yX8_ford cX8_ford 4 (some .int)) RX8 (some .int) shR g) {r : Int32} {t' : Mm} (x3 : Int32) (t : Mm) (H : Heap) (locs : List Loc) (ls : Array Slot) (hP : XP shR g t H) (hS : va_S (XA shR g) s.heap H locs) (hl : lv_has ls 4 [(0, .ref (g.2.2 (9, 0, 0))), (3, .int x3)]) (h : f_X8_ford_86 N x3 t = some (r, t')) : W p l e (rmv 6) s m args below meth c H locs 0 0 (MQ below (XQi shR g r t') args s 0 0 (XA shR g)) (F0 m 86 ls []) :=
  o_lp_ind (P := fun x : Int32 × Mm => ∀ (H : Heap) (locs : List Loc) (ls : Array Slot), XP shR g x.2 H → va_S (XA shR g) s.heap H locs → lv_has ls 4 [(0, .ref (g.2.2 (9, 0, 0))), (3, .int x.1)] → W p l e (rmv 6) s m args below meth c H locs 0 0 (MQ below (XQi shR g r t') args s 0 0 (XA shR g)) (F0 m 86 ls [])) (fun k hk x h H locs ls hP hS hl => wb_X8_ford_86 N X hk x.1 x.2 H locs ls hP hS hl h) N (x3, t) h H locs ls hP hS hl
set_option maxRecDepth 100000 in
set_option maxHeartbeats 4000000 in
theorem wb_X8_ford_60 {l : Launch} {g : Ly} {p : Program} {e : Env} {s : State} {m : MethodId} {args : Array Value} {below : List Frame} {meth : Method} {c : Code} (N : Nat) (X : XC p m meth c cX8_ford 4 s args (.code yX8_ford cX8_ford 4 (some .int)) RX8 (some .int) shR g) {r : Int32} {t' : Mm} {k60 : Int32 × Mm → Option (Int32 × Mm)} (hk60 : ∀ x : Int32 × Mm, k60 x = some (r, t') → ∀ (H : Heap) (locs : List Loc) (ls : Array Slot), XP shR g x.2 H → va_S (XA shR g) s.heap H locs → lv_has ls 4 [(0, .ref (g.2.2 (9, 0, 0))), (3, .int x.1)] → W p l e (rmv 6) s m args below meth c H locs 0 0 (MQ below (XQi shR g r t') args s 0 0 (XA shR g)) (F0 m 60 ls [])) (x3 : Int32) (t : Mm) (H : Heap) (locs : List Loc) (ls : Array Slot) (hP : XP shR g t H) (hS : va_S (XA shR g) s.heap H locs) (hl : lv_has ls 4 [(0, .ref (g.2.2 (9, 0, 0))), (3, .int x3)]) (h : b_X8_ford_60 N k60 x3 t = some (r, t')) : W p l e (rmv 6) s m args below meth c H locs 0 0 (MQ below (XQi shR g r t') args s 0 0 (XA shR g)) (F0 m 60 ls []) := by
  unfold b_X8_ford_60 at h
  refine lv_iload_n X.1.1 X.1.2.1 dX8_ford_60 rfl (lv_at hl 1 rfl) ?_
  refine lv_bipush (v := 8) X.1.1 X.1.2.1 dX8_ford_61 (by decide) ?_
  refine lv_icmp_ge (tgt := 84) X.1.1 X.1.2.1 dX8_ford_63 (by decide) (fun c_13 => ?_) (fun c_13 => ?_)
  · have h := o_pos c_13 h
    refine lv_iconst (v := 0) X.1.1 X.1.2.1 dX8_ford_84 (by decide) ?_
    refine lv_istore_n (lv' := [(3, .int 0), (0, .ref (g.2.2 (9, 0, 0)))]) X.1.1 X.1.2.1 dX8_ford_85 rfl hl (by decide) rfl (fun ls hl => ?_)
    exact w_X8_ford_86 N X 0 t _ _ _ hP hS (lv_sub hl [1, 0] rfl) h
  · have h := o_neg c_13 h
    refine lv_aload_n X.1.1 X.1.2.1 dX8_ford_66 rfl (lv_at hl 0 rfl) ?_
    refine gt_X8_2 X hP (kyM (by decide)) wd_882 dX8_ford_67 ?_
    refine lv_iload_n X.1.1 X.1.2.1 dX8_ford_70 rfl (lv_at hl 1 rfl) ?_
    refine lv_aload_n X.1.1 X.1.2.1 dX8_ford_71 rfl (lv_at hl 0 rfl) ?_
    refine gt_X8_25 X hP (kyM (by decide)) wd_905 dX8_ford_72 ?_
    refine lv_iload_n X.1.1 X.1.2.1 dX8_ford_75 rfl (lv_at hl 1 rfl) ?_
    obtain ⟨g_14, h⟩ := o_gd_inv h
    refine x_iald X hP (kyM (by decide)) (fun _ _ => rfl) g_14 dX8_ford_76 ?_
    obtain ⟨g_15, h⟩ := o_gd_inv h
    obtain ⟨t_16, e_17, h⟩ := o_nm_inv h
    refine x_iast X hP hS (kyM (by decide)) (fun _ _ => rfl) g_15 dX8_ford_77 (fun H locs hP hS => ?_)
    have hP : XP shR g t_16 H := by rw [e_17]; exact hP
    refine lv_iinc (v := (x3 + 1)) (lv' := [(3, .int (x3 + 1)), (0, .ref (g.2.2 (9, 0, 0)))]) X.1.1 X.1.2.1 dX8_ford_78 hl (k := 1) rfl rfl (by decide) rfl (fun ls hl => ?_)
    refine lv_goto (tgt := 60) X.1.1 X.1.2.1 dX8_ford_81 (by decide) ?_
    exact hk60 ((x3 + 1), t_16) h _ _ _ hP hS (lv_sub hl [1, 0] rfl)
set_option maxRecDepth 100000 in
set_option maxHeartbeats 4000000 in
theorem w_X8_ford_60 {l : Launch} {g : Ly} {p : Program} {e : Env} {s : State} {m : MethodId} {args : Array Value} {below : List Frame} {meth : Method} {c : Code} (N : Nat) (X : XC p m meth c cX8_ford 4 s args (.code yX8_ford cX8_ford 4 (some .int)) RX8 (some .int) shR g) {r : Int32} {t' : Mm} (x3 : Int32) (t : Mm) (H : Heap) (locs : List Loc) (ls : Array Slot) (hP : XP shR g t H) (hS : va_S (XA shR g) s.heap H locs) (hl : lv_has ls 4 [(0, .ref (g.2.2 (9, 0, 0))), (3, .int x3)]) (h : f_X8_ford_60 N x3 t = some (r, t')) : W p l e (rmv 6) s m args below meth c H locs 0 0 (MQ below (XQi shR g r t') args s 0 0 (XA shR g)) (F0 m 60 ls []) :=
  o_lp_ind (P := fun x : Int32 × Mm => ∀ (H : Heap) (locs : List Loc) (ls : Array Slot), XP shR g x.2 H → va_S (XA shR g) s.heap H locs → lv_has ls 4 [(0, .ref (g.2.2 (9, 0, 0))), (3, .int x.1)] → W p l e (rmv 6) s m args below meth c H locs 0 0 (MQ below (XQi shR g r t') args s 0 0 (XA shR g)) (F0 m 60 ls [])) (fun k hk x h H locs ls hP hS hl => wb_X8_ford_60 N X hk x.1 x.2 H locs ls hP hS hl h) N (x3, t) h H locs ls hP hS hl
set_option maxRecDepth 100000 in
set_option maxHeartbeats 4000000 in
theorem w_X8_ford_27 {l : Launch} {g : Ly} {p : Program} {e : Env} {s : State} {m : MethodId} {args : Array Value} {below : List Frame} {meth : Method} {c : Code} (N : Nat) (X : XC p m meth c cX8_ford 4 s args (.code yX8_ford cX8_ford 4 (some .int)) RX8 (some .int) shR g) {r : Int32} {t' : Mm} (x1 : Int32) (s0 : Int32) (t : Mm) (H : Heap) (locs : List Loc) (ls : Array Slot) (hP : XP shR g t H) (hS : va_S (XA shR g) s.heap H locs) (hl : lv_has ls 4 [(0, .ref (g.2.2 (9, 0, 0))), (1, .int x1)]) (h : f_X8_ford_27 N x1 s0 t = some (r, t')) : W p l e (rmv 6) s m args below meth c H locs 0 0 (MQ below (XQi shR g r t') args s 0 0 (XA shR g)) (F0 m 27 ls [.int s0]) := by
  unfold f_X8_ford_27 at h
  refine lv_istore_n (lv' := [(2, .int s0), (0, .ref (g.2.2 (9, 0, 0))), (1, .int x1)]) X.1.1 X.1.2.1 dX8_ford_27 rfl hl (by decide) rfl (fun ls hl => ?_)
  refine lv_aload_n X.1.1 X.1.2.1 dX8_ford_28 rfl (lv_at hl 1 rfl) ?_
  refine lv_iconst (v := 0) X.1.1 X.1.2.1 dX8_ford_29 (by decide) ?_
  obtain ⟨t_18, e_19, h⟩ := o_nm_inv h
  refine pt_X8_15 (x := 0) X hP hS (kyM (by decide)) wd_895 dX8_ford_30 (fun H locs hP hS => ?_)
  have hP : XP shR g t_18 H := by rw [e_19]; exact hP
  refine lv_iload_n X.1.1 X.1.2.1 dX8_ford_33 rfl (lv_at hl 2 rfl) ?_
  refine lv_if_ne (tgt := 42) X.1.1 X.1.2.1 dX8_ford_34 (by decide) (fun c_20 => ?_) (fun c_20 => ?_)
  · have h := o_neg c_20 h
    refine lv_aload_n X.1.1 X.1.2.1 dX8_ford_42 rfl (lv_at hl 1 rfl) ?_
    refine lv_aload_n X.1.1 X.1.2.1 dX8_ford_43 rfl (lv_at hl 1 rfl) ?_
    refine gt_X8_23 X hP (kyM (by decide)) wd_903 dX8_ford_44 ?_
    obtain ⟨t_21, e_22, h⟩ := o_nm_inv h
    refine pt_X8_0 (x := (t_18.1 9 0 0 23)) X hP hS (kyM (by decide)) wd_880 dX8_ford_47 (fun H locs hP hS => ?_)
    have hP : XP shR g t_21 H := by rw [e_22]; exact hP
    refine lv_aload_n X.1.1 X.1.2.1 dX8_ford_50 rfl (lv_at hl 1 rfl) ?_
    refine lv_aload_n X.1.1 X.1.2.1 dX8_ford_51 rfl (lv_at hl 1 rfl) ?_
    refine gt_X8_24 X hP (kyM (by decide)) wd_904 dX8_ford_52 ?_
    obtain ⟨t_23, e_24, h⟩ := o_nm_inv h
    refine pt_X8_1 (x := (t_21.1 9 0 0 24)) X hP hS (kyM (by decide)) wd_881 dX8_ford_55 (fun H locs hP hS => ?_)
    have hP : XP shR g t_23 H := by rw [e_24]; exact hP
    refine lv_iconst (v := 0) X.1.1 X.1.2.1 dX8_ford_58 (by decide) ?_
    refine lv_istore_n (lv' := [(3, .int 0), (2, .int s0), (0, .ref (g.2.2 (9, 0, 0))), (1, .int x1)]) X.1.1 X.1.2.1 dX8_ford_59 rfl hl (by decide) rfl (fun ls hl => ?_)
    exact w_X8_ford_60 N X 0 t_23 _ _ _ hP hS (lv_sub hl [2, 0] rfl) h
  · have h := o_pos c_20 h
    refine lv_bipush (v := (-20)) X.1.1 X.1.2.1 dX8_ford_37 (by decide) ?_
    refine lv_iload_n X.1.1 X.1.2.1 dX8_ford_39 rfl (lv_at hl 0 rfl) ?_
    refine lv_isub X.1.1 X.1.2.1 dX8_ford_40 ?_
    obtain ⟨rfl, rfl⟩ := o_ret2 h
    exact x_iret X hP hS dX8_ford_41
set_option maxRecDepth 100000 in
set_option maxHeartbeats 4000000 in
theorem c_X8_ford (l : Launch) (g : Ly) (N : Nat) (hG : XG shR g) (t : Mm) {r : Int32} {t' : Mm} (h : f_X8_ford N t = some (r, t')) : MI l yX8_ford cX8_ford 4 (some .int) 6 shR g [.ref (g.2.2 (9, 0, 0))] t (XQi shR g r t') := by
  refine x_met hG (by decide +kernel) (Nat.le_of_ble_eq_true rfl) ?_
  intro p e s m below meth c ls X hP hl
  have hS : va_S (XA shR g) s.heap s.heap [] := va_S.rf
  have hl : lv_has ls 4 [(0, .ref (g.2.2 (9, 0, 0)))] := hl
  unfold f_X8_ford at h
  generalize ([.ref (g.2.2 (9, 0, 0))] : List Value).toArray = args at X ⊢
  refine lv_aload_n X.1.1 X.1.2.1 dX8_ford_0 rfl (lv_at hl 0 rfl) ?_
  obtain ⟨⟨r_27, t_25⟩, hc_26, h⟩ := o_bd_inv h
  refine x_calli (x_runV (As := []) (rest := []) X hP hS (c_X8_isFord l g N X.2.2.2.2.1 t hc_26) ⟨wd_1039, wd_1036, wd_1038, wd_30, wd_62⟩ hd_X8_isFord ⟨by omega, by decide⟩ (x_recv X hP (ci := 8) rfl (kyM (by decide)) rfl) rfl hl.1 rfl (Nat.le_of_ble_eq_true rfl) dX8_ford_1) hS (fun H locs hP hS => ?_)
  refine lv_istore_n (lv' := [(1, .int r_27), (0, .ref (g.2.2 (9, 0, 0)))]) X.1.1 X.1.2.1 dX8_ford_4 rfl hl (by decide) rfl (fun ls hl => ?_)
  refine lv_aload_n X.1.1 X.1.2.1 dX8_ford_5 rfl (lv_at hl 1 rfl) ?_
  refine gt_X8_22 X hP (kyM (by decide)) wd_902 dX8_ford_6 ?_
  refine lv_aload_n X.1.1 X.1.2.1 dX8_ford_9 rfl (lv_at hl 1 rfl) ?_
  refine gt_X8_15 X hP (kyM (by decide)) wd_895 dX8_ford_10 ?_
  refine lv_icmp_ge (tgt := 23) X.1.1 X.1.2.1 dX8_ford_13 (by decide) (fun c_29 => ?_) (fun c_29 => ?_)
  · have h := o_pos c_29 h
    refine lv_aload_n X.1.1 X.1.2.1 dX8_ford_23 rfl (lv_at hl 1 rfl) ?_
    refine gt_X8_15 X hP (kyM (by decide)) wd_895 dX8_ford_24 ?_
    exact w_X8_ford_27 N X r_27 (t_25.1 9 0 0 15) t_25 _ _ _ hP hS (lv_sub hl [1, 0] rfl) h
  · have h := o_neg c_29 h
    refine lv_aload_n X.1.1 X.1.2.1 dX8_ford_16 rfl (lv_at hl 1 rfl) ?_
    refine gt_X8_22 X hP (kyM (by decide)) wd_902 dX8_ford_17 ?_
    refine lv_goto (tgt := 27) X.1.1 X.1.2.1 dX8_ford_20 (by decide) ?_
    exact w_X8_ford_27 N X r_27 (t_25.1 9 0 0 22) t_25 _ _ _ hP hS (lv_sub hl [1, 0] rfl) h
def f_X8_count_77 (N : Nat) (x1 : Int32) (t : Mm) : Option (Int32 × Mm) := o_bd (f_X8_placed N (x1 - 4) t) fun (r_3, t_1) => some (r_3, t_1)
/-- FordQuestionsModel.count(I)I -/
def f_X8_count (N : Nat) (a0 : Int32) (t : Mm) : Option (Int32 × Mm) := o_bd (f_X8_aside N t) fun t_5 => if a0 = 0 then (some ((t_5.1 9 0 0 0), t_5)) else (if a0 = 1 then (some ((t_5.1 9 0 0 1), t_5)) else (if a0 = 2 then (if o_inb 29 31 = true then (some ((t_5.1 9 0 4 (Int32.toNatClampNeg 29)), t_5)) else none) else (if a0 = 3 then (if o_inb 0 31 = true then (some ((t_5.1 9 0 4 (Int32.toNatClampNeg 0)), t_5)) else none) else (if a0 = 4 then (f_X8_count_77 N a0 t_5) else (if a0 = 5 then (f_X8_count_77 N a0 t_5) else (if a0 = 6 then (f_X8_count_77 N a0 t_5) else (if a0 = 7 then (some ((t_5.1 9 0 0 7), t_5)) else (some ((-1), t_5)))))))))
theorem hd_X8_count : x_hd yX8_count 1 := by decide +kernel
set_option maxRecDepth 100000 in
set_option maxHeartbeats 4000000 in
theorem w_X8_count_77 {l : Launch} {g : Ly} {p : Program} {e : Env} {s : State} {m : MethodId} {args : Array Value} {below : List Frame} {meth : Method} {c : Code} (N : Nat) (X : XC p m meth c cX8_count 2 s args (.code yX8_count cX8_count 2 (some .int)) RX8 (some .int) shR g) {r : Int32} {t' : Mm} (x1 : Int32) (t : Mm) (H : Heap) (locs : List Loc) (ls : Array Slot) (hP : XP shR g t H) (hS : va_S (XA shR g) s.heap H locs) (hl : lv_has ls 2 [(0, .ref (g.2.2 (9, 0, 0))), (1, .int x1)]) (h : f_X8_count_77 N x1 t = some (r, t')) : W p l e (rmv 2) s m args below meth c H locs 0 0 (MQ below (XQi shR g r t') args s 0 0 (XA shR g)) (F0 m 77 ls []) := by
  unfold f_X8_count_77 at h
  refine lv_aload_n X.1.1 X.1.2.1 dX8_count_77 rfl (lv_at hl 0 rfl) ?_
  refine lv_iload_n X.1.1 X.1.2.1 dX8_count_78 rfl (lv_at hl 1 rfl) ?_
  refine lv_iconst (v := 4) X.1.1 X.1.2.1 dX8_count_79 (by decide) ?_
  refine lv_isub X.1.1 X.1.2.1 dX8_count_80 ?_
  obtain ⟨⟨r_3, t_1⟩, hc_2, h⟩ := o_bd_inv h
  refine x_calli (x_runV (As := [.int (x1 - 4)]) (rest := []) X hP hS (c_X8_placed l g N X.2.2.2.2.1 (x1 - 4) t hc_2) ⟨wd_1081, wd_1078, wd_1080, wd_36, wd_62⟩ hd_X8_placed ⟨by omega, by decide⟩ (x_recv X hP (ci := 8) rfl (kyM (by decide)) rfl) rfl hl.1 rfl (Nat.le_of_ble_eq_true rfl) dX8_count_81) hS (fun H locs hP hS => ?_)
  obtain ⟨rfl, rfl⟩ := o_ret2 h
  exact x_iret X hP hS dX8_count_84
set_option maxRecDepth 100000 in
set_option maxHeartbeats 4000000 in
theorem c_X8_count (l : Launch) (g : Ly) (N : Nat) (hG : XG shR g) (a0 : Int32) (t : Mm) {r : Int32} {t' : Mm} (h : f_X8_count N a0 t = some (r, t')) : MI l yX8_count cX8_count 2 (some .int) 2 shR g [.ref (g.2.2 (9, 0, 0)), .int a0] t (XQi shR g r t') := by
  refine x_met hG (by decide +kernel) (Nat.le_of_ble_eq_true rfl) ?_
  intro p e s m below meth c ls X hP hl
  have hS : va_S (XA shR g) s.heap s.heap [] := va_S.rf
  have hl : lv_has ls 2 [(0, .ref (g.2.2 (9, 0, 0))), (1, .int a0)] := hl
  unfold f_X8_count at h
  generalize ([.ref (g.2.2 (9, 0, 0)), .int a0] : List Value).toArray = args at X ⊢
  refine lv_aload_n X.1.1 X.1.2.1 dX8_count_0 rfl (lv_at hl 0 rfl) ?_
  obtain ⟨t_5, hc_6, h⟩ := o_bd_inv h
  refine x_callv (x_runV (As := []) (rest := []) X hP hS (c_X8_aside l g N X.2.2.2.2.1 t hc_6) ⟨wd_1014, wd_1011, wd_1013, wd_27, wd_62⟩ hd_X8_aside ⟨by omega, by decide⟩ (x_recv X hP (ci := 8) rfl (kyM (by decide)) rfl) rfl hl.1 rfl (Nat.le_of_ble_eq_true rfl) dX8_count_1) hS (fun H locs hP hS => ?_)
  refine lv_iload_n X.1.1 X.1.2.1 dX8_count_4 rfl (lv_at hl 1 rfl) ?_
  by_cases c_7 : a0 = 0
  · have h := o_pos c_7 h
    refine lv_tableIn (off := 47) (tgt := 52) X.1.1 X.1.2.1 dX8_count_5 (by rw [c_7]; decide) (by rw [c_7]; decide) (by rw [c_7]; rfl) (by decide) ?_
    refine lv_aload_n X.1.1 X.1.2.1 dX8_count_52 rfl (lv_at hl 0 rfl) ?_
    refine gt_X8_0 X hP (kyM (by decide)) wd_880 dX8_count_53 ?_
    obtain ⟨rfl, rfl⟩ := o_ret2 h
    exact x_iret X hP hS dX8_count_56
  · have h := o_neg c_7 h
    by_cases c_8 : a0 = 1
    · have h := o_pos c_8 h
      refine lv_tableIn (off := 52) (tgt := 57) X.1.1 X.1.2.1 dX8_count_5 (by rw [c_8]; decide) (by rw [c_8]; decide) (by rw [c_8]; rfl) (by decide) ?_
      refine lv_aload_n X.1.1 X.1.2.1 dX8_count_57 rfl (lv_at hl 0 rfl) ?_
      refine gt_X8_1 X hP (kyM (by decide)) wd_881 dX8_count_58 ?_
      obtain ⟨rfl, rfl⟩ := o_ret2 h
      exact x_iret X hP hS dX8_count_61
    · have h := o_neg c_8 h
      by_cases c_9 : a0 = 2
      · have h := o_pos c_9 h
        refine lv_tableIn (off := 57) (tgt := 62) X.1.1 X.1.2.1 dX8_count_5 (by rw [c_9]; decide) (by rw [c_9]; decide) (by rw [c_9]; rfl) (by decide) ?_
        refine lv_aload_n X.1.1 X.1.2.1 dX8_count_62 rfl (lv_at hl 0 rfl) ?_
        refine gt_X8_4 X hP (kyM (by decide)) wd_884 dX8_count_63 ?_
        refine lv_bipush (v := 29) X.1.1 X.1.2.1 dX8_count_66 (by decide) ?_
        obtain ⟨g_10, h⟩ := o_gd_inv h
        refine x_iald X hP (kyM (by decide)) (fun _ _ => rfl) g_10 dX8_count_68 ?_
        obtain ⟨rfl, rfl⟩ := o_ret2 h
        exact x_iret X hP hS dX8_count_69
      · have h := o_neg c_9 h
        by_cases c_11 : a0 = 3
        · have h := o_pos c_11 h
          refine lv_tableIn (off := 65) (tgt := 70) X.1.1 X.1.2.1 dX8_count_5 (by rw [c_11]; decide) (by rw [c_11]; decide) (by rw [c_11]; rfl) (by decide) ?_
          refine lv_aload_n X.1.1 X.1.2.1 dX8_count_70 rfl (lv_at hl 0 rfl) ?_
          refine gt_X8_4 X hP (kyM (by decide)) wd_884 dX8_count_71 ?_
          refine lv_iconst (v := 0) X.1.1 X.1.2.1 dX8_count_74 (by decide) ?_
          obtain ⟨g_12, h⟩ := o_gd_inv h
          refine x_iald X hP (kyM (by decide)) (fun _ _ => rfl) g_12 dX8_count_75 ?_
          obtain ⟨rfl, rfl⟩ := o_ret2 h
          exact x_iret X hP hS dX8_count_76
        · have h := o_neg c_11 h
          by_cases c_13 : a0 = 4
          · have h := o_pos c_13 h
            refine lv_tableIn (off := 72) (tgt := 77) X.1.1 X.1.2.1 dX8_count_5 (by rw [c_13]; decide) (by rw [c_13]; decide) (by rw [c_13]; rfl) (by decide) ?_
            exact w_X8_count_77 N X a0 t_5 _ _ _ hP hS (lv_sub hl [0, 1] rfl) h
          · have h := o_neg c_13 h
            by_cases c_14 : a0 = 5
            · have h := o_pos c_14 h
              refine lv_tableIn (off := 72) (tgt := 77) X.1.1 X.1.2.1 dX8_count_5 (by rw [c_14]; decide) (by rw [c_14]; decide) (by rw [c_14]; rfl) (by decide) ?_
              exact w_X8_count_77 N X a0 t_5 _ _ _ hP hS (lv_sub hl [0, 1] rfl) h
            · have h := o_neg c_14 h
              by_cases c_15 : a0 = 6
              · have h := o_pos c_15 h
                refine lv_tableIn (off := 72) (tgt := 77) X.1.1 X.1.2.1 dX8_count_5 (by rw [c_15]; decide) (by rw [c_15]; decide) (by rw [c_15]; rfl) (by decide) ?_
                exact w_X8_count_77 N X a0 t_5 _ _ _ hP hS (lv_sub hl [0, 1] rfl) h
              · have h := o_neg c_15 h
                by_cases c_16 : a0 = 7
                · have h := o_pos c_16 h
                  refine lv_tableIn (off := 80) (tgt := 85) X.1.1 X.1.2.1 dX8_count_5 (by rw [c_16]; decide) (by rw [c_16]; decide) (by rw [c_16]; rfl) (by decide) ?_
                  refine lv_aload_n X.1.1 X.1.2.1 dX8_count_85 rfl (lv_at hl 0 rfl) ?_
                  refine gt_X8_7 X hP (kyM (by decide)) wd_887 dX8_count_86 ?_
                  obtain ⟨rfl, rfl⟩ := o_ret2 h
                  exact x_iret X hP hS dX8_count_89
                · have h := o_neg c_16 h
                  have qc_7 := x_ne (n := 0) c_7 (by decide)
                  have qc_8 := x_ne (n := 1) c_8 (by decide)
                  have qc_9 := x_ne (n := 2) c_9 (by decide)
                  have qc_11 := x_ne (n := 3) c_11 (by decide)
                  have qc_13 := x_ne (n := 4) c_13 (by decide)
                  have qc_14 := x_ne (n := 5) c_14 (by decide)
                  have qc_15 := x_ne (n := 6) c_15 (by decide)
                  have qc_16 := x_ne (n := 7) c_16 (by decide)
                  refine lv_tableOut (tgt := 90) X.1.1 X.1.2.1 dX8_count_5 (by omega) (by decide) ?_
                  refine lv_iconst (v := (-1)) X.1.1 X.1.2.1 dX8_count_90 (by decide) ?_
                  obtain ⟨rfl, rfl⟩ := o_ret2 h
                  exact x_iret X hP hS dX8_count_91
def b_X8_note_51 (N : Nat) (k51 : Int32 × Mm → Option (Mm)) (x1 : Int32) (t : Mm) : Option (Mm) := if 31 ≤ x1 then (o_nm (sI t 9 0 0 7 ((t.1 9 0 0 7) + 1)) fun t_2 => some t_2) else (if o_inb x1 31 = true then (if o_inb ((31 * (t.1 9 0 0 7)) + x1) 248 = true then (o_nm (sI t 9 0 6 (((31 * (t.1 9 0 0 7)) + x1).toNatClampNeg) (t.1 9 0 4 (x1.toNatClampNeg))) fun t_6 => k51 ((x1 + 1), t_6)) else none) else none)
def f_X8_note_51 (N : Nat) (x1 : Int32) (t : Mm) : Option (Mm) := o_lp (fun k x => b_X8_note_51 N k x.1 x.2) N (x1, t)
def f_X8_note_49 (N : Nat) (t : Mm) : Option (Mm) := f_X8_note_51 N 0 t
def b_X8_note_11 (N : Nat) (k11 : Int32 × Mm → Option (Mm)) (x1 : Int32) (t : Mm) : Option (Mm) := if 217 ≤ x1 then (o_nm (sI t 9 0 0 7 ((t.1 9 0 0 7) - 1)) fun t_9 => f_X8_note_49 N t_9) else (if o_inb (31 + x1) 248 = true then (if o_inb x1 248 = true then (o_nm (sI t 9 0 6 (x1.toNatClampNeg) (t.1 9 0 6 ((31 + x1).toNatClampNeg))) fun t_13 => k11 ((x1 + 1), t_13)) else none) else none)
def f_X8_note_11 (N : Nat) (x1 : Int32) (t : Mm) : Option (Mm) := o_lp (fun k x => b_X8_note_11 N k x.1 x.2) N (x1, t)
/-- FordQuestionsModel.note()V -/
def f_X8_note (N : Nat) (t : Mm) : Option (Mm) := if (t.1 9 0 0 7) = 8 then (f_X8_note_11 N 0 t) else (f_X8_note_49 N t)
theorem hd_X8_note : x_hd yX8_note 0 := by decide +kernel
set_option maxRecDepth 100000 in
set_option maxHeartbeats 4000000 in
theorem wb_X8_note_51 {l : Launch} {g : Ly} {p : Program} {e : Env} {s : State} {m : MethodId} {args : Array Value} {below : List Frame} {meth : Method} {c : Code} (N : Nat) (X : XC p m meth c cX8_note 2 s args (.code yX8_note cX8_note 2 none) RX8 none shR g) {t' : Mm} {k51 : Int32 × Mm → Option (Mm)} (hk51 : ∀ x : Int32 × Mm, k51 x = some t' → ∀ (H : Heap) (locs : List Loc) (ls : Array Slot), XP shR g x.2 H → va_S (XA shR g) s.heap H locs → lv_has ls 2 [(0, .ref (g.2.2 (9, 0, 0))), (1, .int x.1)] → W p l e (rmv 1) s m args below meth c H locs 0 0 (MQ below (XQv shR g t') args s 0 0 (XA shR g)) (F0 m 51 ls [])) (x1 : Int32) (t : Mm) (H : Heap) (locs : List Loc) (ls : Array Slot) (hP : XP shR g t H) (hS : va_S (XA shR g) s.heap H locs) (hl : lv_has ls 2 [(0, .ref (g.2.2 (9, 0, 0))), (1, .int x1)]) (h : b_X8_note_51 N k51 x1 t = some t') : W p l e (rmv 1) s m args below meth c H locs 0 0 (MQ below (XQv shR g t') args s 0 0 (XA shR g)) (F0 m 51 ls []) := by
  unfold b_X8_note_51 at h
  refine lv_iload_n X.1.1 X.1.2.1 dX8_note_51 rfl (lv_at hl 1 rfl) ?_
  refine lv_bipush (v := 31) X.1.1 X.1.2.1 dX8_note_52 (by decide) ?_
  refine lv_icmp_ge (tgt := 83) X.1.1 X.1.2.1 dX8_note_54 (by decide) (fun c_1 => ?_) (fun c_1 => ?_)
  · have h := o_pos c_1 h
    refine lv_aload_n X.1.1 X.1.2.1 dX8_note_83 rfl (lv_at hl 0 rfl) ?_
    refine lv_dup X.1.1 X.1.2.1 dX8_note_84 rfl ?_
    refine gt_X8_7 X hP (kyM (by decide)) wd_887 dX8_note_85 ?_
    refine lv_iconst (v := 1) X.1.1 X.1.2.1 dX8_note_88 (by decide) ?_
    refine lv_iadd X.1.1 X.1.2.1 dX8_note_89 ?_
    obtain ⟨t_2, e_3, h⟩ := o_nm_inv h
    refine pt_X8_7 (x := ((t.1 9 0 0 7) + 1)) X hP hS (kyM (by decide)) wd_887 dX8_note_90 (fun H locs hP hS => ?_)
    have hP : XP shR g t_2 H := by rw [e_3]; exact hP
    obtain rfl := o_ret h
    exact x_vret X hP hS dX8_note_93
  · have h := o_neg c_1 h
    refine lv_aload_n X.1.1 X.1.2.1 dX8_note_57 rfl (lv_at hl 0 rfl) ?_
    refine gt_X8_6 X hP (kyM (by decide)) wd_886 dX8_note_58 ?_
    refine lv_bipush (v := 31) X.1.1 X.1.2.1 dX8_note_61 (by decide) ?_
    refine lv_aload_n X.1.1 X.1.2.1 dX8_note_63 rfl (lv_at hl 0 rfl) ?_
    refine gt_X8_7 X hP (kyM (by decide)) wd_887 dX8_note_64 ?_
    refine lv_imul X.1.1 X.1.2.1 dX8_note_67 ?_
    refine lv_iload_n X.1.1 X.1.2.1 dX8_note_68 rfl (lv_at hl 1 rfl) ?_
    refine lv_iadd X.1.1 X.1.2.1 dX8_note_69 ?_
    refine lv_aload_n X.1.1 X.1.2.1 dX8_note_70 rfl (lv_at hl 0 rfl) ?_
    refine gt_X8_4 X hP (kyM (by decide)) wd_884 dX8_note_71 ?_
    refine lv_iload_n X.1.1 X.1.2.1 dX8_note_74 rfl (lv_at hl 1 rfl) ?_
    obtain ⟨g_4, h⟩ := o_gd_inv h
    refine x_iald X hP (kyM (by decide)) (fun _ _ => rfl) g_4 dX8_note_75 ?_
    obtain ⟨g_5, h⟩ := o_gd_inv h
    obtain ⟨t_6, e_7, h⟩ := o_nm_inv h
    refine x_iast X hP hS (kyM (by decide)) (fun _ _ => rfl) g_5 dX8_note_76 (fun H locs hP hS => ?_)
    have hP : XP shR g t_6 H := by rw [e_7]; exact hP
    refine lv_iinc (v := (x1 + 1)) (lv' := [(1, .int (x1 + 1)), (0, .ref (g.2.2 (9, 0, 0)))]) X.1.1 X.1.2.1 dX8_note_77 hl (k := 1) rfl rfl (by decide) rfl (fun ls hl => ?_)
    refine lv_goto (tgt := 51) X.1.1 X.1.2.1 dX8_note_80 (by decide) ?_
    exact hk51 ((x1 + 1), t_6) h _ _ _ hP hS (lv_sub hl [1, 0] rfl)
set_option maxRecDepth 100000 in
set_option maxHeartbeats 4000000 in
theorem w_X8_note_51 {l : Launch} {g : Ly} {p : Program} {e : Env} {s : State} {m : MethodId} {args : Array Value} {below : List Frame} {meth : Method} {c : Code} (N : Nat) (X : XC p m meth c cX8_note 2 s args (.code yX8_note cX8_note 2 none) RX8 none shR g) {t' : Mm} (x1 : Int32) (t : Mm) (H : Heap) (locs : List Loc) (ls : Array Slot) (hP : XP shR g t H) (hS : va_S (XA shR g) s.heap H locs) (hl : lv_has ls 2 [(0, .ref (g.2.2 (9, 0, 0))), (1, .int x1)]) (h : f_X8_note_51 N x1 t = some t') : W p l e (rmv 1) s m args below meth c H locs 0 0 (MQ below (XQv shR g t') args s 0 0 (XA shR g)) (F0 m 51 ls []) :=
  o_lp_ind (P := fun x : Int32 × Mm => ∀ (H : Heap) (locs : List Loc) (ls : Array Slot), XP shR g x.2 H → va_S (XA shR g) s.heap H locs → lv_has ls 2 [(0, .ref (g.2.2 (9, 0, 0))), (1, .int x.1)] → W p l e (rmv 1) s m args below meth c H locs 0 0 (MQ below (XQv shR g t') args s 0 0 (XA shR g)) (F0 m 51 ls [])) (fun k hk x h H locs ls hP hS hl => wb_X8_note_51 N X hk x.1 x.2 H locs ls hP hS hl h) N (x1, t) h H locs ls hP hS hl
set_option maxRecDepth 100000 in
set_option maxHeartbeats 4000000 in
theorem w_X8_note_49 {l : Launch} {g : Ly} {p : Program} {e : Env} {s : State} {m : MethodId} {args : Array Value} {below : List Frame} {meth : Method} {c : Code} (N : Nat) (X : XC p m meth c cX8_note 2 s args (.code yX8_note cX8_note 2 none) RX8 none shR g) {t' : Mm} (t : Mm) (H : Heap) (locs : List Loc) (ls : Array Slot) (hP : XP shR g t H) (hS : va_S (XA shR g) s.heap H locs) (hl : lv_has ls 2 [(0, .ref (g.2.2 (9, 0, 0)))]) (h : f_X8_note_49 N t = some t') : W p l e (rmv 1) s m args below meth c H locs 0 0 (MQ below (XQv shR g t') args s 0 0 (XA shR g)) (F0 m 49 ls []) := by
  unfold f_X8_note_49 at h
  refine lv_iconst (v := 0) X.1.1 X.1.2.1 dX8_note_49 (by decide) ?_
  refine lv_istore_n (lv' := [(1, .int 0), (0, .ref (g.2.2 (9, 0, 0)))]) X.1.1 X.1.2.1 dX8_note_50 rfl hl (by decide) rfl (fun ls hl => ?_)
  exact w_X8_note_51 N X 0 t _ _ _ hP hS (lv_sub hl [1, 0] rfl) h
set_option maxRecDepth 100000 in
set_option maxHeartbeats 4000000 in
theorem wb_X8_note_11 {l : Launch} {g : Ly} {p : Program} {e : Env} {s : State} {m : MethodId} {args : Array Value} {below : List Frame} {meth : Method} {c : Code} (N : Nat) (X : XC p m meth c cX8_note 2 s args (.code yX8_note cX8_note 2 none) RX8 none shR g) {t' : Mm} {k11 : Int32 × Mm → Option (Mm)} (hk11 : ∀ x : Int32 × Mm, k11 x = some t' → ∀ (H : Heap) (locs : List Loc) (ls : Array Slot), XP shR g x.2 H → va_S (XA shR g) s.heap H locs → lv_has ls 2 [(0, .ref (g.2.2 (9, 0, 0))), (1, .int x.1)] → W p l e (rmv 1) s m args below meth c H locs 0 0 (MQ below (XQv shR g t') args s 0 0 (XA shR g)) (F0 m 11 ls [])) (x1 : Int32) (t : Mm) (H : Heap) (locs : List Loc) (ls : Array Slot) (hP : XP shR g t H) (hS : va_S (XA shR g) s.heap H locs) (hl : lv_has ls 2 [(0, .ref (g.2.2 (9, 0, 0))), (1, .int x1)]) (h : b_X8_note_11 N k11 x1 t = some t') : W p l e (rmv 1) s m args below meth c H locs 0 0 (MQ below (XQv shR g t') args s 0 0 (XA shR g)) (F0 m 11 ls []) := by
  unfold b_X8_note_11 at h
  refine lv_iload_n X.1.1 X.1.2.1 dX8_note_11 rfl (lv_at hl 1 rfl) ?_
  refine lv_sipush (v := 217) X.1.1 X.1.2.1 dX8_note_12 (by decide) ?_
  refine lv_icmp_ge (tgt := 39) X.1.1 X.1.2.1 dX8_note_15 (by decide) (fun c_8 => ?_) (fun c_8 => ?_)
  · have h := o_pos c_8 h
    refine lv_aload_n X.1.1 X.1.2.1 dX8_note_39 rfl (lv_at hl 0 rfl) ?_
    refine lv_dup X.1.1 X.1.2.1 dX8_note_40 rfl ?_
    refine gt_X8_7 X hP (kyM (by decide)) wd_887 dX8_note_41 ?_
    refine lv_iconst (v := 1) X.1.1 X.1.2.1 dX8_note_44 (by decide) ?_
    refine lv_isub X.1.1 X.1.2.1 dX8_note_45 ?_
    obtain ⟨t_9, e_10, h⟩ := o_nm_inv h
    refine pt_X8_7 (x := ((t.1 9 0 0 7) - 1)) X hP hS (kyM (by decide)) wd_887 dX8_note_46 (fun H locs hP hS => ?_)
    have hP : XP shR g t_9 H := by rw [e_10]; exact hP
    exact w_X8_note_49 N X t_9 _ _ _ hP hS (lv_sub hl [0] rfl) h
  · have h := o_neg c_8 h
    refine lv_aload_n X.1.1 X.1.2.1 dX8_note_18 rfl (lv_at hl 0 rfl) ?_
    refine gt_X8_6 X hP (kyM (by decide)) wd_886 dX8_note_19 ?_
    refine lv_iload_n X.1.1 X.1.2.1 dX8_note_22 rfl (lv_at hl 1 rfl) ?_
    refine lv_aload_n X.1.1 X.1.2.1 dX8_note_23 rfl (lv_at hl 0 rfl) ?_
    refine gt_X8_6 X hP (kyM (by decide)) wd_886 dX8_note_24 ?_
    refine lv_bipush (v := 31) X.1.1 X.1.2.1 dX8_note_27 (by decide) ?_
    refine lv_iload_n X.1.1 X.1.2.1 dX8_note_29 rfl (lv_at hl 1 rfl) ?_
    refine lv_iadd X.1.1 X.1.2.1 dX8_note_30 ?_
    obtain ⟨g_11, h⟩ := o_gd_inv h
    refine x_iald X hP (kyM (by decide)) (fun _ _ => rfl) g_11 dX8_note_31 ?_
    obtain ⟨g_12, h⟩ := o_gd_inv h
    obtain ⟨t_13, e_14, h⟩ := o_nm_inv h
    refine x_iast X hP hS (kyM (by decide)) (fun _ _ => rfl) g_12 dX8_note_32 (fun H locs hP hS => ?_)
    have hP : XP shR g t_13 H := by rw [e_14]; exact hP
    refine lv_iinc (v := (x1 + 1)) (lv' := [(1, .int (x1 + 1)), (0, .ref (g.2.2 (9, 0, 0)))]) X.1.1 X.1.2.1 dX8_note_33 hl (k := 1) rfl rfl (by decide) rfl (fun ls hl => ?_)
    refine lv_goto (tgt := 11) X.1.1 X.1.2.1 dX8_note_36 (by decide) ?_
    exact hk11 ((x1 + 1), t_13) h _ _ _ hP hS (lv_sub hl [1, 0] rfl)
set_option maxRecDepth 100000 in
set_option maxHeartbeats 4000000 in
theorem w_X8_note_11 {l : Launch} {g : Ly} {p : Program} {e : Env} {s : State} {m : MethodId} {args : Array Value} {below : List Frame} {meth : Method} {c : Code} (N : Nat) (X : XC p m meth c cX8_note 2 s args (.code yX8_note cX8_note 2 none) RX8 none shR g) {t' : Mm} (x1 : Int32) (t : Mm) (H : Heap) (locs : List Loc) (ls : Array Slot) (hP : XP shR g t H) (hS : va_S (XA shR g) s.heap H locs) (hl : lv_has ls 2 [(0, .ref (g.2.2 (9, 0, 0))), (1, .int x1)]) (h : f_X8_note_11 N x1 t = some t') : W p l e (rmv 1) s m args below meth c H locs 0 0 (MQ below (XQv shR g t') args s 0 0 (XA shR g)) (F0 m 11 ls []) :=
  o_lp_ind (P := fun x : Int32 × Mm => ∀ (H : Heap) (locs : List Loc) (ls : Array Slot), XP shR g x.2 H → va_S (XA shR g) s.heap H locs → lv_has ls 2 [(0, .ref (g.2.2 (9, 0, 0))), (1, .int x.1)] → W p l e (rmv 1) s m args below meth c H locs 0 0 (MQ below (XQv shR g t') args s 0 0 (XA shR g)) (F0 m 11 ls [])) (fun k hk x h H locs ls hP hS hl => wb_X8_note_11 N X hk x.1 x.2 H locs ls hP hS hl h) N (x1, t) h H locs ls hP hS hl
set_option maxRecDepth 100000 in
set_option maxHeartbeats 4000000 in
theorem c_X8_note (l : Launch) (g : Ly) (N : Nat) (hG : XG shR g) (t : Mm) {t' : Mm} (h : f_X8_note N t = some t') : MI l yX8_note cX8_note 2 none 1 shR g [.ref (g.2.2 (9, 0, 0))] t (XQv shR g t') := by
  refine x_met hG (by decide +kernel) (Nat.le_of_ble_eq_true rfl) ?_
  intro p e s m below meth c ls X hP hl
  have hS : va_S (XA shR g) s.heap s.heap [] := va_S.rf
  have hl : lv_has ls 2 [(0, .ref (g.2.2 (9, 0, 0)))] := hl
  unfold f_X8_note at h
  generalize ([.ref (g.2.2 (9, 0, 0))] : List Value).toArray = args at X ⊢
  refine lv_aload_n X.1.1 X.1.2.1 dX8_note_0 rfl (lv_at hl 0 rfl) ?_
  refine gt_X8_7 X hP (kyM (by decide)) wd_887 dX8_note_1 ?_
  refine lv_bipush (v := 8) X.1.1 X.1.2.1 dX8_note_4 (by decide) ?_
  refine lv_icmp_ne (tgt := 49) X.1.1 X.1.2.1 dX8_note_6 (by decide) (fun c_15 => ?_) (fun c_15 => ?_)
  · have h := o_neg c_15 h
    exact w_X8_note_49 N X t _ _ _ hP hS (lv_sub hl [0] rfl) h
  · have h := o_pos c_15 h
    refine lv_iconst (v := 0) X.1.1 X.1.2.1 dX8_note_9 (by decide) ?_
    refine lv_istore_n (lv' := [(1, .int 0), (0, .ref (g.2.2 (9, 0, 0)))]) X.1.1 X.1.2.1 dX8_note_10 rfl hl (by decide) rfl (fun ls hl => ?_)
    exact w_X8_note_11 N X 0 t _ _ _ hP hS (lv_sub hl [1, 0] rfl) h
def b_X8_hours_34 (N : Nat) (k34 : Int32 × Int32 × Mm → Option (Int32 × Mm)) (x1 : Int32) (x2 : Int32) (t : Mm) : Option (Int32 × Mm) := if x1 ≤ x2 then (o_bd (f_X8_placed N 2 t) fun (r_4, t_2) => some (r_4, t_2)) else (o_bd (f_X8_note N t) fun t_6 => o_bd (f_X8_aside N t_6) fun t_8 => o_bd (f_X8_goHour N t_8) fun t_10 => o_bd (f_X8_take N t_10) fun t_12 => k34 (x1, (x2 + 1), t_12))
def f_X8_hours_34 (N : Nat) (x1 : Int32) (x2 : Int32) (t : Mm) : Option (Int32 × Mm) := o_lp (fun k x => b_X8_hours_34 N k x.1 x.2.1 x.2.2) N (x1, x2, t)
/-- FordQuestionsModel.hours(I)I -/
def f_X8_hours (N : Nat) (a0 : Int32) (t : Mm) : Option (Int32 × Mm) := o_bd (f_X8_in (a0.toInt64) 1 40 t) fun (r_16, t_14) => if r_16 = 0 then (some ((-1), t_14)) else (if o_inb 29 31 = true then (if ((t_14.1 9 0 4 (Int32.toNatClampNeg 29)) + a0) ≤ 9999 then (f_X8_hours_34 N a0 0 t_14) else (some ((-3), t_14))) else none)
theorem hd_X8_hours : x_hd yX8_hours 1 := by decide +kernel
set_option maxRecDepth 100000 in
set_option maxHeartbeats 4000000 in
theorem wb_X8_hours_34 {l : Launch} {g : Ly} {p : Program} {e : Env} {s : State} {m : MethodId} {args : Array Value} {below : List Frame} {meth : Method} {c : Code} (N : Nat) (X : XC p m meth c cX8_hours 3 s args (.code yX8_hours cX8_hours 3 (some .int)) RX8 (some .int) shR g) {r : Int32} {t' : Mm} {k34 : Int32 × Int32 × Mm → Option (Int32 × Mm)} (hk34 : ∀ x : Int32 × Int32 × Mm, k34 x = some (r, t') → ∀ (H : Heap) (locs : List Loc) (ls : Array Slot), XP shR g x.2.2 H → va_S (XA shR g) s.heap H locs → lv_has ls 3 [(0, .ref (g.2.2 (9, 0, 0))), (1, .int x.1), (2, .int x.2.1)] → W p l e (rmv 5) s m args below meth c H locs 0 0 (MQ below (XQi shR g r t') args s 0 0 (XA shR g)) (F0 m 34 ls [])) (x1 : Int32) (x2 : Int32) (t : Mm) (H : Heap) (locs : List Loc) (ls : Array Slot) (hP : XP shR g t H) (hS : va_S (XA shR g) s.heap H locs) (hl : lv_has ls 3 [(0, .ref (g.2.2 (9, 0, 0))), (1, .int x1), (2, .int x2)]) (h : b_X8_hours_34 N k34 x1 x2 t = some (r, t')) : W p l e (rmv 5) s m args below meth c H locs 0 0 (MQ below (XQi shR g r t') args s 0 0 (XA shR g)) (F0 m 34 ls []) := by
  unfold b_X8_hours_34 at h
  refine lv_iload_n X.1.1 X.1.2.1 dX8_hours_34 rfl (lv_at hl 2 rfl) ?_
  refine lv_iload_n X.1.1 X.1.2.1 dX8_hours_35 rfl (lv_at hl 1 rfl) ?_
  refine lv_icmp_ge (tgt := 61) X.1.1 X.1.2.1 dX8_hours_36 (by decide) (fun c_1 => ?_) (fun c_1 => ?_)
  · have h := o_pos c_1 h
    refine lv_aload_n X.1.1 X.1.2.1 dX8_hours_61 rfl (lv_at hl 0 rfl) ?_
    refine lv_iconst (v := 2) X.1.1 X.1.2.1 dX8_hours_62 (by decide) ?_
    obtain ⟨⟨r_4, t_2⟩, hc_3, h⟩ := o_bd_inv h
    refine x_calli (x_runV (As := [.int 2]) (rest := []) X hP hS (c_X8_placed l g N X.2.2.2.2.1 2 t hc_3) ⟨wd_1081, wd_1078, wd_1080, wd_36, wd_62⟩ hd_X8_placed ⟨by omega, by decide⟩ (x_recv X hP (ci := 8) rfl (kyM (by decide)) rfl) rfl hl.1 rfl (Nat.le_of_ble_eq_true rfl) dX8_hours_63) hS (fun H locs hP hS => ?_)
    obtain ⟨rfl, rfl⟩ := o_ret2 h
    exact x_iret X hP hS dX8_hours_66
  · have h := o_neg c_1 h
    refine lv_aload_n X.1.1 X.1.2.1 dX8_hours_39 rfl (lv_at hl 0 rfl) ?_
    obtain ⟨t_6, hc_7, h⟩ := o_bd_inv h
    refine x_callv (x_runV (As := []) (rest := []) X hP hS (c_X8_note l g N X.2.2.2.2.1 t hc_7) ⟨wd_1089, wd_1086, wd_1088, wd_37, wd_62⟩ hd_X8_note ⟨by omega, by decide⟩ (x_recv X hP (ci := 8) rfl (kyM (by decide)) rfl) rfl hl.1 rfl (Nat.le_of_ble_eq_true rfl) dX8_hours_40) hS (fun H locs hP hS => ?_)
    refine lv_aload_n X.1.1 X.1.2.1 dX8_hours_43 rfl (lv_at hl 0 rfl) ?_
    obtain ⟨t_8, hc_9, h⟩ := o_bd_inv h
    refine x_callv (x_runV (As := []) (rest := []) X hP hS (c_X8_aside l g N X.2.2.2.2.1 t_6 hc_9) ⟨wd_1014, wd_1011, wd_1013, wd_27, wd_62⟩ hd_X8_aside ⟨by omega, by decide⟩ (x_recv X hP (ci := 8) rfl (kyM (by decide)) rfl) rfl hl.1 rfl (Nat.le_of_ble_eq_true rfl) dX8_hours_44) hS (fun H locs hP hS => ?_)
    refine lv_aload_n X.1.1 X.1.2.1 dX8_hours_47 rfl (lv_at hl 0 rfl) ?_
    obtain ⟨t_10, hc_11, h⟩ := o_bd_inv h
    refine x_callv (x_runV (As := []) (rest := []) X hP hS (c_X8_goHour l g N X.2.2.2.2.1 t_8 hc_11) ⟨wd_1093, wd_1090, wd_1092, wd_38, wd_62⟩ hd_X8_goHour ⟨by omega, by decide⟩ (x_recv X hP (ci := 8) rfl (kyM (by decide)) rfl) rfl hl.1 rfl (Nat.le_of_ble_eq_true rfl) dX8_hours_48) hS (fun H locs hP hS => ?_)
    refine lv_aload_n X.1.1 X.1.2.1 dX8_hours_51 rfl (lv_at hl 0 rfl) ?_
    obtain ⟨t_12, hc_13, h⟩ := o_bd_inv h
    refine x_callv (x_runV (As := []) (rest := []) X hP hS (c_X8_take l g N X.2.2.2.2.1 t_10 hc_13) ⟨wd_1105, wd_1102, wd_1104, wd_41, wd_62⟩ hd_X8_take ⟨by omega, by decide⟩ (x_recv X hP (ci := 8) rfl (kyM (by decide)) rfl) rfl hl.1 rfl (Nat.le_of_ble_eq_true rfl) dX8_hours_52) hS (fun H locs hP hS => ?_)
    refine lv_iinc (v := (x2 + 1)) (lv' := [(2, .int (x2 + 1)), (0, .ref (g.2.2 (9, 0, 0))), (1, .int x1)]) X.1.1 X.1.2.1 dX8_hours_55 hl (k := 2) rfl rfl (by decide) rfl (fun ls hl => ?_)
    refine lv_goto (tgt := 34) X.1.1 X.1.2.1 dX8_hours_58 (by decide) ?_
    exact hk34 (x1, (x2 + 1), t_12) h _ _ _ hP hS (lv_sub hl [1, 2, 0] rfl)
set_option maxRecDepth 100000 in
set_option maxHeartbeats 4000000 in
theorem w_X8_hours_34 {l : Launch} {g : Ly} {p : Program} {e : Env} {s : State} {m : MethodId} {args : Array Value} {below : List Frame} {meth : Method} {c : Code} (N : Nat) (X : XC p m meth c cX8_hours 3 s args (.code yX8_hours cX8_hours 3 (some .int)) RX8 (some .int) shR g) {r : Int32} {t' : Mm} (x1 : Int32) (x2 : Int32) (t : Mm) (H : Heap) (locs : List Loc) (ls : Array Slot) (hP : XP shR g t H) (hS : va_S (XA shR g) s.heap H locs) (hl : lv_has ls 3 [(0, .ref (g.2.2 (9, 0, 0))), (1, .int x1), (2, .int x2)]) (h : f_X8_hours_34 N x1 x2 t = some (r, t')) : W p l e (rmv 5) s m args below meth c H locs 0 0 (MQ below (XQi shR g r t') args s 0 0 (XA shR g)) (F0 m 34 ls []) :=
  o_lp_ind (P := fun x : Int32 × Int32 × Mm => ∀ (H : Heap) (locs : List Loc) (ls : Array Slot), XP shR g x.2.2 H → va_S (XA shR g) s.heap H locs → lv_has ls 3 [(0, .ref (g.2.2 (9, 0, 0))), (1, .int x.1), (2, .int x.2.1)] → W p l e (rmv 5) s m args below meth c H locs 0 0 (MQ below (XQi shR g r t') args s 0 0 (XA shR g)) (F0 m 34 ls [])) (fun k hk x h H locs ls hP hS hl => wb_X8_hours_34 N X hk x.1 x.2.1 x.2.2 H locs ls hP hS hl h) N (x1, x2, t) h H locs ls hP hS hl
set_option maxRecDepth 100000 in
set_option maxHeartbeats 4000000 in
theorem c_X8_hours (l : Launch) (g : Ly) (N : Nat) (hG : XG shR g) (a0 : Int32) (t : Mm) {r : Int32} {t' : Mm} (h : f_X8_hours N a0 t = some (r, t')) : MI l yX8_hours cX8_hours 3 (some .int) 5 shR g [.ref (g.2.2 (9, 0, 0)), .int a0] t (XQi shR g r t') := by
  refine x_met hG (by decide +kernel) (Nat.le_of_ble_eq_true rfl) ?_
  intro p e s m below meth c ls X hP hl
  have hS : va_S (XA shR g) s.heap s.heap [] := va_S.rf
  have hl : lv_has ls 3 [(0, .ref (g.2.2 (9, 0, 0))), (1, .int a0)] := hl
  unfold f_X8_hours at h
  generalize ([.ref (g.2.2 (9, 0, 0)), .int a0] : List Value).toArray = args at X ⊢
  refine lv_iload_n X.1.1 X.1.2.1 dX8_hours_0 rfl (lv_at hl 1 rfl) ?_
  refine lv_i2l (v := (a0.toInt64)) X.1.1 X.1.2.1 dX8_hours_1 rfl ?_
  refine lv_lconst (v := 1) X.1.1 X.1.2.1 dX8_hours_2 (by decide) ?_
  refine lv_ldc2 (v := 40) X.1.1 X.1.2.1 X.1.2.2.2.1 (X.1.2.2.2.2 _ (List.mem_cons_of_mem _ wd_989)) dX8_hours_3 ?_
  obtain ⟨⟨r_16, t_14⟩, hc_15, h⟩ := o_bd_inv h
  refine x_calli (x_runS (As := [.long (a0.toInt64), .long 1, .long 40]) (rest := []) X hP hS (c_X8_in l g X.2.2.2.2.1 (a0.toInt64) 1 40 t hc_15) ⟨wd_981, wd_979, wd_980, wd_62⟩ hd_X8_in ⟨by omega, by decide⟩ rfl hl.1 rfl (Nat.le_of_ble_eq_true rfl) dX8_hours_6) hS (fun H locs hP hS => ?_)
  refine lv_if_ne (tgt := 14) X.1.1 X.1.2.1 dX8_hours_9 (by decide) (fun c_18 => ?_) (fun c_18 => ?_)
  · have h := o_neg c_18 h
    refine lv_aload_n X.1.1 X.1.2.1 dX8_hours_14 rfl (lv_at hl 0 rfl) ?_
    refine gt_X8_4 X hP (kyM (by decide)) wd_884 dX8_hours_15 ?_
    refine lv_bipush (v := 29) X.1.1 X.1.2.1 dX8_hours_18 (by decide) ?_
    obtain ⟨g_19, h⟩ := o_gd_inv h
    refine x_iald X hP (kyM (by decide)) (fun _ _ => rfl) g_19 dX8_hours_20 ?_
    refine lv_iload_n X.1.1 X.1.2.1 dX8_hours_21 rfl (lv_at hl 1 rfl) ?_
    refine lv_iadd X.1.1 X.1.2.1 dX8_hours_22 ?_
    refine lv_sipush (v := 9999) X.1.1 X.1.2.1 dX8_hours_23 (by decide) ?_
    refine lv_icmp_le (tgt := 32) X.1.1 X.1.2.1 dX8_hours_26 (by decide) (fun c_20 => ?_) (fun c_20 => ?_)
    · have h := o_pos c_20 h
      refine lv_iconst (v := 0) X.1.1 X.1.2.1 dX8_hours_32 (by decide) ?_
      refine lv_istore_n (lv' := [(2, .int 0), (0, .ref (g.2.2 (9, 0, 0))), (1, .int a0)]) X.1.1 X.1.2.1 dX8_hours_33 rfl hl (by decide) rfl (fun ls hl => ?_)
      exact w_X8_hours_34 N X a0 0 t_14 _ _ _ hP hS (lv_sub hl [1, 2, 0] rfl) h
    · have h := o_neg c_20 h
      refine lv_bipush (v := (-3)) X.1.1 X.1.2.1 dX8_hours_29 (by decide) ?_
      obtain ⟨rfl, rfl⟩ := o_ret2 h
      exact x_iret X hP hS dX8_hours_31
  · have h := o_pos c_18 h
    refine lv_iconst (v := (-1)) X.1.1 X.1.2.1 dX8_hours_12 (by decide) ?_
    obtain ⟨rfl, rfl⟩ := o_ret2 h
    exact x_iret X hP hS dX8_hours_13
/-- FordQuestionsModel.teach(II)I -/
def f_X8_teach (N : Nat) (a0 : Int32) (a1 : Int32) (t : Mm) : Option (Int32 × Mm) := o_bd (f_X8_isCrosser a0 t) fun (r_3, t_1) => if r_3 = 0 then (some ((-1), t_1)) else (o_bd (f_X8_in (a1.toInt64) 0 7 t_1) fun (r_8, t_6) => if r_8 = 0 then (some ((-1), t_6)) else (if o_inb (9 + a0) 31 = true then (o_bd (f_X8_has (t_6.1 9 0 4 ((9 + a0).toNatClampNeg)) a1 t_6) fun (r_14, t_12) => if r_14 = 0 then (o_bd (f_X8_note N t_12) fun t_17 => if o_inb (9 + a0) 31 = true then (if o_inb (9 + a0) 31 = true then (o_nm (sI t_17 9 0 4 ((9 + a0).toNatClampNeg) ((t_17.1 9 0 4 ((9 + a0).toNatClampNeg)) ||| (1 <<< (a1 &&& 31)))) fun t_21 => if o_inb (9 + a0) 31 = true then (some ((t_21.1 9 0 4 ((9 + a0).toNatClampNeg)), t_21)) else none) else none) else none) else (some ((-2), t_12))) else none))
theorem hd_X8_teach : x_hd yX8_teach 2 := by decide +kernel
set_option maxRecDepth 100000 in
set_option maxHeartbeats 4000000 in
theorem c_X8_teach (l : Launch) (g : Ly) (N : Nat) (hG : XG shR g) (a0 : Int32) (a1 : Int32) (t : Mm) {r : Int32} {t' : Mm} (h : f_X8_teach N a0 a1 t = some (r, t')) : MI l yX8_teach cX8_teach 3 (some .int) 3 shR g [.ref (g.2.2 (9, 0, 0)), .int a0, .int a1] t (XQi shR g r t') := by
  refine x_met hG (by decide +kernel) (Nat.le_of_ble_eq_true rfl) ?_
  intro p e s m below meth c ls X hP hl
  have hS : va_S (XA shR g) s.heap s.heap [] := va_S.rf
  have hl : lv_has ls 3 [(0, .ref (g.2.2 (9, 0, 0))), (1, .int a0), (2, .int a1)] := hl
  unfold f_X8_teach at h
  generalize ([.ref (g.2.2 (9, 0, 0)), .int a0, .int a1] : List Value).toArray = args at X ⊢
  refine lv_aload_n X.1.1 X.1.2.1 dX8_teach_0 rfl (lv_at hl 0 rfl) ?_
  refine lv_iload_n X.1.1 X.1.2.1 dX8_teach_1 rfl (lv_at hl 1 rfl) ?_
  obtain ⟨⟨r_3, t_1⟩, hc_2, h⟩ := o_bd_inv h
  refine x_calli (x_runV (As := [.int a0]) (rest := []) X hP hS (c_X8_isCrosser l g X.2.2.2.2.1 a0 t hc_2) ⟨wd_1006, wd_1003, wd_1005, wd_26, wd_62⟩ hd_X8_isCrosser ⟨by omega, by decide⟩ (x_recv X hP (ci := 8) rfl (kyM (by decide)) rfl) rfl hl.1 rfl (Nat.le_of_ble_eq_true rfl) dX8_teach_2) hS (fun H locs hP hS => ?_)
  refine lv_if_eq (tgt := 20) X.1.1 X.1.2.1 dX8_teach_5 (by decide) (fun c_5 => ?_) (fun c_5 => ?_)
  · have h := o_pos c_5 h
    refine lv_iconst (v := (-1)) X.1.1 X.1.2.1 dX8_teach_20 (by decide) ?_
    obtain ⟨rfl, rfl⟩ := o_ret2 h
    exact x_iret X hP hS dX8_teach_21
  · have h := o_neg c_5 h
    refine lv_iload_n X.1.1 X.1.2.1 dX8_teach_8 rfl (lv_at hl 2 rfl) ?_
    refine lv_i2l (v := (a1.toInt64)) X.1.1 X.1.2.1 dX8_teach_9 rfl ?_
    refine lv_lconst (v := 0) X.1.1 X.1.2.1 dX8_teach_10 (by decide) ?_
    refine lv_ldc2 (v := 7) X.1.1 X.1.2.1 X.1.2.2.2.1 (X.1.2.2.2.2 _ (List.mem_cons_of_mem _ wd_978)) dX8_teach_11 ?_
    obtain ⟨⟨r_8, t_6⟩, hc_7, h⟩ := o_bd_inv h
    refine x_calli (x_runS (As := [.long (a1.toInt64), .long 0, .long 7]) (rest := []) X hP hS (c_X8_in l g X.2.2.2.2.1 (a1.toInt64) 0 7 t_1 hc_7) ⟨wd_981, wd_979, wd_980, wd_62⟩ hd_X8_in ⟨by omega, by decide⟩ rfl hl.1 rfl (Nat.le_of_ble_eq_true rfl) dX8_teach_14) hS (fun H locs hP hS => ?_)
    refine lv_if_ne (tgt := 22) X.1.1 X.1.2.1 dX8_teach_17 (by decide) (fun c_10 => ?_) (fun c_10 => ?_)
    · have h := o_neg c_10 h
      refine lv_aload_n X.1.1 X.1.2.1 dX8_teach_22 rfl (lv_at hl 0 rfl) ?_
      refine gt_X8_4 X hP (kyM (by decide)) wd_884 dX8_teach_23 ?_
      refine lv_bipush (v := 9) X.1.1 X.1.2.1 dX8_teach_26 (by decide) ?_
      refine lv_iload_n X.1.1 X.1.2.1 dX8_teach_28 rfl (lv_at hl 1 rfl) ?_
      refine lv_iadd X.1.1 X.1.2.1 dX8_teach_29 ?_
      obtain ⟨g_11, h⟩ := o_gd_inv h
      refine x_iald X hP (kyM (by decide)) (fun _ _ => rfl) g_11 dX8_teach_30 ?_
      refine lv_iload_n X.1.1 X.1.2.1 dX8_teach_31 rfl (lv_at hl 2 rfl) ?_
      obtain ⟨⟨r_14, t_12⟩, hc_13, h⟩ := o_bd_inv h
      refine x_calli (x_runS (As := [.int (t_6.1 9 0 4 ((9 + a0).toNatClampNeg)), .int a1]) (rest := []) X hP hS (c_X8_has l g X.2.2.2.2.1 (t_6.1 9 0 4 ((9 + a0).toNatClampNeg)) a1 t_6 hc_13) ⟨wd_1021, wd_1019, wd_1020, wd_62⟩ hd_X8_has ⟨by omega, by decide⟩ rfl hl.1 rfl (Nat.le_of_ble_eq_true rfl) dX8_teach_32) hS (fun H locs hP hS => ?_)
      refine lv_if_eq (tgt := 41) X.1.1 X.1.2.1 dX8_teach_35 (by decide) (fun c_16 => ?_) (fun c_16 => ?_)
      · have h := o_pos c_16 h
        refine lv_aload_n X.1.1 X.1.2.1 dX8_teach_41 rfl (lv_at hl 0 rfl) ?_
        obtain ⟨t_17, hc_18, h⟩ := o_bd_inv h
        refine x_callv (x_runV (As := []) (rest := []) X hP hS (c_X8_note l g N X.2.2.2.2.1 t_12 hc_18) ⟨wd_1089, wd_1086, wd_1088, wd_37, wd_62⟩ hd_X8_note ⟨by omega, by decide⟩ (x_recv X hP (ci := 8) rfl (kyM (by decide)) rfl) rfl hl.1 rfl (Nat.le_of_ble_eq_true rfl) dX8_teach_42) hS (fun H locs hP hS => ?_)
        refine lv_aload_n X.1.1 X.1.2.1 dX8_teach_45 rfl (lv_at hl 0 rfl) ?_
        refine gt_X8_4 X hP (kyM (by decide)) wd_884 dX8_teach_46 ?_
        refine lv_bipush (v := 9) X.1.1 X.1.2.1 dX8_teach_49 (by decide) ?_
        refine lv_iload_n X.1.1 X.1.2.1 dX8_teach_51 rfl (lv_at hl 1 rfl) ?_
        refine lv_iadd X.1.1 X.1.2.1 dX8_teach_52 ?_
        refine lv_dup2_11 X.1.1 X.1.2.1 dX8_teach_53 rfl rfl ?_
        obtain ⟨g_19, h⟩ := o_gd_inv h
        refine x_iald X hP (kyM (by decide)) (fun _ _ => rfl) g_19 dX8_teach_54 ?_
        refine lv_iconst (v := 1) X.1.1 X.1.2.1 dX8_teach_55 (by decide) ?_
        refine lv_iload_n X.1.1 X.1.2.1 dX8_teach_56 rfl (lv_at hl 2 rfl) ?_
        refine lv_ishl X.1.1 X.1.2.1 dX8_teach_57 ?_
        refine lv_ior X.1.1 X.1.2.1 dX8_teach_58 ?_
        obtain ⟨g_20, h⟩ := o_gd_inv h
        obtain ⟨t_21, e_22, h⟩ := o_nm_inv h
        refine x_iast X hP hS (kyM (by decide)) (fun _ _ => rfl) g_20 dX8_teach_59 (fun H locs hP hS => ?_)
        have hP : XP shR g t_21 H := by rw [e_22]; exact hP
        refine lv_aload_n X.1.1 X.1.2.1 dX8_teach_60 rfl (lv_at hl 0 rfl) ?_
        refine gt_X8_4 X hP (kyM (by decide)) wd_884 dX8_teach_61 ?_
        refine lv_bipush (v := 9) X.1.1 X.1.2.1 dX8_teach_64 (by decide) ?_
        refine lv_iload_n X.1.1 X.1.2.1 dX8_teach_66 rfl (lv_at hl 1 rfl) ?_
        refine lv_iadd X.1.1 X.1.2.1 dX8_teach_67 ?_
        obtain ⟨g_23, h⟩ := o_gd_inv h
        refine x_iald X hP (kyM (by decide)) (fun _ _ => rfl) g_23 dX8_teach_68 ?_
        obtain ⟨rfl, rfl⟩ := o_ret2 h
        exact x_iret X hP hS dX8_teach_69
      · have h := o_neg c_16 h
        refine lv_bipush (v := (-2)) X.1.1 X.1.2.1 dX8_teach_38 (by decide) ?_
        obtain ⟨rfl, rfl⟩ := o_ret2 h
        exact x_iret X hP hS dX8_teach_40
    · have h := o_pos c_10 h
      refine lv_iconst (v := (-1)) X.1.1 X.1.2.1 dX8_teach_20 (by decide) ?_
      obtain ⟨rfl, rfl⟩ := o_ret2 h
      exact x_iret X hP hS dX8_teach_21
/-- FordQuestionsModel.later(II)I -/
def f_X8_later (N : Nat) (a0 : Int32) (a1 : Int32) (t : Mm) : Option (Int32 × Mm) := o_bd (f_X8_isCrosser a0 t) fun (r_3, t_1) => if r_3 = 0 then (some ((-1), t_1)) else (o_bd (f_X8_in (a1.toInt64) 0 40 t_1) fun (r_8, t_6) => if r_8 = 0 then (some ((-1), t_6)) else (if o_inb (19 + a0) 31 = true then (if (t_6.1 9 0 4 ((19 + a0).toNatClampNeg)) = 0 then (if o_inb (14 + a0) 31 = true then (if (t_6.1 9 0 4 ((14 + a0).toNatClampNeg)) = a1 then (some ((-2), t_6)) else (o_bd (f_X8_note N t_6) fun t_15 => if o_inb (14 + a0) 31 = true then (o_nm ((t_15.1 9 0 4 ((14 + a0).toNatClampNeg))) fun x_18 => if o_inb (14 + a0) 31 = true then (o_nm (sI t_15 9 0 4 ((14 + a0).toNatClampNeg) a1) fun t_21 => some (x_18, t_21)) else none) else none)) else none) else (some ((-2), t_6))) else none))
theorem hd_X8_later : x_hd yX8_later 2 := by decide +kernel
set_option maxRecDepth 100000 in
set_option maxHeartbeats 4000000 in
theorem c_X8_later (l : Launch) (g : Ly) (N : Nat) (hG : XG shR g) (a0 : Int32) (a1 : Int32) (t : Mm) {r : Int32} {t' : Mm} (h : f_X8_later N a0 a1 t = some (r, t')) : MI l yX8_later cX8_later 4 (some .int) 3 shR g [.ref (g.2.2 (9, 0, 0)), .int a0, .int a1] t (XQi shR g r t') := by
  refine x_met hG (by decide +kernel) (Nat.le_of_ble_eq_true rfl) ?_
  intro p e s m below meth c ls X hP hl
  have hS : va_S (XA shR g) s.heap s.heap [] := va_S.rf
  have hl : lv_has ls 4 [(0, .ref (g.2.2 (9, 0, 0))), (1, .int a0), (2, .int a1)] := hl
  unfold f_X8_later at h
  generalize ([.ref (g.2.2 (9, 0, 0)), .int a0, .int a1] : List Value).toArray = args at X ⊢
  refine lv_aload_n X.1.1 X.1.2.1 dX8_later_0 rfl (lv_at hl 0 rfl) ?_
  refine lv_iload_n X.1.1 X.1.2.1 dX8_later_1 rfl (lv_at hl 1 rfl) ?_
  obtain ⟨⟨r_3, t_1⟩, hc_2, h⟩ := o_bd_inv h
  refine x_calli (x_runV (As := [.int a0]) (rest := []) X hP hS (c_X8_isCrosser l g X.2.2.2.2.1 a0 t hc_2) ⟨wd_1006, wd_1003, wd_1005, wd_26, wd_62⟩ hd_X8_isCrosser ⟨by omega, by decide⟩ (x_recv X hP (ci := 8) rfl (kyM (by decide)) rfl) rfl hl.1 rfl (Nat.le_of_ble_eq_true rfl) dX8_later_2) hS (fun H locs hP hS => ?_)
  refine lv_if_eq (tgt := 20) X.1.1 X.1.2.1 dX8_later_5 (by decide) (fun c_5 => ?_) (fun c_5 => ?_)
  · have h := o_pos c_5 h
    refine lv_iconst (v := (-1)) X.1.1 X.1.2.1 dX8_later_20 (by decide) ?_
    obtain ⟨rfl, rfl⟩ := o_ret2 h
    exact x_iret X hP hS dX8_later_21
  · have h := o_neg c_5 h
    refine lv_iload_n X.1.1 X.1.2.1 dX8_later_8 rfl (lv_at hl 2 rfl) ?_
    refine lv_i2l (v := (a1.toInt64)) X.1.1 X.1.2.1 dX8_later_9 rfl ?_
    refine lv_lconst (v := 0) X.1.1 X.1.2.1 dX8_later_10 (by decide) ?_
    refine lv_ldc2 (v := 40) X.1.1 X.1.2.1 X.1.2.2.2.1 (X.1.2.2.2.2 _ (List.mem_cons_of_mem _ wd_989)) dX8_later_11 ?_
    obtain ⟨⟨r_8, t_6⟩, hc_7, h⟩ := o_bd_inv h
    refine x_calli (x_runS (As := [.long (a1.toInt64), .long 0, .long 40]) (rest := []) X hP hS (c_X8_in l g X.2.2.2.2.1 (a1.toInt64) 0 40 t_1 hc_7) ⟨wd_981, wd_979, wd_980, wd_62⟩ hd_X8_in ⟨by omega, by decide⟩ rfl hl.1 rfl (Nat.le_of_ble_eq_true rfl) dX8_later_14) hS (fun H locs hP hS => ?_)
    refine lv_if_ne (tgt := 22) X.1.1 X.1.2.1 dX8_later_17 (by decide) (fun c_10 => ?_) (fun c_10 => ?_)
    · have h := o_neg c_10 h
      refine lv_aload_n X.1.1 X.1.2.1 dX8_later_22 rfl (lv_at hl 0 rfl) ?_
      refine gt_X8_4 X hP (kyM (by decide)) wd_884 dX8_later_23 ?_
      refine lv_bipush (v := 19) X.1.1 X.1.2.1 dX8_later_26 (by decide) ?_
      refine lv_iload_n X.1.1 X.1.2.1 dX8_later_28 rfl (lv_at hl 1 rfl) ?_
      refine lv_iadd X.1.1 X.1.2.1 dX8_later_29 ?_
      obtain ⟨g_11, h⟩ := o_gd_inv h
      refine x_iald X hP (kyM (by decide)) (fun _ _ => rfl) g_11 dX8_later_30 ?_
      refine lv_if_ne (tgt := 47) X.1.1 X.1.2.1 dX8_later_31 (by decide) (fun c_12 => ?_) (fun c_12 => ?_)
      · have h := o_neg c_12 h
        refine lv_bipush (v := (-2)) X.1.1 X.1.2.1 dX8_later_47 (by decide) ?_
        obtain ⟨rfl, rfl⟩ := o_ret2 h
        exact x_iret X hP hS dX8_later_49
      · have h := o_pos c_12 h
        refine lv_aload_n X.1.1 X.1.2.1 dX8_later_34 rfl (lv_at hl 0 rfl) ?_
        refine gt_X8_4 X hP (kyM (by decide)) wd_884 dX8_later_35 ?_
        refine lv_bipush (v := 14) X.1.1 X.1.2.1 dX8_later_38 (by decide) ?_
        refine lv_iload_n X.1.1 X.1.2.1 dX8_later_40 rfl (lv_at hl 1 rfl) ?_
        refine lv_iadd X.1.1 X.1.2.1 dX8_later_41 ?_
        obtain ⟨g_13, h⟩ := o_gd_inv h
        refine x_iald X hP (kyM (by decide)) (fun _ _ => rfl) g_13 dX8_later_42 ?_
        refine lv_iload_n X.1.1 X.1.2.1 dX8_later_43 rfl (lv_at hl 2 rfl) ?_
        refine lv_icmp_ne (tgt := 50) X.1.1 X.1.2.1 dX8_later_44 (by decide) (fun c_14 => ?_) (fun c_14 => ?_)
        · have h := o_neg c_14 h
          refine lv_aload_n X.1.1 X.1.2.1 dX8_later_50 rfl (lv_at hl 0 rfl) ?_
          obtain ⟨t_15, hc_16, h⟩ := o_bd_inv h
          refine x_callv (x_runV (As := []) (rest := []) X hP hS (c_X8_note l g N X.2.2.2.2.1 t_6 hc_16) ⟨wd_1089, wd_1086, wd_1088, wd_37, wd_62⟩ hd_X8_note ⟨by omega, by decide⟩ (x_recv X hP (ci := 8) rfl (kyM (by decide)) rfl) rfl hl.1 rfl (Nat.le_of_ble_eq_true rfl) dX8_later_51) hS (fun H locs hP hS => ?_)
          refine lv_aload_n X.1.1 X.1.2.1 dX8_later_54 rfl (lv_at hl 0 rfl) ?_
          refine gt_X8_4 X hP (kyM (by decide)) wd_884 dX8_later_55 ?_
          refine lv_bipush (v := 14) X.1.1 X.1.2.1 dX8_later_58 (by decide) ?_
          refine lv_iload_n X.1.1 X.1.2.1 dX8_later_60 rfl (lv_at hl 1 rfl) ?_
          refine lv_iadd X.1.1 X.1.2.1 dX8_later_61 ?_
          obtain ⟨g_17, h⟩ := o_gd_inv h
          refine x_iald X hP (kyM (by decide)) (fun _ _ => rfl) g_17 dX8_later_62 ?_
          refine lv_topi (fun x_18 e_19 => ?_)
          have h := o_nm_to e_19 h
          refine lv_istore_n (lv' := [(3, .int x_18), (0, .ref (g.2.2 (9, 0, 0))), (1, .int a0), (2, .int a1)]) X.1.1 X.1.2.1 dX8_later_63 rfl hl (by decide) rfl (fun ls hl => ?_)
          refine lv_aload_n X.1.1 X.1.2.1 dX8_later_64 rfl (lv_at hl 1 rfl) ?_
          refine gt_X8_4 X hP (kyM (by decide)) wd_884 dX8_later_65 ?_
          refine lv_bipush (v := 14) X.1.1 X.1.2.1 dX8_later_68 (by decide) ?_
          refine lv_iload_n X.1.1 X.1.2.1 dX8_later_70 rfl (lv_at hl 2 rfl) ?_
          refine lv_iadd X.1.1 X.1.2.1 dX8_later_71 ?_
          refine lv_iload_n X.1.1 X.1.2.1 dX8_later_72 rfl (lv_at hl 3 rfl) ?_
          obtain ⟨g_20, h⟩ := o_gd_inv h
          obtain ⟨t_21, e_22, h⟩ := o_nm_inv h
          refine x_iast X hP hS (kyM (by decide)) (fun _ _ => rfl) g_20 dX8_later_73 (fun H locs hP hS => ?_)
          have hP : XP shR g t_21 H := by rw [e_22]; exact hP
          refine lv_iload_n X.1.1 X.1.2.1 dX8_later_74 rfl (lv_at hl 0 rfl) ?_
          obtain ⟨rfl, rfl⟩ := o_ret2 h
          exact x_iret X hP hS dX8_later_75
        · have h := o_pos c_14 h
          refine lv_bipush (v := (-2)) X.1.1 X.1.2.1 dX8_later_47 (by decide) ?_
          obtain ⟨rfl, rfl⟩ := o_ret2 h
          exact x_iret X hP hS dX8_later_49
    · have h := o_pos c_10 h
      refine lv_iconst (v := (-1)) X.1.1 X.1.2.1 dX8_later_20 (by decide) ?_
      obtain ⟨rfl, rfl⟩ := o_ret2 h
      exact x_iret X hP hS dX8_later_21
/-- FordQuestionsModel.again(I)I -/
def f_X8_again (N : Nat) (a0 : Int32) (t : Mm) : Option (Int32 × Mm) := o_bd (f_X8_isQuestion a0 t) fun (r_3, t_1) => if r_3 = 0 then (some ((-1), t_1)) else (if o_inb 0 31 = true then (o_bd (f_X8_has (t_1.1 9 0 4 (Int32.toNatClampNeg 0)) a0 t_1) fun (r_9, t_7) => if r_9 = 0 then (some ((-2), t_7)) else (o_bd (f_X8_note N t_7) fun t_12 => if o_inb 0 31 = true then (if o_inb 0 31 = true then (o_nm (sI t_12 9 0 4 (Int32.toNatClampNeg 0) ((t_12.1 9 0 4 (Int32.toNatClampNeg 0)) &&& ((1 <<< (a0 &&& 31)) ^^^ (-1)))) fun t_16 => if o_inb 0 31 = true then (some ((t_16.1 9 0 4 (Int32.toNatClampNeg 0)), t_16)) else none) else none) else none)) else none)
theorem hd_X8_again : x_hd yX8_again 1 := by decide +kernel
set_option maxRecDepth 100000 in
set_option maxHeartbeats 4000000 in
theorem c_X8_again (l : Launch) (g : Ly) (N : Nat) (hG : XG shR g) (a0 : Int32) (t : Mm) {r : Int32} {t' : Mm} (h : f_X8_again N a0 t = some (r, t')) : MI l yX8_again cX8_again 2 (some .int) 3 shR g [.ref (g.2.2 (9, 0, 0)), .int a0] t (XQi shR g r t') := by
  refine x_met hG (by decide +kernel) (Nat.le_of_ble_eq_true rfl) ?_
  intro p e s m below meth c ls X hP hl
  have hS : va_S (XA shR g) s.heap s.heap [] := va_S.rf
  have hl : lv_has ls 2 [(0, .ref (g.2.2 (9, 0, 0))), (1, .int a0)] := hl
  unfold f_X8_again at h
  generalize ([.ref (g.2.2 (9, 0, 0)), .int a0] : List Value).toArray = args at X ⊢
  refine lv_aload_n X.1.1 X.1.2.1 dX8_again_0 rfl (lv_at hl 0 rfl) ?_
  refine lv_iload_n X.1.1 X.1.2.1 dX8_again_1 rfl (lv_at hl 1 rfl) ?_
  obtain ⟨⟨r_3, t_1⟩, hc_2, h⟩ := o_bd_inv h
  refine x_calli (x_runV (As := [.int a0]) (rest := []) X hP hS (c_X8_isQuestion l g X.2.2.2.2.1 a0 t hc_2) ⟨wd_997, wd_994, wd_996, wd_25, wd_62⟩ hd_X8_isQuestion ⟨by omega, by decide⟩ (x_recv X hP (ci := 8) rfl (kyM (by decide)) rfl) rfl hl.1 rfl (Nat.le_of_ble_eq_true rfl) dX8_again_2) hS (fun H locs hP hS => ?_)
  refine lv_if_ne (tgt := 10) X.1.1 X.1.2.1 dX8_again_5 (by decide) (fun c_5 => ?_) (fun c_5 => ?_)
  · have h := o_neg c_5 h
    refine lv_aload_n X.1.1 X.1.2.1 dX8_again_10 rfl (lv_at hl 0 rfl) ?_
    refine gt_X8_4 X hP (kyM (by decide)) wd_884 dX8_again_11 ?_
    refine lv_iconst (v := 0) X.1.1 X.1.2.1 dX8_again_14 (by decide) ?_
    obtain ⟨g_6, h⟩ := o_gd_inv h
    refine x_iald X hP (kyM (by decide)) (fun _ _ => rfl) g_6 dX8_again_15 ?_
    refine lv_iload_n X.1.1 X.1.2.1 dX8_again_16 rfl (lv_at hl 1 rfl) ?_
    obtain ⟨⟨r_9, t_7⟩, hc_8, h⟩ := o_bd_inv h
    refine x_calli (x_runS (As := [.int (t_1.1 9 0 4 (Int32.toNatClampNeg 0)), .int a0]) (rest := []) X hP hS (c_X8_has l g X.2.2.2.2.1 (t_1.1 9 0 4 (Int32.toNatClampNeg 0)) a0 t_1 hc_8) ⟨wd_1021, wd_1019, wd_1020, wd_62⟩ hd_X8_has ⟨by omega, by decide⟩ rfl hl.1 rfl (Nat.le_of_ble_eq_true rfl) dX8_again_17) hS (fun H locs hP hS => ?_)
    refine lv_if_ne (tgt := 26) X.1.1 X.1.2.1 dX8_again_20 (by decide) (fun c_11 => ?_) (fun c_11 => ?_)
    · have h := o_neg c_11 h
      refine lv_aload_n X.1.1 X.1.2.1 dX8_again_26 rfl (lv_at hl 0 rfl) ?_
      obtain ⟨t_12, hc_13, h⟩ := o_bd_inv h
      refine x_callv (x_runV (As := []) (rest := []) X hP hS (c_X8_note l g N X.2.2.2.2.1 t_7 hc_13) ⟨wd_1089, wd_1086, wd_1088, wd_37, wd_62⟩ hd_X8_note ⟨by omega, by decide⟩ (x_recv X hP (ci := 8) rfl (kyM (by decide)) rfl) rfl hl.1 rfl (Nat.le_of_ble_eq_true rfl) dX8_again_27) hS (fun H locs hP hS => ?_)
      refine lv_aload_n X.1.1 X.1.2.1 dX8_again_30 rfl (lv_at hl 0 rfl) ?_
      refine gt_X8_4 X hP (kyM (by decide)) wd_884 dX8_again_31 ?_
      refine lv_iconst (v := 0) X.1.1 X.1.2.1 dX8_again_34 (by decide) ?_
      refine lv_dup2_11 X.1.1 X.1.2.1 dX8_again_35 rfl rfl ?_
      obtain ⟨g_14, h⟩ := o_gd_inv h
      refine x_iald X hP (kyM (by decide)) (fun _ _ => rfl) g_14 dX8_again_36 ?_
      refine lv_iconst (v := 1) X.1.1 X.1.2.1 dX8_again_37 (by decide) ?_
      refine lv_iload_n X.1.1 X.1.2.1 dX8_again_38 rfl (lv_at hl 1 rfl) ?_
      refine lv_ishl X.1.1 X.1.2.1 dX8_again_39 ?_
      refine lv_iconst (v := (-1)) X.1.1 X.1.2.1 dX8_again_40 (by decide) ?_
      refine lv_ixor X.1.1 X.1.2.1 dX8_again_41 ?_
      refine lv_iand X.1.1 X.1.2.1 dX8_again_42 ?_
      obtain ⟨g_15, h⟩ := o_gd_inv h
      obtain ⟨t_16, e_17, h⟩ := o_nm_inv h
      refine x_iast X hP hS (kyM (by decide)) (fun _ _ => rfl) g_15 dX8_again_43 (fun H locs hP hS => ?_)
      have hP : XP shR g t_16 H := by rw [e_17]; exact hP
      refine lv_aload_n X.1.1 X.1.2.1 dX8_again_44 rfl (lv_at hl 0 rfl) ?_
      refine gt_X8_4 X hP (kyM (by decide)) wd_884 dX8_again_45 ?_
      refine lv_iconst (v := 0) X.1.1 X.1.2.1 dX8_again_48 (by decide) ?_
      obtain ⟨g_18, h⟩ := o_gd_inv h
      refine x_iald X hP (kyM (by decide)) (fun _ _ => rfl) g_18 dX8_again_49 ?_
      obtain ⟨rfl, rfl⟩ := o_ret2 h
      exact x_iret X hP hS dX8_again_50
    · have h := o_pos c_11 h
      refine lv_bipush (v := (-2)) X.1.1 X.1.2.1 dX8_again_23 (by decide) ?_
      obtain ⟨rfl, rfl⟩ := o_ret2 h
      exact x_iret X hP hS dX8_again_25
  · have h := o_pos c_5 h
    refine lv_iconst (v := (-1)) X.1.1 X.1.2.1 dX8_again_8 (by decide) ?_
    obtain ⟨rfl, rfl⟩ := o_ret2 h
    exact x_iret X hP hS dX8_again_9
/-- FordQuestionsModel.put(II)I -/
def f_X8_put (N : Nat) (a0 : Int32) (a1 : Int32) (t : Mm) : Option (Int32 × Mm) := o_bd (f_X8_isQuestion a0 t) fun (r_3, t_1) => if r_3 = 0 then (some ((-1), t_1)) else (o_bd (f_X8_in (a1.toInt64) 1 9 t_1) fun (r_8, t_6) => if r_8 = 0 then (some ((-1), t_6)) else (if o_inb (1 + a0) 31 = true then (o_nm ((t_6.1 9 0 4 ((1 + a0).toNatClampNeg))) fun x_12 => if x_12 = a1 then (some ((-2), t_6)) else (o_bd (f_X8_note N t_6) fun t_15 => if o_inb (1 + a0) 31 = true then (o_nm (sI t_15 9 0 4 ((1 + a0).toNatClampNeg) a1) fun t_18 => some (x_12, t_18)) else none)) else none))
theorem hd_X8_put : x_hd yX8_put 2 := by decide +kernel
set_option maxRecDepth 100000 in
set_option maxHeartbeats 4000000 in
theorem c_X8_put (l : Launch) (g : Ly) (N : Nat) (hG : XG shR g) (a0 : Int32) (a1 : Int32) (t : Mm) {r : Int32} {t' : Mm} (h : f_X8_put N a0 a1 t = some (r, t')) : MI l yX8_put cX8_put 4 (some .int) 3 shR g [.ref (g.2.2 (9, 0, 0)), .int a0, .int a1] t (XQi shR g r t') := by
  refine x_met hG (by decide +kernel) (Nat.le_of_ble_eq_true rfl) ?_
  intro p e s m below meth c ls X hP hl
  have hS : va_S (XA shR g) s.heap s.heap [] := va_S.rf
  have hl : lv_has ls 4 [(0, .ref (g.2.2 (9, 0, 0))), (1, .int a0), (2, .int a1)] := hl
  unfold f_X8_put at h
  generalize ([.ref (g.2.2 (9, 0, 0)), .int a0, .int a1] : List Value).toArray = args at X ⊢
  refine lv_aload_n X.1.1 X.1.2.1 dX8_put_0 rfl (lv_at hl 0 rfl) ?_
  refine lv_iload_n X.1.1 X.1.2.1 dX8_put_1 rfl (lv_at hl 1 rfl) ?_
  obtain ⟨⟨r_3, t_1⟩, hc_2, h⟩ := o_bd_inv h
  refine x_calli (x_runV (As := [.int a0]) (rest := []) X hP hS (c_X8_isQuestion l g X.2.2.2.2.1 a0 t hc_2) ⟨wd_997, wd_994, wd_996, wd_25, wd_62⟩ hd_X8_isQuestion ⟨by omega, by decide⟩ (x_recv X hP (ci := 8) rfl (kyM (by decide)) rfl) rfl hl.1 rfl (Nat.le_of_ble_eq_true rfl) dX8_put_2) hS (fun H locs hP hS => ?_)
  refine lv_if_eq (tgt := 20) X.1.1 X.1.2.1 dX8_put_5 (by decide) (fun c_5 => ?_) (fun c_5 => ?_)
  · have h := o_pos c_5 h
    refine lv_iconst (v := (-1)) X.1.1 X.1.2.1 dX8_put_20 (by decide) ?_
    obtain ⟨rfl, rfl⟩ := o_ret2 h
    exact x_iret X hP hS dX8_put_21
  · have h := o_neg c_5 h
    refine lv_iload_n X.1.1 X.1.2.1 dX8_put_8 rfl (lv_at hl 2 rfl) ?_
    refine lv_i2l (v := (a1.toInt64)) X.1.1 X.1.2.1 dX8_put_9 rfl ?_
    refine lv_lconst (v := 1) X.1.1 X.1.2.1 dX8_put_10 (by decide) ?_
    refine lv_ldc2 (v := 9) X.1.1 X.1.2.1 X.1.2.2.2.1 (X.1.2.2.2.2 _ (List.mem_cons_of_mem _ wd_982)) dX8_put_11 ?_
    obtain ⟨⟨r_8, t_6⟩, hc_7, h⟩ := o_bd_inv h
    refine x_calli (x_runS (As := [.long (a1.toInt64), .long 1, .long 9]) (rest := []) X hP hS (c_X8_in l g X.2.2.2.2.1 (a1.toInt64) 1 9 t_1 hc_7) ⟨wd_981, wd_979, wd_980, wd_62⟩ hd_X8_in ⟨by omega, by decide⟩ rfl hl.1 rfl (Nat.le_of_ble_eq_true rfl) dX8_put_14) hS (fun H locs hP hS => ?_)
    refine lv_if_ne (tgt := 22) X.1.1 X.1.2.1 dX8_put_17 (by decide) (fun c_10 => ?_) (fun c_10 => ?_)
    · have h := o_neg c_10 h
      refine lv_aload_n X.1.1 X.1.2.1 dX8_put_22 rfl (lv_at hl 0 rfl) ?_
      refine gt_X8_4 X hP (kyM (by decide)) wd_884 dX8_put_23 ?_
      refine lv_iconst (v := 1) X.1.1 X.1.2.1 dX8_put_26 (by decide) ?_
      refine lv_iload_n X.1.1 X.1.2.1 dX8_put_27 rfl (lv_at hl 1 rfl) ?_
      refine lv_iadd X.1.1 X.1.2.1 dX8_put_28 ?_
      obtain ⟨g_11, h⟩ := o_gd_inv h
      refine x_iald X hP (kyM (by decide)) (fun _ _ => rfl) g_11 dX8_put_29 ?_
      refine lv_topi (fun x_12 e_13 => ?_)
      have h := o_nm_to e_13 h
      refine lv_istore_n (lv' := [(3, .int x_12), (0, .ref (g.2.2 (9, 0, 0))), (1, .int a0), (2, .int a1)]) X.1.1 X.1.2.1 dX8_put_30 rfl hl (by decide) rfl (fun ls hl => ?_)
      refine lv_iload_n X.1.1 X.1.2.1 dX8_put_31 rfl (lv_at hl 0 rfl) ?_
      refine lv_iload_n X.1.1 X.1.2.1 dX8_put_32 rfl (lv_at hl 3 rfl) ?_
      refine lv_icmp_ne (tgt := 39) X.1.1 X.1.2.1 dX8_put_33 (by decide) (fun c_14 => ?_) (fun c_14 => ?_)
      · have h := o_neg c_14 h
        refine lv_aload_n X.1.1 X.1.2.1 dX8_put_39 rfl (lv_at hl 1 rfl) ?_
        obtain ⟨t_15, hc_16, h⟩ := o_bd_inv h
        refine x_callv (x_runV (As := []) (rest := []) X hP hS (c_X8_note l g N X.2.2.2.2.1 t_6 hc_16) ⟨wd_1089, wd_1086, wd_1088, wd_37, wd_62⟩ hd_X8_note ⟨by omega, by decide⟩ (x_recv X hP (ci := 8) rfl (kyM (by decide)) rfl) rfl hl.1 rfl (Nat.le_of_ble_eq_true rfl) dX8_put_40) hS (fun H locs hP hS => ?_)
        refine lv_aload_n X.1.1 X.1.2.1 dX8_put_43 rfl (lv_at hl 1 rfl) ?_
        refine gt_X8_4 X hP (kyM (by decide)) wd_884 dX8_put_44 ?_
        refine lv_iconst (v := 1) X.1.1 X.1.2.1 dX8_put_47 (by decide) ?_
        refine lv_iload_n X.1.1 X.1.2.1 dX8_put_48 rfl (lv_at hl 2 rfl) ?_
        refine lv_iadd X.1.1 X.1.2.1 dX8_put_49 ?_
        refine lv_iload_n X.1.1 X.1.2.1 dX8_put_50 rfl (lv_at hl 3 rfl) ?_
        obtain ⟨g_17, h⟩ := o_gd_inv h
        obtain ⟨t_18, e_19, h⟩ := o_nm_inv h
        refine x_iast X hP hS (kyM (by decide)) (fun _ _ => rfl) g_17 dX8_put_51 (fun H locs hP hS => ?_)
        have hP : XP shR g t_18 H := by rw [e_19]; exact hP
        refine lv_iload_n X.1.1 X.1.2.1 dX8_put_52 rfl (lv_at hl 0 rfl) ?_
        obtain ⟨rfl, rfl⟩ := o_ret2 h
        exact x_iret X hP hS dX8_put_53
      · have h := o_pos c_14 h
        refine lv_bipush (v := (-2)) X.1.1 X.1.2.1 dX8_put_36 (by decide) ?_
        obtain ⟨rfl, rfl⟩ := o_ret2 h
        exact x_iret X hP hS dX8_put_38
    · have h := o_pos c_10 h
      refine lv_iconst (v := (-1)) X.1.1 X.1.2.1 dX8_put_20 (by decide) ?_
      obtain ⟨rfl, rfl⟩ := o_ret2 h
      exact x_iret X hP hS dX8_put_21
def f_X8_drift_116 (N : Nat) (k34 : Int32 × Int32 × Mm → Option (Int32 × Mm)) (x1 : Int32) (x2 : Int32) (t : Mm) : Option (Int32 × Mm) := o_bd (f_X8_goHour N t) fun t_1 => o_bd (f_X8_take N t_1) fun t_3 => k34 (x1, (x2 + 1), t_3)
def b_X8_drift_34 (N : Nat) (k34 : Int32 × Int32 × Mm → Option (Int32 × Mm)) (x1 : Int32) (x2 : Int32) (t : Mm) : Option (Int32 × Mm) := if x1 ≤ x2 then (o_bd (f_X8_placed N 2 t) fun (r_8, t_6) => some (r_8, t_6)) else (o_bd (f_X8_note N t) fun t_10 => o_bd (f_X8_aside N t_10) fun t_12 => if o_inb 30 31 = true then (o_nm (((((((t_12.1 9 0 4 (Int32.toNatClampNeg 30)).toInt64) * 1103515245) + 12345) &&& 2147483647).toInt32)) fun x_15 => if o_inb 30 31 = true then (o_nm (sI t_12 9 0 5 (Int32.toNatClampNeg 30) x_15) fun t_18 => if (t_18.1 9 0 0 0) ≤ 0 then (f_X8_drift_116 N k34 x1 x2 t_18) else (if ((x_15 / 128) - (x_15 / 128) / 3 * 3) = 0 then (if o_inb 0 31 = true then (if ¬ ((t_18.1 9 0 0 0) = 0) then (if o_inb 0 31 = true then (o_nm (sI t_18 9 0 5 (Int32.toNatClampNeg 0) ((t_18.1 9 0 5 (Int32.toNatClampNeg 0)) &&& ((1 <<< (((x_15 / 65536) - (x_15 / 65536) / (t_18.1 9 0 0 0) * (t_18.1 9 0 0 0)) &&& 31)) ^^^ (-1)))) fun t_25 => f_X8_drift_116 N k34 x1 x2 t_25) else none) else none) else none) else (f_X8_drift_116 N k34 x1 x2 t_18))) else none) else none)
def f_X8_drift_34 (N : Nat) (x1 : Int32) (x2 : Int32) (t : Mm) : Option (Int32 × Mm) := o_lp (fun k x => b_X8_drift_34 N k x.1 x.2.1 x.2.2) N (x1, x2, t)
/-- FordQuestionsModel.drift(I)I -/
def f_X8_drift (N : Nat) (a0 : Int32) (t : Mm) : Option (Int32 × Mm) := o_bd (f_X8_in (a0.toInt64) 1 40 t) fun (r_29, t_27) => if r_29 = 0 then (some ((-1), t_27)) else (if o_inb 29 31 = true then (if ((t_27.1 9 0 4 (Int32.toNatClampNeg 29)) + a0) ≤ 9999 then (f_X8_drift_34 N a0 0 t_27) else (some ((-3), t_27))) else none)
theorem hd_X8_drift : x_hd yX8_drift 1 := by decide +kernel
set_option maxRecDepth 100000 in
set_option maxHeartbeats 4000000 in
theorem w_X8_drift_116 {l : Launch} {g : Ly} {p : Program} {e : Env} {s : State} {m : MethodId} {args : Array Value} {below : List Frame} {meth : Method} {c : Code} (N : Nat) (X : XC p m meth c cX8_drift 4 s args (.code yX8_drift cX8_drift 4 (some .int)) RX8 (some .int) shR g) {r : Int32} {t' : Mm} {k34 : Int32 × Int32 × Mm → Option (Int32 × Mm)} (hk34 : ∀ x : Int32 × Int32 × Mm, k34 x = some (r, t') → ∀ (H : Heap) (locs : List Loc) (ls : Array Slot), XP shR g x.2.2 H → va_S (XA shR g) s.heap H locs → lv_has ls 4 [(0, .ref (g.2.2 (9, 0, 0))), (1, .int x.1), (2, .int x.2.1)] → W p l e (rmv 5) s m args below meth c H locs 0 0 (MQ below (XQi shR g r t') args s 0 0 (XA shR g)) (F0 m 34 ls [])) (x1 : Int32) (x2 : Int32) (t : Mm) (H : Heap) (locs : List Loc) (ls : Array Slot) (hP : XP shR g t H) (hS : va_S (XA shR g) s.heap H locs) (hl : lv_has ls 4 [(0, .ref (g.2.2 (9, 0, 0))), (1, .int x1), (2, .int x2)]) (h : f_X8_drift_116 N k34 x1 x2 t = some (r, t')) : W p l e (rmv 5) s m args below meth c H locs 0 0 (MQ below (XQi shR g r t') args s 0 0 (XA shR g)) (F0 m 116 ls []) := by
  unfold f_X8_drift_116 at h
  refine lv_aload_n X.1.1 X.1.2.1 dX8_drift_116 rfl (lv_at hl 0 rfl) ?_
  obtain ⟨t_1, hc_2, h⟩ := o_bd_inv h
  refine x_callv (x_runV (As := []) (rest := []) X hP hS (c_X8_goHour l g N X.2.2.2.2.1 t hc_2) ⟨wd_1093, wd_1090, wd_1092, wd_38, wd_62⟩ hd_X8_goHour ⟨by omega, by decide⟩ (x_recv X hP (ci := 8) rfl (kyM (by decide)) rfl) rfl hl.1 rfl (Nat.le_of_ble_eq_true rfl) dX8_drift_117) hS (fun H locs hP hS => ?_)
  refine lv_aload_n X.1.1 X.1.2.1 dX8_drift_120 rfl (lv_at hl 0 rfl) ?_
  obtain ⟨t_3, hc_4, h⟩ := o_bd_inv h
  refine x_callv (x_runV (As := []) (rest := []) X hP hS (c_X8_take l g N X.2.2.2.2.1 t_1 hc_4) ⟨wd_1105, wd_1102, wd_1104, wd_41, wd_62⟩ hd_X8_take ⟨by omega, by decide⟩ (x_recv X hP (ci := 8) rfl (kyM (by decide)) rfl) rfl hl.1 rfl (Nat.le_of_ble_eq_true rfl) dX8_drift_121) hS (fun H locs hP hS => ?_)
  refine lv_iinc (v := (x2 + 1)) (lv' := [(2, .int (x2 + 1)), (0, .ref (g.2.2 (9, 0, 0))), (1, .int x1)]) X.1.1 X.1.2.1 dX8_drift_124 hl (k := 2) rfl rfl (by decide) rfl (fun ls hl => ?_)
  refine lv_goto (tgt := 34) X.1.1 X.1.2.1 dX8_drift_127 (by decide) ?_
  exact hk34 (x1, (x2 + 1), t_3) h _ _ _ hP hS (lv_sub hl [1, 2, 0] rfl)
set_option maxRecDepth 100000 in
set_option maxHeartbeats 4000000 in
theorem wb_X8_drift_34 {l : Launch} {g : Ly} {p : Program} {e : Env} {s : State} {m : MethodId} {args : Array Value} {below : List Frame} {meth : Method} {c : Code} (N : Nat) (X : XC p m meth c cX8_drift 4 s args (.code yX8_drift cX8_drift 4 (some .int)) RX8 (some .int) shR g) {r : Int32} {t' : Mm} {k34 : Int32 × Int32 × Mm → Option (Int32 × Mm)} (hk34 : ∀ x : Int32 × Int32 × Mm, k34 x = some (r, t') → ∀ (H : Heap) (locs : List Loc) (ls : Array Slot), XP shR g x.2.2 H → va_S (XA shR g) s.heap H locs → lv_has ls 4 [(0, .ref (g.2.2 (9, 0, 0))), (1, .int x.1), (2, .int x.2.1)] → W p l e (rmv 5) s m args below meth c H locs 0 0 (MQ below (XQi shR g r t') args s 0 0 (XA shR g)) (F0 m 34 ls [])) (x1 : Int32) (x2 : Int32) (t : Mm) (H : Heap) (locs : List Loc) (ls : Array Slot) (hP : XP shR g t H) (hS : va_S (XA shR g) s.heap H locs) (hl : lv_has ls 4 [(0, .ref (g.2.2 (9, 0, 0))), (1, .int x1), (2, .int x2)]) (h : b_X8_drift_34 N k34 x1 x2 t = some (r, t')) : W p l e (rmv 5) s m args below meth c H locs 0 0 (MQ below (XQi shR g r t') args s 0 0 (XA shR g)) (F0 m 34 ls []) := by
  unfold b_X8_drift_34 at h
  refine lv_iload_n X.1.1 X.1.2.1 dX8_drift_34 rfl (lv_at hl 2 rfl) ?_
  refine lv_iload_n X.1.1 X.1.2.1 dX8_drift_35 rfl (lv_at hl 1 rfl) ?_
  refine lv_icmp_ge (tgt := 130) X.1.1 X.1.2.1 dX8_drift_36 (by decide) (fun c_5 => ?_) (fun c_5 => ?_)
  · have h := o_pos c_5 h
    refine lv_aload_n X.1.1 X.1.2.1 dX8_drift_130 rfl (lv_at hl 0 rfl) ?_
    refine lv_iconst (v := 2) X.1.1 X.1.2.1 dX8_drift_131 (by decide) ?_
    obtain ⟨⟨r_8, t_6⟩, hc_7, h⟩ := o_bd_inv h
    refine x_calli (x_runV (As := [.int 2]) (rest := []) X hP hS (c_X8_placed l g N X.2.2.2.2.1 2 t hc_7) ⟨wd_1081, wd_1078, wd_1080, wd_36, wd_62⟩ hd_X8_placed ⟨by omega, by decide⟩ (x_recv X hP (ci := 8) rfl (kyM (by decide)) rfl) rfl hl.1 rfl (Nat.le_of_ble_eq_true rfl) dX8_drift_132) hS (fun H locs hP hS => ?_)
    obtain ⟨rfl, rfl⟩ := o_ret2 h
    exact x_iret X hP hS dX8_drift_135
  · have h := o_neg c_5 h
    refine lv_aload_n X.1.1 X.1.2.1 dX8_drift_39 rfl (lv_at hl 0 rfl) ?_
    obtain ⟨t_10, hc_11, h⟩ := o_bd_inv h
    refine x_callv (x_runV (As := []) (rest := []) X hP hS (c_X8_note l g N X.2.2.2.2.1 t hc_11) ⟨wd_1089, wd_1086, wd_1088, wd_37, wd_62⟩ hd_X8_note ⟨by omega, by decide⟩ (x_recv X hP (ci := 8) rfl (kyM (by decide)) rfl) rfl hl.1 rfl (Nat.le_of_ble_eq_true rfl) dX8_drift_40) hS (fun H locs hP hS => ?_)
    refine lv_aload_n X.1.1 X.1.2.1 dX8_drift_43 rfl (lv_at hl 0 rfl) ?_
    obtain ⟨t_12, hc_13, h⟩ := o_bd_inv h
    refine x_callv (x_runV (As := []) (rest := []) X hP hS (c_X8_aside l g N X.2.2.2.2.1 t_10 hc_13) ⟨wd_1014, wd_1011, wd_1013, wd_27, wd_62⟩ hd_X8_aside ⟨by omega, by decide⟩ (x_recv X hP (ci := 8) rfl (kyM (by decide)) rfl) rfl hl.1 rfl (Nat.le_of_ble_eq_true rfl) dX8_drift_44) hS (fun H locs hP hS => ?_)
    refine lv_aload_n X.1.1 X.1.2.1 dX8_drift_47 rfl (lv_at hl 0 rfl) ?_
    refine gt_X8_4 X hP (kyM (by decide)) wd_884 dX8_drift_48 ?_
    refine lv_bipush (v := 30) X.1.1 X.1.2.1 dX8_drift_51 (by decide) ?_
    obtain ⟨g_14, h⟩ := o_gd_inv h
    refine x_iald X hP (kyM (by decide)) (fun _ _ => rfl) g_14 dX8_drift_53 ?_
    refine lv_i2l (v := ((t_12.1 9 0 4 (Int32.toNatClampNeg 30)).toInt64)) X.1.1 X.1.2.1 dX8_drift_54 rfl ?_
    refine lv_ldc2 (v := 1103515245) X.1.1 X.1.2.1 X.1.2.2.2.1 (X.1.2.2.2.2 _ (List.mem_cons_of_mem _ wd_1126)) dX8_drift_55 ?_
    refine lv_lmul X.1.1 X.1.2.1 dX8_drift_58 ?_
    refine lv_ldc2 (v := 12345) X.1.1 X.1.2.1 X.1.2.2.2.1 (X.1.2.2.2.2 _ (List.mem_cons_of_mem _ wd_1127)) dX8_drift_59 ?_
    refine lv_ladd X.1.1 X.1.2.1 dX8_drift_62 ?_
    refine lv_ldc2 (v := 2147483647) X.1.1 X.1.2.1 X.1.2.2.2.1 (X.1.2.2.2.2 _ (List.mem_cons_of_mem _ wd_1128)) dX8_drift_63 ?_
    refine lv_land X.1.1 X.1.2.1 dX8_drift_66 ?_
    refine lv_l2i (v := ((((((t_12.1 9 0 4 (Int32.toNatClampNeg 30)).toInt64) * 1103515245) + 12345) &&& 2147483647).toInt32)) X.1.1 X.1.2.1 dX8_drift_67 rfl ?_
    refine lv_topi (fun x_15 e_16 => ?_)
    have h := o_nm_to e_16 h
    refine lv_istore_n (lv' := [(3, .int x_15), (0, .ref (g.2.2 (9, 0, 0))), (1, .int x1), (2, .int x2)]) X.1.1 X.1.2.1 dX8_drift_68 rfl hl (by decide) rfl (fun ls hl => ?_)
    refine lv_aload_n X.1.1 X.1.2.1 dX8_drift_69 rfl (lv_at hl 1 rfl) ?_
    refine gt_X8_5 X hP (kyM (by decide)) wd_885 dX8_drift_70 ?_
    refine lv_bipush (v := 30) X.1.1 X.1.2.1 dX8_drift_73 (by decide) ?_
    refine lv_iload_n X.1.1 X.1.2.1 dX8_drift_75 rfl (lv_at hl 0 rfl) ?_
    obtain ⟨g_17, h⟩ := o_gd_inv h
    obtain ⟨t_18, e_19, h⟩ := o_nm_inv h
    refine x_iast X hP hS (kyM (by decide)) (fun _ _ => rfl) g_17 dX8_drift_76 (fun H locs hP hS => ?_)
    have hP : XP shR g t_18 H := by rw [e_19]; exact hP
    refine lv_aload_n X.1.1 X.1.2.1 dX8_drift_77 rfl (lv_at hl 1 rfl) ?_
    refine gt_X8_0 X hP (kyM (by decide)) wd_880 dX8_drift_78 ?_
    refine lv_if_le (tgt := 116) X.1.1 X.1.2.1 dX8_drift_81 (by decide) (fun c_20 => ?_) (fun c_20 => ?_)
    · have h := o_pos c_20 h
      exact w_X8_drift_116 N X hk34 x1 x2 t_18 _ _ _ hP hS (lv_sub hl [1, 2, 3] rfl) h
    · have h := o_neg c_20 h
      refine lv_iload_n X.1.1 X.1.2.1 dX8_drift_84 rfl (lv_at hl 0 rfl) ?_
      refine lv_sipush (v := 128) X.1.1 X.1.2.1 dX8_drift_85 (by decide) ?_
      refine lv_idiv X.1.1 X.1.2.1 dX8_drift_88 (by decide) ?_
      refine lv_iconst (v := 3) X.1.1 X.1.2.1 dX8_drift_89 (by decide) ?_
      refine lv_irem X.1.1 X.1.2.1 dX8_drift_90 (by decide) ?_
      refine lv_if_ne (tgt := 116) X.1.1 X.1.2.1 dX8_drift_91 (by decide) (fun c_21 => ?_) (fun c_21 => ?_)
      · have h := o_neg c_21 h
        exact w_X8_drift_116 N X hk34 x1 x2 t_18 _ _ _ hP hS (lv_sub hl [1, 2, 3] rfl) h
      · have h := o_pos c_21 h
        refine lv_aload_n X.1.1 X.1.2.1 dX8_drift_94 rfl (lv_at hl 1 rfl) ?_
        refine gt_X8_5 X hP (kyM (by decide)) wd_885 dX8_drift_95 ?_
        refine lv_iconst (v := 0) X.1.1 X.1.2.1 dX8_drift_98 (by decide) ?_
        refine lv_dup2_11 X.1.1 X.1.2.1 dX8_drift_99 rfl rfl ?_
        obtain ⟨g_22, h⟩ := o_gd_inv h
        refine x_iald X hP (kyM (by decide)) (fun _ _ => rfl) g_22 dX8_drift_100 ?_
        refine lv_iconst (v := 1) X.1.1 X.1.2.1 dX8_drift_101 (by decide) ?_
        refine lv_iload_n X.1.1 X.1.2.1 dX8_drift_102 rfl (lv_at hl 0 rfl) ?_
        refine lv_ldc (v := 65536) X.1.1 X.1.2.1 X.1.2.2.2.1 (X.1.2.2.2.2 _ (List.mem_cons_of_mem _ wd_1129)) dX8_drift_103 ?_
        refine lv_idiv X.1.1 X.1.2.1 dX8_drift_105 (by decide) ?_
        refine lv_aload_n X.1.1 X.1.2.1 dX8_drift_106 rfl (lv_at hl 1 rfl) ?_
        refine gt_X8_0 X hP (kyM (by decide)) wd_880 dX8_drift_107 ?_
        obtain ⟨g_23, h⟩ := o_gd_inv h
        refine lv_irem X.1.1 X.1.2.1 dX8_drift_110 g_23 ?_
        refine lv_ishl X.1.1 X.1.2.1 dX8_drift_111 ?_
        refine lv_iconst (v := (-1)) X.1.1 X.1.2.1 dX8_drift_112 (by decide) ?_
        refine lv_ixor X.1.1 X.1.2.1 dX8_drift_113 ?_
        refine lv_iand X.1.1 X.1.2.1 dX8_drift_114 ?_
        obtain ⟨g_24, h⟩ := o_gd_inv h
        obtain ⟨t_25, e_26, h⟩ := o_nm_inv h
        refine x_iast X hP hS (kyM (by decide)) (fun _ _ => rfl) g_24 dX8_drift_115 (fun H locs hP hS => ?_)
        have hP : XP shR g t_25 H := by rw [e_26]; exact hP
        exact w_X8_drift_116 N X hk34 x1 x2 t_25 _ _ _ hP hS (lv_sub hl [1, 2, 3] rfl) h
set_option maxRecDepth 100000 in
set_option maxHeartbeats 4000000 in
theorem w_X8_drift_34 {l : Launch} {g : Ly} {p : Program} {e : Env} {s : State} {m : MethodId} {args : Array Value} {below : List Frame} {meth : Method} {c : Code} (N : Nat) (X : XC p m meth c cX8_drift 4 s args (.code yX8_drift cX8_drift 4 (some .int)) RX8 (some .int) shR g) {r : Int32} {t' : Mm} (x1 : Int32) (x2 : Int32) (t : Mm) (H : Heap) (locs : List Loc) (ls : Array Slot) (hP : XP shR g t H) (hS : va_S (XA shR g) s.heap H locs) (hl : lv_has ls 4 [(0, .ref (g.2.2 (9, 0, 0))), (1, .int x1), (2, .int x2)]) (h : f_X8_drift_34 N x1 x2 t = some (r, t')) : W p l e (rmv 5) s m args below meth c H locs 0 0 (MQ below (XQi shR g r t') args s 0 0 (XA shR g)) (F0 m 34 ls []) :=
  o_lp_ind (P := fun x : Int32 × Int32 × Mm => ∀ (H : Heap) (locs : List Loc) (ls : Array Slot), XP shR g x.2.2 H → va_S (XA shR g) s.heap H locs → lv_has ls 4 [(0, .ref (g.2.2 (9, 0, 0))), (1, .int x.1), (2, .int x.2.1)] → W p l e (rmv 5) s m args below meth c H locs 0 0 (MQ below (XQi shR g r t') args s 0 0 (XA shR g)) (F0 m 34 ls [])) (fun k hk x h H locs ls hP hS hl => wb_X8_drift_34 N X hk x.1 x.2.1 x.2.2 H locs ls hP hS hl h) N (x1, x2, t) h H locs ls hP hS hl
set_option maxRecDepth 100000 in
set_option maxHeartbeats 4000000 in
theorem c_X8_drift (l : Launch) (g : Ly) (N : Nat) (hG : XG shR g) (a0 : Int32) (t : Mm) {r : Int32} {t' : Mm} (h : f_X8_drift N a0 t = some (r, t')) : MI l yX8_drift cX8_drift 4 (some .int) 5 shR g [.ref (g.2.2 (9, 0, 0)), .int a0] t (XQi shR g r t') := by
  refine x_met hG (by decide +kernel) (Nat.le_of_ble_eq_true rfl) ?_
  intro p e s m below meth c ls X hP hl
  have hS : va_S (XA shR g) s.heap s.heap [] := va_S.rf
  have hl : lv_has ls 4 [(0, .ref (g.2.2 (9, 0, 0))), (1, .int a0)] := hl
  unfold f_X8_drift at h
  generalize ([.ref (g.2.2 (9, 0, 0)), .int a0] : List Value).toArray = args at X ⊢
  refine lv_iload_n X.1.1 X.1.2.1 dX8_drift_0 rfl (lv_at hl 1 rfl) ?_
  refine lv_i2l (v := (a0.toInt64)) X.1.1 X.1.2.1 dX8_drift_1 rfl ?_
  refine lv_lconst (v := 1) X.1.1 X.1.2.1 dX8_drift_2 (by decide) ?_
  refine lv_ldc2 (v := 40) X.1.1 X.1.2.1 X.1.2.2.2.1 (X.1.2.2.2.2 _ (List.mem_cons_of_mem _ wd_989)) dX8_drift_3 ?_
  obtain ⟨⟨r_29, t_27⟩, hc_28, h⟩ := o_bd_inv h
  refine x_calli (x_runS (As := [.long (a0.toInt64), .long 1, .long 40]) (rest := []) X hP hS (c_X8_in l g X.2.2.2.2.1 (a0.toInt64) 1 40 t hc_28) ⟨wd_981, wd_979, wd_980, wd_62⟩ hd_X8_in ⟨by omega, by decide⟩ rfl hl.1 rfl (Nat.le_of_ble_eq_true rfl) dX8_drift_6) hS (fun H locs hP hS => ?_)
  refine lv_if_ne (tgt := 14) X.1.1 X.1.2.1 dX8_drift_9 (by decide) (fun c_31 => ?_) (fun c_31 => ?_)
  · have h := o_neg c_31 h
    refine lv_aload_n X.1.1 X.1.2.1 dX8_drift_14 rfl (lv_at hl 0 rfl) ?_
    refine gt_X8_4 X hP (kyM (by decide)) wd_884 dX8_drift_15 ?_
    refine lv_bipush (v := 29) X.1.1 X.1.2.1 dX8_drift_18 (by decide) ?_
    obtain ⟨g_32, h⟩ := o_gd_inv h
    refine x_iald X hP (kyM (by decide)) (fun _ _ => rfl) g_32 dX8_drift_20 ?_
    refine lv_iload_n X.1.1 X.1.2.1 dX8_drift_21 rfl (lv_at hl 1 rfl) ?_
    refine lv_iadd X.1.1 X.1.2.1 dX8_drift_22 ?_
    refine lv_sipush (v := 9999) X.1.1 X.1.2.1 dX8_drift_23 (by decide) ?_
    refine lv_icmp_le (tgt := 32) X.1.1 X.1.2.1 dX8_drift_26 (by decide) (fun c_33 => ?_) (fun c_33 => ?_)
    · have h := o_pos c_33 h
      refine lv_iconst (v := 0) X.1.1 X.1.2.1 dX8_drift_32 (by decide) ?_
      refine lv_istore_n (lv' := [(2, .int 0), (0, .ref (g.2.2 (9, 0, 0))), (1, .int a0)]) X.1.1 X.1.2.1 dX8_drift_33 rfl hl (by decide) rfl (fun ls hl => ?_)
      exact w_X8_drift_34 N X a0 0 t_27 _ _ _ hP hS (lv_sub hl [1, 2, 0] rfl) h
    · have h := o_neg c_33 h
      refine lv_bipush (v := (-3)) X.1.1 X.1.2.1 dX8_drift_29 (by decide) ?_
      obtain ⟨rfl, rfl⟩ := o_ret2 h
      exact x_iret X hP hS dX8_drift_31
  · have h := o_pos c_31 h
    refine lv_iconst (v := (-1)) X.1.1 X.1.2.1 dX8_drift_12 (by decide) ?_
    obtain ⟨rfl, rfl⟩ := o_ret2 h
    exact x_iret X hP hS dX8_drift_13
def b_X8_undo_22 (N : Nat) (k22 : Int32 × Mm → Option (Int32 × Mm)) (x1 : Int32) (t : Mm) : Option (Int32 × Mm) := if 31 ≤ x1 then (some ((t.1 9 0 0 7), t)) else (if o_inb ((31 * (t.1 9 0 0 7)) + x1) 248 = true then (if o_inb x1 31 = true then (o_nm (sI t 9 0 4 (x1.toNatClampNeg) (t.1 9 0 6 (((31 * (t.1 9 0 0 7)) + x1).toNatClampNeg))) fun t_4 => k22 ((x1 + 1), t_4)) else none) else none)
def f_X8_undo_22 (N : Nat) (x1 : Int32) (t : Mm) : Option (Int32 × Mm) := o_lp (fun k x => b_X8_undo_22 N k x.1 x.2) N (x1, t)
/-- FordQuestionsModel.undo()I -/
def f_X8_undo (N : Nat) (t : Mm) : Option (Int32 × Mm) := if (t.1 9 0 0 7) = 0 then (some ((-4), t)) else (o_nm (sI t 9 0 0 7 ((t.1 9 0 0 7) - 1)) fun t_7 => f_X8_undo_22 N 0 t_7)
theorem hd_X8_undo : x_hd yX8_undo 0 := by decide +kernel
set_option maxRecDepth 100000 in
set_option maxHeartbeats 4000000 in
theorem wb_X8_undo_22 {l : Launch} {g : Ly} {p : Program} {e : Env} {s : State} {m : MethodId} {args : Array Value} {below : List Frame} {meth : Method} {c : Code} (N : Nat) (X : XC p m meth c cX8_undo 2 s args (.code yX8_undo cX8_undo 2 (some .int)) RX8 (some .int) shR g) {r : Int32} {t' : Mm} {k22 : Int32 × Mm → Option (Int32 × Mm)} (hk22 : ∀ x : Int32 × Mm, k22 x = some (r, t') → ∀ (H : Heap) (locs : List Loc) (ls : Array Slot), XP shR g x.2 H → va_S (XA shR g) s.heap H locs → lv_has ls 2 [(0, .ref (g.2.2 (9, 0, 0))), (1, .int x.1)] → W p l e (rmv 1) s m args below meth c H locs 0 0 (MQ below (XQi shR g r t') args s 0 0 (XA shR g)) (F0 m 22 ls [])) (x1 : Int32) (t : Mm) (H : Heap) (locs : List Loc) (ls : Array Slot) (hP : XP shR g t H) (hS : va_S (XA shR g) s.heap H locs) (hl : lv_has ls 2 [(0, .ref (g.2.2 (9, 0, 0))), (1, .int x1)]) (h : b_X8_undo_22 N k22 x1 t = some (r, t')) : W p l e (rmv 1) s m args below meth c H locs 0 0 (MQ below (XQi shR g r t') args s 0 0 (XA shR g)) (F0 m 22 ls []) := by
  unfold b_X8_undo_22 at h
  refine lv_iload_n X.1.1 X.1.2.1 dX8_undo_22 rfl (lv_at hl 1 rfl) ?_
  refine lv_bipush (v := 31) X.1.1 X.1.2.1 dX8_undo_23 (by decide) ?_
  refine lv_icmp_ge (tgt := 54) X.1.1 X.1.2.1 dX8_undo_25 (by decide) (fun c_1 => ?_) (fun c_1 => ?_)
  · have h := o_pos c_1 h
    refine lv_aload_n X.1.1 X.1.2.1 dX8_undo_54 rfl (lv_at hl 0 rfl) ?_
    refine gt_X8_7 X hP (kyM (by decide)) wd_887 dX8_undo_55 ?_
    obtain ⟨rfl, rfl⟩ := o_ret2 h
    exact x_iret X hP hS dX8_undo_58
  · have h := o_neg c_1 h
    refine lv_aload_n X.1.1 X.1.2.1 dX8_undo_28 rfl (lv_at hl 0 rfl) ?_
    refine gt_X8_4 X hP (kyM (by decide)) wd_884 dX8_undo_29 ?_
    refine lv_iload_n X.1.1 X.1.2.1 dX8_undo_32 rfl (lv_at hl 1 rfl) ?_
    refine lv_aload_n X.1.1 X.1.2.1 dX8_undo_33 rfl (lv_at hl 0 rfl) ?_
    refine gt_X8_6 X hP (kyM (by decide)) wd_886 dX8_undo_34 ?_
    refine lv_bipush (v := 31) X.1.1 X.1.2.1 dX8_undo_37 (by decide) ?_
    refine lv_aload_n X.1.1 X.1.2.1 dX8_undo_39 rfl (lv_at hl 0 rfl) ?_
    refine gt_X8_7 X hP (kyM (by decide)) wd_887 dX8_undo_40 ?_
    refine lv_imul X.1.1 X.1.2.1 dX8_undo_43 ?_
    refine lv_iload_n X.1.1 X.1.2.1 dX8_undo_44 rfl (lv_at hl 1 rfl) ?_
    refine lv_iadd X.1.1 X.1.2.1 dX8_undo_45 ?_
    obtain ⟨g_2, h⟩ := o_gd_inv h
    refine x_iald X hP (kyM (by decide)) (fun _ _ => rfl) g_2 dX8_undo_46 ?_
    obtain ⟨g_3, h⟩ := o_gd_inv h
    obtain ⟨t_4, e_5, h⟩ := o_nm_inv h
    refine x_iast X hP hS (kyM (by decide)) (fun _ _ => rfl) g_3 dX8_undo_47 (fun H locs hP hS => ?_)
    have hP : XP shR g t_4 H := by rw [e_5]; exact hP
    refine lv_iinc (v := (x1 + 1)) (lv' := [(1, .int (x1 + 1)), (0, .ref (g.2.2 (9, 0, 0)))]) X.1.1 X.1.2.1 dX8_undo_48 hl (k := 1) rfl rfl (by decide) rfl (fun ls hl => ?_)
    refine lv_goto (tgt := 22) X.1.1 X.1.2.1 dX8_undo_51 (by decide) ?_
    exact hk22 ((x1 + 1), t_4) h _ _ _ hP hS (lv_sub hl [1, 0] rfl)
set_option maxRecDepth 100000 in
set_option maxHeartbeats 4000000 in
theorem w_X8_undo_22 {l : Launch} {g : Ly} {p : Program} {e : Env} {s : State} {m : MethodId} {args : Array Value} {below : List Frame} {meth : Method} {c : Code} (N : Nat) (X : XC p m meth c cX8_undo 2 s args (.code yX8_undo cX8_undo 2 (some .int)) RX8 (some .int) shR g) {r : Int32} {t' : Mm} (x1 : Int32) (t : Mm) (H : Heap) (locs : List Loc) (ls : Array Slot) (hP : XP shR g t H) (hS : va_S (XA shR g) s.heap H locs) (hl : lv_has ls 2 [(0, .ref (g.2.2 (9, 0, 0))), (1, .int x1)]) (h : f_X8_undo_22 N x1 t = some (r, t')) : W p l e (rmv 1) s m args below meth c H locs 0 0 (MQ below (XQi shR g r t') args s 0 0 (XA shR g)) (F0 m 22 ls []) :=
  o_lp_ind (P := fun x : Int32 × Mm => ∀ (H : Heap) (locs : List Loc) (ls : Array Slot), XP shR g x.2 H → va_S (XA shR g) s.heap H locs → lv_has ls 2 [(0, .ref (g.2.2 (9, 0, 0))), (1, .int x.1)] → W p l e (rmv 1) s m args below meth c H locs 0 0 (MQ below (XQi shR g r t') args s 0 0 (XA shR g)) (F0 m 22 ls [])) (fun k hk x h H locs ls hP hS hl => wb_X8_undo_22 N X hk x.1 x.2 H locs ls hP hS hl h) N (x1, t) h H locs ls hP hS hl
set_option maxRecDepth 100000 in
set_option maxHeartbeats 4000000 in
theorem c_X8_undo (l : Launch) (g : Ly) (N : Nat) (hG : XG shR g) (t : Mm) {r : Int32} {t' : Mm} (h : f_X8_undo N t = some (r, t')) : MI l yX8_undo cX8_undo 2 (some .int) 1 shR g [.ref (g.2.2 (9, 0, 0))] t (XQi shR g r t') := by
  refine x_met hG (by decide +kernel) (Nat.le_of_ble_eq_true rfl) ?_
  intro p e s m below meth c ls X hP hl
  have hS : va_S (XA shR g) s.heap s.heap [] := va_S.rf
  have hl : lv_has ls 2 [(0, .ref (g.2.2 (9, 0, 0)))] := hl
  unfold f_X8_undo at h
  generalize ([.ref (g.2.2 (9, 0, 0))] : List Value).toArray = args at X ⊢
  refine lv_aload_n X.1.1 X.1.2.1 dX8_undo_0 rfl (lv_at hl 0 rfl) ?_
  refine gt_X8_7 X hP (kyM (by decide)) wd_887 dX8_undo_1 ?_
  refine lv_if_ne (tgt := 10) X.1.1 X.1.2.1 dX8_undo_4 (by decide) (fun c_6 => ?_) (fun c_6 => ?_)
  · have h := o_neg c_6 h
    refine lv_aload_n X.1.1 X.1.2.1 dX8_undo_10 rfl (lv_at hl 0 rfl) ?_
    refine lv_dup X.1.1 X.1.2.1 dX8_undo_11 rfl ?_
    refine gt_X8_7 X hP (kyM (by decide)) wd_887 dX8_undo_12 ?_
    refine lv_iconst (v := 1) X.1.1 X.1.2.1 dX8_undo_15 (by decide) ?_
    refine lv_isub X.1.1 X.1.2.1 dX8_undo_16 ?_
    obtain ⟨t_7, e_8, h⟩ := o_nm_inv h
    refine pt_X8_7 (x := ((t.1 9 0 0 7) - 1)) X hP hS (kyM (by decide)) wd_887 dX8_undo_17 (fun H locs hP hS => ?_)
    have hP : XP shR g t_7 H := by rw [e_8]; exact hP
    refine lv_iconst (v := 0) X.1.1 X.1.2.1 dX8_undo_20 (by decide) ?_
    refine lv_istore_n (lv' := [(1, .int 0), (0, .ref (g.2.2 (9, 0, 0)))]) X.1.1 X.1.2.1 dX8_undo_21 rfl hl (by decide) rfl (fun ls hl => ?_)
    exact w_X8_undo_22 N X 0 t_7 _ _ _ hP hS (lv_sub hl [1, 0] rfl) h
  · have h := o_pos c_6 h
    refine lv_bipush (v := (-4)) X.1.1 X.1.2.1 dX8_undo_7 (by decide) ?_
    obtain ⟨rfl, rfl⟩ := o_ret2 h
    exact x_iret X hP hS dX8_undo_9
/-- FordQuestionsModel.seed(I)I -/
def f_X8_seed (a0 : Int32) (t : Mm) : Option (Int32 × Mm) := if 0 ≤ a0 then (if o_inb 30 31 = true then (o_nm ((t.1 9 0 4 (Int32.toNatClampNeg 30))) fun x_3 => if o_inb 30 31 = true then (o_nm (sI t 9 0 4 (Int32.toNatClampNeg 30) a0) fun t_6 => some (x_3, t_6)) else none) else none) else (some ((-1), t))
theorem hd_X8_seed : x_hd yX8_seed 1 := by decide +kernel
set_option maxRecDepth 100000 in
set_option maxHeartbeats 4000000 in
theorem c_X8_seed (l : Launch) (g : Ly) (hG : XG shR g) (a0 : Int32) (t : Mm) {r : Int32} {t' : Mm} (h : f_X8_seed a0 t = some (r, t')) : MI l yX8_seed cX8_seed 3 (some .int) 1 shR g [.ref (g.2.2 (9, 0, 0)), .int a0] t (XQi shR g r t') := by
  refine x_met hG (by decide +kernel) (Nat.le_of_ble_eq_true rfl) ?_
  intro p e s m below meth c ls X hP hl
  have hS : va_S (XA shR g) s.heap s.heap [] := va_S.rf
  have hl : lv_has ls 3 [(0, .ref (g.2.2 (9, 0, 0))), (1, .int a0)] := hl
  unfold f_X8_seed at h
  generalize ([.ref (g.2.2 (9, 0, 0)), .int a0] : List Value).toArray = args at X ⊢
  refine lv_iload_n X.1.1 X.1.2.1 dX8_seed_0 rfl (lv_at hl 1 rfl) ?_
  refine lv_if_ge (tgt := 6) X.1.1 X.1.2.1 dX8_seed_1 (by decide) (fun c_1 => ?_) (fun c_1 => ?_)
  · have h := o_pos c_1 h
    refine lv_aload_n X.1.1 X.1.2.1 dX8_seed_6 rfl (lv_at hl 0 rfl) ?_
    refine gt_X8_4 X hP (kyM (by decide)) wd_884 dX8_seed_7 ?_
    refine lv_bipush (v := 30) X.1.1 X.1.2.1 dX8_seed_10 (by decide) ?_
    obtain ⟨g_2, h⟩ := o_gd_inv h
    refine x_iald X hP (kyM (by decide)) (fun _ _ => rfl) g_2 dX8_seed_12 ?_
    refine lv_topi (fun x_3 e_4 => ?_)
    have h := o_nm_to e_4 h
    refine lv_istore_n (lv' := [(2, .int x_3), (0, .ref (g.2.2 (9, 0, 0))), (1, .int a0)]) X.1.1 X.1.2.1 dX8_seed_13 rfl hl (by decide) rfl (fun ls hl => ?_)
    refine lv_aload_n X.1.1 X.1.2.1 dX8_seed_14 rfl (lv_at hl 1 rfl) ?_
    refine gt_X8_4 X hP (kyM (by decide)) wd_884 dX8_seed_15 ?_
    refine lv_bipush (v := 30) X.1.1 X.1.2.1 dX8_seed_18 (by decide) ?_
    refine lv_iload_n X.1.1 X.1.2.1 dX8_seed_20 rfl (lv_at hl 2 rfl) ?_
    obtain ⟨g_5, h⟩ := o_gd_inv h
    obtain ⟨t_6, e_7, h⟩ := o_nm_inv h
    refine x_iast X hP hS (kyM (by decide)) (fun _ _ => rfl) g_5 dX8_seed_21 (fun H locs hP hS => ?_)
    have hP : XP shR g t_6 H := by rw [e_7]; exact hP
    refine lv_iload_n X.1.1 X.1.2.1 dX8_seed_22 rfl (lv_at hl 0 rfl) ?_
    obtain ⟨rfl, rfl⟩ := o_ret2 h
    exact x_iret X hP hS dX8_seed_23
  · have h := o_neg c_1 h
    refine lv_iconst (v := (-1)) X.1.1 X.1.2.1 dX8_seed_4 (by decide) ?_
    obtain ⟨rfl, rfl⟩ := o_ret2 h
    exact x_iret X hP hS dX8_seed_5
/-- FordQuestionsModel.then(II)I -/
def f_X8_then (N : Nat) (a0 : Int32) (a1 : Int32) (t : Mm) : Option (Int32 × Mm) := o_bd (f_X8_in (a0.toInt64) 0 100 t) fun (r_3, t_1) => if r_3 = 0 then (some ((-1), t_1)) else (o_bd (f_X8_in (a1.toInt64) 0 2 t_1) fun (r_8, t_6) => if r_8 = 0 then (some ((-1), t_6)) else (o_bd (f_X8_aside N t_6) fun t_11 => o_bd (f_X8_goHours N a0 t_11) fun t_13 => if a1 = 2 then (if o_inb 0 31 = true then (some ((t_13.1 9 0 5 (Int32.toNatClampNeg 0)), t_13)) else none) else (o_bd (f_X8_placed N (a1 + 1) t_13) fun (r_18, t_16) => some (r_18, t_16))))
theorem hd_X8_then : x_hd yX8_then 2 := by decide +kernel
set_option maxRecDepth 100000 in
set_option maxHeartbeats 4000000 in
theorem c_X8_then (l : Launch) (g : Ly) (N : Nat) (hG : XG shR g) (a0 : Int32) (a1 : Int32) (t : Mm) {r : Int32} {t' : Mm} (h : f_X8_then N a0 a1 t = some (r, t')) : MI l yX8_then cX8_then 3 (some .int) 6 shR g [.ref (g.2.2 (9, 0, 0)), .int a0, .int a1] t (XQi shR g r t') := by
  refine x_met hG (by decide +kernel) (Nat.le_of_ble_eq_true rfl) ?_
  intro p e s m below meth c ls X hP hl
  have hS : va_S (XA shR g) s.heap s.heap [] := va_S.rf
  have hl : lv_has ls 3 [(0, .ref (g.2.2 (9, 0, 0))), (1, .int a0), (2, .int a1)] := hl
  unfold f_X8_then at h
  generalize ([.ref (g.2.2 (9, 0, 0)), .int a0, .int a1] : List Value).toArray = args at X ⊢
  refine lv_iload_n X.1.1 X.1.2.1 dX8_then_0 rfl (lv_at hl 1 rfl) ?_
  refine lv_i2l (v := (a0.toInt64)) X.1.1 X.1.2.1 dX8_then_1 rfl ?_
  refine lv_lconst (v := 0) X.1.1 X.1.2.1 dX8_then_2 (by decide) ?_
  refine lv_ldc2 (v := 100) X.1.1 X.1.2.1 X.1.2.2.2.1 (X.1.2.2.2.2 _ (List.mem_cons_of_mem _ wd_1142)) dX8_then_3 ?_
  obtain ⟨⟨r_3, t_1⟩, hc_2, h⟩ := o_bd_inv h
  refine x_calli (x_runS (As := [.long (a0.toInt64), .long 0, .long 100]) (rest := []) X hP hS (c_X8_in l g X.2.2.2.2.1 (a0.toInt64) 0 100 t hc_2) ⟨wd_981, wd_979, wd_980, wd_62⟩ hd_X8_in ⟨by omega, by decide⟩ rfl hl.1 rfl (Nat.le_of_ble_eq_true rfl) dX8_then_6) hS (fun H locs hP hS => ?_)
  refine lv_if_eq (tgt := 24) X.1.1 X.1.2.1 dX8_then_9 (by decide) (fun c_5 => ?_) (fun c_5 => ?_)
  · have h := o_pos c_5 h
    refine lv_iconst (v := (-1)) X.1.1 X.1.2.1 dX8_then_24 (by decide) ?_
    obtain ⟨rfl, rfl⟩ := o_ret2 h
    exact x_iret X hP hS dX8_then_25
  · have h := o_neg c_5 h
    refine lv_iload_n X.1.1 X.1.2.1 dX8_then_12 rfl (lv_at hl 2 rfl) ?_
    refine lv_i2l (v := (a1.toInt64)) X.1.1 X.1.2.1 dX8_then_13 rfl ?_
    refine lv_lconst (v := 0) X.1.1 X.1.2.1 dX8_then_14 (by decide) ?_
    refine lv_ldc2 (v := 2) X.1.1 X.1.2.1 X.1.2.2.2.1 (X.1.2.2.2.2 _ (List.mem_cons_of_mem _ wd_998)) dX8_then_15 ?_
    obtain ⟨⟨r_8, t_6⟩, hc_7, h⟩ := o_bd_inv h
    refine x_calli (x_runS (As := [.long (a1.toInt64), .long 0, .long 2]) (rest := []) X hP hS (c_X8_in l g X.2.2.2.2.1 (a1.toInt64) 0 2 t_1 hc_7) ⟨wd_981, wd_979, wd_980, wd_62⟩ hd_X8_in ⟨by omega, by decide⟩ rfl hl.1 rfl (Nat.le_of_ble_eq_true rfl) dX8_then_18) hS (fun H locs hP hS => ?_)
    refine lv_if_ne (tgt := 26) X.1.1 X.1.2.1 dX8_then_21 (by decide) (fun c_10 => ?_) (fun c_10 => ?_)
    · have h := o_neg c_10 h
      refine lv_aload_n X.1.1 X.1.2.1 dX8_then_26 rfl (lv_at hl 0 rfl) ?_
      obtain ⟨t_11, hc_12, h⟩ := o_bd_inv h
      refine x_callv (x_runV (As := []) (rest := []) X hP hS (c_X8_aside l g N X.2.2.2.2.1 t_6 hc_12) ⟨wd_1014, wd_1011, wd_1013, wd_27, wd_62⟩ hd_X8_aside ⟨by omega, by decide⟩ (x_recv X hP (ci := 8) rfl (kyM (by decide)) rfl) rfl hl.1 rfl (Nat.le_of_ble_eq_true rfl) dX8_then_27) hS (fun H locs hP hS => ?_)
      refine lv_aload_n X.1.1 X.1.2.1 dX8_then_30 rfl (lv_at hl 0 rfl) ?_
      refine lv_iload_n X.1.1 X.1.2.1 dX8_then_31 rfl (lv_at hl 1 rfl) ?_
      obtain ⟨t_13, hc_14, h⟩ := o_bd_inv h
      refine x_callv (x_runV (As := [.int a0]) (rest := []) X hP hS (c_X8_goHours l g N X.2.2.2.2.1 a0 t_11 hc_14) ⟨wd_1146, wd_1143, wd_1145, wd_42, wd_62⟩ hd_X8_goHours ⟨by omega, by decide⟩ (x_recv X hP (ci := 8) rfl (kyM (by decide)) rfl) rfl hl.1 rfl (Nat.le_of_ble_eq_true rfl) dX8_then_32) hS (fun H locs hP hS => ?_)
      refine lv_iload_n X.1.1 X.1.2.1 dX8_then_35 rfl (lv_at hl 2 rfl) ?_
      refine lv_iconst (v := 2) X.1.1 X.1.2.1 dX8_then_36 (by decide) ?_
      refine lv_icmp_ne (tgt := 49) X.1.1 X.1.2.1 dX8_then_37 (by decide) (fun c_15 => ?_) (fun c_15 => ?_)
      · have h := o_neg c_15 h
        refine lv_aload_n X.1.1 X.1.2.1 dX8_then_49 rfl (lv_at hl 0 rfl) ?_
        refine lv_iload_n X.1.1 X.1.2.1 dX8_then_50 rfl (lv_at hl 2 rfl) ?_
        refine lv_iconst (v := 1) X.1.1 X.1.2.1 dX8_then_51 (by decide) ?_
        refine lv_iadd X.1.1 X.1.2.1 dX8_then_52 ?_
        obtain ⟨⟨r_18, t_16⟩, hc_17, h⟩ := o_bd_inv h
        refine x_calli (x_runV (As := [.int (a1 + 1)]) (rest := []) X hP hS (c_X8_placed l g N X.2.2.2.2.1 (a1 + 1) t_13 hc_17) ⟨wd_1081, wd_1078, wd_1080, wd_36, wd_62⟩ hd_X8_placed ⟨by omega, by decide⟩ (x_recv X hP (ci := 8) rfl (kyM (by decide)) rfl) rfl hl.1 rfl (Nat.le_of_ble_eq_true rfl) dX8_then_53) hS (fun H locs hP hS => ?_)
        obtain ⟨rfl, rfl⟩ := o_ret2 h
        exact x_iret X hP hS dX8_then_56
      · have h := o_pos c_15 h
        refine lv_aload_n X.1.1 X.1.2.1 dX8_then_40 rfl (lv_at hl 0 rfl) ?_
        refine gt_X8_5 X hP (kyM (by decide)) wd_885 dX8_then_41 ?_
        refine lv_iconst (v := 0) X.1.1 X.1.2.1 dX8_then_44 (by decide) ?_
        obtain ⟨g_20, h⟩ := o_gd_inv h
        refine x_iald X hP (kyM (by decide)) (fun _ _ => rfl) g_20 dX8_then_45 ?_
        refine lv_goto (tgt := 56) X.1.1 X.1.2.1 dX8_then_46 (by decide) ?_
        obtain ⟨rfl, rfl⟩ := o_ret2 h
        exact x_iret X hP hS dX8_then_56
    · have h := o_pos c_10 h
      refine lv_iconst (v := (-1)) X.1.1 X.1.2.1 dX8_then_24 (by decide) ?_
      obtain ⟨rfl, rfl⟩ := o_ret2 h
      exact x_iret X hP hS dX8_then_25
def b_X8_overHour_2 (N : Nat) (k2 : Int32 × Int32 × Mm → Option (Int32 × Mm)) (x1 : Int32) (x2 : Int32) (t : Mm) : Option (Int32 × Mm) := if 101 ≤ x2 then (some ((-4), t)) else (if o_inb (19 + x1) 31 = true then (if (t.1 9 0 5 ((19 + x1).toNatClampNeg)) = 2 then (some (x2, t)) else (o_bd (f_X8_goHour N t) fun t_4 => k2 (x1, (x2 + 1), t_4))) else none)
def f_X8_overHour_2 (N : Nat) (x1 : Int32) (x2 : Int32) (t : Mm) : Option (Int32 × Mm) := o_lp (fun k x => b_X8_overHour_2 N k x.1 x.2.1 x.2.2) N (x1, x2, t)
/-- FordQuestionsModel.overHour(I)I -/
def f_X8_overHour (N : Nat) (a0 : Int32) (t : Mm) : Option (Int32 × Mm) := f_X8_overHour_2 N a0 0 t
theorem hd_X8_overHour : x_hd yX8_overHour 1 := by decide +kernel
set_option maxRecDepth 100000 in
set_option maxHeartbeats 4000000 in
theorem wb_X8_overHour_2 {l : Launch} {g : Ly} {p : Program} {e : Env} {s : State} {m : MethodId} {args : Array Value} {below : List Frame} {meth : Method} {c : Code} (N : Nat) (X : XC p m meth c cX8_overHour 3 s args (.code yX8_overHour cX8_overHour 3 (some .int)) RX8 (some .int) shR g) {r : Int32} {t' : Mm} {k2 : Int32 × Int32 × Mm → Option (Int32 × Mm)} (hk2 : ∀ x : Int32 × Int32 × Mm, k2 x = some (r, t') → ∀ (H : Heap) (locs : List Loc) (ls : Array Slot), XP shR g x.2.2 H → va_S (XA shR g) s.heap H locs → lv_has ls 3 [(0, .ref (g.2.2 (9, 0, 0))), (1, .int x.1), (2, .int x.2.1)] → W p l e (rmv 5) s m args below meth c H locs 0 0 (MQ below (XQi shR g r t') args s 0 0 (XA shR g)) (F0 m 2 ls [])) (x1 : Int32) (x2 : Int32) (t : Mm) (H : Heap) (locs : List Loc) (ls : Array Slot) (hP : XP shR g t H) (hS : va_S (XA shR g) s.heap H locs) (hl : lv_has ls 3 [(0, .ref (g.2.2 (9, 0, 0))), (1, .int x1), (2, .int x2)]) (h : b_X8_overHour_2 N k2 x1 x2 t = some (r, t')) : W p l e (rmv 5) s m args below meth c H locs 0 0 (MQ below (XQi shR g r t') args s 0 0 (XA shR g)) (F0 m 2 ls []) := by
  unfold b_X8_overHour_2 at h
  refine lv_iload_n X.1.1 X.1.2.1 dX8_overHour_2 rfl (lv_at hl 2 rfl) ?_
  refine lv_bipush (v := 101) X.1.1 X.1.2.1 dX8_overHour_3 (by decide) ?_
  refine lv_icmp_ge (tgt := 33) X.1.1 X.1.2.1 dX8_overHour_5 (by decide) (fun c_1 => ?_) (fun c_1 => ?_)
  · have h := o_pos c_1 h
    refine lv_bipush (v := (-4)) X.1.1 X.1.2.1 dX8_overHour_33 (by decide) ?_
    obtain ⟨rfl, rfl⟩ := o_ret2 h
    exact x_iret X hP hS dX8_overHour_35
  · have h := o_neg c_1 h
    refine lv_aload_n X.1.1 X.1.2.1 dX8_overHour_8 rfl (lv_at hl 0 rfl) ?_
    refine gt_X8_5 X hP (kyM (by decide)) wd_885 dX8_overHour_9 ?_
    refine lv_bipush (v := 19) X.1.1 X.1.2.1 dX8_overHour_12 (by decide) ?_
    refine lv_iload_n X.1.1 X.1.2.1 dX8_overHour_14 rfl (lv_at hl 1 rfl) ?_
    refine lv_iadd X.1.1 X.1.2.1 dX8_overHour_15 ?_
    obtain ⟨g_2, h⟩ := o_gd_inv h
    refine x_iald X hP (kyM (by decide)) (fun _ _ => rfl) g_2 dX8_overHour_16 ?_
    refine lv_iconst (v := 2) X.1.1 X.1.2.1 dX8_overHour_17 (by decide) ?_
    refine lv_icmp_ne (tgt := 23) X.1.1 X.1.2.1 dX8_overHour_18 (by decide) (fun c_3 => ?_) (fun c_3 => ?_)
    · have h := o_neg c_3 h
      refine lv_aload_n X.1.1 X.1.2.1 dX8_overHour_23 rfl (lv_at hl 0 rfl) ?_
      obtain ⟨t_4, hc_5, h⟩ := o_bd_inv h
      refine x_callv (x_runV (As := []) (rest := []) X hP hS (c_X8_goHour l g N X.2.2.2.2.1 t hc_5) ⟨wd_1093, wd_1090, wd_1092, wd_38, wd_62⟩ hd_X8_goHour ⟨by omega, by decide⟩ (x_recv X hP (ci := 8) rfl (kyM (by decide)) rfl) rfl hl.1 rfl (Nat.le_of_ble_eq_true rfl) dX8_overHour_24) hS (fun H locs hP hS => ?_)
      refine lv_iinc (v := (x2 + 1)) (lv' := [(2, .int (x2 + 1)), (0, .ref (g.2.2 (9, 0, 0))), (1, .int x1)]) X.1.1 X.1.2.1 dX8_overHour_27 hl (k := 2) rfl rfl (by decide) rfl (fun ls hl => ?_)
      refine lv_goto (tgt := 2) X.1.1 X.1.2.1 dX8_overHour_30 (by decide) ?_
      exact hk2 (x1, (x2 + 1), t_4) h _ _ _ hP hS (lv_sub hl [1, 2, 0] rfl)
    · have h := o_pos c_3 h
      refine lv_iload_n X.1.1 X.1.2.1 dX8_overHour_21 rfl (lv_at hl 2 rfl) ?_
      obtain ⟨rfl, rfl⟩ := o_ret2 h
      exact x_iret X hP hS dX8_overHour_22
set_option maxRecDepth 100000 in
set_option maxHeartbeats 4000000 in
theorem w_X8_overHour_2 {l : Launch} {g : Ly} {p : Program} {e : Env} {s : State} {m : MethodId} {args : Array Value} {below : List Frame} {meth : Method} {c : Code} (N : Nat) (X : XC p m meth c cX8_overHour 3 s args (.code yX8_overHour cX8_overHour 3 (some .int)) RX8 (some .int) shR g) {r : Int32} {t' : Mm} (x1 : Int32) (x2 : Int32) (t : Mm) (H : Heap) (locs : List Loc) (ls : Array Slot) (hP : XP shR g t H) (hS : va_S (XA shR g) s.heap H locs) (hl : lv_has ls 3 [(0, .ref (g.2.2 (9, 0, 0))), (1, .int x1), (2, .int x2)]) (h : f_X8_overHour_2 N x1 x2 t = some (r, t')) : W p l e (rmv 5) s m args below meth c H locs 0 0 (MQ below (XQi shR g r t') args s 0 0 (XA shR g)) (F0 m 2 ls []) :=
  o_lp_ind (P := fun x : Int32 × Int32 × Mm => ∀ (H : Heap) (locs : List Loc) (ls : Array Slot), XP shR g x.2.2 H → va_S (XA shR g) s.heap H locs → lv_has ls 3 [(0, .ref (g.2.2 (9, 0, 0))), (1, .int x.1), (2, .int x.2.1)] → W p l e (rmv 5) s m args below meth c H locs 0 0 (MQ below (XQi shR g r t') args s 0 0 (XA shR g)) (F0 m 2 ls [])) (fun k hk x h H locs ls hP hS hl => wb_X8_overHour_2 N X hk x.1 x.2.1 x.2.2 H locs ls hP hS hl h) N (x1, x2, t) h H locs ls hP hS hl
set_option maxRecDepth 100000 in
set_option maxHeartbeats 4000000 in
theorem c_X8_overHour (l : Launch) (g : Ly) (N : Nat) (hG : XG shR g) (a0 : Int32) (t : Mm) {r : Int32} {t' : Mm} (h : f_X8_overHour N a0 t = some (r, t')) : MI l yX8_overHour cX8_overHour 3 (some .int) 5 shR g [.ref (g.2.2 (9, 0, 0)), .int a0] t (XQi shR g r t') := by
  refine x_met hG (by decide +kernel) (Nat.le_of_ble_eq_true rfl) ?_
  intro p e s m below meth c ls X hP hl
  have hS : va_S (XA shR g) s.heap s.heap [] := va_S.rf
  have hl : lv_has ls 3 [(0, .ref (g.2.2 (9, 0, 0))), (1, .int a0)] := hl
  unfold f_X8_overHour at h
  generalize ([.ref (g.2.2 (9, 0, 0)), .int a0] : List Value).toArray = args at X ⊢
  refine lv_iconst (v := 0) X.1.1 X.1.2.1 dX8_overHour_0 (by decide) ?_
  refine lv_istore_n (lv' := [(2, .int 0), (0, .ref (g.2.2 (9, 0, 0))), (1, .int a0)]) X.1.1 X.1.2.1 dX8_overHour_1 rfl hl (by decide) rfl (fun ls hl => ?_)
  exact w_X8_overHour_2 N X a0 0 t _ _ _ hP hS (lv_sub hl [1, 2, 0] rfl) h
/-- FordQuestionsModel.crosses(I)I -/
def f_X8_crosses (N : Nat) (a0 : Int32) (t : Mm) : Option (Int32 × Mm) := o_bd (f_X8_isCrosser a0 t) fun (r_3, t_1) => if r_3 = 0 then (some ((-1), t_1)) else (o_bd (f_X8_aside N t_1) fun t_6 => o_bd (f_X8_overHour N a0 t_6) fun (r_10, t_8) => some (r_10, t_8))
theorem hd_X8_crosses : x_hd yX8_crosses 1 := by decide +kernel
set_option maxRecDepth 100000 in
set_option maxHeartbeats 4000000 in
theorem c_X8_crosses (l : Launch) (g : Ly) (N : Nat) (hG : XG shR g) (a0 : Int32) (t : Mm) {r : Int32} {t' : Mm} (h : f_X8_crosses N a0 t = some (r, t')) : MI l yX8_crosses cX8_crosses 2 (some .int) 6 shR g [.ref (g.2.2 (9, 0, 0)), .int a0] t (XQi shR g r t') := by
  refine x_met hG (by decide +kernel) (Nat.le_of_ble_eq_true rfl) ?_
  intro p e s m below meth c ls X hP hl
  have hS : va_S (XA shR g) s.heap s.heap [] := va_S.rf
  have hl : lv_has ls 2 [(0, .ref (g.2.2 (9, 0, 0))), (1, .int a0)] := hl
  unfold f_X8_crosses at h
  generalize ([.ref (g.2.2 (9, 0, 0)), .int a0] : List Value).toArray = args at X ⊢
  refine lv_aload_n X.1.1 X.1.2.1 dX8_crosses_0 rfl (lv_at hl 0 rfl) ?_
  refine lv_iload_n X.1.1 X.1.2.1 dX8_crosses_1 rfl (lv_at hl 1 rfl) ?_
  obtain ⟨⟨r_3, t_1⟩, hc_2, h⟩ := o_bd_inv h
  refine x_calli (x_runV (As := [.int a0]) (rest := []) X hP hS (c_X8_isCrosser l g X.2.2.2.2.1 a0 t hc_2) ⟨wd_1006, wd_1003, wd_1005, wd_26, wd_62⟩ hd_X8_isCrosser ⟨by omega, by decide⟩ (x_recv X hP (ci := 8) rfl (kyM (by decide)) rfl) rfl hl.1 rfl (Nat.le_of_ble_eq_true rfl) dX8_crosses_2) hS (fun H locs hP hS => ?_)
  refine lv_if_ne (tgt := 10) X.1.1 X.1.2.1 dX8_crosses_5 (by decide) (fun c_5 => ?_) (fun c_5 => ?_)
  · have h := o_neg c_5 h
    refine lv_aload_n X.1.1 X.1.2.1 dX8_crosses_10 rfl (lv_at hl 0 rfl) ?_
    obtain ⟨t_6, hc_7, h⟩ := o_bd_inv h
    refine x_callv (x_runV (As := []) (rest := []) X hP hS (c_X8_aside l g N X.2.2.2.2.1 t_1 hc_7) ⟨wd_1014, wd_1011, wd_1013, wd_27, wd_62⟩ hd_X8_aside ⟨by omega, by decide⟩ (x_recv X hP (ci := 8) rfl (kyM (by decide)) rfl) rfl hl.1 rfl (Nat.le_of_ble_eq_true rfl) dX8_crosses_11) hS (fun H locs hP hS => ?_)
    refine lv_aload_n X.1.1 X.1.2.1 dX8_crosses_14 rfl (lv_at hl 0 rfl) ?_
    refine lv_iload_n X.1.1 X.1.2.1 dX8_crosses_15 rfl (lv_at hl 1 rfl) ?_
    obtain ⟨⟨r_10, t_8⟩, hc_9, h⟩ := o_bd_inv h
    refine x_calli (x_runV (As := [.int a0]) (rest := []) X hP hS (c_X8_overHour l g N X.2.2.2.2.1 a0 t_6 hc_9) ⟨wd_1154, wd_1151, wd_1153, wd_43, wd_62⟩ hd_X8_overHour ⟨by omega, by decide⟩ (x_recv X hP (ci := 8) rfl (kyM (by decide)) rfl) rfl hl.1 rfl (Nat.le_of_ble_eq_true rfl) dX8_crosses_16) hS (fun H locs hP hS => ?_)
    obtain ⟨rfl, rfl⟩ := o_ret2 h
    exact x_iret X hP hS dX8_crosses_19
  · have h := o_pos c_5 h
    refine lv_iconst (v := (-1)) X.1.1 X.1.2.1 dX8_crosses_8 (by decide) ?_
    obtain ⟨rfl, rfl⟩ := o_ret2 h
    exact x_iret X hP hS dX8_crosses_9
/-- FordQuestionsModel.last()I -/
def f_X8_last (N : Nat) (t : Mm) : Option (Int32 × Mm) := o_bd (f_X8_aside N t) fun t_1 => o_bd (f_X8_lastHour N t_1) fun (r_5, t_3) => some (r_5, t_3)
theorem hd_X8_last : x_hd yX8_last 0 := by decide +kernel
set_option maxRecDepth 100000 in
set_option maxHeartbeats 4000000 in
theorem c_X8_last (l : Launch) (g : Ly) (N : Nat) (hG : XG shR g) (t : Mm) {r : Int32} {t' : Mm} (h : f_X8_last N t = some (r, t')) : MI l yX8_last cX8_last 1 (some .int) 6 shR g [.ref (g.2.2 (9, 0, 0))] t (XQi shR g r t') := by
  refine x_met hG (by decide +kernel) (Nat.le_of_ble_eq_true rfl) ?_
  intro p e s m below meth c ls X hP hl
  have hS : va_S (XA shR g) s.heap s.heap [] := va_S.rf
  have hl : lv_has ls 1 [(0, .ref (g.2.2 (9, 0, 0)))] := hl
  unfold f_X8_last at h
  generalize ([.ref (g.2.2 (9, 0, 0))] : List Value).toArray = args at X ⊢
  refine lv_aload_n X.1.1 X.1.2.1 dX8_last_0 rfl (lv_at hl 0 rfl) ?_
  obtain ⟨t_1, hc_2, h⟩ := o_bd_inv h
  refine x_callv (x_runV (As := []) (rest := []) X hP hS (c_X8_aside l g N X.2.2.2.2.1 t hc_2) ⟨wd_1014, wd_1011, wd_1013, wd_27, wd_62⟩ hd_X8_aside ⟨by omega, by decide⟩ (x_recv X hP (ci := 8) rfl (kyM (by decide)) rfl) rfl hl.1 rfl (Nat.le_of_ble_eq_true rfl) dX8_last_1) hS (fun H locs hP hS => ?_)
  refine lv_aload_n X.1.1 X.1.2.1 dX8_last_4 rfl (lv_at hl 0 rfl) ?_
  obtain ⟨⟨r_5, t_3⟩, hc_4, h⟩ := o_bd_inv h
  refine x_calli (x_runV (As := []) (rest := []) X hP hS (c_X8_lastHour l g N X.2.2.2.2.1 t_1 hc_4) ⟨wd_1162, wd_1159, wd_1161, wd_44, wd_62⟩ hd_X8_lastHour ⟨by omega, by decide⟩ (x_recv X hP (ci := 8) rfl (kyM (by decide)) rfl) rfl hl.1 rfl (Nat.le_of_ble_eq_true rfl) dX8_last_5) hS (fun H locs hP hS => ?_)
  obtain ⟨rfl, rfl⟩ := o_ret2 h
  exact x_iret X hP hS dX8_last_8
def f_X8_most_62 (N : Nat) (k24 : Int32 × Int32 × Int32 × Int32 × Mm → Option (Int32 × Mm)) (x1 : Int32) (x3 : Int32) (x4 : Int32) (s0 : Int32) (t : Mm) : Option (Int32 × Mm) := o_bd (f_X8_goHour N t) fun t_1 => k24 (x1, s0, x3, (x4 + 1), t_1)
def f_X8_most_49 (N : Nat) (k24 : Int32 × Int32 × Int32 × Int32 × Mm → Option (Int32 × Mm)) (x1 : Int32) (x2 : Int32) (x4 : Int32) (x5 : Int32) (s0 : Int32) (t : Mm) : Option (Int32 × Mm) := if x5 ≤ x2 then (f_X8_most_62 N k24 x1 s0 x4 x2 t) else (f_X8_most_62 N k24 x1 s0 x4 x5 t)
def b_X8_most_24 (N : Nat) (k24 : Int32 × Int32 × Int32 × Int32 × Mm → Option (Int32 × Mm)) (x1 : Int32) (x2 : Int32) (x3 : Int32) (x4 : Int32) (t : Mm) : Option (Int32 × Mm) := if 101 ≤ x4 then (if x1 = 0 then (some (x2, t)) else (some (x3, t))) else (o_bd (f_X8_inMany N t) fun (r_8, t_6) => if r_8 ≤ x2 then (f_X8_most_49 N k24 x1 x2 x4 r_8 x3 t_6) else (f_X8_most_49 N k24 x1 x2 x4 r_8 x4 t_6))
def f_X8_most_24 (N : Nat) (x1 : Int32) (x2 : Int32) (x3 : Int32) (x4 : Int32) (t : Mm) : Option (Int32 × Mm) := o_lp (fun k x => b_X8_most_24 N k x.1 x.2.1 x.2.2.1 x.2.2.2.1 x.2.2.2.2) N (x1, x2, x3, x4, t)
/-- FordQuestionsModel.most(I)I -/
def f_X8_most (N : Nat) (a0 : Int32) (t : Mm) : Option (Int32 × Mm) := o_bd (f_X8_in (a0.toInt64) 0 1 t) fun (r_13, t_11) => if r_13 = 0 then (some ((-1), t_11)) else (o_bd (f_X8_aside N t_11) fun t_16 => f_X8_most_24 N a0 (-4) 0 0 t_16)
theorem hd_X8_most : x_hd yX8_most 1 := by decide +kernel
set_option maxRecDepth 100000 in
set_option maxHeartbeats 4000000 in
theorem w_X8_most_62 {l : Launch} {g : Ly} {p : Program} {e : Env} {s : State} {m : MethodId} {args : Array Value} {below : List Frame} {meth : Method} {c : Code} (N : Nat) (X : XC p m meth c cX8_most 6 s args (.code yX8_most cX8_most 6 (some .int)) RX8 (some .int) shR g) {r : Int32} {t' : Mm} {k24 : Int32 × Int32 × Int32 × Int32 × Mm → Option (Int32 × Mm)} (hk24 : ∀ x : Int32 × Int32 × Int32 × Int32 × Mm, k24 x = some (r, t') → ∀ (H : Heap) (locs : List Loc) (ls : Array Slot), XP shR g x.2.2.2.2 H → va_S (XA shR g) s.heap H locs → lv_has ls 6 [(0, .ref (g.2.2 (9, 0, 0))), (1, .int x.1), (2, .int x.2.1), (3, .int x.2.2.1), (4, .int x.2.2.2.1)] → W p l e (rmv 5) s m args below meth c H locs 0 0 (MQ below (XQi shR g r t') args s 0 0 (XA shR g)) (F0 m 24 ls [])) (x1 : Int32) (x3 : Int32) (x4 : Int32) (s0 : Int32) (t : Mm) (H : Heap) (locs : List Loc) (ls : Array Slot) (hP : XP shR g t H) (hS : va_S (XA shR g) s.heap H locs) (hl : lv_has ls 6 [(0, .ref (g.2.2 (9, 0, 0))), (1, .int x1), (3, .int x3), (4, .int x4)]) (h : f_X8_most_62 N k24 x1 x3 x4 s0 t = some (r, t')) : W p l e (rmv 5) s m args below meth c H locs 0 0 (MQ below (XQi shR g r t') args s 0 0 (XA shR g)) (F0 m 62 ls [.int s0]) := by
  unfold f_X8_most_62 at h
  refine lv_istore_n (lv' := [(2, .int s0), (0, .ref (g.2.2 (9, 0, 0))), (1, .int x1), (3, .int x3), (4, .int x4)]) X.1.1 X.1.2.1 dX8_most_62 rfl hl (by decide) rfl (fun ls hl => ?_)
  refine lv_aload_n X.1.1 X.1.2.1 dX8_most_63 rfl (lv_at hl 1 rfl) ?_
  obtain ⟨t_1, hc_2, h⟩ := o_bd_inv h
  refine x_callv (x_runV (As := []) (rest := []) X hP hS (c_X8_goHour l g N X.2.2.2.2.1 t hc_2) ⟨wd_1093, wd_1090, wd_1092, wd_38, wd_62⟩ hd_X8_goHour ⟨by omega, by decide⟩ (x_recv X hP (ci := 8) rfl (kyM (by decide)) rfl) rfl hl.1 rfl (Nat.le_of_ble_eq_true rfl) dX8_most_64) hS (fun H locs hP hS => ?_)
  refine lv_iinc (v := (x4 + 1)) (lv' := [(4, .int (x4 + 1)), (2, .int s0), (0, .ref (g.2.2 (9, 0, 0))), (1, .int x1), (3, .int x3)]) X.1.1 X.1.2.1 dX8_most_67 hl (k := 4) rfl rfl (by decide) rfl (fun ls hl => ?_)
  refine lv_goto (tgt := 24) X.1.1 X.1.2.1 dX8_most_70 (by decide) ?_
  exact hk24 (x1, s0, x3, (x4 + 1), t_1) h _ _ _ hP hS (lv_sub hl [2, 3, 1, 4, 0] rfl)
set_option maxRecDepth 100000 in
set_option maxHeartbeats 4000000 in
theorem w_X8_most_49 {l : Launch} {g : Ly} {p : Program} {e : Env} {s : State} {m : MethodId} {args : Array Value} {below : List Frame} {meth : Method} {c : Code} (N : Nat) (X : XC p m meth c cX8_most 6 s args (.code yX8_most cX8_most 6 (some .int)) RX8 (some .int) shR g) {r : Int32} {t' : Mm} {k24 : Int32 × Int32 × Int32 × Int32 × Mm → Option (Int32 × Mm)} (hk24 : ∀ x : Int32 × Int32 × Int32 × Int32 × Mm, k24 x = some (r, t') → ∀ (H : Heap) (locs : List Loc) (ls : Array Slot), XP shR g x.2.2.2.2 H → va_S (XA shR g) s.heap H locs → lv_has ls 6 [(0, .ref (g.2.2 (9, 0, 0))), (1, .int x.1), (2, .int x.2.1), (3, .int x.2.2.1), (4, .int x.2.2.2.1)] → W p l e (rmv 5) s m args below meth c H locs 0 0 (MQ below (XQi shR g r t') args s 0 0 (XA shR g)) (F0 m 24 ls [])) (x1 : Int32) (x2 : Int32) (x4 : Int32) (x5 : Int32) (s0 : Int32) (t : Mm) (H : Heap) (locs : List Loc) (ls : Array Slot) (hP : XP shR g t H) (hS : va_S (XA shR g) s.heap H locs) (hl : lv_has ls 6 [(0, .ref (g.2.2 (9, 0, 0))), (1, .int x1), (2, .int x2), (4, .int x4), (5, .int x5)]) (h : f_X8_most_49 N k24 x1 x2 x4 x5 s0 t = some (r, t')) : W p l e (rmv 5) s m args below meth c H locs 0 0 (MQ below (XQi shR g r t') args s 0 0 (XA shR g)) (F0 m 49 ls [.int s0]) := by
  unfold f_X8_most_49 at h
  refine lv_istore_n (lv' := [(3, .int s0), (0, .ref (g.2.2 (9, 0, 0))), (1, .int x1), (2, .int x2), (4, .int x4), (5, .int x5)]) X.1.1 X.1.2.1 dX8_most_49 rfl hl (by decide) rfl (fun ls hl => ?_)
  refine lv_iload X.1.1 X.1.2.1 dX8_most_50 (lv_at hl 5 rfl) ?_
  refine lv_iload_n X.1.1 X.1.2.1 dX8_most_52 rfl (lv_at hl 3 rfl) ?_
  refine lv_icmp_le (tgt := 61) X.1.1 X.1.2.1 dX8_most_53 (by decide) (fun c_3 => ?_) (fun c_3 => ?_)
  · have h := o_pos c_3 h
    refine lv_iload_n X.1.1 X.1.2.1 dX8_most_61 rfl (lv_at hl 3 rfl) ?_
    exact w_X8_most_62 N X hk24 x1 s0 x4 x2 t _ _ _ hP hS (lv_sub hl [1, 2, 0, 4] rfl) h
  · have h := o_neg c_3 h
    refine lv_iload X.1.1 X.1.2.1 dX8_most_56 (lv_at hl 5 rfl) ?_
    refine lv_goto (tgt := 62) X.1.1 X.1.2.1 dX8_most_58 (by decide) ?_
    exact w_X8_most_62 N X hk24 x1 s0 x4 x5 t _ _ _ hP hS (lv_sub hl [1, 2, 0, 4] rfl) h
set_option maxRecDepth 100000 in
set_option maxHeartbeats 4000000 in
theorem wb_X8_most_24 {l : Launch} {g : Ly} {p : Program} {e : Env} {s : State} {m : MethodId} {args : Array Value} {below : List Frame} {meth : Method} {c : Code} (N : Nat) (X : XC p m meth c cX8_most 6 s args (.code yX8_most cX8_most 6 (some .int)) RX8 (some .int) shR g) {r : Int32} {t' : Mm} {k24 : Int32 × Int32 × Int32 × Int32 × Mm → Option (Int32 × Mm)} (hk24 : ∀ x : Int32 × Int32 × Int32 × Int32 × Mm, k24 x = some (r, t') → ∀ (H : Heap) (locs : List Loc) (ls : Array Slot), XP shR g x.2.2.2.2 H → va_S (XA shR g) s.heap H locs → lv_has ls 6 [(0, .ref (g.2.2 (9, 0, 0))), (1, .int x.1), (2, .int x.2.1), (3, .int x.2.2.1), (4, .int x.2.2.2.1)] → W p l e (rmv 5) s m args below meth c H locs 0 0 (MQ below (XQi shR g r t') args s 0 0 (XA shR g)) (F0 m 24 ls [])) (x1 : Int32) (x2 : Int32) (x3 : Int32) (x4 : Int32) (t : Mm) (H : Heap) (locs : List Loc) (ls : Array Slot) (hP : XP shR g t H) (hS : va_S (XA shR g) s.heap H locs) (hl : lv_has ls 6 [(0, .ref (g.2.2 (9, 0, 0))), (1, .int x1), (2, .int x2), (3, .int x3), (4, .int x4)]) (h : b_X8_most_24 N k24 x1 x2 x3 x4 t = some (r, t')) : W p l e (rmv 5) s m args below meth c H locs 0 0 (MQ below (XQi shR g r t') args s 0 0 (XA shR g)) (F0 m 24 ls []) := by
  unfold b_X8_most_24 at h
  refine lv_iload X.1.1 X.1.2.1 dX8_most_24 (lv_at hl 4 rfl) ?_
  refine lv_bipush (v := 101) X.1.1 X.1.2.1 dX8_most_26 (by decide) ?_
  refine lv_icmp_ge (tgt := 73) X.1.1 X.1.2.1 dX8_most_28 (by decide) (fun c_4 => ?_) (fun c_4 => ?_)
  · have h := o_pos c_4 h
    refine lv_iload_n X.1.1 X.1.2.1 dX8_most_73 rfl (lv_at hl 1 rfl) ?_
    refine lv_if_ne (tgt := 81) X.1.1 X.1.2.1 dX8_most_74 (by decide) (fun c_5 => ?_) (fun c_5 => ?_)
    · have h := o_neg c_5 h
      refine lv_iload_n X.1.1 X.1.2.1 dX8_most_81 rfl (lv_at hl 3 rfl) ?_
      obtain ⟨rfl, rfl⟩ := o_ret2 h
      exact x_iret X hP hS dX8_most_82
    · have h := o_pos c_5 h
      refine lv_iload_n X.1.1 X.1.2.1 dX8_most_77 rfl (lv_at hl 2 rfl) ?_
      refine lv_goto (tgt := 82) X.1.1 X.1.2.1 dX8_most_78 (by decide) ?_
      obtain ⟨rfl, rfl⟩ := o_ret2 h
      exact x_iret X hP hS dX8_most_82
  · have h := o_neg c_4 h
    refine lv_aload_n X.1.1 X.1.2.1 dX8_most_31 rfl (lv_at hl 0 rfl) ?_
    obtain ⟨⟨r_8, t_6⟩, hc_7, h⟩ := o_bd_inv h
    refine x_calli (x_runV (As := []) (rest := []) X hP hS (c_X8_inMany l g N X.2.2.2.2.1 t hc_7) ⟨wd_1170, wd_1167, wd_1169, wd_45, wd_62⟩ hd_X8_inMany ⟨by omega, by decide⟩ (x_recv X hP (ci := 8) rfl (kyM (by decide)) rfl) rfl hl.1 rfl (Nat.le_of_ble_eq_true rfl) dX8_most_32) hS (fun H locs hP hS => ?_)
    refine lv_istore (lv' := [(5, .int r_8), (0, .ref (g.2.2 (9, 0, 0))), (1, .int x1), (2, .int x2), (3, .int x3), (4, .int x4)]) X.1.1 X.1.2.1 dX8_most_35 hl (by decide) rfl (fun ls hl => ?_)
    refine lv_iload X.1.1 X.1.2.1 dX8_most_37 (lv_at hl 0 rfl) ?_
    refine lv_iload_n X.1.1 X.1.2.1 dX8_most_39 rfl (lv_at hl 3 rfl) ?_
    refine lv_icmp_le (tgt := 48) X.1.1 X.1.2.1 dX8_most_40 (by decide) (fun c_10 => ?_) (fun c_10 => ?_)
    · have h := o_pos c_10 h
      refine lv_iload_n X.1.1 X.1.2.1 dX8_most_48 rfl (lv_at hl 4 rfl) ?_
      exact w_X8_most_49 N X hk24 x1 x2 x4 r_8 x3 t_6 _ _ _ hP hS (lv_sub hl [1, 2, 3, 5, 0] rfl) h
    · have h := o_neg c_10 h
      refine lv_iload X.1.1 X.1.2.1 dX8_most_43 (lv_at hl 5 rfl) ?_
      refine lv_goto (tgt := 49) X.1.1 X.1.2.1 dX8_most_45 (by decide) ?_
      exact w_X8_most_49 N X hk24 x1 x2 x4 r_8 x4 t_6 _ _ _ hP hS (lv_sub hl [1, 2, 3, 5, 0] rfl) h
set_option maxRecDepth 100000 in
set_option maxHeartbeats 4000000 in
theorem w_X8_most_24 {l : Launch} {g : Ly} {p : Program} {e : Env} {s : State} {m : MethodId} {args : Array Value} {below : List Frame} {meth : Method} {c : Code} (N : Nat) (X : XC p m meth c cX8_most 6 s args (.code yX8_most cX8_most 6 (some .int)) RX8 (some .int) shR g) {r : Int32} {t' : Mm} (x1 : Int32) (x2 : Int32) (x3 : Int32) (x4 : Int32) (t : Mm) (H : Heap) (locs : List Loc) (ls : Array Slot) (hP : XP shR g t H) (hS : va_S (XA shR g) s.heap H locs) (hl : lv_has ls 6 [(0, .ref (g.2.2 (9, 0, 0))), (1, .int x1), (2, .int x2), (3, .int x3), (4, .int x4)]) (h : f_X8_most_24 N x1 x2 x3 x4 t = some (r, t')) : W p l e (rmv 5) s m args below meth c H locs 0 0 (MQ below (XQi shR g r t') args s 0 0 (XA shR g)) (F0 m 24 ls []) :=
  o_lp_ind (P := fun x : Int32 × Int32 × Int32 × Int32 × Mm => ∀ (H : Heap) (locs : List Loc) (ls : Array Slot), XP shR g x.2.2.2.2 H → va_S (XA shR g) s.heap H locs → lv_has ls 6 [(0, .ref (g.2.2 (9, 0, 0))), (1, .int x.1), (2, .int x.2.1), (3, .int x.2.2.1), (4, .int x.2.2.2.1)] → W p l e (rmv 5) s m args below meth c H locs 0 0 (MQ below (XQi shR g r t') args s 0 0 (XA shR g)) (F0 m 24 ls [])) (fun k hk x h H locs ls hP hS hl => wb_X8_most_24 N X hk x.1 x.2.1 x.2.2.1 x.2.2.2.1 x.2.2.2.2 H locs ls hP hS hl h) N (x1, x2, x3, x4, t) h H locs ls hP hS hl
set_option maxRecDepth 100000 in
set_option maxHeartbeats 4000000 in
theorem c_X8_most (l : Launch) (g : Ly) (N : Nat) (hG : XG shR g) (a0 : Int32) (t : Mm) {r : Int32} {t' : Mm} (h : f_X8_most N a0 t = some (r, t')) : MI l yX8_most cX8_most 6 (some .int) 5 shR g [.ref (g.2.2 (9, 0, 0)), .int a0] t (XQi shR g r t') := by
  refine x_met hG (by decide +kernel) (Nat.le_of_ble_eq_true rfl) ?_
  intro p e s m below meth c ls X hP hl
  have hS : va_S (XA shR g) s.heap s.heap [] := va_S.rf
  have hl : lv_has ls 6 [(0, .ref (g.2.2 (9, 0, 0))), (1, .int a0)] := hl
  unfold f_X8_most at h
  generalize ([.ref (g.2.2 (9, 0, 0)), .int a0] : List Value).toArray = args at X ⊢
  refine lv_iload_n X.1.1 X.1.2.1 dX8_most_0 rfl (lv_at hl 1 rfl) ?_
  refine lv_i2l (v := (a0.toInt64)) X.1.1 X.1.2.1 dX8_most_1 rfl ?_
  refine lv_lconst (v := 0) X.1.1 X.1.2.1 dX8_most_2 (by decide) ?_
  refine lv_lconst (v := 1) X.1.1 X.1.2.1 dX8_most_3 (by decide) ?_
  obtain ⟨⟨r_13, t_11⟩, hc_12, h⟩ := o_bd_inv h
  refine x_calli (x_runS (As := [.long (a0.toInt64), .long 0, .long 1]) (rest := []) X hP hS (c_X8_in l g X.2.2.2.2.1 (a0.toInt64) 0 1 t hc_12) ⟨wd_981, wd_979, wd_980, wd_62⟩ hd_X8_in ⟨by omega, by decide⟩ rfl hl.1 rfl (Nat.le_of_ble_eq_true rfl) dX8_most_4) hS (fun H locs hP hS => ?_)
  refine lv_if_ne (tgt := 12) X.1.1 X.1.2.1 dX8_most_7 (by decide) (fun c_15 => ?_) (fun c_15 => ?_)
  · have h := o_neg c_15 h
    refine lv_aload_n X.1.1 X.1.2.1 dX8_most_12 rfl (lv_at hl 0 rfl) ?_
    obtain ⟨t_16, hc_17, h⟩ := o_bd_inv h
    refine x_callv (x_runV (As := []) (rest := []) X hP hS (c_X8_aside l g N X.2.2.2.2.1 t_11 hc_17) ⟨wd_1014, wd_1011, wd_1013, wd_27, wd_62⟩ hd_X8_aside ⟨by omega, by decide⟩ (x_recv X hP (ci := 8) rfl (kyM (by decide)) rfl) rfl hl.1 rfl (Nat.le_of_ble_eq_true rfl) dX8_most_13) hS (fun H locs hP hS => ?_)
    refine lv_bipush (v := (-4)) X.1.1 X.1.2.1 dX8_most_16 (by decide) ?_
    refine lv_istore_n (lv' := [(2, .int (-4)), (0, .ref (g.2.2 (9, 0, 0))), (1, .int a0)]) X.1.1 X.1.2.1 dX8_most_18 rfl hl (by decide) rfl (fun ls hl => ?_)
    refine lv_iconst (v := 0) X.1.1 X.1.2.1 dX8_most_19 (by decide) ?_
    refine lv_istore_n (lv' := [(3, .int 0), (2, .int (-4)), (0, .ref (g.2.2 (9, 0, 0))), (1, .int a0)]) X.1.1 X.1.2.1 dX8_most_20 rfl hl (by decide) rfl (fun ls hl => ?_)
    refine lv_iconst (v := 0) X.1.1 X.1.2.1 dX8_most_21 (by decide) ?_
    refine lv_istore (lv' := [(4, .int 0), (3, .int 0), (2, .int (-4)), (0, .ref (g.2.2 (9, 0, 0))), (1, .int a0)]) X.1.1 X.1.2.1 dX8_most_22 hl (by decide) rfl (fun ls hl => ?_)
    exact w_X8_most_24 N X a0 (-4) 0 0 t_16 _ _ _ hP hS (lv_sub hl [3, 4, 2, 1, 0] rfl) h
  · have h := o_pos c_15 h
    refine lv_iconst (v := (-1)) X.1.1 X.1.2.1 dX8_most_10 (by decide) ?_
    obtain ⟨rfl, rfl⟩ := o_ret2 h
    exact x_iret X hP hS dX8_most_11
def f_X8_leftMany_31 (N : Nat) (k4 : Int32 × Int32 × Mm → Option (Int32 × Mm)) (x2 : Int32) (s0 : Int32) (s1 : Int32) (t : Mm) : Option (Int32 × Mm) := k4 ((s0 + s1), (x2 + 1), t)
def b_X8_leftMany_4 (N : Nat) (k4 : Int32 × Int32 × Mm → Option (Int32 × Mm)) (x1 : Int32) (x2 : Int32) (t : Mm) : Option (Int32 × Mm) := if (t.1 9 0 0 0) ≤ x2 then (some (x1, t)) else (if o_inb 0 31 = true then (o_bd (f_X8_has (t.1 9 0 4 (Int32.toNatClampNeg 0)) x2 t) fun (r_5, t_3) => if r_5 = 0 then (f_X8_leftMany_31 N k4 x2 x1 1 t_3) else (f_X8_leftMany_31 N k4 x2 x1 0 t_3)) else none)
def f_X8_leftMany_4 (N : Nat) (x1 : Int32) (x2 : Int32) (t : Mm) : Option (Int32 × Mm) := o_lp (fun k x => b_X8_leftMany_4 N k x.1 x.2.1 x.2.2) N (x1, x2, t)
/-- FordQuestionsModel.leftMany()I -/
def f_X8_leftMany (N : Nat) (t : Mm) : Option (Int32 × Mm) := f_X8_leftMany_4 N 0 0 t
theorem hd_X8_leftMany : x_hd yX8_leftMany 0 := by decide +kernel
set_option maxRecDepth 100000 in
set_option maxHeartbeats 4000000 in
theorem w_X8_leftMany_31 {l : Launch} {g : Ly} {p : Program} {e : Env} {s : State} {m : MethodId} {args : Array Value} {below : List Frame} {meth : Method} {c : Code} (N : Nat) (X : XC p m meth c cX8_leftMany 3 s args (.code yX8_leftMany cX8_leftMany 3 (some .int)) RX8 (some .int) shR g) {r : Int32} {t' : Mm} {k4 : Int32 × Int32 × Mm → Option (Int32 × Mm)} (hk4 : ∀ x : Int32 × Int32 × Mm, k4 x = some (r, t') → ∀ (H : Heap) (locs : List Loc) (ls : Array Slot), XP shR g x.2.2 H → va_S (XA shR g) s.heap H locs → lv_has ls 3 [(0, .ref (g.2.2 (9, 0, 0))), (1, .int x.1), (2, .int x.2.1)] → W p l e (rmv 2) s m args below meth c H locs 0 0 (MQ below (XQi shR g r t') args s 0 0 (XA shR g)) (F0 m 4 ls [])) (x2 : Int32) (s0 : Int32) (s1 : Int32) (t : Mm) (H : Heap) (locs : List Loc) (ls : Array Slot) (hP : XP shR g t H) (hS : va_S (XA shR g) s.heap H locs) (hl : lv_has ls 3 [(0, .ref (g.2.2 (9, 0, 0))), (2, .int x2)]) (h : f_X8_leftMany_31 N k4 x2 s0 s1 t = some (r, t')) : W p l e (rmv 2) s m args below meth c H locs 0 0 (MQ below (XQi shR g r t') args s 0 0 (XA shR g)) (F0 m 31 ls [.int s1, .int s0]) := by
  unfold f_X8_leftMany_31 at h
  refine lv_iadd X.1.1 X.1.2.1 dX8_leftMany_31 ?_
  refine lv_istore_n (lv' := [(1, .int (s0 + s1)), (0, .ref (g.2.2 (9, 0, 0))), (2, .int x2)]) X.1.1 X.1.2.1 dX8_leftMany_32 rfl hl (by decide) rfl (fun ls hl => ?_)
  refine lv_iinc (v := (x2 + 1)) (lv' := [(2, .int (x2 + 1)), (1, .int (s0 + s1)), (0, .ref (g.2.2 (9, 0, 0)))]) X.1.1 X.1.2.1 dX8_leftMany_33 hl (k := 2) rfl rfl (by decide) rfl (fun ls hl => ?_)
  refine lv_goto (tgt := 4) X.1.1 X.1.2.1 dX8_leftMany_36 (by decide) ?_
  exact hk4 ((s0 + s1), (x2 + 1), t) h _ _ _ hP hS (lv_sub hl [2, 1, 0] rfl)
set_option maxRecDepth 100000 in
set_option maxHeartbeats 4000000 in
theorem wb_X8_leftMany_4 {l : Launch} {g : Ly} {p : Program} {e : Env} {s : State} {m : MethodId} {args : Array Value} {below : List Frame} {meth : Method} {c : Code} (N : Nat) (X : XC p m meth c cX8_leftMany 3 s args (.code yX8_leftMany cX8_leftMany 3 (some .int)) RX8 (some .int) shR g) {r : Int32} {t' : Mm} {k4 : Int32 × Int32 × Mm → Option (Int32 × Mm)} (hk4 : ∀ x : Int32 × Int32 × Mm, k4 x = some (r, t') → ∀ (H : Heap) (locs : List Loc) (ls : Array Slot), XP shR g x.2.2 H → va_S (XA shR g) s.heap H locs → lv_has ls 3 [(0, .ref (g.2.2 (9, 0, 0))), (1, .int x.1), (2, .int x.2.1)] → W p l e (rmv 2) s m args below meth c H locs 0 0 (MQ below (XQi shR g r t') args s 0 0 (XA shR g)) (F0 m 4 ls [])) (x1 : Int32) (x2 : Int32) (t : Mm) (H : Heap) (locs : List Loc) (ls : Array Slot) (hP : XP shR g t H) (hS : va_S (XA shR g) s.heap H locs) (hl : lv_has ls 3 [(0, .ref (g.2.2 (9, 0, 0))), (1, .int x1), (2, .int x2)]) (h : b_X8_leftMany_4 N k4 x1 x2 t = some (r, t')) : W p l e (rmv 2) s m args below meth c H locs 0 0 (MQ below (XQi shR g r t') args s 0 0 (XA shR g)) (F0 m 4 ls []) := by
  unfold b_X8_leftMany_4 at h
  refine lv_iload_n X.1.1 X.1.2.1 dX8_leftMany_4 rfl (lv_at hl 2 rfl) ?_
  refine lv_aload_n X.1.1 X.1.2.1 dX8_leftMany_5 rfl (lv_at hl 0 rfl) ?_
  refine gt_X8_0 X hP (kyM (by decide)) wd_880 dX8_leftMany_6 ?_
  refine lv_icmp_ge (tgt := 39) X.1.1 X.1.2.1 dX8_leftMany_9 (by decide) (fun c_1 => ?_) (fun c_1 => ?_)
  · have h := o_pos c_1 h
    refine lv_iload_n X.1.1 X.1.2.1 dX8_leftMany_39 rfl (lv_at hl 1 rfl) ?_
    obtain ⟨rfl, rfl⟩ := o_ret2 h
    exact x_iret X hP hS dX8_leftMany_40
  · have h := o_neg c_1 h
    refine lv_iload_n X.1.1 X.1.2.1 dX8_leftMany_12 rfl (lv_at hl 1 rfl) ?_
    refine lv_aload_n X.1.1 X.1.2.1 dX8_leftMany_13 rfl (lv_at hl 0 rfl) ?_
    refine gt_X8_4 X hP (kyM (by decide)) wd_884 dX8_leftMany_14 ?_
    refine lv_iconst (v := 0) X.1.1 X.1.2.1 dX8_leftMany_17 (by decide) ?_
    obtain ⟨g_2, h⟩ := o_gd_inv h
    refine x_iald X hP (kyM (by decide)) (fun _ _ => rfl) g_2 dX8_leftMany_18 ?_
    refine lv_iload_n X.1.1 X.1.2.1 dX8_leftMany_19 rfl (lv_at hl 2 rfl) ?_
    obtain ⟨⟨r_5, t_3⟩, hc_4, h⟩ := o_bd_inv h
    refine x_calli (x_runS (As := [.int (t.1 9 0 4 (Int32.toNatClampNeg 0)), .int x2]) (rest := [.int x1]) X hP hS (c_X8_has l g X.2.2.2.2.1 (t.1 9 0 4 (Int32.toNatClampNeg 0)) x2 t hc_4) ⟨wd_1021, wd_1019, wd_1020, wd_62⟩ hd_X8_has ⟨by omega, by decide⟩ rfl hl.1 rfl (Nat.le_of_ble_eq_true rfl) dX8_leftMany_20) hS (fun H locs hP hS => ?_)
    refine lv_if_eq (tgt := 30) X.1.1 X.1.2.1 dX8_leftMany_23 (by decide) (fun c_7 => ?_) (fun c_7 => ?_)
    · have h := o_pos c_7 h
      refine lv_iconst (v := 1) X.1.1 X.1.2.1 dX8_leftMany_30 (by decide) ?_
      exact w_X8_leftMany_31 N X hk4 x2 x1 1 t_3 _ _ _ hP hS (lv_sub hl [0, 2] rfl) h
    · have h := o_neg c_7 h
      refine lv_iconst (v := 0) X.1.1 X.1.2.1 dX8_leftMany_26 (by decide) ?_
      refine lv_goto (tgt := 31) X.1.1 X.1.2.1 dX8_leftMany_27 (by decide) ?_
      exact w_X8_leftMany_31 N X hk4 x2 x1 0 t_3 _ _ _ hP hS (lv_sub hl [0, 2] rfl) h
set_option maxRecDepth 100000 in
set_option maxHeartbeats 4000000 in
theorem w_X8_leftMany_4 {l : Launch} {g : Ly} {p : Program} {e : Env} {s : State} {m : MethodId} {args : Array Value} {below : List Frame} {meth : Method} {c : Code} (N : Nat) (X : XC p m meth c cX8_leftMany 3 s args (.code yX8_leftMany cX8_leftMany 3 (some .int)) RX8 (some .int) shR g) {r : Int32} {t' : Mm} (x1 : Int32) (x2 : Int32) (t : Mm) (H : Heap) (locs : List Loc) (ls : Array Slot) (hP : XP shR g t H) (hS : va_S (XA shR g) s.heap H locs) (hl : lv_has ls 3 [(0, .ref (g.2.2 (9, 0, 0))), (1, .int x1), (2, .int x2)]) (h : f_X8_leftMany_4 N x1 x2 t = some (r, t')) : W p l e (rmv 2) s m args below meth c H locs 0 0 (MQ below (XQi shR g r t') args s 0 0 (XA shR g)) (F0 m 4 ls []) :=
  o_lp_ind (P := fun x : Int32 × Int32 × Mm => ∀ (H : Heap) (locs : List Loc) (ls : Array Slot), XP shR g x.2.2 H → va_S (XA shR g) s.heap H locs → lv_has ls 3 [(0, .ref (g.2.2 (9, 0, 0))), (1, .int x.1), (2, .int x.2.1)] → W p l e (rmv 2) s m args below meth c H locs 0 0 (MQ below (XQi shR g r t') args s 0 0 (XA shR g)) (F0 m 4 ls [])) (fun k hk x h H locs ls hP hS hl => wb_X8_leftMany_4 N X hk x.1 x.2.1 x.2.2 H locs ls hP hS hl h) N (x1, x2, t) h H locs ls hP hS hl
set_option maxRecDepth 100000 in
set_option maxHeartbeats 4000000 in
theorem c_X8_leftMany (l : Launch) (g : Ly) (N : Nat) (hG : XG shR g) (t : Mm) {r : Int32} {t' : Mm} (h : f_X8_leftMany N t = some (r, t')) : MI l yX8_leftMany cX8_leftMany 3 (some .int) 2 shR g [.ref (g.2.2 (9, 0, 0))] t (XQi shR g r t') := by
  refine x_met hG (by decide +kernel) (Nat.le_of_ble_eq_true rfl) ?_
  intro p e s m below meth c ls X hP hl
  have hS : va_S (XA shR g) s.heap s.heap [] := va_S.rf
  have hl : lv_has ls 3 [(0, .ref (g.2.2 (9, 0, 0)))] := hl
  unfold f_X8_leftMany at h
  generalize ([.ref (g.2.2 (9, 0, 0))] : List Value).toArray = args at X ⊢
  refine lv_iconst (v := 0) X.1.1 X.1.2.1 dX8_leftMany_0 (by decide) ?_
  refine lv_istore_n (lv' := [(1, .int 0), (0, .ref (g.2.2 (9, 0, 0)))]) X.1.1 X.1.2.1 dX8_leftMany_1 rfl hl (by decide) rfl (fun ls hl => ?_)
  refine lv_iconst (v := 0) X.1.1 X.1.2.1 dX8_leftMany_2 (by decide) ?_
  refine lv_istore_n (lv' := [(2, .int 0), (1, .int 0), (0, .ref (g.2.2 (9, 0, 0)))]) X.1.1 X.1.2.1 dX8_leftMany_3 rfl hl (by decide) rfl (fun ls hl => ?_)
  exact w_X8_leftMany_4 N X 0 0 t _ _ _ hP hS (lv_sub hl [2, 1, 0] rfl) h
def f_X8_layAsked_119 (N : Nat) (k10 : Int32 × Mm → Option (Mm)) (x1 : Int32) (s1 : Int32) (s2 : Int32) (t : Mm) : Option (Mm) := o_nm (sI t 9 0 0 29 (s1 ||| s2)) fun t_1 => k10 ((x1 + (-1)), t_1)
def f_X8_layAsked_94 (N : Nat) (k10 : Int32 × Mm → Option (Mm)) (k19 : Int32 × Int32 × Int32 × Mm → Option (Mm)) (x1 : Int32) (x3 : Int32) (s0 : Int32) (t : Mm) : Option (Mm) := k19 (x1, s0, (x3 + 1), t)
def f_X8_layAsked_93 (N : Nat) (k10 : Int32 × Mm → Option (Mm)) (k19 : Int32 × Int32 × Int32 × Mm → Option (Mm)) (x1 : Int32) (x2 : Int32) (x3 : Int32) (t : Mm) : Option (Mm) := f_X8_layAsked_94 N k10 k19 x1 x3 x2 t
def f_X8_layAsked_89 (N : Nat) (k10 : Int32 × Mm → Option (Mm)) (k19 : Int32 × Int32 × Int32 × Mm → Option (Mm)) (x1 : Int32) (x3 : Int32) (t : Mm) : Option (Mm) := f_X8_layAsked_94 N k10 k19 x1 x3 x3 t
def f_X8_layAsked_55 (N : Nat) (k10 : Int32 × Mm → Option (Mm)) (k19 : Int32 × Int32 × Int32 × Mm → Option (Mm)) (x1 : Int32) (x2 : Int32) (x3 : Int32) (s0 : Int32) (t : Mm) : Option (Mm) := if s0 = 0 then (f_X8_layAsked_93 N k10 k19 x1 x2 x3 t) else (if x2 = (-4) then (f_X8_layAsked_89 N k10 k19 x1 x3 t) else (if o_inb (14 + x3) 31 = true then (if o_inb (14 + x2) 31 = true then (if (t.1 9 0 4 ((14 + x2).toNatClampNeg)) ≤ (t.1 9 0 4 ((14 + x3).toNatClampNeg)) then (f_X8_layAsked_93 N k10 k19 x1 x2 x3 t) else (f_X8_layAsked_89 N k10 k19 x1 x3 t)) else none) else none))
def f_X8_layAsked_54 (N : Nat) (k10 : Int32 × Mm → Option (Mm)) (k19 : Int32 × Int32 × Int32 × Mm → Option (Mm)) (x1 : Int32) (x2 : Int32) (x3 : Int32) (t : Mm) : Option (Mm) := f_X8_layAsked_55 N k10 k19 x1 x2 x3 0 t
def b_X8_layAsked_19 (N : Nat) (k10 : Int32 × Mm → Option (Mm)) (k19 : Int32 × Int32 × Int32 × Mm → Option (Mm)) (x1 : Int32) (x2 : Int32) (x3 : Int32) (t : Mm) : Option (Mm) := if (t.1 9 0 0 1) ≤ x3 then (if x2 = (-4) then (f_X8_layAsked_119 N k10 x1 (t.1 9 0 0 29) 0 t) else (f_X8_layAsked_119 N k10 x1 (t.1 9 0 0 29) (1 <<< (x2 &&& 31)) t)) else (if o_inb (19 + x3) 31 = true then (if (t.1 9 0 4 ((19 + x3).toNatClampNeg)) = 0 then (o_bd (f_X8_has (t.1 9 0 0 29) x3 t) fun (r_14, t_12) => if r_14 = 0 then (f_X8_layAsked_55 N k10 k19 x1 x2 x3 1 t_12) else (f_X8_layAsked_54 N k10 k19 x1 x2 x3 t_12)) else (f_X8_layAsked_54 N k10 k19 x1 x2 x3 t)) else none)
def f_X8_layAsked_19 (N : Nat) (k10 : Int32 × Mm → Option (Mm)) (x1 : Int32) (x2 : Int32) (x3 : Int32) (t : Mm) : Option (Mm) := o_lp (fun k x => b_X8_layAsked_19 N k10 k x.1 x.2.1 x.2.2.1 x.2.2.2) N (x1, x2, x3, t)
def b_X8_layAsked_10 (N : Nat) (k10 : Int32 × Mm → Option (Mm)) (x1 : Int32) (t : Mm) : Option (Mm) := if x1 ≤ 0 then (some t) else (f_X8_layAsked_19 N k10 x1 (-4) 0 t)
def f_X8_layAsked_10 (N : Nat) (x1 : Int32) (t : Mm) : Option (Mm) := o_lp (fun k x => b_X8_layAsked_10 N k x.1 x.2) N (x1, t)
/-- FordQuestionsModel.layAsked()V -/
def f_X8_layAsked (N : Nat) (t : Mm) : Option (Mm) := o_nm (sI t 9 0 0 29 0) fun t_18 => o_bd (f_X8_leftMany N t_18) fun (r_22, t_20) => f_X8_layAsked_10 N r_22 t_20
theorem hd_X8_layAsked : x_hd yX8_layAsked 0 := by decide +kernel
set_option maxRecDepth 100000 in
set_option maxHeartbeats 4000000 in
theorem w_X8_layAsked_119 {l : Launch} {g : Ly} {p : Program} {e : Env} {s : State} {m : MethodId} {args : Array Value} {below : List Frame} {meth : Method} {c : Code} (N : Nat) (X : XC p m meth c cX8_layAsked 5 s args (.code yX8_layAsked cX8_layAsked 5 none) RX8 none shR g) {t' : Mm} {k10 : Int32 × Mm → Option (Mm)} (hk10 : ∀ x : Int32 × Mm, k10 x = some t' → ∀ (H : Heap) (locs : List Loc) (ls : Array Slot), XP shR g x.2 H → va_S (XA shR g) s.heap H locs → lv_has ls 5 [(0, .ref (g.2.2 (9, 0, 0))), (1, .int x.1)] → W p l e (rmv 3) s m args below meth c H locs 0 0 (MQ below (XQv shR g t') args s 0 0 (XA shR g)) (F0 m 10 ls [])) (x1 : Int32) (s1 : Int32) (s2 : Int32) (t : Mm) (H : Heap) (locs : List Loc) (ls : Array Slot) (hP : XP shR g t H) (hS : va_S (XA shR g) s.heap H locs) (hl : lv_has ls 5 [(0, .ref (g.2.2 (9, 0, 0))), (1, .int x1)]) (h : f_X8_layAsked_119 N k10 x1 s1 s2 t = some t') : W p l e (rmv 3) s m args below meth c H locs 0 0 (MQ below (XQv shR g t') args s 0 0 (XA shR g)) (F0 m 119 ls [.int s2, .int s1, .ref (g.2.2 (9, 0, 0))]) := by
  unfold f_X8_layAsked_119 at h
  refine lv_ior X.1.1 X.1.2.1 dX8_layAsked_119 ?_
  obtain ⟨t_1, e_2, h⟩ := o_nm_inv h
  refine pt_X8_29 (x := (s1 ||| s2)) X hP hS (kyM (by decide)) wd_909 dX8_layAsked_120 (fun H locs hP hS => ?_)
  have hP : XP shR g t_1 H := by rw [e_2]; exact hP
  refine lv_iinc (v := (x1 + (-1))) (lv' := [(1, .int (x1 + (-1))), (0, .ref (g.2.2 (9, 0, 0)))]) X.1.1 X.1.2.1 dX8_layAsked_123 hl (k := 1) rfl rfl (by decide) rfl (fun ls hl => ?_)
  refine lv_goto (tgt := 10) X.1.1 X.1.2.1 dX8_layAsked_126 (by decide) ?_
  exact hk10 ((x1 + (-1)), t_1) h _ _ _ hP hS (lv_sub hl [1, 0] rfl)
set_option maxRecDepth 100000 in
set_option maxHeartbeats 4000000 in
theorem w_X8_layAsked_94 {l : Launch} {g : Ly} {p : Program} {e : Env} {s : State} {m : MethodId} {args : Array Value} {below : List Frame} {meth : Method} {c : Code} (N : Nat) (X : XC p m meth c cX8_layAsked 5 s args (.code yX8_layAsked cX8_layAsked 5 none) RX8 none shR g) {t' : Mm} {k10 : Int32 × Mm → Option (Mm)} (hk10 : ∀ x : Int32 × Mm, k10 x = some t' → ∀ (H : Heap) (locs : List Loc) (ls : Array Slot), XP shR g x.2 H → va_S (XA shR g) s.heap H locs → lv_has ls 5 [(0, .ref (g.2.2 (9, 0, 0))), (1, .int x.1)] → W p l e (rmv 3) s m args below meth c H locs 0 0 (MQ below (XQv shR g t') args s 0 0 (XA shR g)) (F0 m 10 ls [])) {k19 : Int32 × Int32 × Int32 × Mm → Option (Mm)} (hk19 : ∀ x : Int32 × Int32 × Int32 × Mm, k19 x = some t' → ∀ (H : Heap) (locs : List Loc) (ls : Array Slot), XP shR g x.2.2.2 H → va_S (XA shR g) s.heap H locs → lv_has ls 5 [(0, .ref (g.2.2 (9, 0, 0))), (1, .int x.1), (2, .int x.2.1), (3, .int x.2.2.1)] → W p l e (rmv 3) s m args below meth c H locs 0 0 (MQ below (XQv shR g t') args s 0 0 (XA shR g)) (F0 m 19 ls [])) (x1 : Int32) (x3 : Int32) (s0 : Int32) (t : Mm) (H : Heap) (locs : List Loc) (ls : Array Slot) (hP : XP shR g t H) (hS : va_S (XA shR g) s.heap H locs) (hl : lv_has ls 5 [(0, .ref (g.2.2 (9, 0, 0))), (1, .int x1), (3, .int x3)]) (h : f_X8_layAsked_94 N k10 k19 x1 x3 s0 t = some t') : W p l e (rmv 3) s m args below meth c H locs 0 0 (MQ below (XQv shR g t') args s 0 0 (XA shR g)) (F0 m 94 ls [.int s0]) := by
  unfold f_X8_layAsked_94 at h
  refine lv_istore_n (lv' := [(2, .int s0), (0, .ref (g.2.2 (9, 0, 0))), (1, .int x1), (3, .int x3)]) X.1.1 X.1.2.1 dX8_layAsked_94 rfl hl (by decide) rfl (fun ls hl => ?_)
  refine lv_iinc (v := (x3 + 1)) (lv' := [(3, .int (x3 + 1)), (2, .int s0), (0, .ref (g.2.2 (9, 0, 0))), (1, .int x1)]) X.1.1 X.1.2.1 dX8_layAsked_95 hl (k := 3) rfl rfl (by decide) rfl (fun ls hl => ?_)
  refine lv_goto (tgt := 19) X.1.1 X.1.2.1 dX8_layAsked_98 (by decide) ?_
  exact hk19 (x1, s0, (x3 + 1), t) h _ _ _ hP hS (lv_sub hl [2, 3, 1, 0] rfl)
set_option maxRecDepth 100000 in
set_option maxHeartbeats 4000000 in
theorem w_X8_layAsked_93 {l : Launch} {g : Ly} {p : Program} {e : Env} {s : State} {m : MethodId} {args : Array Value} {below : List Frame} {meth : Method} {c : Code} (N : Nat) (X : XC p m meth c cX8_layAsked 5 s args (.code yX8_layAsked cX8_layAsked 5 none) RX8 none shR g) {t' : Mm} {k10 : Int32 × Mm → Option (Mm)} (hk10 : ∀ x : Int32 × Mm, k10 x = some t' → ∀ (H : Heap) (locs : List Loc) (ls : Array Slot), XP shR g x.2 H → va_S (XA shR g) s.heap H locs → lv_has ls 5 [(0, .ref (g.2.2 (9, 0, 0))), (1, .int x.1)] → W p l e (rmv 3) s m args below meth c H locs 0 0 (MQ below (XQv shR g t') args s 0 0 (XA shR g)) (F0 m 10 ls [])) {k19 : Int32 × Int32 × Int32 × Mm → Option (Mm)} (hk19 : ∀ x : Int32 × Int32 × Int32 × Mm, k19 x = some t' → ∀ (H : Heap) (locs : List Loc) (ls : Array Slot), XP shR g x.2.2.2 H → va_S (XA shR g) s.heap H locs → lv_has ls 5 [(0, .ref (g.2.2 (9, 0, 0))), (1, .int x.1), (2, .int x.2.1), (3, .int x.2.2.1)] → W p l e (rmv 3) s m args below meth c H locs 0 0 (MQ below (XQv shR g t') args s 0 0 (XA shR g)) (F0 m 19 ls [])) (x1 : Int32) (x2 : Int32) (x3 : Int32) (t : Mm) (H : Heap) (locs : List Loc) (ls : Array Slot) (hP : XP shR g t H) (hS : va_S (XA shR g) s.heap H locs) (hl : lv_has ls 5 [(0, .ref (g.2.2 (9, 0, 0))), (1, .int x1), (2, .int x2), (3, .int x3)]) (h : f_X8_layAsked_93 N k10 k19 x1 x2 x3 t = some t') : W p l e (rmv 3) s m args below meth c H locs 0 0 (MQ below (XQv shR g t') args s 0 0 (XA shR g)) (F0 m 93 ls []) := by
  unfold f_X8_layAsked_93 at h
  refine lv_iload_n X.1.1 X.1.2.1 dX8_layAsked_93 rfl (lv_at hl 2 rfl) ?_
  exact w_X8_layAsked_94 N X hk10 hk19 x1 x3 x2 t _ _ _ hP hS (lv_sub hl [0, 1, 3] rfl) h
set_option maxRecDepth 100000 in
set_option maxHeartbeats 4000000 in
theorem w_X8_layAsked_89 {l : Launch} {g : Ly} {p : Program} {e : Env} {s : State} {m : MethodId} {args : Array Value} {below : List Frame} {meth : Method} {c : Code} (N : Nat) (X : XC p m meth c cX8_layAsked 5 s args (.code yX8_layAsked cX8_layAsked 5 none) RX8 none shR g) {t' : Mm} {k10 : Int32 × Mm → Option (Mm)} (hk10 : ∀ x : Int32 × Mm, k10 x = some t' → ∀ (H : Heap) (locs : List Loc) (ls : Array Slot), XP shR g x.2 H → va_S (XA shR g) s.heap H locs → lv_has ls 5 [(0, .ref (g.2.2 (9, 0, 0))), (1, .int x.1)] → W p l e (rmv 3) s m args below meth c H locs 0 0 (MQ below (XQv shR g t') args s 0 0 (XA shR g)) (F0 m 10 ls [])) {k19 : Int32 × Int32 × Int32 × Mm → Option (Mm)} (hk19 : ∀ x : Int32 × Int32 × Int32 × Mm, k19 x = some t' → ∀ (H : Heap) (locs : List Loc) (ls : Array Slot), XP shR g x.2.2.2 H → va_S (XA shR g) s.heap H locs → lv_has ls 5 [(0, .ref (g.2.2 (9, 0, 0))), (1, .int x.1), (2, .int x.2.1), (3, .int x.2.2.1)] → W p l e (rmv 3) s m args below meth c H locs 0 0 (MQ below (XQv shR g t') args s 0 0 (XA shR g)) (F0 m 19 ls [])) (x1 : Int32) (x3 : Int32) (t : Mm) (H : Heap) (locs : List Loc) (ls : Array Slot) (hP : XP shR g t H) (hS : va_S (XA shR g) s.heap H locs) (hl : lv_has ls 5 [(0, .ref (g.2.2 (9, 0, 0))), (1, .int x1), (3, .int x3)]) (h : f_X8_layAsked_89 N k10 k19 x1 x3 t = some t') : W p l e (rmv 3) s m args below meth c H locs 0 0 (MQ below (XQv shR g t') args s 0 0 (XA shR g)) (F0 m 89 ls []) := by
  unfold f_X8_layAsked_89 at h
  refine lv_iload_n X.1.1 X.1.2.1 dX8_layAsked_89 rfl (lv_at hl 2 rfl) ?_
  refine lv_goto (tgt := 94) X.1.1 X.1.2.1 dX8_layAsked_90 (by decide) ?_
  exact w_X8_layAsked_94 N X hk10 hk19 x1 x3 x3 t _ _ _ hP hS (lv_sub hl [0, 1, 2] rfl) h
set_option maxRecDepth 100000 in
set_option maxHeartbeats 4000000 in
theorem w_X8_layAsked_55 {l : Launch} {g : Ly} {p : Program} {e : Env} {s : State} {m : MethodId} {args : Array Value} {below : List Frame} {meth : Method} {c : Code} (N : Nat) (X : XC p m meth c cX8_layAsked 5 s args (.code yX8_layAsked cX8_layAsked 5 none) RX8 none shR g) {t' : Mm} {k10 : Int32 × Mm → Option (Mm)} (hk10 : ∀ x : Int32 × Mm, k10 x = some t' → ∀ (H : Heap) (locs : List Loc) (ls : Array Slot), XP shR g x.2 H → va_S (XA shR g) s.heap H locs → lv_has ls 5 [(0, .ref (g.2.2 (9, 0, 0))), (1, .int x.1)] → W p l e (rmv 3) s m args below meth c H locs 0 0 (MQ below (XQv shR g t') args s 0 0 (XA shR g)) (F0 m 10 ls [])) {k19 : Int32 × Int32 × Int32 × Mm → Option (Mm)} (hk19 : ∀ x : Int32 × Int32 × Int32 × Mm, k19 x = some t' → ∀ (H : Heap) (locs : List Loc) (ls : Array Slot), XP shR g x.2.2.2 H → va_S (XA shR g) s.heap H locs → lv_has ls 5 [(0, .ref (g.2.2 (9, 0, 0))), (1, .int x.1), (2, .int x.2.1), (3, .int x.2.2.1)] → W p l e (rmv 3) s m args below meth c H locs 0 0 (MQ below (XQv shR g t') args s 0 0 (XA shR g)) (F0 m 19 ls [])) (x1 : Int32) (x2 : Int32) (x3 : Int32) (s0 : Int32) (t : Mm) (H : Heap) (locs : List Loc) (ls : Array Slot) (hP : XP shR g t H) (hS : va_S (XA shR g) s.heap H locs) (hl : lv_has ls 5 [(0, .ref (g.2.2 (9, 0, 0))), (1, .int x1), (2, .int x2), (3, .int x3)]) (h : f_X8_layAsked_55 N k10 k19 x1 x2 x3 s0 t = some t') : W p l e (rmv 3) s m args below meth c H locs 0 0 (MQ below (XQv shR g t') args s 0 0 (XA shR g)) (F0 m 55 ls [.int s0]) := by
  unfold f_X8_layAsked_55 at h
  refine lv_istore (lv' := [(4, .int s0), (0, .ref (g.2.2 (9, 0, 0))), (1, .int x1), (2, .int x2), (3, .int x3)]) X.1.1 X.1.2.1 dX8_layAsked_55 hl (by decide) rfl (fun ls hl => ?_)
  refine lv_iload X.1.1 X.1.2.1 dX8_layAsked_57 (lv_at hl 0 rfl) ?_
  refine lv_if_eq (tgt := 93) X.1.1 X.1.2.1 dX8_layAsked_59 (by decide) (fun c_3 => ?_) (fun c_3 => ?_)
  · have h := o_pos c_3 h
    exact w_X8_layAsked_93 N X hk10 hk19 x1 x2 x3 t _ _ _ hP hS (lv_sub hl [1, 2, 3, 4] rfl) h
  · have h := o_neg c_3 h
    refine lv_iload_n X.1.1 X.1.2.1 dX8_layAsked_62 rfl (lv_at hl 3 rfl) ?_
    refine lv_bipush (v := (-4)) X.1.1 X.1.2.1 dX8_layAsked_63 (by decide) ?_
    refine lv_icmp_eq (tgt := 89) X.1.1 X.1.2.1 dX8_layAsked_65 (by decide) (fun c_4 => ?_) (fun c_4 => ?_)
    · have h := o_pos c_4 h
      exact w_X8_layAsked_89 N X hk10 hk19 x1 x3 t _ _ _ hP hS (lv_sub hl [1, 2, 4] rfl) h
    · have h := o_neg c_4 h
      refine lv_aload_n X.1.1 X.1.2.1 dX8_layAsked_68 rfl (lv_at hl 1 rfl) ?_
      refine gt_X8_4 X hP (kyM (by decide)) wd_884 dX8_layAsked_69 ?_
      refine lv_bipush (v := 14) X.1.1 X.1.2.1 dX8_layAsked_72 (by decide) ?_
      refine lv_iload_n X.1.1 X.1.2.1 dX8_layAsked_74 rfl (lv_at hl 4 rfl) ?_
      refine lv_iadd X.1.1 X.1.2.1 dX8_layAsked_75 ?_
      obtain ⟨g_5, h⟩ := o_gd_inv h
      refine x_iald X hP (kyM (by decide)) (fun _ _ => rfl) g_5 dX8_layAsked_76 ?_
      refine lv_aload_n X.1.1 X.1.2.1 dX8_layAsked_77 rfl (lv_at hl 1 rfl) ?_
      refine gt_X8_4 X hP (kyM (by decide)) wd_884 dX8_layAsked_78 ?_
      refine lv_bipush (v := 14) X.1.1 X.1.2.1 dX8_layAsked_81 (by decide) ?_
      refine lv_iload_n X.1.1 X.1.2.1 dX8_layAsked_83 rfl (lv_at hl 3 rfl) ?_
      refine lv_iadd X.1.1 X.1.2.1 dX8_layAsked_84 ?_
      obtain ⟨g_6, h⟩ := o_gd_inv h
      refine x_iald X hP (kyM (by decide)) (fun _ _ => rfl) g_6 dX8_layAsked_85 ?_
      refine lv_icmp_ge (tgt := 93) X.1.1 X.1.2.1 dX8_layAsked_86 (by decide) (fun c_7 => ?_) (fun c_7 => ?_)
      · have h := o_pos c_7 h
        exact w_X8_layAsked_93 N X hk10 hk19 x1 x2 x3 t _ _ _ hP hS (lv_sub hl [1, 2, 3, 4] rfl) h
      · have h := o_neg c_7 h
        exact w_X8_layAsked_89 N X hk10 hk19 x1 x3 t _ _ _ hP hS (lv_sub hl [1, 2, 4] rfl) h
set_option maxRecDepth 100000 in
set_option maxHeartbeats 4000000 in
theorem w_X8_layAsked_54 {l : Launch} {g : Ly} {p : Program} {e : Env} {s : State} {m : MethodId} {args : Array Value} {below : List Frame} {meth : Method} {c : Code} (N : Nat) (X : XC p m meth c cX8_layAsked 5 s args (.code yX8_layAsked cX8_layAsked 5 none) RX8 none shR g) {t' : Mm} {k10 : Int32 × Mm → Option (Mm)} (hk10 : ∀ x : Int32 × Mm, k10 x = some t' → ∀ (H : Heap) (locs : List Loc) (ls : Array Slot), XP shR g x.2 H → va_S (XA shR g) s.heap H locs → lv_has ls 5 [(0, .ref (g.2.2 (9, 0, 0))), (1, .int x.1)] → W p l e (rmv 3) s m args below meth c H locs 0 0 (MQ below (XQv shR g t') args s 0 0 (XA shR g)) (F0 m 10 ls [])) {k19 : Int32 × Int32 × Int32 × Mm → Option (Mm)} (hk19 : ∀ x : Int32 × Int32 × Int32 × Mm, k19 x = some t' → ∀ (H : Heap) (locs : List Loc) (ls : Array Slot), XP shR g x.2.2.2 H → va_S (XA shR g) s.heap H locs → lv_has ls 5 [(0, .ref (g.2.2 (9, 0, 0))), (1, .int x.1), (2, .int x.2.1), (3, .int x.2.2.1)] → W p l e (rmv 3) s m args below meth c H locs 0 0 (MQ below (XQv shR g t') args s 0 0 (XA shR g)) (F0 m 19 ls [])) (x1 : Int32) (x2 : Int32) (x3 : Int32) (t : Mm) (H : Heap) (locs : List Loc) (ls : Array Slot) (hP : XP shR g t H) (hS : va_S (XA shR g) s.heap H locs) (hl : lv_has ls 5 [(0, .ref (g.2.2 (9, 0, 0))), (1, .int x1), (2, .int x2), (3, .int x3)]) (h : f_X8_layAsked_54 N k10 k19 x1 x2 x3 t = some t') : W p l e (rmv 3) s m args below meth c H locs 0 0 (MQ below (XQv shR g t') args s 0 0 (XA shR g)) (F0 m 54 ls []) := by
  unfold f_X8_layAsked_54 at h
  refine lv_iconst (v := 0) X.1.1 X.1.2.1 dX8_layAsked_54 (by decide) ?_
  exact w_X8_layAsked_55 N X hk10 hk19 x1 x2 x3 0 t _ _ _ hP hS (lv_sub hl [0, 1, 2, 3] rfl) h
set_option maxRecDepth 100000 in
set_option maxHeartbeats 4000000 in
theorem wb_X8_layAsked_19 {l : Launch} {g : Ly} {p : Program} {e : Env} {s : State} {m : MethodId} {args : Array Value} {below : List Frame} {meth : Method} {c : Code} (N : Nat) (X : XC p m meth c cX8_layAsked 5 s args (.code yX8_layAsked cX8_layAsked 5 none) RX8 none shR g) {t' : Mm} {k10 : Int32 × Mm → Option (Mm)} (hk10 : ∀ x : Int32 × Mm, k10 x = some t' → ∀ (H : Heap) (locs : List Loc) (ls : Array Slot), XP shR g x.2 H → va_S (XA shR g) s.heap H locs → lv_has ls 5 [(0, .ref (g.2.2 (9, 0, 0))), (1, .int x.1)] → W p l e (rmv 3) s m args below meth c H locs 0 0 (MQ below (XQv shR g t') args s 0 0 (XA shR g)) (F0 m 10 ls [])) {k19 : Int32 × Int32 × Int32 × Mm → Option (Mm)} (hk19 : ∀ x : Int32 × Int32 × Int32 × Mm, k19 x = some t' → ∀ (H : Heap) (locs : List Loc) (ls : Array Slot), XP shR g x.2.2.2 H → va_S (XA shR g) s.heap H locs → lv_has ls 5 [(0, .ref (g.2.2 (9, 0, 0))), (1, .int x.1), (2, .int x.2.1), (3, .int x.2.2.1)] → W p l e (rmv 3) s m args below meth c H locs 0 0 (MQ below (XQv shR g t') args s 0 0 (XA shR g)) (F0 m 19 ls [])) (x1 : Int32) (x2 : Int32) (x3 : Int32) (t : Mm) (H : Heap) (locs : List Loc) (ls : Array Slot) (hP : XP shR g t H) (hS : va_S (XA shR g) s.heap H locs) (hl : lv_has ls 5 [(0, .ref (g.2.2 (9, 0, 0))), (1, .int x1), (2, .int x2), (3, .int x3)]) (h : b_X8_layAsked_19 N k10 k19 x1 x2 x3 t = some t') : W p l e (rmv 3) s m args below meth c H locs 0 0 (MQ below (XQv shR g t') args s 0 0 (XA shR g)) (F0 m 19 ls []) := by
  unfold b_X8_layAsked_19 at h
  refine lv_iload_n X.1.1 X.1.2.1 dX8_layAsked_19 rfl (lv_at hl 3 rfl) ?_
  refine lv_aload_n X.1.1 X.1.2.1 dX8_layAsked_20 rfl (lv_at hl 0 rfl) ?_
  refine gt_X8_1 X hP (kyM (by decide)) wd_881 dX8_layAsked_21 ?_
  refine lv_icmp_ge (tgt := 101) X.1.1 X.1.2.1 dX8_layAsked_24 (by decide) (fun c_8 => ?_) (fun c_8 => ?_)
  · have h := o_pos c_8 h
    refine lv_aload_n X.1.1 X.1.2.1 dX8_layAsked_101 rfl (lv_at hl 0 rfl) ?_
    refine lv_dup X.1.1 X.1.2.1 dX8_layAsked_102 rfl ?_
    refine gt_X8_29 X hP (kyM (by decide)) wd_909 dX8_layAsked_103 ?_
    refine lv_iload_n X.1.1 X.1.2.1 dX8_layAsked_106 rfl (lv_at hl 2 rfl) ?_
    refine lv_bipush (v := (-4)) X.1.1 X.1.2.1 dX8_layAsked_107 (by decide) ?_
    refine lv_icmp_ne (tgt := 116) X.1.1 X.1.2.1 dX8_layAsked_109 (by decide) (fun c_9 => ?_) (fun c_9 => ?_)
    · have h := o_neg c_9 h
      refine lv_iconst (v := 1) X.1.1 X.1.2.1 dX8_layAsked_116 (by decide) ?_
      refine lv_iload_n X.1.1 X.1.2.1 dX8_layAsked_117 rfl (lv_at hl 2 rfl) ?_
      refine lv_ishl X.1.1 X.1.2.1 dX8_layAsked_118 ?_
      exact w_X8_layAsked_119 N X hk10 x1 (t.1 9 0 0 29) (1 <<< (x2 &&& 31)) t _ _ _ hP hS (lv_sub hl [0, 1] rfl) h
    · have h := o_pos c_9 h
      refine lv_iconst (v := 0) X.1.1 X.1.2.1 dX8_layAsked_112 (by decide) ?_
      refine lv_goto (tgt := 119) X.1.1 X.1.2.1 dX8_layAsked_113 (by decide) ?_
      exact w_X8_layAsked_119 N X hk10 x1 (t.1 9 0 0 29) 0 t _ _ _ hP hS (lv_sub hl [0, 1] rfl) h
  · have h := o_neg c_8 h
    refine lv_aload_n X.1.1 X.1.2.1 dX8_layAsked_27 rfl (lv_at hl 0 rfl) ?_
    refine gt_X8_4 X hP (kyM (by decide)) wd_884 dX8_layAsked_28 ?_
    refine lv_bipush (v := 19) X.1.1 X.1.2.1 dX8_layAsked_31 (by decide) ?_
    refine lv_iload_n X.1.1 X.1.2.1 dX8_layAsked_33 rfl (lv_at hl 3 rfl) ?_
    refine lv_iadd X.1.1 X.1.2.1 dX8_layAsked_34 ?_
    obtain ⟨g_10, h⟩ := o_gd_inv h
    refine x_iald X hP (kyM (by decide)) (fun _ _ => rfl) g_10 dX8_layAsked_35 ?_
    refine lv_if_ne (tgt := 54) X.1.1 X.1.2.1 dX8_layAsked_36 (by decide) (fun c_11 => ?_) (fun c_11 => ?_)
    · have h := o_neg c_11 h
      exact w_X8_layAsked_54 N X hk10 hk19 x1 x2 x3 t _ _ _ hP hS (lv_sub hl [0, 1, 2, 3] rfl) h
    · have h := o_pos c_11 h
      refine lv_aload_n X.1.1 X.1.2.1 dX8_layAsked_39 rfl (lv_at hl 0 rfl) ?_
      refine gt_X8_29 X hP (kyM (by decide)) wd_909 dX8_layAsked_40 ?_
      refine lv_iload_n X.1.1 X.1.2.1 dX8_layAsked_43 rfl (lv_at hl 3 rfl) ?_
      obtain ⟨⟨r_14, t_12⟩, hc_13, h⟩ := o_bd_inv h
      refine x_calli (x_runS (As := [.int (t.1 9 0 0 29), .int x3]) (rest := []) X hP hS (c_X8_has l g X.2.2.2.2.1 (t.1 9 0 0 29) x3 t hc_13) ⟨wd_1021, wd_1019, wd_1020, wd_62⟩ hd_X8_has ⟨by omega, by decide⟩ rfl hl.1 rfl (Nat.le_of_ble_eq_true rfl) dX8_layAsked_44) hS (fun H locs hP hS => ?_)
      refine lv_if_ne (tgt := 54) X.1.1 X.1.2.1 dX8_layAsked_47 (by decide) (fun c_16 => ?_) (fun c_16 => ?_)
      · have h := o_neg c_16 h
        exact w_X8_layAsked_54 N X hk10 hk19 x1 x2 x3 t_12 _ _ _ hP hS (lv_sub hl [0, 1, 2, 3] rfl) h
      · have h := o_pos c_16 h
        refine lv_iconst (v := 1) X.1.1 X.1.2.1 dX8_layAsked_50 (by decide) ?_
        refine lv_goto (tgt := 55) X.1.1 X.1.2.1 dX8_layAsked_51 (by decide) ?_
        exact w_X8_layAsked_55 N X hk10 hk19 x1 x2 x3 1 t_12 _ _ _ hP hS (lv_sub hl [0, 1, 2, 3] rfl) h
set_option maxRecDepth 100000 in
set_option maxHeartbeats 4000000 in
theorem w_X8_layAsked_19 {l : Launch} {g : Ly} {p : Program} {e : Env} {s : State} {m : MethodId} {args : Array Value} {below : List Frame} {meth : Method} {c : Code} (N : Nat) (X : XC p m meth c cX8_layAsked 5 s args (.code yX8_layAsked cX8_layAsked 5 none) RX8 none shR g) {t' : Mm} {k10 : Int32 × Mm → Option (Mm)} (hk10 : ∀ x : Int32 × Mm, k10 x = some t' → ∀ (H : Heap) (locs : List Loc) (ls : Array Slot), XP shR g x.2 H → va_S (XA shR g) s.heap H locs → lv_has ls 5 [(0, .ref (g.2.2 (9, 0, 0))), (1, .int x.1)] → W p l e (rmv 3) s m args below meth c H locs 0 0 (MQ below (XQv shR g t') args s 0 0 (XA shR g)) (F0 m 10 ls [])) (x1 : Int32) (x2 : Int32) (x3 : Int32) (t : Mm) (H : Heap) (locs : List Loc) (ls : Array Slot) (hP : XP shR g t H) (hS : va_S (XA shR g) s.heap H locs) (hl : lv_has ls 5 [(0, .ref (g.2.2 (9, 0, 0))), (1, .int x1), (2, .int x2), (3, .int x3)]) (h : f_X8_layAsked_19 N k10 x1 x2 x3 t = some t') : W p l e (rmv 3) s m args below meth c H locs 0 0 (MQ below (XQv shR g t') args s 0 0 (XA shR g)) (F0 m 19 ls []) :=
  o_lp_ind (P := fun x : Int32 × Int32 × Int32 × Mm => ∀ (H : Heap) (locs : List Loc) (ls : Array Slot), XP shR g x.2.2.2 H → va_S (XA shR g) s.heap H locs → lv_has ls 5 [(0, .ref (g.2.2 (9, 0, 0))), (1, .int x.1), (2, .int x.2.1), (3, .int x.2.2.1)] → W p l e (rmv 3) s m args below meth c H locs 0 0 (MQ below (XQv shR g t') args s 0 0 (XA shR g)) (F0 m 19 ls [])) (fun k hk x h H locs ls hP hS hl => wb_X8_layAsked_19 N X hk10 hk x.1 x.2.1 x.2.2.1 x.2.2.2 H locs ls hP hS hl h) N (x1, x2, x3, t) h H locs ls hP hS hl
set_option maxRecDepth 100000 in
set_option maxHeartbeats 4000000 in
theorem wb_X8_layAsked_10 {l : Launch} {g : Ly} {p : Program} {e : Env} {s : State} {m : MethodId} {args : Array Value} {below : List Frame} {meth : Method} {c : Code} (N : Nat) (X : XC p m meth c cX8_layAsked 5 s args (.code yX8_layAsked cX8_layAsked 5 none) RX8 none shR g) {t' : Mm} {k10 : Int32 × Mm → Option (Mm)} (hk10 : ∀ x : Int32 × Mm, k10 x = some t' → ∀ (H : Heap) (locs : List Loc) (ls : Array Slot), XP shR g x.2 H → va_S (XA shR g) s.heap H locs → lv_has ls 5 [(0, .ref (g.2.2 (9, 0, 0))), (1, .int x.1)] → W p l e (rmv 3) s m args below meth c H locs 0 0 (MQ below (XQv shR g t') args s 0 0 (XA shR g)) (F0 m 10 ls [])) (x1 : Int32) (t : Mm) (H : Heap) (locs : List Loc) (ls : Array Slot) (hP : XP shR g t H) (hS : va_S (XA shR g) s.heap H locs) (hl : lv_has ls 5 [(0, .ref (g.2.2 (9, 0, 0))), (1, .int x1)]) (h : b_X8_layAsked_10 N k10 x1 t = some t') : W p l e (rmv 3) s m args below meth c H locs 0 0 (MQ below (XQv shR g t') args s 0 0 (XA shR g)) (F0 m 10 ls []) := by
  unfold b_X8_layAsked_10 at h
  refine lv_iload_n X.1.1 X.1.2.1 dX8_layAsked_10 rfl (lv_at hl 1 rfl) ?_
  refine lv_if_le (tgt := 129) X.1.1 X.1.2.1 dX8_layAsked_11 (by decide) (fun c_17 => ?_) (fun c_17 => ?_)
  · have h := o_pos c_17 h
    obtain rfl := o_ret h
    exact x_vret X hP hS dX8_layAsked_129
  · have h := o_neg c_17 h
    refine lv_bipush (v := (-4)) X.1.1 X.1.2.1 dX8_layAsked_14 (by decide) ?_
    refine lv_istore_n (lv' := [(2, .int (-4)), (0, .ref (g.2.2 (9, 0, 0))), (1, .int x1)]) X.1.1 X.1.2.1 dX8_layAsked_16 rfl hl (by decide) rfl (fun ls hl => ?_)
    refine lv_iconst (v := 0) X.1.1 X.1.2.1 dX8_layAsked_17 (by decide) ?_
    refine lv_istore_n (lv' := [(3, .int 0), (2, .int (-4)), (0, .ref (g.2.2 (9, 0, 0))), (1, .int x1)]) X.1.1 X.1.2.1 dX8_layAsked_18 rfl hl (by decide) rfl (fun ls hl => ?_)
    exact w_X8_layAsked_19 N X hk10 x1 (-4) 0 t _ _ _ hP hS (lv_sub hl [2, 3, 1, 0] rfl) h
set_option maxRecDepth 100000 in
set_option maxHeartbeats 4000000 in
theorem w_X8_layAsked_10 {l : Launch} {g : Ly} {p : Program} {e : Env} {s : State} {m : MethodId} {args : Array Value} {below : List Frame} {meth : Method} {c : Code} (N : Nat) (X : XC p m meth c cX8_layAsked 5 s args (.code yX8_layAsked cX8_layAsked 5 none) RX8 none shR g) {t' : Mm} (x1 : Int32) (t : Mm) (H : Heap) (locs : List Loc) (ls : Array Slot) (hP : XP shR g t H) (hS : va_S (XA shR g) s.heap H locs) (hl : lv_has ls 5 [(0, .ref (g.2.2 (9, 0, 0))), (1, .int x1)]) (h : f_X8_layAsked_10 N x1 t = some t') : W p l e (rmv 3) s m args below meth c H locs 0 0 (MQ below (XQv shR g t') args s 0 0 (XA shR g)) (F0 m 10 ls []) :=
  o_lp_ind (P := fun x : Int32 × Mm => ∀ (H : Heap) (locs : List Loc) (ls : Array Slot), XP shR g x.2 H → va_S (XA shR g) s.heap H locs → lv_has ls 5 [(0, .ref (g.2.2 (9, 0, 0))), (1, .int x.1)] → W p l e (rmv 3) s m args below meth c H locs 0 0 (MQ below (XQv shR g t') args s 0 0 (XA shR g)) (F0 m 10 ls [])) (fun k hk x h H locs ls hP hS hl => wb_X8_layAsked_10 N X hk x.1 x.2 H locs ls hP hS hl h) N (x1, t) h H locs ls hP hS hl
set_option maxRecDepth 100000 in
set_option maxHeartbeats 4000000 in
theorem c_X8_layAsked (l : Launch) (g : Ly) (N : Nat) (hG : XG shR g) (t : Mm) {t' : Mm} (h : f_X8_layAsked N t = some t') : MI l yX8_layAsked cX8_layAsked 5 none 3 shR g [.ref (g.2.2 (9, 0, 0))] t (XQv shR g t') := by
  refine x_met hG (by decide +kernel) (Nat.le_of_ble_eq_true rfl) ?_
  intro p e s m below meth c ls X hP hl
  have hS : va_S (XA shR g) s.heap s.heap [] := va_S.rf
  have hl : lv_has ls 5 [(0, .ref (g.2.2 (9, 0, 0)))] := hl
  unfold f_X8_layAsked at h
  generalize ([.ref (g.2.2 (9, 0, 0))] : List Value).toArray = args at X ⊢
  refine lv_aload_n X.1.1 X.1.2.1 dX8_layAsked_0 rfl (lv_at hl 0 rfl) ?_
  refine lv_iconst (v := 0) X.1.1 X.1.2.1 dX8_layAsked_1 (by decide) ?_
  obtain ⟨t_18, e_19, h⟩ := o_nm_inv h
  refine pt_X8_29 (x := 0) X hP hS (kyM (by decide)) wd_909 dX8_layAsked_2 (fun H locs hP hS => ?_)
  have hP : XP shR g t_18 H := by rw [e_19]; exact hP
  refine lv_aload_n X.1.1 X.1.2.1 dX8_layAsked_5 rfl (lv_at hl 0 rfl) ?_
  obtain ⟨⟨r_22, t_20⟩, hc_21, h⟩ := o_bd_inv h
  refine x_calli (x_runV (As := []) (rest := []) X hP hS (c_X8_leftMany l g N X.2.2.2.2.1 t_18 hc_21) ⟨wd_1183, wd_1180, wd_1182, wd_47, wd_62⟩ hd_X8_leftMany ⟨by omega, by decide⟩ (x_recv X hP (ci := 8) rfl (kyM (by decide)) rfl) rfl hl.1 rfl (Nat.le_of_ble_eq_true rfl) dX8_layAsked_6) hS (fun H locs hP hS => ?_)
  refine lv_istore_n (lv' := [(1, .int r_22), (0, .ref (g.2.2 (9, 0, 0)))]) X.1.1 X.1.2.1 dX8_layAsked_9 rfl hl (by decide) rfl (fun ls hl => ?_)
  exact w_X8_layAsked_10 N X r_22 t_20 _ _ _ hP hS (lv_sub hl [1, 0] rfl) h
def f_X8_isTelling_104 (N : Nat) (k20 : Int32 × Int32 × Int32 × Int32 × Mm → Option (Int32 × Mm)) (x2 : Int32) (x3 : Int32) (x4 : Int32) (x5 : Int32) (t : Mm) : Option (Int32 × Mm) := k20 (x2, x3, x4, (x5 + (-1)), t)
def f_X8_isTelling_83 (N : Nat) (k20 : Int32 × Int32 × Int32 × Int32 × Mm → Option (Int32 × Mm)) (x2 : Int32) (x3 : Int32) (x5 : Int32) (s0 : Int32) (t : Mm) : Option (Int32 × Mm) := if o_inb x5 5 = true then (o_nm ((x2 ||| (1 <<< ((t.1 9 0 20 (x5.toNatClampNeg)) &&& 31)))) fun x_2 => if ¬ ((t.1 9 0 0 0) = 0) then (f_X8_isTelling_104 N k20 x_2 (x3 / (t.1 9 0 0 0)) s0 x5 t) else none) else none
def f_X8_isTelling_82 (N : Nat) (k20 : Int32 × Int32 × Int32 × Int32 × Mm → Option (Int32 × Mm)) (x2 : Int32) (x3 : Int32) (x5 : Int32) (t : Mm) : Option (Int32 × Mm) := f_X8_isTelling_83 N k20 x2 x3 x5 0 t
def b_X8_isTelling_20 (N : Nat) (k20 : Int32 × Int32 × Int32 × Int32 × Mm → Option (Int32 × Mm)) (x2 : Int32) (x3 : Int32) (x4 : Int32) (x5 : Int32) (t : Mm) : Option (Int32 × Mm) := if x5 < 0 then (if (x4 = 0 ∨ x4 = 1) then some (x4, t) else none) else (if o_inb x5 5 = true then (o_nm (sI t 9 0 20 (x5.toNatClampNeg) (-4)) fun t_8 => o_bd (f_X8_has (t_8.1 9 0 0 29) x5 t_8) fun (r_12, t_10) => if r_12 = 0 then (f_X8_isTelling_104 N k20 x2 x3 x4 x5 t_10) else (if ¬ ((t_10.1 9 0 0 0) = 0) then (if o_inb x5 5 = true then (o_nm (sI t_10 9 0 20 (x5.toNatClampNeg) (x3 - x3 / (t_10.1 9 0 0 0) * (t_10.1 9 0 0 0))) fun t_17 => if x4 = 0 then (f_X8_isTelling_82 N k20 x2 x3 x5 t_17) else (if o_inb x5 5 = true then (o_bd (f_X8_has x2 (t_17.1 9 0 20 (x5.toNatClampNeg)) t_17) fun (r_23, t_21) => if r_23 = 0 then (f_X8_isTelling_83 N k20 x2 x3 x5 1 t_21) else (f_X8_isTelling_82 N k20 x2 x3 x5 t_21)) else none)) else none) else none)) else none)
def f_X8_isTelling_20 (N : Nat) (x2 : Int32) (x3 : Int32) (x4 : Int32) (x5 : Int32) (t : Mm) : Option (Int32 × Mm) := o_lp (fun k x => b_X8_isTelling_20 N k x.1 x.2.1 x.2.2.1 x.2.2.2.1 x.2.2.2.2) N (x2, x3, x4, x5, t)
/-- FordQuestionsModel.isTelling(I)Z -/
def f_X8_isTelling (N : Nat) (a0 : Int32) (t : Mm) : Option (Int32 × Mm) := if o_inb 0 31 = true then (o_nm ((t.1 9 0 4 (Int32.toNatClampNeg 0))) fun x_27 => f_X8_isTelling_20 N x_27 a0 1 ((t.1 9 0 0 1) - 1) t) else none
theorem hd_X8_isTelling : x_hd yX8_isTelling 1 := by decide +kernel
set_option maxRecDepth 100000 in
set_option maxHeartbeats 4000000 in
theorem w_X8_isTelling_104 {l : Launch} {g : Ly} {p : Program} {e : Env} {s : State} {m : MethodId} {args : Array Value} {below : List Frame} {meth : Method} {c : Code} (N : Nat) (X : XC p m meth c cX8_isTelling 6 s args (.code yX8_isTelling cX8_isTelling 6 (some .boolean)) RX8 (some .boolean) shR g) {r : Int32} {t' : Mm} {k20 : Int32 × Int32 × Int32 × Int32 × Mm → Option (Int32 × Mm)} (hk20 : ∀ x : Int32 × Int32 × Int32 × Int32 × Mm, k20 x = some (r, t') → ∀ (H : Heap) (locs : List Loc) (ls : Array Slot), XP shR g x.2.2.2.2 H → va_S (XA shR g) s.heap H locs → lv_has ls 6 [(0, .ref (g.2.2 (9, 0, 0))), (2, .int x.1), (3, .int x.2.1), (4, .int x.2.2.1), (5, .int x.2.2.2.1)] → W p l e (rmv 2) s m args below meth c H locs 0 0 (MQ below (XQi shR g r t') args s 0 0 (XA shR g)) (F0 m 20 ls [])) (x2 : Int32) (x3 : Int32) (x4 : Int32) (x5 : Int32) (t : Mm) (H : Heap) (locs : List Loc) (ls : Array Slot) (hP : XP shR g t H) (hS : va_S (XA shR g) s.heap H locs) (hl : lv_has ls 6 [(0, .ref (g.2.2 (9, 0, 0))), (2, .int x2), (3, .int x3), (4, .int x4), (5, .int x5)]) (h : f_X8_isTelling_104 N k20 x2 x3 x4 x5 t = some (r, t')) : W p l e (rmv 2) s m args below meth c H locs 0 0 (MQ below (XQi shR g r t') args s 0 0 (XA shR g)) (F0 m 104 ls []) := by
  unfold f_X8_isTelling_104 at h
  refine lv_iinc (v := (x5 + (-1))) (lv' := [(5, .int (x5 + (-1))), (0, .ref (g.2.2 (9, 0, 0))), (2, .int x2), (3, .int x3), (4, .int x4)]) X.1.1 X.1.2.1 dX8_isTelling_104 hl (k := 4) rfl rfl (by decide) rfl (fun ls hl => ?_)
  refine lv_goto (tgt := 20) X.1.1 X.1.2.1 dX8_isTelling_107 (by decide) ?_
  exact hk20 (x2, x3, x4, (x5 + (-1)), t) h _ _ _ hP hS (lv_sub hl [1, 2, 3, 4, 0] rfl)
set_option maxRecDepth 100000 in
set_option maxHeartbeats 4000000 in
theorem w_X8_isTelling_83 {l : Launch} {g : Ly} {p : Program} {e : Env} {s : State} {m : MethodId} {args : Array Value} {below : List Frame} {meth : Method} {c : Code} (N : Nat) (X : XC p m meth c cX8_isTelling 6 s args (.code yX8_isTelling cX8_isTelling 6 (some .boolean)) RX8 (some .boolean) shR g) {r : Int32} {t' : Mm} {k20 : Int32 × Int32 × Int32 × Int32 × Mm → Option (Int32 × Mm)} (hk20 : ∀ x : Int32 × Int32 × Int32 × Int32 × Mm, k20 x = some (r, t') → ∀ (H : Heap) (locs : List Loc) (ls : Array Slot), XP shR g x.2.2.2.2 H → va_S (XA shR g) s.heap H locs → lv_has ls 6 [(0, .ref (g.2.2 (9, 0, 0))), (2, .int x.1), (3, .int x.2.1), (4, .int x.2.2.1), (5, .int x.2.2.2.1)] → W p l e (rmv 2) s m args below meth c H locs 0 0 (MQ below (XQi shR g r t') args s 0 0 (XA shR g)) (F0 m 20 ls [])) (x2 : Int32) (x3 : Int32) (x5 : Int32) (s0 : Int32) (t : Mm) (H : Heap) (locs : List Loc) (ls : Array Slot) (hP : XP shR g t H) (hS : va_S (XA shR g) s.heap H locs) (hl : lv_has ls 6 [(0, .ref (g.2.2 (9, 0, 0))), (2, .int x2), (3, .int x3), (5, .int x5)]) (h : f_X8_isTelling_83 N k20 x2 x3 x5 s0 t = some (r, t')) : W p l e (rmv 2) s m args below meth c H locs 0 0 (MQ below (XQi shR g r t') args s 0 0 (XA shR g)) (F0 m 83 ls [.int s0]) := by
  unfold f_X8_isTelling_83 at h
  refine lv_istore (lv' := [(4, .int s0), (0, .ref (g.2.2 (9, 0, 0))), (2, .int x2), (3, .int x3), (5, .int x5)]) X.1.1 X.1.2.1 dX8_isTelling_83 hl (by decide) rfl (fun ls hl => ?_)
  refine lv_iload_n X.1.1 X.1.2.1 dX8_isTelling_85 rfl (lv_at hl 2 rfl) ?_
  refine lv_iconst (v := 1) X.1.1 X.1.2.1 dX8_isTelling_86 (by decide) ?_
  refine lv_aload_n X.1.1 X.1.2.1 dX8_isTelling_87 rfl (lv_at hl 1 rfl) ?_
  refine gt_X8_20 X hP (kyM (by decide)) wd_900 dX8_isTelling_88 ?_
  refine lv_iload X.1.1 X.1.2.1 dX8_isTelling_91 (lv_at hl 4 rfl) ?_
  obtain ⟨g_1, h⟩ := o_gd_inv h
  refine x_iald X hP (kyM (by decide)) (fun _ _ => rfl) g_1 dX8_isTelling_93 ?_
  refine lv_ishl X.1.1 X.1.2.1 dX8_isTelling_94 ?_
  refine lv_ior X.1.1 X.1.2.1 dX8_isTelling_95 ?_
  refine lv_topi (fun x_2 e_3 => ?_)
  have h := o_nm_to e_3 h
  refine lv_istore_n (lv' := [(2, .int x_2), (4, .int s0), (0, .ref (g.2.2 (9, 0, 0))), (3, .int x3), (5, .int x5)]) X.1.1 X.1.2.1 dX8_isTelling_96 rfl hl (by decide) rfl (fun ls hl => ?_)
  refine lv_iload_n X.1.1 X.1.2.1 dX8_isTelling_97 rfl (lv_at hl 3 rfl) ?_
  refine lv_aload_n X.1.1 X.1.2.1 dX8_isTelling_98 rfl (lv_at hl 2 rfl) ?_
  refine gt_X8_0 X hP (kyM (by decide)) wd_880 dX8_isTelling_99 ?_
  obtain ⟨g_4, h⟩ := o_gd_inv h
  refine lv_idiv X.1.1 X.1.2.1 dX8_isTelling_102 g_4 ?_
  refine lv_istore_n (lv' := [(3, .int (x3 / (t.1 9 0 0 0))), (2, .int x_2), (4, .int s0), (0, .ref (g.2.2 (9, 0, 0))), (5, .int x5)]) X.1.1 X.1.2.1 dX8_isTelling_103 rfl hl (by decide) rfl (fun ls hl => ?_)
  exact w_X8_isTelling_104 N X hk20 x_2 (x3 / (t.1 9 0 0 0)) s0 x5 t _ _ _ hP hS (lv_sub hl [3, 1, 0, 2, 4] rfl) h
set_option maxRecDepth 100000 in
set_option maxHeartbeats 4000000 in
theorem w_X8_isTelling_82 {l : Launch} {g : Ly} {p : Program} {e : Env} {s : State} {m : MethodId} {args : Array Value} {below : List Frame} {meth : Method} {c : Code} (N : Nat) (X : XC p m meth c cX8_isTelling 6 s args (.code yX8_isTelling cX8_isTelling 6 (some .boolean)) RX8 (some .boolean) shR g) {r : Int32} {t' : Mm} {k20 : Int32 × Int32 × Int32 × Int32 × Mm → Option (Int32 × Mm)} (hk20 : ∀ x : Int32 × Int32 × Int32 × Int32 × Mm, k20 x = some (r, t') → ∀ (H : Heap) (locs : List Loc) (ls : Array Slot), XP shR g x.2.2.2.2 H → va_S (XA shR g) s.heap H locs → lv_has ls 6 [(0, .ref (g.2.2 (9, 0, 0))), (2, .int x.1), (3, .int x.2.1), (4, .int x.2.2.1), (5, .int x.2.2.2.1)] → W p l e (rmv 2) s m args below meth c H locs 0 0 (MQ below (XQi shR g r t') args s 0 0 (XA shR g)) (F0 m 20 ls [])) (x2 : Int32) (x3 : Int32) (x5 : Int32) (t : Mm) (H : Heap) (locs : List Loc) (ls : Array Slot) (hP : XP shR g t H) (hS : va_S (XA shR g) s.heap H locs) (hl : lv_has ls 6 [(0, .ref (g.2.2 (9, 0, 0))), (2, .int x2), (3, .int x3), (5, .int x5)]) (h : f_X8_isTelling_82 N k20 x2 x3 x5 t = some (r, t')) : W p l e (rmv 2) s m args below meth c H locs 0 0 (MQ below (XQi shR g r t') args s 0 0 (XA shR g)) (F0 m 82 ls []) := by
  unfold f_X8_isTelling_82 at h
  refine lv_iconst (v := 0) X.1.1 X.1.2.1 dX8_isTelling_82 (by decide) ?_
  exact w_X8_isTelling_83 N X hk20 x2 x3 x5 0 t _ _ _ hP hS (lv_sub hl [0, 1, 2, 3] rfl) h
set_option maxRecDepth 100000 in
set_option maxHeartbeats 4000000 in
theorem wb_X8_isTelling_20 {l : Launch} {g : Ly} {p : Program} {e : Env} {s : State} {m : MethodId} {args : Array Value} {below : List Frame} {meth : Method} {c : Code} (N : Nat) (X : XC p m meth c cX8_isTelling 6 s args (.code yX8_isTelling cX8_isTelling 6 (some .boolean)) RX8 (some .boolean) shR g) {r : Int32} {t' : Mm} {k20 : Int32 × Int32 × Int32 × Int32 × Mm → Option (Int32 × Mm)} (hk20 : ∀ x : Int32 × Int32 × Int32 × Int32 × Mm, k20 x = some (r, t') → ∀ (H : Heap) (locs : List Loc) (ls : Array Slot), XP shR g x.2.2.2.2 H → va_S (XA shR g) s.heap H locs → lv_has ls 6 [(0, .ref (g.2.2 (9, 0, 0))), (2, .int x.1), (3, .int x.2.1), (4, .int x.2.2.1), (5, .int x.2.2.2.1)] → W p l e (rmv 2) s m args below meth c H locs 0 0 (MQ below (XQi shR g r t') args s 0 0 (XA shR g)) (F0 m 20 ls [])) (x2 : Int32) (x3 : Int32) (x4 : Int32) (x5 : Int32) (t : Mm) (H : Heap) (locs : List Loc) (ls : Array Slot) (hP : XP shR g t H) (hS : va_S (XA shR g) s.heap H locs) (hl : lv_has ls 6 [(0, .ref (g.2.2 (9, 0, 0))), (2, .int x2), (3, .int x3), (4, .int x4), (5, .int x5)]) (h : b_X8_isTelling_20 N k20 x2 x3 x4 x5 t = some (r, t')) : W p l e (rmv 2) s m args below meth c H locs 0 0 (MQ below (XQi shR g r t') args s 0 0 (XA shR g)) (F0 m 20 ls []) := by
  unfold b_X8_isTelling_20 at h
  refine lv_iload X.1.1 X.1.2.1 dX8_isTelling_20 (lv_at hl 4 rfl) ?_
  refine lv_if_lt (tgt := 110) X.1.1 X.1.2.1 dX8_isTelling_22 (by decide) (fun c_5 => ?_) (fun c_5 => ?_)
  · have h := o_pos c_5 h
    refine lv_iload X.1.1 X.1.2.1 dX8_isTelling_110 (lv_at hl 3 rfl) ?_
    obtain ⟨g_6, h⟩ := o_gd_inv h
    obtain ⟨rfl, rfl⟩ := o_ret2 h
    exact x_zret (x_narZ g_6) X hP hS dX8_isTelling_112
  · have h := o_neg c_5 h
    refine lv_aload_n X.1.1 X.1.2.1 dX8_isTelling_25 rfl (lv_at hl 0 rfl) ?_
    refine gt_X8_20 X hP (kyM (by decide)) wd_900 dX8_isTelling_26 ?_
    refine lv_iload X.1.1 X.1.2.1 dX8_isTelling_29 (lv_at hl 4 rfl) ?_
    refine lv_bipush (v := (-4)) X.1.1 X.1.2.1 dX8_isTelling_31 (by decide) ?_
    obtain ⟨g_7, h⟩ := o_gd_inv h
    obtain ⟨t_8, e_9, h⟩ := o_nm_inv h
    refine x_iast X hP hS (kyM (by decide)) (fun _ _ => rfl) g_7 dX8_isTelling_33 (fun H locs hP hS => ?_)
    have hP : XP shR g t_8 H := by rw [e_9]; exact hP
    refine lv_aload_n X.1.1 X.1.2.1 dX8_isTelling_34 rfl (lv_at hl 0 rfl) ?_
    refine gt_X8_29 X hP (kyM (by decide)) wd_909 dX8_isTelling_35 ?_
    refine lv_iload X.1.1 X.1.2.1 dX8_isTelling_38 (lv_at hl 4 rfl) ?_
    obtain ⟨⟨r_12, t_10⟩, hc_11, h⟩ := o_bd_inv h
    refine x_calli (x_runS (As := [.int (t_8.1 9 0 0 29), .int x5]) (rest := []) X hP hS (c_X8_has l g X.2.2.2.2.1 (t_8.1 9 0 0 29) x5 t_8 hc_11) ⟨wd_1021, wd_1019, wd_1020, wd_62⟩ hd_X8_has ⟨by omega, by decide⟩ rfl hl.1 rfl (Nat.le_of_ble_eq_true rfl) dX8_isTelling_40) hS (fun H locs hP hS => ?_)
    refine lv_if_eq (tgt := 104) X.1.1 X.1.2.1 dX8_isTelling_43 (by decide) (fun c_14 => ?_) (fun c_14 => ?_)
    · have h := o_pos c_14 h
      exact w_X8_isTelling_104 N X hk20 x2 x3 x4 x5 t_10 _ _ _ hP hS (lv_sub hl [0, 1, 2, 3, 4] rfl) h
    · have h := o_neg c_14 h
      refine lv_aload_n X.1.1 X.1.2.1 dX8_isTelling_46 rfl (lv_at hl 0 rfl) ?_
      refine gt_X8_20 X hP (kyM (by decide)) wd_900 dX8_isTelling_47 ?_
      refine lv_iload X.1.1 X.1.2.1 dX8_isTelling_50 (lv_at hl 4 rfl) ?_
      refine lv_iload_n X.1.1 X.1.2.1 dX8_isTelling_52 rfl (lv_at hl 2 rfl) ?_
      refine lv_aload_n X.1.1 X.1.2.1 dX8_isTelling_53 rfl (lv_at hl 0 rfl) ?_
      refine gt_X8_0 X hP (kyM (by decide)) wd_880 dX8_isTelling_54 ?_
      obtain ⟨g_15, h⟩ := o_gd_inv h
      refine lv_irem X.1.1 X.1.2.1 dX8_isTelling_57 g_15 ?_
      obtain ⟨g_16, h⟩ := o_gd_inv h
      obtain ⟨t_17, e_18, h⟩ := o_nm_inv h
      refine x_iast X hP hS (kyM (by decide)) (fun _ _ => rfl) g_16 dX8_isTelling_58 (fun H locs hP hS => ?_)
      have hP : XP shR g t_17 H := by rw [e_18]; exact hP
      refine lv_iload X.1.1 X.1.2.1 dX8_isTelling_59 (lv_at hl 3 rfl) ?_
      refine lv_if_eq (tgt := 82) X.1.1 X.1.2.1 dX8_isTelling_61 (by decide) (fun c_19 => ?_) (fun c_19 => ?_)
      · have h := o_pos c_19 h
        exact w_X8_isTelling_82 N X hk20 x2 x3 x5 t_17 _ _ _ hP hS (lv_sub hl [0, 1, 2, 4] rfl) h
      · have h := o_neg c_19 h
        refine lv_iload_n X.1.1 X.1.2.1 dX8_isTelling_64 rfl (lv_at hl 1 rfl) ?_
        refine lv_aload_n X.1.1 X.1.2.1 dX8_isTelling_65 rfl (lv_at hl 0 rfl) ?_
        refine gt_X8_20 X hP (kyM (by decide)) wd_900 dX8_isTelling_66 ?_
        refine lv_iload X.1.1 X.1.2.1 dX8_isTelling_69 (lv_at hl 4 rfl) ?_
        obtain ⟨g_20, h⟩ := o_gd_inv h
        refine x_iald X hP (kyM (by decide)) (fun _ _ => rfl) g_20 dX8_isTelling_71 ?_
        obtain ⟨⟨r_23, t_21⟩, hc_22, h⟩ := o_bd_inv h
        refine x_calli (x_runS (As := [.int x2, .int (t_17.1 9 0 20 (x5.toNatClampNeg))]) (rest := []) X hP hS (c_X8_has l g X.2.2.2.2.1 x2 (t_17.1 9 0 20 (x5.toNatClampNeg)) t_17 hc_22) ⟨wd_1021, wd_1019, wd_1020, wd_62⟩ hd_X8_has ⟨by omega, by decide⟩ rfl hl.1 rfl (Nat.le_of_ble_eq_true rfl) dX8_isTelling_72) hS (fun H locs hP hS => ?_)
        refine lv_if_ne (tgt := 82) X.1.1 X.1.2.1 dX8_isTelling_75 (by decide) (fun c_25 => ?_) (fun c_25 => ?_)
        · have h := o_neg c_25 h
          exact w_X8_isTelling_82 N X hk20 x2 x3 x5 t_21 _ _ _ hP hS (lv_sub hl [0, 1, 2, 4] rfl) h
        · have h := o_pos c_25 h
          refine lv_iconst (v := 1) X.1.1 X.1.2.1 dX8_isTelling_78 (by decide) ?_
          refine lv_goto (tgt := 83) X.1.1 X.1.2.1 dX8_isTelling_79 (by decide) ?_
          exact w_X8_isTelling_83 N X hk20 x2 x3 x5 1 t_21 _ _ _ hP hS (lv_sub hl [0, 1, 2, 4] rfl) h
set_option maxRecDepth 100000 in
set_option maxHeartbeats 4000000 in
theorem w_X8_isTelling_20 {l : Launch} {g : Ly} {p : Program} {e : Env} {s : State} {m : MethodId} {args : Array Value} {below : List Frame} {meth : Method} {c : Code} (N : Nat) (X : XC p m meth c cX8_isTelling 6 s args (.code yX8_isTelling cX8_isTelling 6 (some .boolean)) RX8 (some .boolean) shR g) {r : Int32} {t' : Mm} (x2 : Int32) (x3 : Int32) (x4 : Int32) (x5 : Int32) (t : Mm) (H : Heap) (locs : List Loc) (ls : Array Slot) (hP : XP shR g t H) (hS : va_S (XA shR g) s.heap H locs) (hl : lv_has ls 6 [(0, .ref (g.2.2 (9, 0, 0))), (2, .int x2), (3, .int x3), (4, .int x4), (5, .int x5)]) (h : f_X8_isTelling_20 N x2 x3 x4 x5 t = some (r, t')) : W p l e (rmv 2) s m args below meth c H locs 0 0 (MQ below (XQi shR g r t') args s 0 0 (XA shR g)) (F0 m 20 ls []) :=
  o_lp_ind (P := fun x : Int32 × Int32 × Int32 × Int32 × Mm => ∀ (H : Heap) (locs : List Loc) (ls : Array Slot), XP shR g x.2.2.2.2 H → va_S (XA shR g) s.heap H locs → lv_has ls 6 [(0, .ref (g.2.2 (9, 0, 0))), (2, .int x.1), (3, .int x.2.1), (4, .int x.2.2.1), (5, .int x.2.2.2.1)] → W p l e (rmv 2) s m args below meth c H locs 0 0 (MQ below (XQi shR g r t') args s 0 0 (XA shR g)) (F0 m 20 ls [])) (fun k hk x h H locs ls hP hS hl => wb_X8_isTelling_20 N X hk x.1 x.2.1 x.2.2.1 x.2.2.2.1 x.2.2.2.2 H locs ls hP hS hl h) N (x2, x3, x4, x5, t) h H locs ls hP hS hl
set_option maxRecDepth 100000 in
set_option maxHeartbeats 4000000 in
theorem c_X8_isTelling (l : Launch) (g : Ly) (N : Nat) (hG : XG shR g) (a0 : Int32) (t : Mm) {r : Int32} {t' : Mm} (h : f_X8_isTelling N a0 t = some (r, t')) : MI l yX8_isTelling cX8_isTelling 6 (some .boolean) 2 shR g [.ref (g.2.2 (9, 0, 0)), .int a0] t (XQi shR g r t') := by
  refine x_met hG (by decide +kernel) (Nat.le_of_ble_eq_true rfl) ?_
  intro p e s m below meth c ls X hP hl
  have hS : va_S (XA shR g) s.heap s.heap [] := va_S.rf
  have hl : lv_has ls 6 [(0, .ref (g.2.2 (9, 0, 0))), (1, .int a0)] := hl
  unfold f_X8_isTelling at h
  generalize ([.ref (g.2.2 (9, 0, 0)), .int a0] : List Value).toArray = args at X ⊢
  refine lv_aload_n X.1.1 X.1.2.1 dX8_isTelling_0 rfl (lv_at hl 0 rfl) ?_
  refine gt_X8_4 X hP (kyM (by decide)) wd_884 dX8_isTelling_1 ?_
  refine lv_iconst (v := 0) X.1.1 X.1.2.1 dX8_isTelling_4 (by decide) ?_
  obtain ⟨g_26, h⟩ := o_gd_inv h
  refine x_iald X hP (kyM (by decide)) (fun _ _ => rfl) g_26 dX8_isTelling_5 ?_
  refine lv_topi (fun x_27 e_28 => ?_)
  have h := o_nm_to e_28 h
  refine lv_istore_n (lv' := [(2, .int x_27), (0, .ref (g.2.2 (9, 0, 0))), (1, .int a0)]) X.1.1 X.1.2.1 dX8_isTelling_6 rfl hl (by decide) rfl (fun ls hl => ?_)
  refine lv_iload_n X.1.1 X.1.2.1 dX8_isTelling_7 rfl (lv_at hl 2 rfl) ?_
  refine lv_istore_n (lv' := [(3, .int a0), (2, .int x_27), (0, .ref (g.2.2 (9, 0, 0))), (1, .int a0)]) X.1.1 X.1.2.1 dX8_isTelling_8 rfl hl (by decide) rfl (fun ls hl => ?_)
  refine lv_iconst (v := 1) X.1.1 X.1.2.1 dX8_isTelling_9 (by decide) ?_
  refine lv_istore (lv' := [(4, .int 1), (3, .int a0), (2, .int x_27), (0, .ref (g.2.2 (9, 0, 0))), (1, .int a0)]) X.1.1 X.1.2.1 dX8_isTelling_10 hl (by decide) rfl (fun ls hl => ?_)
  refine lv_aload_n X.1.1 X.1.2.1 dX8_isTelling_12 rfl (lv_at hl 3 rfl) ?_
  refine gt_X8_1 X hP (kyM (by decide)) wd_881 dX8_isTelling_13 ?_
  refine lv_iconst (v := 1) X.1.1 X.1.2.1 dX8_isTelling_16 (by decide) ?_
  refine lv_isub X.1.1 X.1.2.1 dX8_isTelling_17 ?_
  refine lv_istore (lv' := [(5, .int ((t.1 9 0 0 1) - 1)), (4, .int 1), (3, .int a0), (2, .int x_27), (0, .ref (g.2.2 (9, 0, 0))), (1, .int a0)]) X.1.1 X.1.2.1 dX8_isTelling_18 hl (by decide) rfl (fun ls hl => ?_)
  exact w_X8_isTelling_20 N X x_27 a0 1 ((t.1 9 0 0 1) - 1) t _ _ _ hP hS (lv_sub hl [4, 3, 2, 1, 0] rfl) h
def f_X8_best_191 (N : Nat) (k73 : Int32 × Int32 × Int32 × Int32 × Int32 × Mm → Option (Int32 × Mm)) (x1 : Int32) (x2 : Int32) (x3 : Int32) (x4 : Int32) (x5 : Int32) (t : Mm) : Option (Int32 × Mm) := k73 (x1, x2, x3, x4, (x5 + 1), t)
def f_X8_best_187 (N : Nat) (k73 : Int32 × Int32 × Int32 × Int32 × Int32 × Mm → Option (Int32 × Mm)) (x1 : Int32) (x2 : Int32) (x5 : Int32) (s0 : Int32) (t : Mm) : Option (Int32 × Mm) := f_X8_best_191 N k73 x1 x2 s0 1 x5 t
def f_X8_best_169 (N : Nat) (k73 : Int32 × Int32 × Int32 × Int32 × Int32 × Mm → Option (Int32 × Mm)) (k132 : Int32 × Int32 × Int32 × Int32 × Int32 × Int32 × Int32 × Mm → Option (Int32 × Mm)) (x1 : Int32) (x2 : Int32) (x3 : Int32) (x5 : Int32) (x6 : Int32) (x7 : Int32) (x8 : Int32) (s1 : Int32) (s2 : Int32) (t : Mm) : Option (Int32 × Mm) := if o_inb s1 5 = true then (o_nm (sI t 9 0 30 (s1.toNatClampNeg) s2) fun t_2 => k132 (x1, x2, x3, x5, x6, x7, (x8 + 1), t_2)) else none
def b_X8_best_132 (N : Nat) (k73 : Int32 × Int32 × Int32 × Int32 × Int32 × Mm → Option (Int32 × Mm)) (k132 : Int32 × Int32 × Int32 × Int32 × Int32 × Int32 × Int32 × Mm → Option (Int32 × Mm)) (x1 : Int32) (x2 : Int32) (x3 : Int32) (x5 : Int32) (x6 : Int32) (x7 : Int32) (x8 : Int32) (t : Mm) : Option (Int32 × Mm) := if (t.1 9 0 0 1) ≤ x8 then (if x7 = 0 then (f_X8_best_187 N k73 x1 x2 x5 x3 t) else (f_X8_best_187 N k73 x1 x2 x5 x6 t)) else (if x7 = 0 then (if o_inb x8 5 = true then (f_X8_best_169 N k73 k132 x1 x2 x3 x5 x6 x7 x8 x8 (t.1 9 0 30 (x8.toNatClampNeg)) t) else none) else (if o_inb x8 5 = true then (f_X8_best_169 N k73 k132 x1 x2 x3 x5 x6 x7 x8 x8 (t.1 9 0 20 (x8.toNatClampNeg)) t) else none))
def f_X8_best_132 (N : Nat) (k73 : Int32 × Int32 × Int32 × Int32 × Int32 × Mm → Option (Int32 × Mm)) (x1 : Int32) (x2 : Int32) (x3 : Int32) (x5 : Int32) (x6 : Int32) (x7 : Int32) (x8 : Int32) (t : Mm) : Option (Int32 × Mm) := o_lp (fun k x => b_X8_best_132 N k73 k x.1 x.2.1 x.2.2.1 x.2.2.2.1 x.2.2.2.2.1 x.2.2.2.2.2.1 x.2.2.2.2.2.2.1 x.2.2.2.2.2.2.2) N (x1, x2, x3, x5, x6, x7, x8, t)
def f_X8_best_127 (N : Nat) (k73 : Int32 × Int32 × Int32 × Int32 × Int32 × Mm → Option (Int32 × Mm)) (x1 : Int32) (x2 : Int32) (x3 : Int32) (x5 : Int32) (x6 : Int32) (s0 : Int32) (t : Mm) : Option (Int32 × Mm) := f_X8_best_132 N k73 x1 x2 x3 x5 x6 s0 0 t
def f_X8_best_122 (N : Nat) (k73 : Int32 × Int32 × Int32 × Int32 × Int32 × Mm → Option (Int32 × Mm)) (x1 : Int32) (x2 : Int32) (x3 : Int32) (x5 : Int32) (x6 : Int32) (t : Mm) : Option (Int32 × Mm) := f_X8_best_127 N k73 x1 x2 x3 x5 x6 1 t
def b_X8_best_73 (N : Nat) (k73 : Int32 × Int32 × Int32 × Int32 × Int32 × Mm → Option (Int32 × Mm)) (x1 : Int32) (x2 : Int32) (x3 : Int32) (x4 : Int32) (x5 : Int32) (t : Mm) : Option (Int32 × Mm) := if x2 ≤ x5 then (if 0 ≤ x1 then (if o_inb x1 5 = true then (some ((t.1 9 0 30 (x1.toNatClampNeg)), t)) else none) else (some (x3, t))) else (o_bd (f_X8_isTelling N x5 t) fun (r_14, t_12) => if r_14 = 0 then (f_X8_best_191 N k73 x1 x2 x3 x4 x5 t_12) else (o_bd (f_X8_aside N t_12) fun t_17 => o_nm (sI t_17 9 0 0 19 1) fun t_19 => o_bd (f_X8_lastHour N t_19) fun (r_23, t_21) => o_nm (sI t_21 9 0 0 19 0) fun t_25 => if x4 = 0 then (f_X8_best_122 N k73 x1 x2 x3 x5 r_23 t_25) else (o_bd (f_X8_isSooner r_23 x3 t_25) fun (r_30, t_28) => if r_30 = 0 then (f_X8_best_127 N k73 x1 x2 x3 x5 r_23 0 t_28) else (f_X8_best_122 N k73 x1 x2 x3 x5 r_23 t_28))))
def f_X8_best_73 (N : Nat) (x1 : Int32) (x2 : Int32) (x3 : Int32) (x4 : Int32) (x5 : Int32) (t : Mm) : Option (Int32 × Mm) := o_lp (fun k x => b_X8_best_73 N k x.1 x.2.1 x.2.2.1 x.2.2.2.1 x.2.2.2.2.1 x.2.2.2.2.2) N (x1, x2, x3, x4, x5, t)
def f_X8_best_56 (N : Nat) (k28 : Int32 × Int32 × Int32 × Mm → Option (Int32 × Mm)) (x1 : Int32) (x3 : Int32) (s0 : Int32) (s1 : Int32) (t : Mm) : Option (Int32 × Mm) := k28 (x1, (s0 * s1), (x3 + 1), t)
def b_X8_best_28 (N : Nat) (k28 : Int32 × Int32 × Int32 × Mm → Option (Int32 × Mm)) (x1 : Int32) (x2 : Int32) (x3 : Int32) (t : Mm) : Option (Int32 × Mm) := if (t.1 9 0 0 1) ≤ x3 then (f_X8_best_73 N x1 x2 (-4) 0 0 t) else (o_bd (f_X8_has (t.1 9 0 0 29) x3 t) fun (r_36, t_34) => if r_36 = 0 then (f_X8_best_56 N k28 x1 x3 x2 1 t_34) else (f_X8_best_56 N k28 x1 x3 x2 (t_34.1 9 0 0 0) t_34))
def f_X8_best_28 (N : Nat) (x1 : Int32) (x2 : Int32) (x3 : Int32) (t : Mm) : Option (Int32 × Mm) := o_lp (fun k x => b_X8_best_28 N k x.1 x.2.1 x.2.2.1 x.2.2.2) N (x1, x2, x3, t)
/-- FordQuestionsModel.best(I)I -/
def f_X8_best (N : Nat) (a0 : Int32) (t : Mm) : Option (Int32 × Mm) := o_bd (f_X8_in (a0.toInt64) (-1) (((t.1 9 0 0 1) - 1).toInt64) t) fun (r_41, t_39) => if r_41 = 0 then (some ((-1), t_39)) else (o_bd (f_X8_layAsked N t_39) fun t_44 => f_X8_best_28 N a0 1 0 t_44)
theorem hd_X8_best : x_hd yX8_best 1 := by decide +kernel
set_option maxRecDepth 100000 in
set_option maxHeartbeats 4000000 in
theorem w_X8_best_191 {l : Launch} {g : Ly} {p : Program} {e : Env} {s : State} {m : MethodId} {args : Array Value} {below : List Frame} {meth : Method} {c : Code} (N : Nat) (X : XC p m meth c cX8_best 9 s args (.code yX8_best cX8_best 9 (some .int)) RX8 (some .int) shR g) {r : Int32} {t' : Mm} {k73 : Int32 × Int32 × Int32 × Int32 × Int32 × Mm → Option (Int32 × Mm)} (hk73 : ∀ x : Int32 × Int32 × Int32 × Int32 × Int32 × Mm, k73 x = some (r, t') → ∀ (H : Heap) (locs : List Loc) (ls : Array Slot), XP shR g x.2.2.2.2.2 H → va_S (XA shR g) s.heap H locs → lv_has ls 9 [(0, .ref (g.2.2 (9, 0, 0))), (1, .int x.1), (2, .int x.2.1), (3, .int x.2.2.1), (4, .int x.2.2.2.1), (5, .int x.2.2.2.2.1)] → W p l e (rmv 6) s m args below meth c H locs 0 0 (MQ below (XQi shR g r t') args s 0 0 (XA shR g)) (F0 m 73 ls [])) (x1 : Int32) (x2 : Int32) (x3 : Int32) (x4 : Int32) (x5 : Int32) (t : Mm) (H : Heap) (locs : List Loc) (ls : Array Slot) (hP : XP shR g t H) (hS : va_S (XA shR g) s.heap H locs) (hl : lv_has ls 9 [(0, .ref (g.2.2 (9, 0, 0))), (1, .int x1), (2, .int x2), (3, .int x3), (4, .int x4), (5, .int x5)]) (h : f_X8_best_191 N k73 x1 x2 x3 x4 x5 t = some (r, t')) : W p l e (rmv 6) s m args below meth c H locs 0 0 (MQ below (XQi shR g r t') args s 0 0 (XA shR g)) (F0 m 191 ls []) := by
  unfold f_X8_best_191 at h
  refine lv_iinc (v := (x5 + 1)) (lv' := [(5, .int (x5 + 1)), (0, .ref (g.2.2 (9, 0, 0))), (1, .int x1), (2, .int x2), (3, .int x3), (4, .int x4)]) X.1.1 X.1.2.1 dX8_best_191 hl (k := 5) rfl rfl (by decide) rfl (fun ls hl => ?_)
  refine lv_goto (tgt := 73) X.1.1 X.1.2.1 dX8_best_194 (by decide) ?_
  exact hk73 (x1, x2, x3, x4, (x5 + 1), t) h _ _ _ hP hS (lv_sub hl [1, 2, 3, 4, 5, 0] rfl)
set_option maxRecDepth 100000 in
set_option maxHeartbeats 4000000 in
theorem w_X8_best_187 {l : Launch} {g : Ly} {p : Program} {e : Env} {s : State} {m : MethodId} {args : Array Value} {below : List Frame} {meth : Method} {c : Code} (N : Nat) (X : XC p m meth c cX8_best 9 s args (.code yX8_best cX8_best 9 (some .int)) RX8 (some .int) shR g) {r : Int32} {t' : Mm} {k73 : Int32 × Int32 × Int32 × Int32 × Int32 × Mm → Option (Int32 × Mm)} (hk73 : ∀ x : Int32 × Int32 × Int32 × Int32 × Int32 × Mm, k73 x = some (r, t') → ∀ (H : Heap) (locs : List Loc) (ls : Array Slot), XP shR g x.2.2.2.2.2 H → va_S (XA shR g) s.heap H locs → lv_has ls 9 [(0, .ref (g.2.2 (9, 0, 0))), (1, .int x.1), (2, .int x.2.1), (3, .int x.2.2.1), (4, .int x.2.2.2.1), (5, .int x.2.2.2.2.1)] → W p l e (rmv 6) s m args below meth c H locs 0 0 (MQ below (XQi shR g r t') args s 0 0 (XA shR g)) (F0 m 73 ls [])) (x1 : Int32) (x2 : Int32) (x5 : Int32) (s0 : Int32) (t : Mm) (H : Heap) (locs : List Loc) (ls : Array Slot) (hP : XP shR g t H) (hS : va_S (XA shR g) s.heap H locs) (hl : lv_has ls 9 [(0, .ref (g.2.2 (9, 0, 0))), (1, .int x1), (2, .int x2), (5, .int x5)]) (h : f_X8_best_187 N k73 x1 x2 x5 s0 t = some (r, t')) : W p l e (rmv 6) s m args below meth c H locs 0 0 (MQ below (XQi shR g r t') args s 0 0 (XA shR g)) (F0 m 187 ls [.int s0]) := by
  unfold f_X8_best_187 at h
  refine lv_istore_n (lv' := [(3, .int s0), (0, .ref (g.2.2 (9, 0, 0))), (1, .int x1), (2, .int x2), (5, .int x5)]) X.1.1 X.1.2.1 dX8_best_187 rfl hl (by decide) rfl (fun ls hl => ?_)
  refine lv_iconst (v := 1) X.1.1 X.1.2.1 dX8_best_188 (by decide) ?_
  refine lv_istore (lv' := [(4, .int 1), (3, .int s0), (0, .ref (g.2.2 (9, 0, 0))), (1, .int x1), (2, .int x2), (5, .int x5)]) X.1.1 X.1.2.1 dX8_best_189 hl (by decide) rfl (fun ls hl => ?_)
  exact w_X8_best_191 N X hk73 x1 x2 s0 1 x5 t _ _ _ hP hS (lv_sub hl [2, 3, 4, 1, 0, 5] rfl) h
set_option maxRecDepth 100000 in
set_option maxHeartbeats 4000000 in
theorem w_X8_best_169 {l : Launch} {g : Ly} {p : Program} {e : Env} {s : State} {m : MethodId} {args : Array Value} {below : List Frame} {meth : Method} {c : Code} (N : Nat) (X : XC p m meth c cX8_best 9 s args (.code yX8_best cX8_best 9 (some .int)) RX8 (some .int) shR g) {r : Int32} {t' : Mm} {k73 : Int32 × Int32 × Int32 × Int32 × Int32 × Mm → Option (Int32 × Mm)} (hk73 : ∀ x : Int32 × Int32 × Int32 × Int32 × Int32 × Mm, k73 x = some (r, t') → ∀ (H : Heap) (locs : List Loc) (ls : Array Slot), XP shR g x.2.2.2.2.2 H → va_S (XA shR g) s.heap H locs → lv_has ls 9 [(0, .ref (g.2.2 (9, 0, 0))), (1, .int x.1), (2, .int x.2.1), (3, .int x.2.2.1), (4, .int x.2.2.2.1), (5, .int x.2.2.2.2.1)] → W p l e (rmv 6) s m args below meth c H locs 0 0 (MQ below (XQi shR g r t') args s 0 0 (XA shR g)) (F0 m 73 ls [])) {k132 : Int32 × Int32 × Int32 × Int32 × Int32 × Int32 × Int32 × Mm → Option (Int32 × Mm)} (hk132 : ∀ x : Int32 × Int32 × Int32 × Int32 × Int32 × Int32 × Int32 × Mm, k132 x = some (r, t') → ∀ (H : Heap) (locs : List Loc) (ls : Array Slot), XP shR g x.2.2.2.2.2.2.2 H → va_S (XA shR g) s.heap H locs → lv_has ls 9 [(0, .ref (g.2.2 (9, 0, 0))), (1, .int x.1), (2, .int x.2.1), (3, .int x.2.2.1), (5, .int x.2.2.2.1), (6, .int x.2.2.2.2.1), (7, .int x.2.2.2.2.2.1), (8, .int x.2.2.2.2.2.2.1)] → W p l e (rmv 6) s m args below meth c H locs 0 0 (MQ below (XQi shR g r t') args s 0 0 (XA shR g)) (F0 m 132 ls [])) (x1 : Int32) (x2 : Int32) (x3 : Int32) (x5 : Int32) (x6 : Int32) (x7 : Int32) (x8 : Int32) (s1 : Int32) (s2 : Int32) (t : Mm) (H : Heap) (locs : List Loc) (ls : Array Slot) (hP : XP shR g t H) (hS : va_S (XA shR g) s.heap H locs) (hl : lv_has ls 9 [(0, .ref (g.2.2 (9, 0, 0))), (1, .int x1), (2, .int x2), (3, .int x3), (5, .int x5), (6, .int x6), (7, .int x7), (8, .int x8)]) (h : f_X8_best_169 N k73 k132 x1 x2 x3 x5 x6 x7 x8 s1 s2 t = some (r, t')) : W p l e (rmv 6) s m args below meth c H locs 0 0 (MQ below (XQi shR g r t') args s 0 0 (XA shR g)) (F0 m 169 ls [.int s2, .int s1, .ref (g.2.2 (9, 0, 30))]) := by
  unfold f_X8_best_169 at h
  obtain ⟨g_1, h⟩ := o_gd_inv h
  obtain ⟨t_2, e_3, h⟩ := o_nm_inv h
  refine x_iast X hP hS (kyM (by decide)) (fun _ _ => rfl) g_1 dX8_best_169 (fun H locs hP hS => ?_)
  have hP : XP shR g t_2 H := by rw [e_3]; exact hP
  refine lv_iinc (v := (x8 + 1)) (lv' := [(8, .int (x8 + 1)), (0, .ref (g.2.2 (9, 0, 0))), (1, .int x1), (2, .int x2), (3, .int x3), (5, .int x5), (6, .int x6), (7, .int x7)]) X.1.1 X.1.2.1 dX8_best_170 hl (k := 7) rfl rfl (by decide) rfl (fun ls hl => ?_)
  refine lv_goto (tgt := 132) X.1.1 X.1.2.1 dX8_best_173 (by decide) ?_
  exact hk132 (x1, x2, x3, x5, x6, x7, (x8 + 1), t_2) h _ _ _ hP hS (lv_sub hl [1, 2, 3, 4, 5, 6, 7, 0] rfl)
set_option maxRecDepth 100000 in
set_option maxHeartbeats 4000000 in
theorem wb_X8_best_132 {l : Launch} {g : Ly} {p : Program} {e : Env} {s : State} {m : MethodId} {args : Array Value} {below : List Frame} {meth : Method} {c : Code} (N : Nat) (X : XC p m meth c cX8_best 9 s args (.code yX8_best cX8_best 9 (some .int)) RX8 (some .int) shR g) {r : Int32} {t' : Mm} {k73 : Int32 × Int32 × Int32 × Int32 × Int32 × Mm → Option (Int32 × Mm)} (hk73 : ∀ x : Int32 × Int32 × Int32 × Int32 × Int32 × Mm, k73 x = some (r, t') → ∀ (H : Heap) (locs : List Loc) (ls : Array Slot), XP shR g x.2.2.2.2.2 H → va_S (XA shR g) s.heap H locs → lv_has ls 9 [(0, .ref (g.2.2 (9, 0, 0))), (1, .int x.1), (2, .int x.2.1), (3, .int x.2.2.1), (4, .int x.2.2.2.1), (5, .int x.2.2.2.2.1)] → W p l e (rmv 6) s m args below meth c H locs 0 0 (MQ below (XQi shR g r t') args s 0 0 (XA shR g)) (F0 m 73 ls [])) {k132 : Int32 × Int32 × Int32 × Int32 × Int32 × Int32 × Int32 × Mm → Option (Int32 × Mm)} (hk132 : ∀ x : Int32 × Int32 × Int32 × Int32 × Int32 × Int32 × Int32 × Mm, k132 x = some (r, t') → ∀ (H : Heap) (locs : List Loc) (ls : Array Slot), XP shR g x.2.2.2.2.2.2.2 H → va_S (XA shR g) s.heap H locs → lv_has ls 9 [(0, .ref (g.2.2 (9, 0, 0))), (1, .int x.1), (2, .int x.2.1), (3, .int x.2.2.1), (5, .int x.2.2.2.1), (6, .int x.2.2.2.2.1), (7, .int x.2.2.2.2.2.1), (8, .int x.2.2.2.2.2.2.1)] → W p l e (rmv 6) s m args below meth c H locs 0 0 (MQ below (XQi shR g r t') args s 0 0 (XA shR g)) (F0 m 132 ls [])) (x1 : Int32) (x2 : Int32) (x3 : Int32) (x5 : Int32) (x6 : Int32) (x7 : Int32) (x8 : Int32) (t : Mm) (H : Heap) (locs : List Loc) (ls : Array Slot) (hP : XP shR g t H) (hS : va_S (XA shR g) s.heap H locs) (hl : lv_has ls 9 [(0, .ref (g.2.2 (9, 0, 0))), (1, .int x1), (2, .int x2), (3, .int x3), (5, .int x5), (6, .int x6), (7, .int x7), (8, .int x8)]) (h : b_X8_best_132 N k73 k132 x1 x2 x3 x5 x6 x7 x8 t = some (r, t')) : W p l e (rmv 6) s m args below meth c H locs 0 0 (MQ below (XQi shR g r t') args s 0 0 (XA shR g)) (F0 m 132 ls []) := by
  unfold b_X8_best_132 at h
  refine lv_iload X.1.1 X.1.2.1 dX8_best_132 (lv_at hl 7 rfl) ?_
  refine lv_aload_n X.1.1 X.1.2.1 dX8_best_134 rfl (lv_at hl 0 rfl) ?_
  refine gt_X8_1 X hP (kyM (by decide)) wd_881 dX8_best_135 ?_
  refine lv_icmp_ge (tgt := 176) X.1.1 X.1.2.1 dX8_best_138 (by decide) (fun c_4 => ?_) (fun c_4 => ?_)
  · have h := o_pos c_4 h
    refine lv_iload X.1.1 X.1.2.1 dX8_best_176 (lv_at hl 6 rfl) ?_
    refine lv_if_eq (tgt := 186) X.1.1 X.1.2.1 dX8_best_178 (by decide) (fun c_5 => ?_) (fun c_5 => ?_)
    · have h := o_pos c_5 h
      refine lv_iload_n X.1.1 X.1.2.1 dX8_best_186 rfl (lv_at hl 3 rfl) ?_
      exact w_X8_best_187 N X hk73 x1 x2 x5 x3 t _ _ _ hP hS (lv_sub hl [0, 1, 2, 4] rfl) h
    · have h := o_neg c_5 h
      refine lv_iload X.1.1 X.1.2.1 dX8_best_181 (lv_at hl 5 rfl) ?_
      refine lv_goto (tgt := 187) X.1.1 X.1.2.1 dX8_best_183 (by decide) ?_
      exact w_X8_best_187 N X hk73 x1 x2 x5 x6 t _ _ _ hP hS (lv_sub hl [0, 1, 2, 4] rfl) h
  · have h := o_neg c_4 h
    refine lv_aload_n X.1.1 X.1.2.1 dX8_best_141 rfl (lv_at hl 0 rfl) ?_
    refine gt_X8_30 X hP (kyM (by decide)) wd_910 dX8_best_142 ?_
    refine lv_iload X.1.1 X.1.2.1 dX8_best_145 (lv_at hl 7 rfl) ?_
    refine lv_iload X.1.1 X.1.2.1 dX8_best_147 (lv_at hl 6 rfl) ?_
    refine lv_if_eq (tgt := 162) X.1.1 X.1.2.1 dX8_best_149 (by decide) (fun c_6 => ?_) (fun c_6 => ?_)
    · have h := o_pos c_6 h
      refine lv_aload_n X.1.1 X.1.2.1 dX8_best_162 rfl (lv_at hl 0 rfl) ?_
      refine gt_X8_30 X hP (kyM (by decide)) wd_910 dX8_best_163 ?_
      refine lv_iload X.1.1 X.1.2.1 dX8_best_166 (lv_at hl 7 rfl) ?_
      obtain ⟨g_7, h⟩ := o_gd_inv h
      refine x_iald X hP (kyM (by decide)) (fun _ _ => rfl) g_7 dX8_best_168 ?_
      exact w_X8_best_169 N X hk73 hk132 x1 x2 x3 x5 x6 x7 x8 x8 (t.1 9 0 30 (x8.toNatClampNeg)) t _ _ _ hP hS (lv_sub hl [0, 1, 2, 3, 4, 5, 6, 7] rfl) h
    · have h := o_neg c_6 h
      refine lv_aload_n X.1.1 X.1.2.1 dX8_best_152 rfl (lv_at hl 0 rfl) ?_
      refine gt_X8_20 X hP (kyM (by decide)) wd_900 dX8_best_153 ?_
      refine lv_iload X.1.1 X.1.2.1 dX8_best_156 (lv_at hl 7 rfl) ?_
      obtain ⟨g_8, h⟩ := o_gd_inv h
      refine x_iald X hP (kyM (by decide)) (fun _ _ => rfl) g_8 dX8_best_158 ?_
      refine lv_goto (tgt := 169) X.1.1 X.1.2.1 dX8_best_159 (by decide) ?_
      exact w_X8_best_169 N X hk73 hk132 x1 x2 x3 x5 x6 x7 x8 x8 (t.1 9 0 20 (x8.toNatClampNeg)) t _ _ _ hP hS (lv_sub hl [0, 1, 2, 3, 4, 5, 6, 7] rfl) h
set_option maxRecDepth 100000 in
set_option maxHeartbeats 4000000 in
theorem w_X8_best_132 {l : Launch} {g : Ly} {p : Program} {e : Env} {s : State} {m : MethodId} {args : Array Value} {below : List Frame} {meth : Method} {c : Code} (N : Nat) (X : XC p m meth c cX8_best 9 s args (.code yX8_best cX8_best 9 (some .int)) RX8 (some .int) shR g) {r : Int32} {t' : Mm} {k73 : Int32 × Int32 × Int32 × Int32 × Int32 × Mm → Option (Int32 × Mm)} (hk73 : ∀ x : Int32 × Int32 × Int32 × Int32 × Int32 × Mm, k73 x = some (r, t') → ∀ (H : Heap) (locs : List Loc) (ls : Array Slot), XP shR g x.2.2.2.2.2 H → va_S (XA shR g) s.heap H locs → lv_has ls 9 [(0, .ref (g.2.2 (9, 0, 0))), (1, .int x.1), (2, .int x.2.1), (3, .int x.2.2.1), (4, .int x.2.2.2.1), (5, .int x.2.2.2.2.1)] → W p l e (rmv 6) s m args below meth c H locs 0 0 (MQ below (XQi shR g r t') args s 0 0 (XA shR g)) (F0 m 73 ls [])) (x1 : Int32) (x2 : Int32) (x3 : Int32) (x5 : Int32) (x6 : Int32) (x7 : Int32) (x8 : Int32) (t : Mm) (H : Heap) (locs : List Loc) (ls : Array Slot) (hP : XP shR g t H) (hS : va_S (XA shR g) s.heap H locs) (hl : lv_has ls 9 [(0, .ref (g.2.2 (9, 0, 0))), (1, .int x1), (2, .int x2), (3, .int x3), (5, .int x5), (6, .int x6), (7, .int x7), (8, .int x8)]) (h : f_X8_best_132 N k73 x1 x2 x3 x5 x6 x7 x8 t = some (r, t')) : W p l e (rmv 6) s m args below meth c H locs 0 0 (MQ below (XQi shR g r t') args s 0 0 (XA shR g)) (F0 m 132 ls []) :=
  o_lp_ind (P := fun x : Int32 × Int32 × Int32 × Int32 × Int32 × Int32 × Int32 × Mm => ∀ (H : Heap) (locs : List Loc) (ls : Array Slot), XP shR g x.2.2.2.2.2.2.2 H → va_S (XA shR g) s.heap H locs → lv_has ls 9 [(0, .ref (g.2.2 (9, 0, 0))), (1, .int x.1), (2, .int x.2.1), (3, .int x.2.2.1), (5, .int x.2.2.2.1), (6, .int x.2.2.2.2.1), (7, .int x.2.2.2.2.2.1), (8, .int x.2.2.2.2.2.2.1)] → W p l e (rmv 6) s m args below meth c H locs 0 0 (MQ below (XQi shR g r t') args s 0 0 (XA shR g)) (F0 m 132 ls [])) (fun k hk x h H locs ls hP hS hl => wb_X8_best_132 N X hk73 hk x.1 x.2.1 x.2.2.1 x.2.2.2.1 x.2.2.2.2.1 x.2.2.2.2.2.1 x.2.2.2.2.2.2.1 x.2.2.2.2.2.2.2 H locs ls hP hS hl h) N (x1, x2, x3, x5, x6, x7, x8, t) h H locs ls hP hS hl
set_option maxRecDepth 100000 in
set_option maxHeartbeats 4000000 in
theorem w_X8_best_127 {l : Launch} {g : Ly} {p : Program} {e : Env} {s : State} {m : MethodId} {args : Array Value} {below : List Frame} {meth : Method} {c : Code} (N : Nat) (X : XC p m meth c cX8_best 9 s args (.code yX8_best cX8_best 9 (some .int)) RX8 (some .int) shR g) {r : Int32} {t' : Mm} {k73 : Int32 × Int32 × Int32 × Int32 × Int32 × Mm → Option (Int32 × Mm)} (hk73 : ∀ x : Int32 × Int32 × Int32 × Int32 × Int32 × Mm, k73 x = some (r, t') → ∀ (H : Heap) (locs : List Loc) (ls : Array Slot), XP shR g x.2.2.2.2.2 H → va_S (XA shR g) s.heap H locs → lv_has ls 9 [(0, .ref (g.2.2 (9, 0, 0))), (1, .int x.1), (2, .int x.2.1), (3, .int x.2.2.1), (4, .int x.2.2.2.1), (5, .int x.2.2.2.2.1)] → W p l e (rmv 6) s m args below meth c H locs 0 0 (MQ below (XQi shR g r t') args s 0 0 (XA shR g)) (F0 m 73 ls [])) (x1 : Int32) (x2 : Int32) (x3 : Int32) (x5 : Int32) (x6 : Int32) (s0 : Int32) (t : Mm) (H : Heap) (locs : List Loc) (ls : Array Slot) (hP : XP shR g t H) (hS : va_S (XA shR g) s.heap H locs) (hl : lv_has ls 9 [(0, .ref (g.2.2 (9, 0, 0))), (1, .int x1), (2, .int x2), (3, .int x3), (5, .int x5), (6, .int x6)]) (h : f_X8_best_127 N k73 x1 x2 x3 x5 x6 s0 t = some (r, t')) : W p l e (rmv 6) s m args below meth c H locs 0 0 (MQ below (XQi shR g r t') args s 0 0 (XA shR g)) (F0 m 127 ls [.int s0]) := by
  unfold f_X8_best_127 at h
  refine lv_istore (lv' := [(7, .int s0), (0, .ref (g.2.2 (9, 0, 0))), (1, .int x1), (2, .int x2), (3, .int x3), (5, .int x5), (6, .int x6)]) X.1.1 X.1.2.1 dX8_best_127 hl (by decide) rfl (fun ls hl => ?_)
  refine lv_iconst (v := 0) X.1.1 X.1.2.1 dX8_best_129 (by decide) ?_
  refine lv_istore (lv' := [(8, .int 0), (7, .int s0), (0, .ref (g.2.2 (9, 0, 0))), (1, .int x1), (2, .int x2), (3, .int x3), (5, .int x5), (6, .int x6)]) X.1.1 X.1.2.1 dX8_best_130 hl (by decide) rfl (fun ls hl => ?_)
  exact w_X8_best_132 N X hk73 x1 x2 x3 x5 x6 s0 0 t _ _ _ hP hS (lv_sub hl [2, 3, 4, 5, 6, 7, 1, 0] rfl) h
set_option maxRecDepth 100000 in
set_option maxHeartbeats 4000000 in
theorem w_X8_best_122 {l : Launch} {g : Ly} {p : Program} {e : Env} {s : State} {m : MethodId} {args : Array Value} {below : List Frame} {meth : Method} {c : Code} (N : Nat) (X : XC p m meth c cX8_best 9 s args (.code yX8_best cX8_best 9 (some .int)) RX8 (some .int) shR g) {r : Int32} {t' : Mm} {k73 : Int32 × Int32 × Int32 × Int32 × Int32 × Mm → Option (Int32 × Mm)} (hk73 : ∀ x : Int32 × Int32 × Int32 × Int32 × Int32 × Mm, k73 x = some (r, t') → ∀ (H : Heap) (locs : List Loc) (ls : Array Slot), XP shR g x.2.2.2.2.2 H → va_S (XA shR g) s.heap H locs → lv_has ls 9 [(0, .ref (g.2.2 (9, 0, 0))), (1, .int x.1), (2, .int x.2.1), (3, .int x.2.2.1), (4, .int x.2.2.2.1), (5, .int x.2.2.2.2.1)] → W p l e (rmv 6) s m args below meth c H locs 0 0 (MQ below (XQi shR g r t') args s 0 0 (XA shR g)) (F0 m 73 ls [])) (x1 : Int32) (x2 : Int32) (x3 : Int32) (x5 : Int32) (x6 : Int32) (t : Mm) (H : Heap) (locs : List Loc) (ls : Array Slot) (hP : XP shR g t H) (hS : va_S (XA shR g) s.heap H locs) (hl : lv_has ls 9 [(0, .ref (g.2.2 (9, 0, 0))), (1, .int x1), (2, .int x2), (3, .int x3), (5, .int x5), (6, .int x6)]) (h : f_X8_best_122 N k73 x1 x2 x3 x5 x6 t = some (r, t')) : W p l e (rmv 6) s m args below meth c H locs 0 0 (MQ below (XQi shR g r t') args s 0 0 (XA shR g)) (F0 m 122 ls []) := by
  unfold f_X8_best_122 at h
  refine lv_iconst (v := 1) X.1.1 X.1.2.1 dX8_best_122 (by decide) ?_
  refine lv_goto (tgt := 127) X.1.1 X.1.2.1 dX8_best_123 (by decide) ?_
  exact w_X8_best_127 N X hk73 x1 x2 x3 x5 x6 1 t _ _ _ hP hS (lv_sub hl [0, 1, 2, 3, 4, 5] rfl) h
set_option maxRecDepth 100000 in
set_option maxHeartbeats 4000000 in
theorem wb_X8_best_73 {l : Launch} {g : Ly} {p : Program} {e : Env} {s : State} {m : MethodId} {args : Array Value} {below : List Frame} {meth : Method} {c : Code} (N : Nat) (X : XC p m meth c cX8_best 9 s args (.code yX8_best cX8_best 9 (some .int)) RX8 (some .int) shR g) {r : Int32} {t' : Mm} {k73 : Int32 × Int32 × Int32 × Int32 × Int32 × Mm → Option (Int32 × Mm)} (hk73 : ∀ x : Int32 × Int32 × Int32 × Int32 × Int32 × Mm, k73 x = some (r, t') → ∀ (H : Heap) (locs : List Loc) (ls : Array Slot), XP shR g x.2.2.2.2.2 H → va_S (XA shR g) s.heap H locs → lv_has ls 9 [(0, .ref (g.2.2 (9, 0, 0))), (1, .int x.1), (2, .int x.2.1), (3, .int x.2.2.1), (4, .int x.2.2.2.1), (5, .int x.2.2.2.2.1)] → W p l e (rmv 6) s m args below meth c H locs 0 0 (MQ below (XQi shR g r t') args s 0 0 (XA shR g)) (F0 m 73 ls [])) (x1 : Int32) (x2 : Int32) (x3 : Int32) (x4 : Int32) (x5 : Int32) (t : Mm) (H : Heap) (locs : List Loc) (ls : Array Slot) (hP : XP shR g t H) (hS : va_S (XA shR g) s.heap H locs) (hl : lv_has ls 9 [(0, .ref (g.2.2 (9, 0, 0))), (1, .int x1), (2, .int x2), (3, .int x3), (4, .int x4), (5, .int x5)]) (h : b_X8_best_73 N k73 x1 x2 x3 x4 x5 t = some (r, t')) : W p l e (rmv 6) s m args below meth c H locs 0 0 (MQ below (XQi shR g r t') args s 0 0 (XA shR g)) (F0 m 73 ls []) := by
  unfold b_X8_best_73 at h
  refine lv_iload X.1.1 X.1.2.1 dX8_best_73 (lv_at hl 5 rfl) ?_
  refine lv_iload_n X.1.1 X.1.2.1 dX8_best_75 rfl (lv_at hl 2 rfl) ?_
  refine lv_icmp_ge (tgt := 197) X.1.1 X.1.2.1 dX8_best_76 (by decide) (fun c_9 => ?_) (fun c_9 => ?_)
  · have h := o_pos c_9 h
    refine lv_iload_n X.1.1 X.1.2.1 dX8_best_197 rfl (lv_at hl 1 rfl) ?_
    refine lv_if_ge (tgt := 205) X.1.1 X.1.2.1 dX8_best_198 (by decide) (fun c_10 => ?_) (fun c_10 => ?_)
    · have h := o_pos c_10 h
      refine lv_aload_n X.1.1 X.1.2.1 dX8_best_205 rfl (lv_at hl 0 rfl) ?_
      refine gt_X8_30 X hP (kyM (by decide)) wd_910 dX8_best_206 ?_
      refine lv_iload_n X.1.1 X.1.2.1 dX8_best_209 rfl (lv_at hl 1 rfl) ?_
      obtain ⟨g_11, h⟩ := o_gd_inv h
      refine x_iald X hP (kyM (by decide)) (fun _ _ => rfl) g_11 dX8_best_210 ?_
      obtain ⟨rfl, rfl⟩ := o_ret2 h
      exact x_iret X hP hS dX8_best_211
    · have h := o_neg c_10 h
      refine lv_iload_n X.1.1 X.1.2.1 dX8_best_201 rfl (lv_at hl 3 rfl) ?_
      refine lv_goto (tgt := 211) X.1.1 X.1.2.1 dX8_best_202 (by decide) ?_
      obtain ⟨rfl, rfl⟩ := o_ret2 h
      exact x_iret X hP hS dX8_best_211
  · have h := o_neg c_9 h
    refine lv_aload_n X.1.1 X.1.2.1 dX8_best_79 rfl (lv_at hl 0 rfl) ?_
    refine lv_iload X.1.1 X.1.2.1 dX8_best_80 (lv_at hl 5 rfl) ?_
    obtain ⟨⟨r_14, t_12⟩, hc_13, h⟩ := o_bd_inv h
    refine x_calli (x_runV (As := [.int x5]) (rest := []) X hP hS (c_X8_isTelling l g N X.2.2.2.2.1 x5 t hc_13) ⟨wd_1187, wd_1184, wd_1186, wd_48, wd_62⟩ hd_X8_isTelling ⟨by omega, by decide⟩ (x_recv X hP (ci := 8) rfl (kyM (by decide)) rfl) rfl hl.1 rfl (Nat.le_of_ble_eq_true rfl) dX8_best_82) hS (fun H locs hP hS => ?_)
    refine lv_if_eq (tgt := 191) X.1.1 X.1.2.1 dX8_best_85 (by decide) (fun c_16 => ?_) (fun c_16 => ?_)
    · have h := o_pos c_16 h
      exact w_X8_best_191 N X hk73 x1 x2 x3 x4 x5 t_12 _ _ _ hP hS (lv_sub hl [0, 1, 2, 3, 4, 5] rfl) h
    · have h := o_neg c_16 h
      refine lv_aload_n X.1.1 X.1.2.1 dX8_best_88 rfl (lv_at hl 0 rfl) ?_
      obtain ⟨t_17, hc_18, h⟩ := o_bd_inv h
      refine x_callv (x_runV (As := []) (rest := []) X hP hS (c_X8_aside l g N X.2.2.2.2.1 t_12 hc_18) ⟨wd_1014, wd_1011, wd_1013, wd_27, wd_62⟩ hd_X8_aside ⟨by omega, by decide⟩ (x_recv X hP (ci := 8) rfl (kyM (by decide)) rfl) rfl hl.1 rfl (Nat.le_of_ble_eq_true rfl) dX8_best_89) hS (fun H locs hP hS => ?_)
      refine lv_aload_n X.1.1 X.1.2.1 dX8_best_92 rfl (lv_at hl 0 rfl) ?_
      refine lv_iconst (v := 1) X.1.1 X.1.2.1 dX8_best_93 (by decide) ?_
      obtain ⟨t_19, e_20, h⟩ := o_nm_inv h
      refine pt_X8_19 (x := 1) X hP hS (kyM (by decide)) rfl rfl wd_899 dX8_best_94 (fun H locs hP hS => ?_)
      have hP : XP shR g t_19 H := by rw [e_20]; exact hP
      refine lv_aload_n X.1.1 X.1.2.1 dX8_best_97 rfl (lv_at hl 0 rfl) ?_
      obtain ⟨⟨r_23, t_21⟩, hc_22, h⟩ := o_bd_inv h
      refine x_calli (x_runV (As := []) (rest := []) X hP hS (c_X8_lastHour l g N X.2.2.2.2.1 t_19 hc_22) ⟨wd_1162, wd_1159, wd_1161, wd_44, wd_62⟩ hd_X8_lastHour ⟨by omega, by decide⟩ (x_recv X hP (ci := 8) rfl (kyM (by decide)) rfl) rfl hl.1 rfl (Nat.le_of_ble_eq_true rfl) dX8_best_98) hS (fun H locs hP hS => ?_)
      refine lv_istore (lv' := [(6, .int r_23), (0, .ref (g.2.2 (9, 0, 0))), (1, .int x1), (2, .int x2), (3, .int x3), (4, .int x4), (5, .int x5)]) X.1.1 X.1.2.1 dX8_best_101 hl (by decide) rfl (fun ls hl => ?_)
      refine lv_aload_n X.1.1 X.1.2.1 dX8_best_103 rfl (lv_at hl 1 rfl) ?_
      refine lv_iconst (v := 0) X.1.1 X.1.2.1 dX8_best_104 (by decide) ?_
      obtain ⟨t_25, e_26, h⟩ := o_nm_inv h
      refine pt_X8_19 (x := 0) X hP hS (kyM (by decide)) rfl rfl wd_899 dX8_best_105 (fun H locs hP hS => ?_)
      have hP : XP shR g t_25 H := by rw [e_26]; exact hP
      refine lv_iload X.1.1 X.1.2.1 dX8_best_108 (lv_at hl 5 rfl) ?_
      refine lv_if_eq (tgt := 122) X.1.1 X.1.2.1 dX8_best_110 (by decide) (fun c_27 => ?_) (fun c_27 => ?_)
      · have h := o_pos c_27 h
        exact w_X8_best_122 N X hk73 x1 x2 x3 x5 r_23 t_25 _ _ _ hP hS (lv_sub hl [1, 2, 3, 4, 6, 0] rfl) h
      · have h := o_neg c_27 h
        refine lv_iload X.1.1 X.1.2.1 dX8_best_113 (lv_at hl 0 rfl) ?_
        refine lv_iload_n X.1.1 X.1.2.1 dX8_best_115 rfl (lv_at hl 4 rfl) ?_
        obtain ⟨⟨r_30, t_28⟩, hc_29, h⟩ := o_bd_inv h
        refine x_calli (x_runS (As := [.int r_23, .int x3]) (rest := []) X hP hS (c_X8_isSooner l g X.2.2.2.2.1 r_23 x3 t_25 hc_29) ⟨wd_1190, wd_1188, wd_1189, wd_62⟩ hd_X8_isSooner ⟨by omega, by decide⟩ rfl hl.1 rfl (Nat.le_of_ble_eq_true rfl) dX8_best_116) hS (fun H locs hP hS => ?_)
        refine lv_if_eq (tgt := 126) X.1.1 X.1.2.1 dX8_best_119 (by decide) (fun c_32 => ?_) (fun c_32 => ?_)
        · have h := o_pos c_32 h
          refine lv_iconst (v := 0) X.1.1 X.1.2.1 dX8_best_126 (by decide) ?_
          exact w_X8_best_127 N X hk73 x1 x2 x3 x5 r_23 0 t_28 _ _ _ hP hS (lv_sub hl [1, 2, 3, 4, 6, 0] rfl) h
        · have h := o_neg c_32 h
          exact w_X8_best_122 N X hk73 x1 x2 x3 x5 r_23 t_28 _ _ _ hP hS (lv_sub hl [1, 2, 3, 4, 6, 0] rfl) h
set_option maxRecDepth 100000 in
set_option maxHeartbeats 4000000 in
theorem w_X8_best_73 {l : Launch} {g : Ly} {p : Program} {e : Env} {s : State} {m : MethodId} {args : Array Value} {below : List Frame} {meth : Method} {c : Code} (N : Nat) (X : XC p m meth c cX8_best 9 s args (.code yX8_best cX8_best 9 (some .int)) RX8 (some .int) shR g) {r : Int32} {t' : Mm} (x1 : Int32) (x2 : Int32) (x3 : Int32) (x4 : Int32) (x5 : Int32) (t : Mm) (H : Heap) (locs : List Loc) (ls : Array Slot) (hP : XP shR g t H) (hS : va_S (XA shR g) s.heap H locs) (hl : lv_has ls 9 [(0, .ref (g.2.2 (9, 0, 0))), (1, .int x1), (2, .int x2), (3, .int x3), (4, .int x4), (5, .int x5)]) (h : f_X8_best_73 N x1 x2 x3 x4 x5 t = some (r, t')) : W p l e (rmv 6) s m args below meth c H locs 0 0 (MQ below (XQi shR g r t') args s 0 0 (XA shR g)) (F0 m 73 ls []) :=
  o_lp_ind (P := fun x : Int32 × Int32 × Int32 × Int32 × Int32 × Mm => ∀ (H : Heap) (locs : List Loc) (ls : Array Slot), XP shR g x.2.2.2.2.2 H → va_S (XA shR g) s.heap H locs → lv_has ls 9 [(0, .ref (g.2.2 (9, 0, 0))), (1, .int x.1), (2, .int x.2.1), (3, .int x.2.2.1), (4, .int x.2.2.2.1), (5, .int x.2.2.2.2.1)] → W p l e (rmv 6) s m args below meth c H locs 0 0 (MQ below (XQi shR g r t') args s 0 0 (XA shR g)) (F0 m 73 ls [])) (fun k hk x h H locs ls hP hS hl => wb_X8_best_73 N X hk x.1 x.2.1 x.2.2.1 x.2.2.2.1 x.2.2.2.2.1 x.2.2.2.2.2 H locs ls hP hS hl h) N (x1, x2, x3, x4, x5, t) h H locs ls hP hS hl
set_option maxRecDepth 100000 in
set_option maxHeartbeats 4000000 in
theorem w_X8_best_56 {l : Launch} {g : Ly} {p : Program} {e : Env} {s : State} {m : MethodId} {args : Array Value} {below : List Frame} {meth : Method} {c : Code} (N : Nat) (X : XC p m meth c cX8_best 9 s args (.code yX8_best cX8_best 9 (some .int)) RX8 (some .int) shR g) {r : Int32} {t' : Mm} {k28 : Int32 × Int32 × Int32 × Mm → Option (Int32 × Mm)} (hk28 : ∀ x : Int32 × Int32 × Int32 × Mm, k28 x = some (r, t') → ∀ (H : Heap) (locs : List Loc) (ls : Array Slot), XP shR g x.2.2.2 H → va_S (XA shR g) s.heap H locs → lv_has ls 9 [(0, .ref (g.2.2 (9, 0, 0))), (1, .int x.1), (2, .int x.2.1), (3, .int x.2.2.1)] → W p l e (rmv 6) s m args below meth c H locs 0 0 (MQ below (XQi shR g r t') args s 0 0 (XA shR g)) (F0 m 28 ls [])) (x1 : Int32) (x3 : Int32) (s0 : Int32) (s1 : Int32) (t : Mm) (H : Heap) (locs : List Loc) (ls : Array Slot) (hP : XP shR g t H) (hS : va_S (XA shR g) s.heap H locs) (hl : lv_has ls 9 [(0, .ref (g.2.2 (9, 0, 0))), (1, .int x1), (3, .int x3)]) (h : f_X8_best_56 N k28 x1 x3 s0 s1 t = some (r, t')) : W p l e (rmv 6) s m args below meth c H locs 0 0 (MQ below (XQi shR g r t') args s 0 0 (XA shR g)) (F0 m 56 ls [.int s1, .int s0]) := by
  unfold f_X8_best_56 at h
  refine lv_imul X.1.1 X.1.2.1 dX8_best_56 ?_
  refine lv_istore_n (lv' := [(2, .int (s0 * s1)), (0, .ref (g.2.2 (9, 0, 0))), (1, .int x1), (3, .int x3)]) X.1.1 X.1.2.1 dX8_best_57 rfl hl (by decide) rfl (fun ls hl => ?_)
  refine lv_iinc (v := (x3 + 1)) (lv' := [(3, .int (x3 + 1)), (2, .int (s0 * s1)), (0, .ref (g.2.2 (9, 0, 0))), (1, .int x1)]) X.1.1 X.1.2.1 dX8_best_58 hl (k := 3) rfl rfl (by decide) rfl (fun ls hl => ?_)
  refine lv_goto (tgt := 28) X.1.1 X.1.2.1 dX8_best_61 (by decide) ?_
  exact hk28 (x1, (s0 * s1), (x3 + 1), t) h _ _ _ hP hS (lv_sub hl [2, 3, 1, 0] rfl)
set_option maxRecDepth 100000 in
set_option maxHeartbeats 4000000 in
theorem wb_X8_best_28 {l : Launch} {g : Ly} {p : Program} {e : Env} {s : State} {m : MethodId} {args : Array Value} {below : List Frame} {meth : Method} {c : Code} (N : Nat) (X : XC p m meth c cX8_best 9 s args (.code yX8_best cX8_best 9 (some .int)) RX8 (some .int) shR g) {r : Int32} {t' : Mm} {k28 : Int32 × Int32 × Int32 × Mm → Option (Int32 × Mm)} (hk28 : ∀ x : Int32 × Int32 × Int32 × Mm, k28 x = some (r, t') → ∀ (H : Heap) (locs : List Loc) (ls : Array Slot), XP shR g x.2.2.2 H → va_S (XA shR g) s.heap H locs → lv_has ls 9 [(0, .ref (g.2.2 (9, 0, 0))), (1, .int x.1), (2, .int x.2.1), (3, .int x.2.2.1)] → W p l e (rmv 6) s m args below meth c H locs 0 0 (MQ below (XQi shR g r t') args s 0 0 (XA shR g)) (F0 m 28 ls [])) (x1 : Int32) (x2 : Int32) (x3 : Int32) (t : Mm) (H : Heap) (locs : List Loc) (ls : Array Slot) (hP : XP shR g t H) (hS : va_S (XA shR g) s.heap H locs) (hl : lv_has ls 9 [(0, .ref (g.2.2 (9, 0, 0))), (1, .int x1), (2, .int x2), (3, .int x3)]) (h : b_X8_best_28 N k28 x1 x2 x3 t = some (r, t')) : W p l e (rmv 6) s m args below meth c H locs 0 0 (MQ below (XQi shR g r t') args s 0 0 (XA shR g)) (F0 m 28 ls []) := by
  unfold b_X8_best_28 at h
  refine lv_iload_n X.1.1 X.1.2.1 dX8_best_28 rfl (lv_at hl 3 rfl) ?_
  refine lv_aload_n X.1.1 X.1.2.1 dX8_best_29 rfl (lv_at hl 0 rfl) ?_
  refine gt_X8_1 X hP (kyM (by decide)) wd_881 dX8_best_30 ?_
  refine lv_icmp_ge (tgt := 64) X.1.1 X.1.2.1 dX8_best_33 (by decide) (fun c_33 => ?_) (fun c_33 => ?_)
  · have h := o_pos c_33 h
    refine lv_bipush (v := (-4)) X.1.1 X.1.2.1 dX8_best_64 (by decide) ?_
    refine lv_istore_n (lv' := [(3, .int (-4)), (0, .ref (g.2.2 (9, 0, 0))), (1, .int x1), (2, .int x2)]) X.1.1 X.1.2.1 dX8_best_66 rfl hl (by decide) rfl (fun ls hl => ?_)
    refine lv_iconst (v := 0) X.1.1 X.1.2.1 dX8_best_67 (by decide) ?_
    refine lv_istore (lv' := [(4, .int 0), (3, .int (-4)), (0, .ref (g.2.2 (9, 0, 0))), (1, .int x1), (2, .int x2)]) X.1.1 X.1.2.1 dX8_best_68 hl (by decide) rfl (fun ls hl => ?_)
    refine lv_iconst (v := 0) X.1.1 X.1.2.1 dX8_best_70 (by decide) ?_
    refine lv_istore (lv' := [(5, .int 0), (4, .int 0), (3, .int (-4)), (0, .ref (g.2.2 (9, 0, 0))), (1, .int x1), (2, .int x2)]) X.1.1 X.1.2.1 dX8_best_71 hl (by decide) rfl (fun ls hl => ?_)
    exact w_X8_best_73 N X x1 x2 (-4) 0 0 t _ _ _ hP hS (lv_sub hl [3, 4, 5, 2, 1, 0] rfl) h
  · have h := o_neg c_33 h
    refine lv_iload_n X.1.1 X.1.2.1 dX8_best_36 rfl (lv_at hl 2 rfl) ?_
    refine lv_aload_n X.1.1 X.1.2.1 dX8_best_37 rfl (lv_at hl 0 rfl) ?_
    refine gt_X8_29 X hP (kyM (by decide)) wd_909 dX8_best_38 ?_
    refine lv_iload_n X.1.1 X.1.2.1 dX8_best_41 rfl (lv_at hl 3 rfl) ?_
    obtain ⟨⟨r_36, t_34⟩, hc_35, h⟩ := o_bd_inv h
    refine x_calli (x_runS (As := [.int (t.1 9 0 0 29), .int x3]) (rest := [.int x2]) X hP hS (c_X8_has l g X.2.2.2.2.1 (t.1 9 0 0 29) x3 t hc_35) ⟨wd_1021, wd_1019, wd_1020, wd_62⟩ hd_X8_has ⟨by omega, by decide⟩ rfl hl.1 rfl (Nat.le_of_ble_eq_true rfl) dX8_best_42) hS (fun H locs hP hS => ?_)
    refine lv_if_eq (tgt := 55) X.1.1 X.1.2.1 dX8_best_45 (by decide) (fun c_38 => ?_) (fun c_38 => ?_)
    · have h := o_pos c_38 h
      refine lv_iconst (v := 1) X.1.1 X.1.2.1 dX8_best_55 (by decide) ?_
      exact w_X8_best_56 N X hk28 x1 x3 x2 1 t_34 _ _ _ hP hS (lv_sub hl [0, 1, 3] rfl) h
    · have h := o_neg c_38 h
      refine lv_aload_n X.1.1 X.1.2.1 dX8_best_48 rfl (lv_at hl 0 rfl) ?_
      refine gt_X8_0 X hP (kyM (by decide)) wd_880 dX8_best_49 ?_
      refine lv_goto (tgt := 56) X.1.1 X.1.2.1 dX8_best_52 (by decide) ?_
      exact w_X8_best_56 N X hk28 x1 x3 x2 (t_34.1 9 0 0 0) t_34 _ _ _ hP hS (lv_sub hl [0, 1, 3] rfl) h
set_option maxRecDepth 100000 in
set_option maxHeartbeats 4000000 in
theorem w_X8_best_28 {l : Launch} {g : Ly} {p : Program} {e : Env} {s : State} {m : MethodId} {args : Array Value} {below : List Frame} {meth : Method} {c : Code} (N : Nat) (X : XC p m meth c cX8_best 9 s args (.code yX8_best cX8_best 9 (some .int)) RX8 (some .int) shR g) {r : Int32} {t' : Mm} (x1 : Int32) (x2 : Int32) (x3 : Int32) (t : Mm) (H : Heap) (locs : List Loc) (ls : Array Slot) (hP : XP shR g t H) (hS : va_S (XA shR g) s.heap H locs) (hl : lv_has ls 9 [(0, .ref (g.2.2 (9, 0, 0))), (1, .int x1), (2, .int x2), (3, .int x3)]) (h : f_X8_best_28 N x1 x2 x3 t = some (r, t')) : W p l e (rmv 6) s m args below meth c H locs 0 0 (MQ below (XQi shR g r t') args s 0 0 (XA shR g)) (F0 m 28 ls []) :=
  o_lp_ind (P := fun x : Int32 × Int32 × Int32 × Mm => ∀ (H : Heap) (locs : List Loc) (ls : Array Slot), XP shR g x.2.2.2 H → va_S (XA shR g) s.heap H locs → lv_has ls 9 [(0, .ref (g.2.2 (9, 0, 0))), (1, .int x.1), (2, .int x.2.1), (3, .int x.2.2.1)] → W p l e (rmv 6) s m args below meth c H locs 0 0 (MQ below (XQi shR g r t') args s 0 0 (XA shR g)) (F0 m 28 ls [])) (fun k hk x h H locs ls hP hS hl => wb_X8_best_28 N X hk x.1 x.2.1 x.2.2.1 x.2.2.2 H locs ls hP hS hl h) N (x1, x2, x3, t) h H locs ls hP hS hl
set_option maxRecDepth 100000 in
set_option maxHeartbeats 4000000 in
theorem c_X8_best (l : Launch) (g : Ly) (N : Nat) (hG : XG shR g) (a0 : Int32) (t : Mm) {r : Int32} {t' : Mm} (h : f_X8_best N a0 t = some (r, t')) : MI l yX8_best cX8_best 9 (some .int) 6 shR g [.ref (g.2.2 (9, 0, 0)), .int a0] t (XQi shR g r t') := by
  refine x_met hG (by decide +kernel) (Nat.le_of_ble_eq_true rfl) ?_
  intro p e s m below meth c ls X hP hl
  have hS : va_S (XA shR g) s.heap s.heap [] := va_S.rf
  have hl : lv_has ls 9 [(0, .ref (g.2.2 (9, 0, 0))), (1, .int a0)] := hl
  unfold f_X8_best at h
  generalize ([.ref (g.2.2 (9, 0, 0)), .int a0] : List Value).toArray = args at X ⊢
  refine lv_iload_n X.1.1 X.1.2.1 dX8_best_0 rfl (lv_at hl 1 rfl) ?_
  refine lv_i2l (v := (a0.toInt64)) X.1.1 X.1.2.1 dX8_best_1 rfl ?_
  refine lv_ldc2 (v := (-1)) X.1.1 X.1.2.1 X.1.2.2.2.1 (X.1.2.2.2.2 _ (List.mem_cons_of_mem _ wd_1175)) dX8_best_2 ?_
  refine lv_aload_n X.1.1 X.1.2.1 dX8_best_5 rfl (lv_at hl 0 rfl) ?_
  refine gt_X8_1 X hP (kyM (by decide)) wd_881 dX8_best_6 ?_
  refine lv_iconst (v := 1) X.1.1 X.1.2.1 dX8_best_9 (by decide) ?_
  refine lv_isub X.1.1 X.1.2.1 dX8_best_10 ?_
  refine lv_i2l (v := (((t.1 9 0 0 1) - 1).toInt64)) X.1.1 X.1.2.1 dX8_best_11 rfl ?_
  obtain ⟨⟨r_41, t_39⟩, hc_40, h⟩ := o_bd_inv h
  refine x_calli (x_runS (As := [.long (a0.toInt64), .long (-1), .long (((t.1 9 0 0 1) - 1).toInt64)]) (rest := []) X hP hS (c_X8_in l g X.2.2.2.2.1 (a0.toInt64) (-1) (((t.1 9 0 0 1) - 1).toInt64) t hc_40) ⟨wd_981, wd_979, wd_980, wd_62⟩ hd_X8_in ⟨by omega, by decide⟩ rfl hl.1 rfl (Nat.le_of_ble_eq_true rfl) dX8_best_12) hS (fun H locs hP hS => ?_)
  refine lv_if_ne (tgt := 20) X.1.1 X.1.2.1 dX8_best_15 (by decide) (fun c_43 => ?_) (fun c_43 => ?_)
  · have h := o_neg c_43 h
    refine lv_aload_n X.1.1 X.1.2.1 dX8_best_20 rfl (lv_at hl 0 rfl) ?_
    obtain ⟨t_44, hc_45, h⟩ := o_bd_inv h
    refine x_callv (x_runV (As := []) (rest := []) X hP hS (c_X8_layAsked l g N X.2.2.2.2.1 t_39 hc_45) ⟨wd_1179, wd_1176, wd_1178, wd_46, wd_62⟩ hd_X8_layAsked ⟨by omega, by decide⟩ (x_recv X hP (ci := 8) rfl (kyM (by decide)) rfl) rfl hl.1 rfl (Nat.le_of_ble_eq_true rfl) dX8_best_21) hS (fun H locs hP hS => ?_)
    refine lv_iconst (v := 1) X.1.1 X.1.2.1 dX8_best_24 (by decide) ?_
    refine lv_istore_n (lv' := [(2, .int 1), (0, .ref (g.2.2 (9, 0, 0))), (1, .int a0)]) X.1.1 X.1.2.1 dX8_best_25 rfl hl (by decide) rfl (fun ls hl => ?_)
    refine lv_iconst (v := 0) X.1.1 X.1.2.1 dX8_best_26 (by decide) ?_
    refine lv_istore_n (lv' := [(3, .int 0), (2, .int 1), (0, .ref (g.2.2 (9, 0, 0))), (1, .int a0)]) X.1.1 X.1.2.1 dX8_best_27 rfl hl (by decide) rfl (fun ls hl => ?_)
    exact w_X8_best_28 N X a0 1 0 t_44 _ _ _ hP hS (lv_sub hl [2, 3, 1, 0] rfl) h
  · have h := o_pos c_43 h
    refine lv_iconst (v := (-1)) X.1.1 X.1.2.1 dX8_best_18 (by decide) ?_
    obtain ⟨rfl, rfl⟩ := o_ret2 h
    exact x_iret X hP hS dX8_best_19
def f_X8_teaches_150 (N : Nat) (k21 : Int32 × Int32 × Int32 × Int32 × Mm → Option (Int32 × Mm)) (k33 : Int32 × Int32 × Int32 × Int32 × Int32 × Mm → Option (Int32 × Mm)) (x1 : Int32) (x2 : Int32) (x3 : Int32) (x4 : Int32) (x5 : Int32) (t : Mm) : Option (Int32 × Mm) := k33 (x1, x2, x3, x4, (x5 + 1), t)
def f_X8_teaches_149 (N : Nat) (k21 : Int32 × Int32 × Int32 × Int32 × Mm → Option (Int32 × Mm)) (k33 : Int32 × Int32 × Int32 × Int32 × Int32 × Mm → Option (Int32 × Mm)) (x1 : Int32) (x2 : Int32) (x4 : Int32) (x5 : Int32) (s0 : Int32) (t : Mm) : Option (Int32 × Mm) := f_X8_teaches_150 N k21 k33 x1 x2 s0 x4 x5 t
def f_X8_teaches_137 (N : Nat) (k21 : Int32 × Int32 × Int32 × Int32 × Mm → Option (Int32 × Mm)) (k33 : Int32 × Int32 × Int32 × Int32 × Int32 × Mm → Option (Int32 × Mm)) (x1 : Int32) (x3 : Int32) (x4 : Int32) (x5 : Int32) (x6 : Int32) (x7 : Int32) (s0 : Int32) (t : Mm) : Option (Int32 × Mm) := if x7 = 0 then (f_X8_teaches_149 N k21 k33 x1 s0 x4 x5 x3 t) else (f_X8_teaches_149 N k21 k33 x1 s0 x4 x5 x6 t)
def f_X8_teaches_118 (N : Nat) (k21 : Int32 × Int32 × Int32 × Int32 × Mm → Option (Int32 × Mm)) (k33 : Int32 × Int32 × Int32 × Int32 × Int32 × Mm → Option (Int32 × Mm)) (x1 : Int32) (x2 : Int32) (x3 : Int32) (x4 : Int32) (x5 : Int32) (x6 : Int32) (s0 : Int32) (t : Mm) : Option (Int32 × Mm) := if s0 = 0 then (f_X8_teaches_137 N k21 k33 x1 x3 x4 x5 x6 s0 x2 t) else (f_X8_teaches_137 N k21 k33 x1 x3 x4 x5 x6 s0 ((10 * x4) + x5) t)
def f_X8_teaches_113 (N : Nat) (k21 : Int32 × Int32 × Int32 × Int32 × Mm → Option (Int32 × Mm)) (k33 : Int32 × Int32 × Int32 × Int32 × Int32 × Mm → Option (Int32 × Mm)) (x1 : Int32) (x2 : Int32) (x3 : Int32) (x4 : Int32) (x5 : Int32) (x6 : Int32) (t : Mm) : Option (Int32 × Mm) := f_X8_teaches_118 N k21 k33 x1 x2 x3 x4 x5 x6 1 t
def b_X8_teaches_33 (N : Nat) (k21 : Int32 × Int32 × Int32 × Int32 × Mm → Option (Int32 × Mm)) (k33 : Int32 × Int32 × Int32 × Int32 × Int32 × Mm → Option (Int32 × Mm)) (x1 : Int32) (x2 : Int32) (x3 : Int32) (x4 : Int32) (x5 : Int32) (t : Mm) : Option (Int32 × Mm) := if 8 ≤ x5 then (k21 (x1, x2, x3, (x4 + 1), t)) else (if o_inb (19 + x4) 31 = true then (if (t.1 9 0 4 ((19 + x4).toNatClampNeg)) = 0 then (if o_inb (9 + x4) 31 = true then (o_bd (f_X8_has (t.1 9 0 4 ((9 + x4).toNatClampNeg)) x5 t) fun (r_9, t_7) => if r_9 = 0 then (o_bd (f_X8_aside N t_7) fun t_12 => if o_inb (9 + x4) 31 = true then (if o_inb (9 + x4) 31 = true then (o_nm (sI t_12 9 0 5 ((9 + x4).toNatClampNeg) ((t_12.1 9 0 5 ((9 + x4).toNatClampNeg)) ||| (1 <<< (x5 &&& 31)))) fun t_16 => o_bd (f_X8_lastHour N t_16) fun (r_20, t_18) => if x2 = (-4) then (f_X8_teaches_113 N k21 k33 x1 x2 x3 x4 x5 r_20 t_18) else (o_bd (f_X8_isSooner r_20 x3 t_18) fun (r_25, t_23) => if r_25 = 0 then (f_X8_teaches_118 N k21 k33 x1 x2 x3 x4 x5 r_20 0 t_23) else (f_X8_teaches_113 N k21 k33 x1 x2 x3 x4 x5 r_20 t_23))) else none) else none) else (f_X8_teaches_150 N k21 k33 x1 x2 x3 x4 x5 t_7)) else none) else (f_X8_teaches_150 N k21 k33 x1 x2 x3 x4 x5 t)) else none)
def f_X8_teaches_33 (N : Nat) (k21 : Int32 × Int32 × Int32 × Int32 × Mm → Option (Int32 × Mm)) (x1 : Int32) (x2 : Int32) (x3 : Int32) (x4 : Int32) (x5 : Int32) (t : Mm) : Option (Int32 × Mm) := o_lp (fun k x => b_X8_teaches_33 N k21 k x.1 x.2.1 x.2.2.1 x.2.2.2.1 x.2.2.2.2.1 x.2.2.2.2.2) N (x1, x2, x3, x4, x5, t)
def b_X8_teaches_21 (N : Nat) (k21 : Int32 × Int32 × Int32 × Int32 × Mm → Option (Int32 × Mm)) (x1 : Int32) (x2 : Int32) (x3 : Int32) (x4 : Int32) (t : Mm) : Option (Int32 × Mm) := if (t.1 9 0 0 1) ≤ x4 then (if x1 = 0 then (some (x2, t)) else (some (x3, t))) else (f_X8_teaches_33 N k21 x1 x2 x3 x4 0 t)
def f_X8_teaches_21 (N : Nat) (x1 : Int32) (x2 : Int32) (x3 : Int32) (x4 : Int32) (t : Mm) : Option (Int32 × Mm) := o_lp (fun k x => b_X8_teaches_21 N k x.1 x.2.1 x.2.2.1 x.2.2.2.1 x.2.2.2.2) N (x1, x2, x3, x4, t)
/-- FordQuestionsModel.teaches(I)I -/
def f_X8_teaches (N : Nat) (a0 : Int32) (t : Mm) : Option (Int32 × Mm) := o_bd (f_X8_in (a0.toInt64) 0 1 t) fun (r_32, t_30) => if r_32 = 0 then (some ((-1), t_30)) else (f_X8_teaches_21 N a0 (-4) (-4) 0 t_30)
theorem hd_X8_teaches : x_hd yX8_teaches 1 := by decide +kernel
set_option maxRecDepth 100000 in
set_option maxHeartbeats 4000000 in
theorem w_X8_teaches_150 {l : Launch} {g : Ly} {p : Program} {e : Env} {s : State} {m : MethodId} {args : Array Value} {below : List Frame} {meth : Method} {c : Code} (N : Nat) (X : XC p m meth c cX8_teaches 8 s args (.code yX8_teaches cX8_teaches 8 (some .int)) RX8 (some .int) shR g) {r : Int32} {t' : Mm} {k21 : Int32 × Int32 × Int32 × Int32 × Mm → Option (Int32 × Mm)} (hk21 : ∀ x : Int32 × Int32 × Int32 × Int32 × Mm, k21 x = some (r, t') → ∀ (H : Heap) (locs : List Loc) (ls : Array Slot), XP shR g x.2.2.2.2 H → va_S (XA shR g) s.heap H locs → lv_has ls 8 [(0, .ref (g.2.2 (9, 0, 0))), (1, .int x.1), (2, .int x.2.1), (3, .int x.2.2.1), (4, .int x.2.2.2.1)] → W p l e (rmv 6) s m args below meth c H locs 0 0 (MQ below (XQi shR g r t') args s 0 0 (XA shR g)) (F0 m 21 ls [])) {k33 : Int32 × Int32 × Int32 × Int32 × Int32 × Mm → Option (Int32 × Mm)} (hk33 : ∀ x : Int32 × Int32 × Int32 × Int32 × Int32 × Mm, k33 x = some (r, t') → ∀ (H : Heap) (locs : List Loc) (ls : Array Slot), XP shR g x.2.2.2.2.2 H → va_S (XA shR g) s.heap H locs → lv_has ls 8 [(0, .ref (g.2.2 (9, 0, 0))), (1, .int x.1), (2, .int x.2.1), (3, .int x.2.2.1), (4, .int x.2.2.2.1), (5, .int x.2.2.2.2.1)] → W p l e (rmv 6) s m args below meth c H locs 0 0 (MQ below (XQi shR g r t') args s 0 0 (XA shR g)) (F0 m 33 ls [])) (x1 : Int32) (x2 : Int32) (x3 : Int32) (x4 : Int32) (x5 : Int32) (t : Mm) (H : Heap) (locs : List Loc) (ls : Array Slot) (hP : XP shR g t H) (hS : va_S (XA shR g) s.heap H locs) (hl : lv_has ls 8 [(0, .ref (g.2.2 (9, 0, 0))), (1, .int x1), (2, .int x2), (3, .int x3), (4, .int x4), (5, .int x5)]) (h : f_X8_teaches_150 N k21 k33 x1 x2 x3 x4 x5 t = some (r, t')) : W p l e (rmv 6) s m args below meth c H locs 0 0 (MQ below (XQi shR g r t') args s 0 0 (XA shR g)) (F0 m 150 ls []) := by
  unfold f_X8_teaches_150 at h
  refine lv_iinc (v := (x5 + 1)) (lv' := [(5, .int (x5 + 1)), (0, .ref (g.2.2 (9, 0, 0))), (1, .int x1), (2, .int x2), (3, .int x3), (4, .int x4)]) X.1.1 X.1.2.1 dX8_teaches_150 hl (k := 5) rfl rfl (by decide) rfl (fun ls hl => ?_)
  refine lv_goto (tgt := 33) X.1.1 X.1.2.1 dX8_teaches_153 (by decide) ?_
  exact hk33 (x1, x2, x3, x4, (x5 + 1), t) h _ _ _ hP hS (lv_sub hl [1, 2, 3, 4, 5, 0] rfl)
set_option maxRecDepth 100000 in
set_option maxHeartbeats 4000000 in
theorem w_X8_teaches_149 {l : Launch} {g : Ly} {p : Program} {e : Env} {s : State} {m : MethodId} {args : Array Value} {below : List Frame} {meth : Method} {c : Code} (N : Nat) (X : XC p m meth c cX8_teaches 8 s args (.code yX8_teaches cX8_teaches 8 (some .int)) RX8 (some .int) shR g) {r : Int32} {t' : Mm} {k21 : Int32 × Int32 × Int32 × Int32 × Mm → Option (Int32 × Mm)} (hk21 : ∀ x : Int32 × Int32 × Int32 × Int32 × Mm, k21 x = some (r, t') → ∀ (H : Heap) (locs : List Loc) (ls : Array Slot), XP shR g x.2.2.2.2 H → va_S (XA shR g) s.heap H locs → lv_has ls 8 [(0, .ref (g.2.2 (9, 0, 0))), (1, .int x.1), (2, .int x.2.1), (3, .int x.2.2.1), (4, .int x.2.2.2.1)] → W p l e (rmv 6) s m args below meth c H locs 0 0 (MQ below (XQi shR g r t') args s 0 0 (XA shR g)) (F0 m 21 ls [])) {k33 : Int32 × Int32 × Int32 × Int32 × Int32 × Mm → Option (Int32 × Mm)} (hk33 : ∀ x : Int32 × Int32 × Int32 × Int32 × Int32 × Mm, k33 x = some (r, t') → ∀ (H : Heap) (locs : List Loc) (ls : Array Slot), XP shR g x.2.2.2.2.2 H → va_S (XA shR g) s.heap H locs → lv_has ls 8 [(0, .ref (g.2.2 (9, 0, 0))), (1, .int x.1), (2, .int x.2.1), (3, .int x.2.2.1), (4, .int x.2.2.2.1), (5, .int x.2.2.2.2.1)] → W p l e (rmv 6) s m args below meth c H locs 0 0 (MQ below (XQi shR g r t') args s 0 0 (XA shR g)) (F0 m 33 ls [])) (x1 : Int32) (x2 : Int32) (x4 : Int32) (x5 : Int32) (s0 : Int32) (t : Mm) (H : Heap) (locs : List Loc) (ls : Array Slot) (hP : XP shR g t H) (hS : va_S (XA shR g) s.heap H locs) (hl : lv_has ls 8 [(0, .ref (g.2.2 (9, 0, 0))), (1, .int x1), (2, .int x2), (4, .int x4), (5, .int x5)]) (h : f_X8_teaches_149 N k21 k33 x1 x2 x4 x5 s0 t = some (r, t')) : W p l e (rmv 6) s m args below meth c H locs 0 0 (MQ below (XQi shR g r t') args s 0 0 (XA shR g)) (F0 m 149 ls [.int s0]) := by
  unfold f_X8_teaches_149 at h
  refine lv_istore_n (lv' := [(3, .int s0), (0, .ref (g.2.2 (9, 0, 0))), (1, .int x1), (2, .int x2), (4, .int x4), (5, .int x5)]) X.1.1 X.1.2.1 dX8_teaches_149 rfl hl (by decide) rfl (fun ls hl => ?_)
  exact w_X8_teaches_150 N X hk21 hk33 x1 x2 s0 x4 x5 t _ _ _ hP hS (lv_sub hl [1, 2, 3, 0, 4, 5] rfl) h
set_option maxRecDepth 100000 in
set_option maxHeartbeats 4000000 in
theorem w_X8_teaches_137 {l : Launch} {g : Ly} {p : Program} {e : Env} {s : State} {m : MethodId} {args : Array Value} {below : List Frame} {meth : Method} {c : Code} (N : Nat) (X : XC p m meth c cX8_teaches 8 s args (.code yX8_teaches cX8_teaches 8 (some .int)) RX8 (some .int) shR g) {r : Int32} {t' : Mm} {k21 : Int32 × Int32 × Int32 × Int32 × Mm → Option (Int32 × Mm)} (hk21 : ∀ x : Int32 × Int32 × Int32 × Int32 × Mm, k21 x = some (r, t') → ∀ (H : Heap) (locs : List Loc) (ls : Array Slot), XP shR g x.2.2.2.2 H → va_S (XA shR g) s.heap H locs → lv_has ls 8 [(0, .ref (g.2.2 (9, 0, 0))), (1, .int x.1), (2, .int x.2.1), (3, .int x.2.2.1), (4, .int x.2.2.2.1)] → W p l e (rmv 6) s m args below meth c H locs 0 0 (MQ below (XQi shR g r t') args s 0 0 (XA shR g)) (F0 m 21 ls [])) {k33 : Int32 × Int32 × Int32 × Int32 × Int32 × Mm → Option (Int32 × Mm)} (hk33 : ∀ x : Int32 × Int32 × Int32 × Int32 × Int32 × Mm, k33 x = some (r, t') → ∀ (H : Heap) (locs : List Loc) (ls : Array Slot), XP shR g x.2.2.2.2.2 H → va_S (XA shR g) s.heap H locs → lv_has ls 8 [(0, .ref (g.2.2 (9, 0, 0))), (1, .int x.1), (2, .int x.2.1), (3, .int x.2.2.1), (4, .int x.2.2.2.1), (5, .int x.2.2.2.2.1)] → W p l e (rmv 6) s m args below meth c H locs 0 0 (MQ below (XQi shR g r t') args s 0 0 (XA shR g)) (F0 m 33 ls [])) (x1 : Int32) (x3 : Int32) (x4 : Int32) (x5 : Int32) (x6 : Int32) (x7 : Int32) (s0 : Int32) (t : Mm) (H : Heap) (locs : List Loc) (ls : Array Slot) (hP : XP shR g t H) (hS : va_S (XA shR g) s.heap H locs) (hl : lv_has ls 8 [(0, .ref (g.2.2 (9, 0, 0))), (1, .int x1), (3, .int x3), (4, .int x4), (5, .int x5), (6, .int x6), (7, .int x7)]) (h : f_X8_teaches_137 N k21 k33 x1 x3 x4 x5 x6 x7 s0 t = some (r, t')) : W p l e (rmv 6) s m args below meth c H locs 0 0 (MQ below (XQi shR g r t') args s 0 0 (XA shR g)) (F0 m 137 ls [.int s0]) := by
  unfold f_X8_teaches_137 at h
  refine lv_istore_n (lv' := [(2, .int s0), (0, .ref (g.2.2 (9, 0, 0))), (1, .int x1), (3, .int x3), (4, .int x4), (5, .int x5), (6, .int x6), (7, .int x7)]) X.1.1 X.1.2.1 dX8_teaches_137 rfl hl (by decide) rfl (fun ls hl => ?_)
  refine lv_iload X.1.1 X.1.2.1 dX8_teaches_138 (lv_at hl 7 rfl) ?_
  refine lv_if_eq (tgt := 148) X.1.1 X.1.2.1 dX8_teaches_140 (by decide) (fun c_1 => ?_) (fun c_1 => ?_)
  · have h := o_pos c_1 h
    refine lv_iload_n X.1.1 X.1.2.1 dX8_teaches_148 rfl (lv_at hl 3 rfl) ?_
    exact w_X8_teaches_149 N X hk21 hk33 x1 s0 x4 x5 x3 t _ _ _ hP hS (lv_sub hl [1, 2, 0, 4, 5] rfl) h
  · have h := o_neg c_1 h
    refine lv_iload X.1.1 X.1.2.1 dX8_teaches_143 (lv_at hl 6 rfl) ?_
    refine lv_goto (tgt := 149) X.1.1 X.1.2.1 dX8_teaches_145 (by decide) ?_
    exact w_X8_teaches_149 N X hk21 hk33 x1 s0 x4 x5 x6 t _ _ _ hP hS (lv_sub hl [1, 2, 0, 4, 5] rfl) h
set_option maxRecDepth 100000 in
set_option maxHeartbeats 4000000 in
theorem w_X8_teaches_118 {l : Launch} {g : Ly} {p : Program} {e : Env} {s : State} {m : MethodId} {args : Array Value} {below : List Frame} {meth : Method} {c : Code} (N : Nat) (X : XC p m meth c cX8_teaches 8 s args (.code yX8_teaches cX8_teaches 8 (some .int)) RX8 (some .int) shR g) {r : Int32} {t' : Mm} {k21 : Int32 × Int32 × Int32 × Int32 × Mm → Option (Int32 × Mm)} (hk21 : ∀ x : Int32 × Int32 × Int32 × Int32 × Mm, k21 x = some (r, t') → ∀ (H : Heap) (locs : List Loc) (ls : Array Slot), XP shR g x.2.2.2.2 H → va_S (XA shR g) s.heap H locs → lv_has ls 8 [(0, .ref (g.2.2 (9, 0, 0))), (1, .int x.1), (2, .int x.2.1), (3, .int x.2.2.1), (4, .int x.2.2.2.1)] → W p l e (rmv 6) s m args below meth c H locs 0 0 (MQ below (XQi shR g r t') args s 0 0 (XA shR g)) (F0 m 21 ls [])) {k33 : Int32 × Int32 × Int32 × Int32 × Int32 × Mm → Option (Int32 × Mm)} (hk33 : ∀ x : Int32 × Int32 × Int32 × Int32 × Int32 × Mm, k33 x = some (r, t') → ∀ (H : Heap) (locs : List Loc) (ls : Array Slot), XP shR g x.2.2.2.2.2 H → va_S (XA shR g) s.heap H locs → lv_has ls 8 [(0, .ref (g.2.2 (9, 0, 0))), (1, .int x.1), (2, .int x.2.1), (3, .int x.2.2.1), (4, .int x.2.2.2.1), (5, .int x.2.2.2.2.1)] → W p l e (rmv 6) s m args below meth c H locs 0 0 (MQ below (XQi shR g r t') args s 0 0 (XA shR g)) (F0 m 33 ls [])) (x1 : Int32) (x2 : Int32) (x3 : Int32) (x4 : Int32) (x5 : Int32) (x6 : Int32) (s0 : Int32) (t : Mm) (H : Heap) (locs : List Loc) (ls : Array Slot) (hP : XP shR g t H) (hS : va_S (XA shR g) s.heap H locs) (hl : lv_has ls 8 [(0, .ref (g.2.2 (9, 0, 0))), (1, .int x1), (2, .int x2), (3, .int x3), (4, .int x4), (5, .int x5), (6, .int x6)]) (h : f_X8_teaches_118 N k21 k33 x1 x2 x3 x4 x5 x6 s0 t = some (r, t')) : W p l e (rmv 6) s m args below meth c H locs 0 0 (MQ below (XQi shR g r t') args s 0 0 (XA shR g)) (F0 m 118 ls [.int s0]) := by
  unfold f_X8_teaches_118 at h
  refine lv_istore (lv' := [(7, .int s0), (0, .ref (g.2.2 (9, 0, 0))), (1, .int x1), (2, .int x2), (3, .int x3), (4, .int x4), (5, .int x5), (6, .int x6)]) X.1.1 X.1.2.1 dX8_teaches_118 hl (by decide) rfl (fun ls hl => ?_)
  refine lv_iload X.1.1 X.1.2.1 dX8_teaches_120 (lv_at hl 0 rfl) ?_
  refine lv_if_eq (tgt := 136) X.1.1 X.1.2.1 dX8_teaches_122 (by decide) (fun c_2 => ?_) (fun c_2 => ?_)
  · have h := o_pos c_2 h
    refine lv_iload_n X.1.1 X.1.2.1 dX8_teaches_136 rfl (lv_at hl 3 rfl) ?_
    exact w_X8_teaches_137 N X hk21 hk33 x1 x3 x4 x5 x6 s0 x2 t _ _ _ hP hS (lv_sub hl [1, 2, 4, 5, 6, 7, 0] rfl) h
  · have h := o_neg c_2 h
    refine lv_bipush (v := 10) X.1.1 X.1.2.1 dX8_teaches_125 (by decide) ?_
    refine lv_iload X.1.1 X.1.2.1 dX8_teaches_127 (lv_at hl 5 rfl) ?_
    refine lv_imul X.1.1 X.1.2.1 dX8_teaches_129 ?_
    refine lv_iload X.1.1 X.1.2.1 dX8_teaches_130 (lv_at hl 6 rfl) ?_
    refine lv_iadd X.1.1 X.1.2.1 dX8_teaches_132 ?_
    refine lv_goto (tgt := 137) X.1.1 X.1.2.1 dX8_teaches_133 (by decide) ?_
    exact w_X8_teaches_137 N X hk21 hk33 x1 x3 x4 x5 x6 s0 ((10 * x4) + x5) t _ _ _ hP hS (lv_sub hl [1, 2, 4, 5, 6, 7, 0] rfl) h
set_option maxRecDepth 100000 in
set_option maxHeartbeats 4000000 in
theorem w_X8_teaches_113 {l : Launch} {g : Ly} {p : Program} {e : Env} {s : State} {m : MethodId} {args : Array Value} {below : List Frame} {meth : Method} {c : Code} (N : Nat) (X : XC p m meth c cX8_teaches 8 s args (.code yX8_teaches cX8_teaches 8 (some .int)) RX8 (some .int) shR g) {r : Int32} {t' : Mm} {k21 : Int32 × Int32 × Int32 × Int32 × Mm → Option (Int32 × Mm)} (hk21 : ∀ x : Int32 × Int32 × Int32 × Int32 × Mm, k21 x = some (r, t') → ∀ (H : Heap) (locs : List Loc) (ls : Array Slot), XP shR g x.2.2.2.2 H → va_S (XA shR g) s.heap H locs → lv_has ls 8 [(0, .ref (g.2.2 (9, 0, 0))), (1, .int x.1), (2, .int x.2.1), (3, .int x.2.2.1), (4, .int x.2.2.2.1)] → W p l e (rmv 6) s m args below meth c H locs 0 0 (MQ below (XQi shR g r t') args s 0 0 (XA shR g)) (F0 m 21 ls [])) {k33 : Int32 × Int32 × Int32 × Int32 × Int32 × Mm → Option (Int32 × Mm)} (hk33 : ∀ x : Int32 × Int32 × Int32 × Int32 × Int32 × Mm, k33 x = some (r, t') → ∀ (H : Heap) (locs : List Loc) (ls : Array Slot), XP shR g x.2.2.2.2.2 H → va_S (XA shR g) s.heap H locs → lv_has ls 8 [(0, .ref (g.2.2 (9, 0, 0))), (1, .int x.1), (2, .int x.2.1), (3, .int x.2.2.1), (4, .int x.2.2.2.1), (5, .int x.2.2.2.2.1)] → W p l e (rmv 6) s m args below meth c H locs 0 0 (MQ below (XQi shR g r t') args s 0 0 (XA shR g)) (F0 m 33 ls [])) (x1 : Int32) (x2 : Int32) (x3 : Int32) (x4 : Int32) (x5 : Int32) (x6 : Int32) (t : Mm) (H : Heap) (locs : List Loc) (ls : Array Slot) (hP : XP shR g t H) (hS : va_S (XA shR g) s.heap H locs) (hl : lv_has ls 8 [(0, .ref (g.2.2 (9, 0, 0))), (1, .int x1), (2, .int x2), (3, .int x3), (4, .int x4), (5, .int x5), (6, .int x6)]) (h : f_X8_teaches_113 N k21 k33 x1 x2 x3 x4 x5 x6 t = some (r, t')) : W p l e (rmv 6) s m args below meth c H locs 0 0 (MQ below (XQi shR g r t') args s 0 0 (XA shR g)) (F0 m 113 ls []) := by
  unfold f_X8_teaches_113 at h
  refine lv_iconst (v := 1) X.1.1 X.1.2.1 dX8_teaches_113 (by decide) ?_
  refine lv_goto (tgt := 118) X.1.1 X.1.2.1 dX8_teaches_114 (by decide) ?_
  exact w_X8_teaches_118 N X hk21 hk33 x1 x2 x3 x4 x5 x6 1 t _ _ _ hP hS (lv_sub hl [0, 1, 2, 3, 4, 5, 6] rfl) h
set_option maxRecDepth 100000 in
set_option maxHeartbeats 4000000 in
theorem wb_X8_teaches_33 {l : Launch} {g : Ly} {p : Program} {e : Env} {s : State} {m : MethodId} {args : Array Value} {below : List Frame} {meth : Method} {c : Code} (N : Nat) (X : XC p m meth c cX8_teaches 8 s args (.code yX8_teaches cX8_teaches 8 (some .int)) RX8 (some .int) shR g) {r : Int32} {t' : Mm} {k21 : Int32 × Int32 × Int32 × Int32 × Mm → Option (Int32 × Mm)} (hk21 : ∀ x : Int32 × Int32 × Int32 × Int32 × Mm, k21 x = some (r, t') → ∀ (H : Heap) (locs : List Loc) (ls : Array Slot), XP shR g x.2.2.2.2 H → va_S (XA shR g) s.heap H locs → lv_has ls 8 [(0, .ref (g.2.2 (9, 0, 0))), (1, .int x.1), (2, .int x.2.1), (3, .int x.2.2.1), (4, .int x.2.2.2.1)] → W p l e (rmv 6) s m args below meth c H locs 0 0 (MQ below (XQi shR g r t') args s 0 0 (XA shR g)) (F0 m 21 ls [])) {k33 : Int32 × Int32 × Int32 × Int32 × Int32 × Mm → Option (Int32 × Mm)} (hk33 : ∀ x : Int32 × Int32 × Int32 × Int32 × Int32 × Mm, k33 x = some (r, t') → ∀ (H : Heap) (locs : List Loc) (ls : Array Slot), XP shR g x.2.2.2.2.2 H → va_S (XA shR g) s.heap H locs → lv_has ls 8 [(0, .ref (g.2.2 (9, 0, 0))), (1, .int x.1), (2, .int x.2.1), (3, .int x.2.2.1), (4, .int x.2.2.2.1), (5, .int x.2.2.2.2.1)] → W p l e (rmv 6) s m args below meth c H locs 0 0 (MQ below (XQi shR g r t') args s 0 0 (XA shR g)) (F0 m 33 ls [])) (x1 : Int32) (x2 : Int32) (x3 : Int32) (x4 : Int32) (x5 : Int32) (t : Mm) (H : Heap) (locs : List Loc) (ls : Array Slot) (hP : XP shR g t H) (hS : va_S (XA shR g) s.heap H locs) (hl : lv_has ls 8 [(0, .ref (g.2.2 (9, 0, 0))), (1, .int x1), (2, .int x2), (3, .int x3), (4, .int x4), (5, .int x5)]) (h : b_X8_teaches_33 N k21 k33 x1 x2 x3 x4 x5 t = some (r, t')) : W p l e (rmv 6) s m args below meth c H locs 0 0 (MQ below (XQi shR g r t') args s 0 0 (XA shR g)) (F0 m 33 ls []) := by
  unfold b_X8_teaches_33 at h
  refine lv_iload X.1.1 X.1.2.1 dX8_teaches_33 (lv_at hl 5 rfl) ?_
  refine lv_bipush (v := 8) X.1.1 X.1.2.1 dX8_teaches_35 (by decide) ?_
  refine lv_icmp_ge (tgt := 156) X.1.1 X.1.2.1 dX8_teaches_37 (by decide) (fun c_3 => ?_) (fun c_3 => ?_)
  · have h := o_pos c_3 h
    refine lv_iinc (v := (x4 + 1)) (lv' := [(4, .int (x4 + 1)), (0, .ref (g.2.2 (9, 0, 0))), (1, .int x1), (2, .int x2), (3, .int x3), (5, .int x5)]) X.1.1 X.1.2.1 dX8_teaches_156 hl (k := 4) rfl rfl (by decide) rfl (fun ls hl => ?_)
    refine lv_goto (tgt := 21) X.1.1 X.1.2.1 dX8_teaches_159 (by decide) ?_
    exact hk21 (x1, x2, x3, (x4 + 1), t) h _ _ _ hP hS (lv_sub hl [1, 2, 3, 4, 0] rfl)
  · have h := o_neg c_3 h
    refine lv_aload_n X.1.1 X.1.2.1 dX8_teaches_40 rfl (lv_at hl 0 rfl) ?_
    refine gt_X8_4 X hP (kyM (by decide)) wd_884 dX8_teaches_41 ?_
    refine lv_bipush (v := 19) X.1.1 X.1.2.1 dX8_teaches_44 (by decide) ?_
    refine lv_iload X.1.1 X.1.2.1 dX8_teaches_46 (lv_at hl 4 rfl) ?_
    refine lv_iadd X.1.1 X.1.2.1 dX8_teaches_48 ?_
    obtain ⟨g_4, h⟩ := o_gd_inv h
    refine x_iald X hP (kyM (by decide)) (fun _ _ => rfl) g_4 dX8_teaches_49 ?_
    refine lv_if_ne (tgt := 150) X.1.1 X.1.2.1 dX8_teaches_50 (by decide) (fun c_5 => ?_) (fun c_5 => ?_)
    · have h := o_neg c_5 h
      exact w_X8_teaches_150 N X hk21 hk33 x1 x2 x3 x4 x5 t _ _ _ hP hS (lv_sub hl [0, 1, 2, 3, 4, 5] rfl) h
    · have h := o_pos c_5 h
      refine lv_aload_n X.1.1 X.1.2.1 dX8_teaches_53 rfl (lv_at hl 0 rfl) ?_
      refine gt_X8_4 X hP (kyM (by decide)) wd_884 dX8_teaches_54 ?_
      refine lv_bipush (v := 9) X.1.1 X.1.2.1 dX8_teaches_57 (by decide) ?_
      refine lv_iload X.1.1 X.1.2.1 dX8_teaches_59 (lv_at hl 4 rfl) ?_
      refine lv_iadd X.1.1 X.1.2.1 dX8_teaches_61 ?_
      obtain ⟨g_6, h⟩ := o_gd_inv h
      refine x_iald X hP (kyM (by decide)) (fun _ _ => rfl) g_6 dX8_teaches_62 ?_
      refine lv_iload X.1.1 X.1.2.1 dX8_teaches_63 (lv_at hl 5 rfl) ?_
      obtain ⟨⟨r_9, t_7⟩, hc_8, h⟩ := o_bd_inv h
      refine x_calli (x_runS (As := [.int (t.1 9 0 4 ((9 + x4).toNatClampNeg)), .int x5]) (rest := []) X hP hS (c_X8_has l g X.2.2.2.2.1 (t.1 9 0 4 ((9 + x4).toNatClampNeg)) x5 t hc_8) ⟨wd_1021, wd_1019, wd_1020, wd_62⟩ hd_X8_has ⟨by omega, by decide⟩ rfl hl.1 rfl (Nat.le_of_ble_eq_true rfl) dX8_teaches_65) hS (fun H locs hP hS => ?_)
      refine lv_if_ne (tgt := 150) X.1.1 X.1.2.1 dX8_teaches_68 (by decide) (fun c_11 => ?_) (fun c_11 => ?_)
      · have h := o_neg c_11 h
        exact w_X8_teaches_150 N X hk21 hk33 x1 x2 x3 x4 x5 t_7 _ _ _ hP hS (lv_sub hl [0, 1, 2, 3, 4, 5] rfl) h
      · have h := o_pos c_11 h
        refine lv_aload_n X.1.1 X.1.2.1 dX8_teaches_71 rfl (lv_at hl 0 rfl) ?_
        obtain ⟨t_12, hc_13, h⟩ := o_bd_inv h
        refine x_callv (x_runV (As := []) (rest := []) X hP hS (c_X8_aside l g N X.2.2.2.2.1 t_7 hc_13) ⟨wd_1014, wd_1011, wd_1013, wd_27, wd_62⟩ hd_X8_aside ⟨by omega, by decide⟩ (x_recv X hP (ci := 8) rfl (kyM (by decide)) rfl) rfl hl.1 rfl (Nat.le_of_ble_eq_true rfl) dX8_teaches_72) hS (fun H locs hP hS => ?_)
        refine lv_aload_n X.1.1 X.1.2.1 dX8_teaches_75 rfl (lv_at hl 0 rfl) ?_
        refine gt_X8_5 X hP (kyM (by decide)) wd_885 dX8_teaches_76 ?_
        refine lv_bipush (v := 9) X.1.1 X.1.2.1 dX8_teaches_79 (by decide) ?_
        refine lv_iload X.1.1 X.1.2.1 dX8_teaches_81 (lv_at hl 4 rfl) ?_
        refine lv_iadd X.1.1 X.1.2.1 dX8_teaches_83 ?_
        refine lv_dup2_11 X.1.1 X.1.2.1 dX8_teaches_84 rfl rfl ?_
        obtain ⟨g_14, h⟩ := o_gd_inv h
        refine x_iald X hP (kyM (by decide)) (fun _ _ => rfl) g_14 dX8_teaches_85 ?_
        refine lv_iconst (v := 1) X.1.1 X.1.2.1 dX8_teaches_86 (by decide) ?_
        refine lv_iload X.1.1 X.1.2.1 dX8_teaches_87 (lv_at hl 5 rfl) ?_
        refine lv_ishl X.1.1 X.1.2.1 dX8_teaches_89 ?_
        refine lv_ior X.1.1 X.1.2.1 dX8_teaches_90 ?_
        obtain ⟨g_15, h⟩ := o_gd_inv h
        obtain ⟨t_16, e_17, h⟩ := o_nm_inv h
        refine x_iast X hP hS (kyM (by decide)) (fun _ _ => rfl) g_15 dX8_teaches_91 (fun H locs hP hS => ?_)
        have hP : XP shR g t_16 H := by rw [e_17]; exact hP
        refine lv_aload_n X.1.1 X.1.2.1 dX8_teaches_92 rfl (lv_at hl 0 rfl) ?_
        obtain ⟨⟨r_20, t_18⟩, hc_19, h⟩ := o_bd_inv h
        refine x_calli (x_runV (As := []) (rest := []) X hP hS (c_X8_lastHour l g N X.2.2.2.2.1 t_16 hc_19) ⟨wd_1162, wd_1159, wd_1161, wd_44, wd_62⟩ hd_X8_lastHour ⟨by omega, by decide⟩ (x_recv X hP (ci := 8) rfl (kyM (by decide)) rfl) rfl hl.1 rfl (Nat.le_of_ble_eq_true rfl) dX8_teaches_93) hS (fun H locs hP hS => ?_)
        refine lv_istore (lv' := [(6, .int r_20), (0, .ref (g.2.2 (9, 0, 0))), (1, .int x1), (2, .int x2), (3, .int x3), (4, .int x4), (5, .int x5)]) X.1.1 X.1.2.1 dX8_teaches_96 hl (by decide) rfl (fun ls hl => ?_)
        refine lv_iload_n X.1.1 X.1.2.1 dX8_teaches_98 rfl (lv_at hl 3 rfl) ?_
        refine lv_bipush (v := (-4)) X.1.1 X.1.2.1 dX8_teaches_99 (by decide) ?_
        refine lv_icmp_eq (tgt := 113) X.1.1 X.1.2.1 dX8_teaches_101 (by decide) (fun c_22 => ?_) (fun c_22 => ?_)
        · have h := o_pos c_22 h
          exact w_X8_teaches_113 N X hk21 hk33 x1 x2 x3 x4 x5 r_20 t_18 _ _ _ hP hS (lv_sub hl [1, 2, 3, 4, 5, 6, 0] rfl) h
        · have h := o_neg c_22 h
          refine lv_iload X.1.1 X.1.2.1 dX8_teaches_104 (lv_at hl 0 rfl) ?_
          refine lv_iload_n X.1.1 X.1.2.1 dX8_teaches_106 rfl (lv_at hl 4 rfl) ?_
          obtain ⟨⟨r_25, t_23⟩, hc_24, h⟩ := o_bd_inv h
          refine x_calli (x_runS (As := [.int r_20, .int x3]) (rest := []) X hP hS (c_X8_isSooner l g X.2.2.2.2.1 r_20 x3 t_18 hc_24) ⟨wd_1190, wd_1188, wd_1189, wd_62⟩ hd_X8_isSooner ⟨by omega, by decide⟩ rfl hl.1 rfl (Nat.le_of_ble_eq_true rfl) dX8_teaches_107) hS (fun H locs hP hS => ?_)
          refine lv_if_eq (tgt := 117) X.1.1 X.1.2.1 dX8_teaches_110 (by decide) (fun c_27 => ?_) (fun c_27 => ?_)
          · have h := o_pos c_27 h
            refine lv_iconst (v := 0) X.1.1 X.1.2.1 dX8_teaches_117 (by decide) ?_
            exact w_X8_teaches_118 N X hk21 hk33 x1 x2 x3 x4 x5 r_20 0 t_23 _ _ _ hP hS (lv_sub hl [1, 2, 3, 4, 5, 6, 0] rfl) h
          · have h := o_neg c_27 h
            exact w_X8_teaches_113 N X hk21 hk33 x1 x2 x3 x4 x5 r_20 t_23 _ _ _ hP hS (lv_sub hl [1, 2, 3, 4, 5, 6, 0] rfl) h
set_option maxRecDepth 100000 in
set_option maxHeartbeats 4000000 in
theorem w_X8_teaches_33 {l : Launch} {g : Ly} {p : Program} {e : Env} {s : State} {m : MethodId} {args : Array Value} {below : List Frame} {meth : Method} {c : Code} (N : Nat) (X : XC p m meth c cX8_teaches 8 s args (.code yX8_teaches cX8_teaches 8 (some .int)) RX8 (some .int) shR g) {r : Int32} {t' : Mm} {k21 : Int32 × Int32 × Int32 × Int32 × Mm → Option (Int32 × Mm)} (hk21 : ∀ x : Int32 × Int32 × Int32 × Int32 × Mm, k21 x = some (r, t') → ∀ (H : Heap) (locs : List Loc) (ls : Array Slot), XP shR g x.2.2.2.2 H → va_S (XA shR g) s.heap H locs → lv_has ls 8 [(0, .ref (g.2.2 (9, 0, 0))), (1, .int x.1), (2, .int x.2.1), (3, .int x.2.2.1), (4, .int x.2.2.2.1)] → W p l e (rmv 6) s m args below meth c H locs 0 0 (MQ below (XQi shR g r t') args s 0 0 (XA shR g)) (F0 m 21 ls [])) (x1 : Int32) (x2 : Int32) (x3 : Int32) (x4 : Int32) (x5 : Int32) (t : Mm) (H : Heap) (locs : List Loc) (ls : Array Slot) (hP : XP shR g t H) (hS : va_S (XA shR g) s.heap H locs) (hl : lv_has ls 8 [(0, .ref (g.2.2 (9, 0, 0))), (1, .int x1), (2, .int x2), (3, .int x3), (4, .int x4), (5, .int x5)]) (h : f_X8_teaches_33 N k21 x1 x2 x3 x4 x5 t = some (r, t')) : W p l e (rmv 6) s m args below meth c H locs 0 0 (MQ below (XQi shR g r t') args s 0 0 (XA shR g)) (F0 m 33 ls []) :=
  o_lp_ind (P := fun x : Int32 × Int32 × Int32 × Int32 × Int32 × Mm => ∀ (H : Heap) (locs : List Loc) (ls : Array Slot), XP shR g x.2.2.2.2.2 H → va_S (XA shR g) s.heap H locs → lv_has ls 8 [(0, .ref (g.2.2 (9, 0, 0))), (1, .int x.1), (2, .int x.2.1), (3, .int x.2.2.1), (4, .int x.2.2.2.1), (5, .int x.2.2.2.2.1)] → W p l e (rmv 6) s m args below meth c H locs 0 0 (MQ below (XQi shR g r t') args s 0 0 (XA shR g)) (F0 m 33 ls [])) (fun k hk x h H locs ls hP hS hl => wb_X8_teaches_33 N X hk21 hk x.1 x.2.1 x.2.2.1 x.2.2.2.1 x.2.2.2.2.1 x.2.2.2.2.2 H locs ls hP hS hl h) N (x1, x2, x3, x4, x5, t) h H locs ls hP hS hl
set_option maxRecDepth 100000 in
set_option maxHeartbeats 4000000 in
theorem wb_X8_teaches_21 {l : Launch} {g : Ly} {p : Program} {e : Env} {s : State} {m : MethodId} {args : Array Value} {below : List Frame} {meth : Method} {c : Code} (N : Nat) (X : XC p m meth c cX8_teaches 8 s args (.code yX8_teaches cX8_teaches 8 (some .int)) RX8 (some .int) shR g) {r : Int32} {t' : Mm} {k21 : Int32 × Int32 × Int32 × Int32 × Mm → Option (Int32 × Mm)} (hk21 : ∀ x : Int32 × Int32 × Int32 × Int32 × Mm, k21 x = some (r, t') → ∀ (H : Heap) (locs : List Loc) (ls : Array Slot), XP shR g x.2.2.2.2 H → va_S (XA shR g) s.heap H locs → lv_has ls 8 [(0, .ref (g.2.2 (9, 0, 0))), (1, .int x.1), (2, .int x.2.1), (3, .int x.2.2.1), (4, .int x.2.2.2.1)] → W p l e (rmv 6) s m args below meth c H locs 0 0 (MQ below (XQi shR g r t') args s 0 0 (XA shR g)) (F0 m 21 ls [])) (x1 : Int32) (x2 : Int32) (x3 : Int32) (x4 : Int32) (t : Mm) (H : Heap) (locs : List Loc) (ls : Array Slot) (hP : XP shR g t H) (hS : va_S (XA shR g) s.heap H locs) (hl : lv_has ls 8 [(0, .ref (g.2.2 (9, 0, 0))), (1, .int x1), (2, .int x2), (3, .int x3), (4, .int x4)]) (h : b_X8_teaches_21 N k21 x1 x2 x3 x4 t = some (r, t')) : W p l e (rmv 6) s m args below meth c H locs 0 0 (MQ below (XQi shR g r t') args s 0 0 (XA shR g)) (F0 m 21 ls []) := by
  unfold b_X8_teaches_21 at h
  refine lv_iload X.1.1 X.1.2.1 dX8_teaches_21 (lv_at hl 4 rfl) ?_
  refine lv_aload_n X.1.1 X.1.2.1 dX8_teaches_23 rfl (lv_at hl 0 rfl) ?_
  refine gt_X8_1 X hP (kyM (by decide)) wd_881 dX8_teaches_24 ?_
  refine lv_icmp_ge (tgt := 162) X.1.1 X.1.2.1 dX8_teaches_27 (by decide) (fun c_28 => ?_) (fun c_28 => ?_)
  · have h := o_pos c_28 h
    refine lv_iload_n X.1.1 X.1.2.1 dX8_teaches_162 rfl (lv_at hl 1 rfl) ?_
    refine lv_if_ne (tgt := 170) X.1.1 X.1.2.1 dX8_teaches_163 (by decide) (fun c_29 => ?_) (fun c_29 => ?_)
    · have h := o_neg c_29 h
      refine lv_iload_n X.1.1 X.1.2.1 dX8_teaches_170 rfl (lv_at hl 3 rfl) ?_
      obtain ⟨rfl, rfl⟩ := o_ret2 h
      exact x_iret X hP hS dX8_teaches_171
    · have h := o_pos c_29 h
      refine lv_iload_n X.1.1 X.1.2.1 dX8_teaches_166 rfl (lv_at hl 2 rfl) ?_
      refine lv_goto (tgt := 171) X.1.1 X.1.2.1 dX8_teaches_167 (by decide) ?_
      obtain ⟨rfl, rfl⟩ := o_ret2 h
      exact x_iret X hP hS dX8_teaches_171
  · have h := o_neg c_28 h
    refine lv_iconst (v := 0) X.1.1 X.1.2.1 dX8_teaches_30 (by decide) ?_
    refine lv_istore (lv' := [(5, .int 0), (0, .ref (g.2.2 (9, 0, 0))), (1, .int x1), (2, .int x2), (3, .int x3), (4, .int x4)]) X.1.1 X.1.2.1 dX8_teaches_31 hl (by decide) rfl (fun ls hl => ?_)
    exact w_X8_teaches_33 N X hk21 x1 x2 x3 x4 0 t _ _ _ hP hS (lv_sub hl [1, 2, 3, 4, 5, 0] rfl) h
set_option maxRecDepth 100000 in
set_option maxHeartbeats 4000000 in
theorem w_X8_teaches_21 {l : Launch} {g : Ly} {p : Program} {e : Env} {s : State} {m : MethodId} {args : Array Value} {below : List Frame} {meth : Method} {c : Code} (N : Nat) (X : XC p m meth c cX8_teaches 8 s args (.code yX8_teaches cX8_teaches 8 (some .int)) RX8 (some .int) shR g) {r : Int32} {t' : Mm} (x1 : Int32) (x2 : Int32) (x3 : Int32) (x4 : Int32) (t : Mm) (H : Heap) (locs : List Loc) (ls : Array Slot) (hP : XP shR g t H) (hS : va_S (XA shR g) s.heap H locs) (hl : lv_has ls 8 [(0, .ref (g.2.2 (9, 0, 0))), (1, .int x1), (2, .int x2), (3, .int x3), (4, .int x4)]) (h : f_X8_teaches_21 N x1 x2 x3 x4 t = some (r, t')) : W p l e (rmv 6) s m args below meth c H locs 0 0 (MQ below (XQi shR g r t') args s 0 0 (XA shR g)) (F0 m 21 ls []) :=
  o_lp_ind (P := fun x : Int32 × Int32 × Int32 × Int32 × Mm => ∀ (H : Heap) (locs : List Loc) (ls : Array Slot), XP shR g x.2.2.2.2 H → va_S (XA shR g) s.heap H locs → lv_has ls 8 [(0, .ref (g.2.2 (9, 0, 0))), (1, .int x.1), (2, .int x.2.1), (3, .int x.2.2.1), (4, .int x.2.2.2.1)] → W p l e (rmv 6) s m args below meth c H locs 0 0 (MQ below (XQi shR g r t') args s 0 0 (XA shR g)) (F0 m 21 ls [])) (fun k hk x h H locs ls hP hS hl => wb_X8_teaches_21 N X hk x.1 x.2.1 x.2.2.1 x.2.2.2.1 x.2.2.2.2 H locs ls hP hS hl h) N (x1, x2, x3, x4, t) h H locs ls hP hS hl
set_option maxRecDepth 100000 in
set_option maxHeartbeats 4000000 in
theorem c_X8_teaches (l : Launch) (g : Ly) (N : Nat) (hG : XG shR g) (a0 : Int32) (t : Mm) {r : Int32} {t' : Mm} (h : f_X8_teaches N a0 t = some (r, t')) : MI l yX8_teaches cX8_teaches 8 (some .int) 6 shR g [.ref (g.2.2 (9, 0, 0)), .int a0] t (XQi shR g r t') := by
  refine x_met hG (by decide +kernel) (Nat.le_of_ble_eq_true rfl) ?_
  intro p e s m below meth c ls X hP hl
  have hS : va_S (XA shR g) s.heap s.heap [] := va_S.rf
  have hl : lv_has ls 8 [(0, .ref (g.2.2 (9, 0, 0))), (1, .int a0)] := hl
  unfold f_X8_teaches at h
  generalize ([.ref (g.2.2 (9, 0, 0)), .int a0] : List Value).toArray = args at X ⊢
  refine lv_iload_n X.1.1 X.1.2.1 dX8_teaches_0 rfl (lv_at hl 1 rfl) ?_
  refine lv_i2l (v := (a0.toInt64)) X.1.1 X.1.2.1 dX8_teaches_1 rfl ?_
  refine lv_lconst (v := 0) X.1.1 X.1.2.1 dX8_teaches_2 (by decide) ?_
  refine lv_lconst (v := 1) X.1.1 X.1.2.1 dX8_teaches_3 (by decide) ?_
  obtain ⟨⟨r_32, t_30⟩, hc_31, h⟩ := o_bd_inv h
  refine x_calli (x_runS (As := [.long (a0.toInt64), .long 0, .long 1]) (rest := []) X hP hS (c_X8_in l g X.2.2.2.2.1 (a0.toInt64) 0 1 t hc_31) ⟨wd_981, wd_979, wd_980, wd_62⟩ hd_X8_in ⟨by omega, by decide⟩ rfl hl.1 rfl (Nat.le_of_ble_eq_true rfl) dX8_teaches_4) hS (fun H locs hP hS => ?_)
  refine lv_if_ne (tgt := 12) X.1.1 X.1.2.1 dX8_teaches_7 (by decide) (fun c_34 => ?_) (fun c_34 => ?_)
  · have h := o_neg c_34 h
    refine lv_bipush (v := (-4)) X.1.1 X.1.2.1 dX8_teaches_12 (by decide) ?_
    refine lv_istore_n (lv' := [(2, .int (-4)), (0, .ref (g.2.2 (9, 0, 0))), (1, .int a0)]) X.1.1 X.1.2.1 dX8_teaches_14 rfl hl (by decide) rfl (fun ls hl => ?_)
    refine lv_bipush (v := (-4)) X.1.1 X.1.2.1 dX8_teaches_15 (by decide) ?_
    refine lv_istore_n (lv' := [(3, .int (-4)), (2, .int (-4)), (0, .ref (g.2.2 (9, 0, 0))), (1, .int a0)]) X.1.1 X.1.2.1 dX8_teaches_17 rfl hl (by decide) rfl (fun ls hl => ?_)
    refine lv_iconst (v := 0) X.1.1 X.1.2.1 dX8_teaches_18 (by decide) ?_
    refine lv_istore (lv' := [(4, .int 0), (3, .int (-4)), (2, .int (-4)), (0, .ref (g.2.2 (9, 0, 0))), (1, .int a0)]) X.1.1 X.1.2.1 dX8_teaches_19 hl (by decide) rfl (fun ls hl => ?_)
    exact w_X8_teaches_21 N X a0 (-4) (-4) 0 t_30 _ _ _ hP hS (lv_sub hl [3, 4, 2, 1, 0] rfl) h
  · have h := o_pos c_34 h
    refine lv_iconst (v := (-1)) X.1.1 X.1.2.1 dX8_teaches_10 (by decide) ?_
    obtain ⟨rfl, rfl⟩ := o_ret2 h
    exact x_iret X hP hS dX8_teaches_11
def f_X8_spare_113 (N : Nat) (k21 : Int32 × Int32 × Int32 × Int32 × Mm → Option (Int32 × Mm)) (x1 : Int32) (x2 : Int32) (x3 : Int32) (x4 : Int32) (t : Mm) : Option (Int32 × Mm) := k21 (x1, x2, x3, (x4 + 1), t)
def f_X8_spare_112 (N : Nat) (k21 : Int32 × Int32 × Int32 × Int32 × Mm → Option (Int32 × Mm)) (x1 : Int32) (x2 : Int32) (x4 : Int32) (s0 : Int32) (t : Mm) : Option (Int32 × Mm) := f_X8_spare_113 N k21 x1 x2 s0 x4 t
def f_X8_spare_100 (N : Nat) (k21 : Int32 × Int32 × Int32 × Int32 × Mm → Option (Int32 × Mm)) (x1 : Int32) (x3 : Int32) (x4 : Int32) (x5 : Int32) (x6 : Int32) (s0 : Int32) (t : Mm) : Option (Int32 × Mm) := if x6 = 0 then (f_X8_spare_112 N k21 x1 s0 x4 x3 t) else (f_X8_spare_112 N k21 x1 s0 x4 x5 t)
def f_X8_spare_87 (N : Nat) (k21 : Int32 × Int32 × Int32 × Int32 × Mm → Option (Int32 × Mm)) (x1 : Int32) (x2 : Int32) (x3 : Int32) (x4 : Int32) (x5 : Int32) (s0 : Int32) (t : Mm) : Option (Int32 × Mm) := if s0 = 0 then (f_X8_spare_100 N k21 x1 x3 x4 x5 s0 x2 t) else (f_X8_spare_100 N k21 x1 x3 x4 x5 s0 x4 t)
def f_X8_spare_82 (N : Nat) (k21 : Int32 × Int32 × Int32 × Int32 × Mm → Option (Int32 × Mm)) (x1 : Int32) (x2 : Int32) (x3 : Int32) (x4 : Int32) (x5 : Int32) (t : Mm) : Option (Int32 × Mm) := f_X8_spare_87 N k21 x1 x2 x3 x4 x5 1 t
def b_X8_spare_21 (N : Nat) (k21 : Int32 × Int32 × Int32 × Int32 × Mm → Option (Int32 × Mm)) (x1 : Int32) (x2 : Int32) (x3 : Int32) (x4 : Int32) (t : Mm) : Option (Int32 × Mm) := if (t.1 9 0 0 0) ≤ x4 then (if x1 = 0 then (some (x2, t)) else (some (x3, t))) else (if o_inb 0 31 = true then (o_bd (f_X8_has (t.1 9 0 4 (Int32.toNatClampNeg 0)) x4 t) fun (r_8, t_6) => if r_8 = 0 then (o_bd (f_X8_aside N t_6) fun t_11 => if o_inb 0 31 = true then (if o_inb 0 31 = true then (o_nm (sI t_11 9 0 5 (Int32.toNatClampNeg 0) ((t_11.1 9 0 5 (Int32.toNatClampNeg 0)) ||| (1 <<< (x4 &&& 31)))) fun t_15 => o_bd (f_X8_lastHour N t_15) fun (r_19, t_17) => if x2 = (-4) then (f_X8_spare_82 N k21 x1 x2 x3 x4 r_19 t_17) else (o_bd (f_X8_isSooner r_19 x3 t_17) fun (r_24, t_22) => if r_24 = 0 then (f_X8_spare_87 N k21 x1 x2 x3 x4 r_19 0 t_22) else (f_X8_spare_82 N k21 x1 x2 x3 x4 r_19 t_22))) else none) else none) else (f_X8_spare_113 N k21 x1 x2 x3 x4 t_6)) else none)
def f_X8_spare_21 (N : Nat) (x1 : Int32) (x2 : Int32) (x3 : Int32) (x4 : Int32) (t : Mm) : Option (Int32 × Mm) := o_lp (fun k x => b_X8_spare_21 N k x.1 x.2.1 x.2.2.1 x.2.2.2.1 x.2.2.2.2) N (x1, x2, x3, x4, t)
/-- FordQuestionsModel.spare(I)I -/
def f_X8_spare (N : Nat) (a0 : Int32) (t : Mm) : Option (Int32 × Mm) := o_bd (f_X8_in (a0.toInt64) 0 1 t) fun (r_29, t_27) => if r_29 = 0 then (some ((-1), t_27)) else (f_X8_spare_21 N a0 (-4) (-4) 0 t_27)
theorem hd_X8_spare : x_hd yX8_spare 1 := by decide +kernel
set_option maxRecDepth 100000 in
set_option maxHeartbeats 4000000 in
theorem w_X8_spare_113 {l : Launch} {g : Ly} {p : Program} {e : Env} {s : State} {m : MethodId} {args : Array Value} {below : List Frame} {meth : Method} {c : Code} (N : Nat) (X : XC p m meth c cX8_spare 7 s args (.code yX8_spare cX8_spare 7 (some .int)) RX8 (some .int) shR g) {r : Int32} {t' : Mm} {k21 : Int32 × Int32 × Int32 × Int32 × Mm → Option (Int32 × Mm)} (hk21 : ∀ x : Int32 × Int32 × Int32 × Int32 × Mm, k21 x = some (r, t') → ∀ (H : Heap) (locs : List Loc) (ls : Array Slot), XP shR g x.2.2.2.2 H → va_S (XA shR g) s.heap H locs → lv_has ls 7 [(0, .ref (g.2.2 (9, 0, 0))), (1, .int x.1), (2, .int x.2.1), (3, .int x.2.2.1), (4, .int x.2.2.2.1)] → W p l e (rmv 6) s m args below meth c H locs 0 0 (MQ below (XQi shR g r t') args s 0 0 (XA shR g)) (F0 m 21 ls [])) (x1 : Int32) (x2 : Int32) (x3 : Int32) (x4 : Int32) (t : Mm) (H : Heap) (locs : List Loc) (ls : Array Slot) (hP : XP shR g t H) (hS : va_S (XA shR g) s.heap H locs) (hl : lv_has ls 7 [(0, .ref (g.2.2 (9, 0, 0))), (1, .int x1), (2, .int x2), (3, .int x3), (4, .int x4)]) (h : f_X8_spare_113 N k21 x1 x2 x3 x4 t = some (r, t')) : W p l e (rmv 6) s m args below meth c H locs 0 0 (MQ below (XQi shR g r t') args s 0 0 (XA shR g)) (F0 m 113 ls []) := by
  unfold f_X8_spare_113 at h
  refine lv_iinc (v := (x4 + 1)) (lv' := [(4, .int (x4 + 1)), (0, .ref (g.2.2 (9, 0, 0))), (1, .int x1), (2, .int x2), (3, .int x3)]) X.1.1 X.1.2.1 dX8_spare_113 hl (k := 4) rfl rfl (by decide) rfl (fun ls hl => ?_)
  refine lv_goto (tgt := 21) X.1.1 X.1.2.1 dX8_spare_116 (by decide) ?_
  exact hk21 (x1, x2, x3, (x4 + 1), t) h _ _ _ hP hS (lv_sub hl [1, 2, 3, 4, 0] rfl)
set_option maxRecDepth 100000 in
set_option maxHeartbeats 4000000 in
theorem w_X8_spare_112 {l : Launch} {g : Ly} {p : Program} {e : Env} {s : State} {m : MethodId} {args : Array Value} {below : List Frame} {meth : Method} {c : Code} (N : Nat) (X : XC p m meth c cX8_spare 7 s args (.code yX8_spare cX8_spare 7 (some .int)) RX8 (some .int) shR g) {r : Int32} {t' : Mm} {k21 : Int32 × Int32 × Int32 × Int32 × Mm → Option (Int32 × Mm)} (hk21 : ∀ x : Int32 × Int32 × Int32 × Int32 × Mm, k21 x = some (r, t') → ∀ (H : Heap) (locs : List Loc) (ls : Array Slot), XP shR g x.2.2.2.2 H → va_S (XA shR g) s.heap H locs → lv_has ls 7 [(0, .ref (g.2.2 (9, 0, 0))), (1, .int x.1), (2, .int x.2.1), (3, .int x.2.2.1), (4, .int x.2.2.2.1)] → W p l e (rmv 6) s m args below meth c H locs 0 0 (MQ below (XQi shR g r t') args s 0 0 (XA shR g)) (F0 m 21 ls [])) (x1 : Int32) (x2 : Int32) (x4 : Int32) (s0 : Int32) (t : Mm) (H : Heap) (locs : List Loc) (ls : Array Slot) (hP : XP shR g t H) (hS : va_S (XA shR g) s.heap H locs) (hl : lv_has ls 7 [(0, .ref (g.2.2 (9, 0, 0))), (1, .int x1), (2, .int x2), (4, .int x4)]) (h : f_X8_spare_112 N k21 x1 x2 x4 s0 t = some (r, t')) : W p l e (rmv 6) s m args below meth c H locs 0 0 (MQ below (XQi shR g r t') args s 0 0 (XA shR g)) (F0 m 112 ls [.int s0]) := by
  unfold f_X8_spare_112 at h
  refine lv_istore_n (lv' := [(3, .int s0), (0, .ref (g.2.2 (9, 0, 0))), (1, .int x1), (2, .int x2), (4, .int x4)]) X.1.1 X.1.2.1 dX8_spare_112 rfl hl (by decide) rfl (fun ls hl => ?_)
  exact w_X8_spare_113 N X hk21 x1 x2 s0 x4 t _ _ _ hP hS (lv_sub hl [1, 2, 3, 0, 4] rfl) h
set_option maxRecDepth 100000 in
set_option maxHeartbeats 4000000 in
theorem w_X8_spare_100 {l : Launch} {g : Ly} {p : Program} {e : Env} {s : State} {m : MethodId} {args : Array Value} {below : List Frame} {meth : Method} {c : Code} (N : Nat) (X : XC p m meth c cX8_spare 7 s args (.code yX8_spare cX8_spare 7 (some .int)) RX8 (some .int) shR g) {r : Int32} {t' : Mm} {k21 : Int32 × Int32 × Int32 × Int32 × Mm → Option (Int32 × Mm)} (hk21 : ∀ x : Int32 × Int32 × Int32 × Int32 × Mm, k21 x = some (r, t') → ∀ (H : Heap) (locs : List Loc) (ls : Array Slot), XP shR g x.2.2.2.2 H → va_S (XA shR g) s.heap H locs → lv_has ls 7 [(0, .ref (g.2.2 (9, 0, 0))), (1, .int x.1), (2, .int x.2.1), (3, .int x.2.2.1), (4, .int x.2.2.2.1)] → W p l e (rmv 6) s m args below meth c H locs 0 0 (MQ below (XQi shR g r t') args s 0 0 (XA shR g)) (F0 m 21 ls [])) (x1 : Int32) (x3 : Int32) (x4 : Int32) (x5 : Int32) (x6 : Int32) (s0 : Int32) (t : Mm) (H : Heap) (locs : List Loc) (ls : Array Slot) (hP : XP shR g t H) (hS : va_S (XA shR g) s.heap H locs) (hl : lv_has ls 7 [(0, .ref (g.2.2 (9, 0, 0))), (1, .int x1), (3, .int x3), (4, .int x4), (5, .int x5), (6, .int x6)]) (h : f_X8_spare_100 N k21 x1 x3 x4 x5 x6 s0 t = some (r, t')) : W p l e (rmv 6) s m args below meth c H locs 0 0 (MQ below (XQi shR g r t') args s 0 0 (XA shR g)) (F0 m 100 ls [.int s0]) := by
  unfold f_X8_spare_100 at h
  refine lv_istore_n (lv' := [(2, .int s0), (0, .ref (g.2.2 (9, 0, 0))), (1, .int x1), (3, .int x3), (4, .int x4), (5, .int x5), (6, .int x6)]) X.1.1 X.1.2.1 dX8_spare_100 rfl hl (by decide) rfl (fun ls hl => ?_)
  refine lv_iload X.1.1 X.1.2.1 dX8_spare_101 (lv_at hl 6 rfl) ?_
  refine lv_if_eq (tgt := 111) X.1.1 X.1.2.1 dX8_spare_103 (by decide) (fun c_1 => ?_) (fun c_1 => ?_)
  · have h := o_pos c_1 h
    refine lv_iload_n X.1.1 X.1.2.1 dX8_spare_111 rfl (lv_at hl 3 rfl) ?_
    exact w_X8_spare_112 N X hk21 x1 s0 x4 x3 t _ _ _ hP hS (lv_sub hl [1, 2, 0, 4] rfl) h
  · have h := o_neg c_1 h
    refine lv_iload X.1.1 X.1.2.1 dX8_spare_106 (lv_at hl 5 rfl) ?_
    refine lv_goto (tgt := 112) X.1.1 X.1.2.1 dX8_spare_108 (by decide) ?_
    exact w_X8_spare_112 N X hk21 x1 s0 x4 x5 t _ _ _ hP hS (lv_sub hl [1, 2, 0, 4] rfl) h
set_option maxRecDepth 100000 in
set_option maxHeartbeats 4000000 in
theorem w_X8_spare_87 {l : Launch} {g : Ly} {p : Program} {e : Env} {s : State} {m : MethodId} {args : Array Value} {below : List Frame} {meth : Method} {c : Code} (N : Nat) (X : XC p m meth c cX8_spare 7 s args (.code yX8_spare cX8_spare 7 (some .int)) RX8 (some .int) shR g) {r : Int32} {t' : Mm} {k21 : Int32 × Int32 × Int32 × Int32 × Mm → Option (Int32 × Mm)} (hk21 : ∀ x : Int32 × Int32 × Int32 × Int32 × Mm, k21 x = some (r, t') → ∀ (H : Heap) (locs : List Loc) (ls : Array Slot), XP shR g x.2.2.2.2 H → va_S (XA shR g) s.heap H locs → lv_has ls 7 [(0, .ref (g.2.2 (9, 0, 0))), (1, .int x.1), (2, .int x.2.1), (3, .int x.2.2.1), (4, .int x.2.2.2.1)] → W p l e (rmv 6) s m args below meth c H locs 0 0 (MQ below (XQi shR g r t') args s 0 0 (XA shR g)) (F0 m 21 ls [])) (x1 : Int32) (x2 : Int32) (x3 : Int32) (x4 : Int32) (x5 : Int32) (s0 : Int32) (t : Mm) (H : Heap) (locs : List Loc) (ls : Array Slot) (hP : XP shR g t H) (hS : va_S (XA shR g) s.heap H locs) (hl : lv_has ls 7 [(0, .ref (g.2.2 (9, 0, 0))), (1, .int x1), (2, .int x2), (3, .int x3), (4, .int x4), (5, .int x5)]) (h : f_X8_spare_87 N k21 x1 x2 x3 x4 x5 s0 t = some (r, t')) : W p l e (rmv 6) s m args below meth c H locs 0 0 (MQ below (XQi shR g r t') args s 0 0 (XA shR g)) (F0 m 87 ls [.int s0]) := by
  unfold f_X8_spare_87 at h
  refine lv_istore (lv' := [(6, .int s0), (0, .ref (g.2.2 (9, 0, 0))), (1, .int x1), (2, .int x2), (3, .int x3), (4, .int x4), (5, .int x5)]) X.1.1 X.1.2.1 dX8_spare_87 hl (by decide) rfl (fun ls hl => ?_)
  refine lv_iload X.1.1 X.1.2.1 dX8_spare_89 (lv_at hl 0 rfl) ?_
  refine lv_if_eq (tgt := 99) X.1.1 X.1.2.1 dX8_spare_91 (by decide) (fun c_2 => ?_) (fun c_2 => ?_)
  · have h := o_pos c_2 h
    refine lv_iload_n X.1.1 X.1.2.1 dX8_spare_99 rfl (lv_at hl 3 rfl) ?_
    exact w_X8_spare_100 N X hk21 x1 x3 x4 x5 s0 x2 t _ _ _ hP hS (lv_sub hl [1, 2, 4, 5, 6, 0] rfl) h
  · have h := o_neg c_2 h
    refine lv_iload X.1.1 X.1.2.1 dX8_spare_94 (lv_at hl 5 rfl) ?_
    refine lv_goto (tgt := 100) X.1.1 X.1.2.1 dX8_spare_96 (by decide) ?_
    exact w_X8_spare_100 N X hk21 x1 x3 x4 x5 s0 x4 t _ _ _ hP hS (lv_sub hl [1, 2, 4, 5, 6, 0] rfl) h
set_option maxRecDepth 100000 in
set_option maxHeartbeats 4000000 in
theorem w_X8_spare_82 {l : Launch} {g : Ly} {p : Program} {e : Env} {s : State} {m : MethodId} {args : Array Value} {below : List Frame} {meth : Method} {c : Code} (N : Nat) (X : XC p m meth c cX8_spare 7 s args (.code yX8_spare cX8_spare 7 (some .int)) RX8 (some .int) shR g) {r : Int32} {t' : Mm} {k21 : Int32 × Int32 × Int32 × Int32 × Mm → Option (Int32 × Mm)} (hk21 : ∀ x : Int32 × Int32 × Int32 × Int32 × Mm, k21 x = some (r, t') → ∀ (H : Heap) (locs : List Loc) (ls : Array Slot), XP shR g x.2.2.2.2 H → va_S (XA shR g) s.heap H locs → lv_has ls 7 [(0, .ref (g.2.2 (9, 0, 0))), (1, .int x.1), (2, .int x.2.1), (3, .int x.2.2.1), (4, .int x.2.2.2.1)] → W p l e (rmv 6) s m args below meth c H locs 0 0 (MQ below (XQi shR g r t') args s 0 0 (XA shR g)) (F0 m 21 ls [])) (x1 : Int32) (x2 : Int32) (x3 : Int32) (x4 : Int32) (x5 : Int32) (t : Mm) (H : Heap) (locs : List Loc) (ls : Array Slot) (hP : XP shR g t H) (hS : va_S (XA shR g) s.heap H locs) (hl : lv_has ls 7 [(0, .ref (g.2.2 (9, 0, 0))), (1, .int x1), (2, .int x2), (3, .int x3), (4, .int x4), (5, .int x5)]) (h : f_X8_spare_82 N k21 x1 x2 x3 x4 x5 t = some (r, t')) : W p l e (rmv 6) s m args below meth c H locs 0 0 (MQ below (XQi shR g r t') args s 0 0 (XA shR g)) (F0 m 82 ls []) := by
  unfold f_X8_spare_82 at h
  refine lv_iconst (v := 1) X.1.1 X.1.2.1 dX8_spare_82 (by decide) ?_
  refine lv_goto (tgt := 87) X.1.1 X.1.2.1 dX8_spare_83 (by decide) ?_
  exact w_X8_spare_87 N X hk21 x1 x2 x3 x4 x5 1 t _ _ _ hP hS (lv_sub hl [0, 1, 2, 3, 4, 5] rfl) h
set_option maxRecDepth 100000 in
set_option maxHeartbeats 4000000 in
theorem wb_X8_spare_21 {l : Launch} {g : Ly} {p : Program} {e : Env} {s : State} {m : MethodId} {args : Array Value} {below : List Frame} {meth : Method} {c : Code} (N : Nat) (X : XC p m meth c cX8_spare 7 s args (.code yX8_spare cX8_spare 7 (some .int)) RX8 (some .int) shR g) {r : Int32} {t' : Mm} {k21 : Int32 × Int32 × Int32 × Int32 × Mm → Option (Int32 × Mm)} (hk21 : ∀ x : Int32 × Int32 × Int32 × Int32 × Mm, k21 x = some (r, t') → ∀ (H : Heap) (locs : List Loc) (ls : Array Slot), XP shR g x.2.2.2.2 H → va_S (XA shR g) s.heap H locs → lv_has ls 7 [(0, .ref (g.2.2 (9, 0, 0))), (1, .int x.1), (2, .int x.2.1), (3, .int x.2.2.1), (4, .int x.2.2.2.1)] → W p l e (rmv 6) s m args below meth c H locs 0 0 (MQ below (XQi shR g r t') args s 0 0 (XA shR g)) (F0 m 21 ls [])) (x1 : Int32) (x2 : Int32) (x3 : Int32) (x4 : Int32) (t : Mm) (H : Heap) (locs : List Loc) (ls : Array Slot) (hP : XP shR g t H) (hS : va_S (XA shR g) s.heap H locs) (hl : lv_has ls 7 [(0, .ref (g.2.2 (9, 0, 0))), (1, .int x1), (2, .int x2), (3, .int x3), (4, .int x4)]) (h : b_X8_spare_21 N k21 x1 x2 x3 x4 t = some (r, t')) : W p l e (rmv 6) s m args below meth c H locs 0 0 (MQ below (XQi shR g r t') args s 0 0 (XA shR g)) (F0 m 21 ls []) := by
  unfold b_X8_spare_21 at h
  refine lv_iload X.1.1 X.1.2.1 dX8_spare_21 (lv_at hl 4 rfl) ?_
  refine lv_aload_n X.1.1 X.1.2.1 dX8_spare_23 rfl (lv_at hl 0 rfl) ?_
  refine gt_X8_0 X hP (kyM (by decide)) wd_880 dX8_spare_24 ?_
  refine lv_icmp_ge (tgt := 119) X.1.1 X.1.2.1 dX8_spare_27 (by decide) (fun c_3 => ?_) (fun c_3 => ?_)
  · have h := o_pos c_3 h
    refine lv_iload_n X.1.1 X.1.2.1 dX8_spare_119 rfl (lv_at hl 1 rfl) ?_
    refine lv_if_ne (tgt := 127) X.1.1 X.1.2.1 dX8_spare_120 (by decide) (fun c_4 => ?_) (fun c_4 => ?_)
    · have h := o_neg c_4 h
      refine lv_iload_n X.1.1 X.1.2.1 dX8_spare_127 rfl (lv_at hl 3 rfl) ?_
      obtain ⟨rfl, rfl⟩ := o_ret2 h
      exact x_iret X hP hS dX8_spare_128
    · have h := o_pos c_4 h
      refine lv_iload_n X.1.1 X.1.2.1 dX8_spare_123 rfl (lv_at hl 2 rfl) ?_
      refine lv_goto (tgt := 128) X.1.1 X.1.2.1 dX8_spare_124 (by decide) ?_
      obtain ⟨rfl, rfl⟩ := o_ret2 h
      exact x_iret X hP hS dX8_spare_128
  · have h := o_neg c_3 h
    refine lv_aload_n X.1.1 X.1.2.1 dX8_spare_30 rfl (lv_at hl 0 rfl) ?_
    refine gt_X8_4 X hP (kyM (by decide)) wd_884 dX8_spare_31 ?_
    refine lv_iconst (v := 0) X.1.1 X.1.2.1 dX8_spare_34 (by decide) ?_
    obtain ⟨g_5, h⟩ := o_gd_inv h
    refine x_iald X hP (kyM (by decide)) (fun _ _ => rfl) g_5 dX8_spare_35 ?_
    refine lv_iload X.1.1 X.1.2.1 dX8_spare_36 (lv_at hl 4 rfl) ?_
    obtain ⟨⟨r_8, t_6⟩, hc_7, h⟩ := o_bd_inv h
    refine x_calli (x_runS (As := [.int (t.1 9 0 4 (Int32.toNatClampNeg 0)), .int x4]) (rest := []) X hP hS (c_X8_has l g X.2.2.2.2.1 (t.1 9 0 4 (Int32.toNatClampNeg 0)) x4 t hc_7) ⟨wd_1021, wd_1019, wd_1020, wd_62⟩ hd_X8_has ⟨by omega, by decide⟩ rfl hl.1 rfl (Nat.le_of_ble_eq_true rfl) dX8_spare_38) hS (fun H locs hP hS => ?_)
    refine lv_if_ne (tgt := 113) X.1.1 X.1.2.1 dX8_spare_41 (by decide) (fun c_10 => ?_) (fun c_10 => ?_)
    · have h := o_neg c_10 h
      exact w_X8_spare_113 N X hk21 x1 x2 x3 x4 t_6 _ _ _ hP hS (lv_sub hl [0, 1, 2, 3, 4] rfl) h
    · have h := o_pos c_10 h
      refine lv_aload_n X.1.1 X.1.2.1 dX8_spare_44 rfl (lv_at hl 0 rfl) ?_
      obtain ⟨t_11, hc_12, h⟩ := o_bd_inv h
      refine x_callv (x_runV (As := []) (rest := []) X hP hS (c_X8_aside l g N X.2.2.2.2.1 t_6 hc_12) ⟨wd_1014, wd_1011, wd_1013, wd_27, wd_62⟩ hd_X8_aside ⟨by omega, by decide⟩ (x_recv X hP (ci := 8) rfl (kyM (by decide)) rfl) rfl hl.1 rfl (Nat.le_of_ble_eq_true rfl) dX8_spare_45) hS (fun H locs hP hS => ?_)
      refine lv_aload_n X.1.1 X.1.2.1 dX8_spare_48 rfl (lv_at hl 0 rfl) ?_
      refine gt_X8_5 X hP (kyM (by decide)) wd_885 dX8_spare_49 ?_
      refine lv_iconst (v := 0) X.1.1 X.1.2.1 dX8_spare_52 (by decide) ?_
      refine lv_dup2_11 X.1.1 X.1.2.1 dX8_spare_53 rfl rfl ?_
      obtain ⟨g_13, h⟩ := o_gd_inv h
      refine x_iald X hP (kyM (by decide)) (fun _ _ => rfl) g_13 dX8_spare_54 ?_
      refine lv_iconst (v := 1) X.1.1 X.1.2.1 dX8_spare_55 (by decide) ?_
      refine lv_iload X.1.1 X.1.2.1 dX8_spare_56 (lv_at hl 4 rfl) ?_
      refine lv_ishl X.1.1 X.1.2.1 dX8_spare_58 ?_
      refine lv_ior X.1.1 X.1.2.1 dX8_spare_59 ?_
      obtain ⟨g_14, h⟩ := o_gd_inv h
      obtain ⟨t_15, e_16, h⟩ := o_nm_inv h
      refine x_iast X hP hS (kyM (by decide)) (fun _ _ => rfl) g_14 dX8_spare_60 (fun H locs hP hS => ?_)
      have hP : XP shR g t_15 H := by rw [e_16]; exact hP
      refine lv_aload_n X.1.1 X.1.2.1 dX8_spare_61 rfl (lv_at hl 0 rfl) ?_
      obtain ⟨⟨r_19, t_17⟩, hc_18, h⟩ := o_bd_inv h
      refine x_calli (x_runV (As := []) (rest := []) X hP hS (c_X8_lastHour l g N X.2.2.2.2.1 t_15 hc_18) ⟨wd_1162, wd_1159, wd_1161, wd_44, wd_62⟩ hd_X8_lastHour ⟨by omega, by decide⟩ (x_recv X hP (ci := 8) rfl (kyM (by decide)) rfl) rfl hl.1 rfl (Nat.le_of_ble_eq_true rfl) dX8_spare_62) hS (fun H locs hP hS => ?_)
      refine lv_istore (lv' := [(5, .int r_19), (0, .ref (g.2.2 (9, 0, 0))), (1, .int x1), (2, .int x2), (3, .int x3), (4, .int x4)]) X.1.1 X.1.2.1 dX8_spare_65 hl (by decide) rfl (fun ls hl => ?_)
      refine lv_iload_n X.1.1 X.1.2.1 dX8_spare_67 rfl (lv_at hl 3 rfl) ?_
      refine lv_bipush (v := (-4)) X.1.1 X.1.2.1 dX8_spare_68 (by decide) ?_
      refine lv_icmp_eq (tgt := 82) X.1.1 X.1.2.1 dX8_spare_70 (by decide) (fun c_21 => ?_) (fun c_21 => ?_)
      · have h := o_pos c_21 h
        exact w_X8_spare_82 N X hk21 x1 x2 x3 x4 r_19 t_17 _ _ _ hP hS (lv_sub hl [1, 2, 3, 4, 5, 0] rfl) h
      · have h := o_neg c_21 h
        refine lv_iload X.1.1 X.1.2.1 dX8_spare_73 (lv_at hl 0 rfl) ?_
        refine lv_iload_n X.1.1 X.1.2.1 dX8_spare_75 rfl (lv_at hl 4 rfl) ?_
        obtain ⟨⟨r_24, t_22⟩, hc_23, h⟩ := o_bd_inv h
        refine x_calli (x_runS (As := [.int r_19, .int x3]) (rest := []) X hP hS (c_X8_isSooner l g X.2.2.2.2.1 r_19 x3 t_17 hc_23) ⟨wd_1190, wd_1188, wd_1189, wd_62⟩ hd_X8_isSooner ⟨by omega, by decide⟩ rfl hl.1 rfl (Nat.le_of_ble_eq_true rfl) dX8_spare_76) hS (fun H locs hP hS => ?_)
        refine lv_if_eq (tgt := 86) X.1.1 X.1.2.1 dX8_spare_79 (by decide) (fun c_26 => ?_) (fun c_26 => ?_)
        · have h := o_pos c_26 h
          refine lv_iconst (v := 0) X.1.1 X.1.2.1 dX8_spare_86 (by decide) ?_
          exact w_X8_spare_87 N X hk21 x1 x2 x3 x4 r_19 0 t_22 _ _ _ hP hS (lv_sub hl [1, 2, 3, 4, 5, 0] rfl) h
        · have h := o_neg c_26 h
          exact w_X8_spare_82 N X hk21 x1 x2 x3 x4 r_19 t_22 _ _ _ hP hS (lv_sub hl [1, 2, 3, 4, 5, 0] rfl) h
set_option maxRecDepth 100000 in
set_option maxHeartbeats 4000000 in
theorem w_X8_spare_21 {l : Launch} {g : Ly} {p : Program} {e : Env} {s : State} {m : MethodId} {args : Array Value} {below : List Frame} {meth : Method} {c : Code} (N : Nat) (X : XC p m meth c cX8_spare 7 s args (.code yX8_spare cX8_spare 7 (some .int)) RX8 (some .int) shR g) {r : Int32} {t' : Mm} (x1 : Int32) (x2 : Int32) (x3 : Int32) (x4 : Int32) (t : Mm) (H : Heap) (locs : List Loc) (ls : Array Slot) (hP : XP shR g t H) (hS : va_S (XA shR g) s.heap H locs) (hl : lv_has ls 7 [(0, .ref (g.2.2 (9, 0, 0))), (1, .int x1), (2, .int x2), (3, .int x3), (4, .int x4)]) (h : f_X8_spare_21 N x1 x2 x3 x4 t = some (r, t')) : W p l e (rmv 6) s m args below meth c H locs 0 0 (MQ below (XQi shR g r t') args s 0 0 (XA shR g)) (F0 m 21 ls []) :=
  o_lp_ind (P := fun x : Int32 × Int32 × Int32 × Int32 × Mm => ∀ (H : Heap) (locs : List Loc) (ls : Array Slot), XP shR g x.2.2.2.2 H → va_S (XA shR g) s.heap H locs → lv_has ls 7 [(0, .ref (g.2.2 (9, 0, 0))), (1, .int x.1), (2, .int x.2.1), (3, .int x.2.2.1), (4, .int x.2.2.2.1)] → W p l e (rmv 6) s m args below meth c H locs 0 0 (MQ below (XQi shR g r t') args s 0 0 (XA shR g)) (F0 m 21 ls [])) (fun k hk x h H locs ls hP hS hl => wb_X8_spare_21 N X hk x.1 x.2.1 x.2.2.1 x.2.2.2.1 x.2.2.2.2 H locs ls hP hS hl h) N (x1, x2, x3, x4, t) h H locs ls hP hS hl
set_option maxRecDepth 100000 in
set_option maxHeartbeats 4000000 in
theorem c_X8_spare (l : Launch) (g : Ly) (N : Nat) (hG : XG shR g) (a0 : Int32) (t : Mm) {r : Int32} {t' : Mm} (h : f_X8_spare N a0 t = some (r, t')) : MI l yX8_spare cX8_spare 7 (some .int) 6 shR g [.ref (g.2.2 (9, 0, 0)), .int a0] t (XQi shR g r t') := by
  refine x_met hG (by decide +kernel) (Nat.le_of_ble_eq_true rfl) ?_
  intro p e s m below meth c ls X hP hl
  have hS : va_S (XA shR g) s.heap s.heap [] := va_S.rf
  have hl : lv_has ls 7 [(0, .ref (g.2.2 (9, 0, 0))), (1, .int a0)] := hl
  unfold f_X8_spare at h
  generalize ([.ref (g.2.2 (9, 0, 0)), .int a0] : List Value).toArray = args at X ⊢
  refine lv_iload_n X.1.1 X.1.2.1 dX8_spare_0 rfl (lv_at hl 1 rfl) ?_
  refine lv_i2l (v := (a0.toInt64)) X.1.1 X.1.2.1 dX8_spare_1 rfl ?_
  refine lv_lconst (v := 0) X.1.1 X.1.2.1 dX8_spare_2 (by decide) ?_
  refine lv_lconst (v := 1) X.1.1 X.1.2.1 dX8_spare_3 (by decide) ?_
  obtain ⟨⟨r_29, t_27⟩, hc_28, h⟩ := o_bd_inv h
  refine x_calli (x_runS (As := [.long (a0.toInt64), .long 0, .long 1]) (rest := []) X hP hS (c_X8_in l g X.2.2.2.2.1 (a0.toInt64) 0 1 t hc_28) ⟨wd_981, wd_979, wd_980, wd_62⟩ hd_X8_in ⟨by omega, by decide⟩ rfl hl.1 rfl (Nat.le_of_ble_eq_true rfl) dX8_spare_4) hS (fun H locs hP hS => ?_)
  refine lv_if_ne (tgt := 12) X.1.1 X.1.2.1 dX8_spare_7 (by decide) (fun c_31 => ?_) (fun c_31 => ?_)
  · have h := o_neg c_31 h
    refine lv_bipush (v := (-4)) X.1.1 X.1.2.1 dX8_spare_12 (by decide) ?_
    refine lv_istore_n (lv' := [(2, .int (-4)), (0, .ref (g.2.2 (9, 0, 0))), (1, .int a0)]) X.1.1 X.1.2.1 dX8_spare_14 rfl hl (by decide) rfl (fun ls hl => ?_)
    refine lv_bipush (v := (-4)) X.1.1 X.1.2.1 dX8_spare_15 (by decide) ?_
    refine lv_istore_n (lv' := [(3, .int (-4)), (2, .int (-4)), (0, .ref (g.2.2 (9, 0, 0))), (1, .int a0)]) X.1.1 X.1.2.1 dX8_spare_17 rfl hl (by decide) rfl (fun ls hl => ?_)
    refine lv_iconst (v := 0) X.1.1 X.1.2.1 dX8_spare_18 (by decide) ?_
    refine lv_istore (lv' := [(4, .int 0), (3, .int (-4)), (2, .int (-4)), (0, .ref (g.2.2 (9, 0, 0))), (1, .int a0)]) X.1.1 X.1.2.1 dX8_spare_19 hl (by decide) rfl (fun ls hl => ?_)
    exact w_X8_spare_21 N X a0 (-4) (-4) 0 t_27 _ _ _ hP hS (lv_sub hl [3, 4, 2, 1, 0] rfl) h
  · have h := o_pos c_31 h
    refine lv_iconst (v := (-1)) X.1.1 X.1.2.1 dX8_spare_10 (by decide) ?_
    obtain ⟨rfl, rfl⟩ := o_ret2 h
    exact x_iret X hP hS dX8_spare_11
def f_X8_before_112 (N : Nat) (k25 : Int32 × Int32 × Int32 × Int32 × Mm → Option (Int32 × Mm)) (x1 : Int32) (x2 : Int32) (x4 : Int32) (s0 : Int32) (t : Mm) : Option (Int32 × Mm) := k25 (x1, x2, s0, (x4 + 1), t)
def f_X8_before_100 (N : Nat) (k25 : Int32 × Int32 × Int32 × Int32 × Mm → Option (Int32 × Mm)) (x1 : Int32) (x3 : Int32) (x4 : Int32) (x5 : Int32) (x6 : Int32) (s0 : Int32) (t : Mm) : Option (Int32 × Mm) := if x6 = 0 then (f_X8_before_112 N k25 x1 s0 x4 x3 t) else (f_X8_before_112 N k25 x1 s0 x4 x5 t)
def f_X8_before_87 (N : Nat) (k25 : Int32 × Int32 × Int32 × Int32 × Mm → Option (Int32 × Mm)) (x1 : Int32) (x2 : Int32) (x3 : Int32) (x4 : Int32) (x5 : Int32) (s0 : Int32) (t : Mm) : Option (Int32 × Mm) := if s0 = 0 then (f_X8_before_100 N k25 x1 x3 x4 x5 s0 x2 t) else (f_X8_before_100 N k25 x1 x3 x4 x5 s0 x4 t)
def f_X8_before_86 (N : Nat) (k25 : Int32 × Int32 × Int32 × Int32 × Mm → Option (Int32 × Mm)) (x1 : Int32) (x2 : Int32) (x3 : Int32) (x4 : Int32) (x5 : Int32) (t : Mm) : Option (Int32 × Mm) := f_X8_before_87 N k25 x1 x2 x3 x4 x5 0 t
def b_X8_before_25 (N : Nat) (k25 : Int32 × Int32 × Int32 × Int32 × Mm → Option (Int32 × Mm)) (x1 : Int32) (x2 : Int32) (x3 : Int32) (x4 : Int32) (t : Mm) : Option (Int32 × Mm) := if 41 ≤ x4 then (some (x2, t)) else (if o_inb (19 + x1) 31 = true then (if (t.1 9 0 4 ((19 + x1).toNatClampNeg)) = 0 then (o_bd (f_X8_aside N t) fun t_6 => if o_inb (14 + x1) 31 = true then (o_nm (sI t_6 9 0 5 ((14 + x1).toNatClampNeg) x4) fun t_9 => o_bd (f_X8_overHour N x1 t_9) fun (r_13, t_11) => if r_13 = (-4) then (f_X8_before_86 N k25 x1 x2 x3 x4 r_13 t_11) else (o_bd (f_X8_isSooner x3 r_13 t_11) fun (r_18, t_16) => if r_18 = 0 then (f_X8_before_87 N k25 x1 x2 x3 x4 r_13 1 t_16) else (f_X8_before_86 N k25 x1 x2 x3 x4 r_13 t_16))) else none) else (some (x2, t))) else none)
def f_X8_before_25 (N : Nat) (x1 : Int32) (x2 : Int32) (x3 : Int32) (x4 : Int32) (t : Mm) : Option (Int32 × Mm) := o_lp (fun k x => b_X8_before_25 N k x.1 x.2.1 x.2.2.1 x.2.2.2.1 x.2.2.2.2) N (x1, x2, x3, x4, t)
/-- FordQuestionsModel.before(I)I -/
def f_X8_before (N : Nat) (a0 : Int32) (t : Mm) : Option (Int32 × Mm) := o_bd (f_X8_isCrosser a0 t) fun (r_23, t_21) => if r_23 = 0 then (some ((-1), t_21)) else (if o_inb 29 31 = true then (o_nm ((t_21.1 9 0 4 (Int32.toNatClampNeg 29))) fun x_27 => f_X8_before_25 N a0 (-4) (-4) x_27 t_21) else none)
theorem hd_X8_before : x_hd yX8_before 1 := by decide +kernel
set_option maxRecDepth 100000 in
set_option maxHeartbeats 4000000 in
theorem w_X8_before_112 {l : Launch} {g : Ly} {p : Program} {e : Env} {s : State} {m : MethodId} {args : Array Value} {below : List Frame} {meth : Method} {c : Code} (N : Nat) (X : XC p m meth c cX8_before 7 s args (.code yX8_before cX8_before 7 (some .int)) RX8 (some .int) shR g) {r : Int32} {t' : Mm} {k25 : Int32 × Int32 × Int32 × Int32 × Mm → Option (Int32 × Mm)} (hk25 : ∀ x : Int32 × Int32 × Int32 × Int32 × Mm, k25 x = some (r, t') → ∀ (H : Heap) (locs : List Loc) (ls : Array Slot), XP shR g x.2.2.2.2 H → va_S (XA shR g) s.heap H locs → lv_has ls 7 [(0, .ref (g.2.2 (9, 0, 0))), (1, .int x.1), (2, .int x.2.1), (3, .int x.2.2.1), (4, .int x.2.2.2.1)] → W p l e (rmv 6) s m args below meth c H locs 0 0 (MQ below (XQi shR g r t') args s 0 0 (XA shR g)) (F0 m 25 ls [])) (x1 : Int32) (x2 : Int32) (x4 : Int32) (s0 : Int32) (t : Mm) (H : Heap) (locs : List Loc) (ls : Array Slot) (hP : XP shR g t H) (hS : va_S (XA shR g) s.heap H locs) (hl : lv_has ls 7 [(0, .ref (g.2.2 (9, 0, 0))), (1, .int x1), (2, .int x2), (4, .int x4)]) (h : f_X8_before_112 N k25 x1 x2 x4 s0 t = some (r, t')) : W p l e (rmv 6) s m args below meth c H locs 0 0 (MQ below (XQi shR g r t') args s 0 0 (XA shR g)) (F0 m 112 ls [.int s0]) := by
  unfold f_X8_before_112 at h
  refine lv_istore_n (lv' := [(3, .int s0), (0, .ref (g.2.2 (9, 0, 0))), (1, .int x1), (2, .int x2), (4, .int x4)]) X.1.1 X.1.2.1 dX8_before_112 rfl hl (by decide) rfl (fun ls hl => ?_)
  refine lv_iinc (v := (x4 + 1)) (lv' := [(4, .int (x4 + 1)), (3, .int s0), (0, .ref (g.2.2 (9, 0, 0))), (1, .int x1), (2, .int x2)]) X.1.1 X.1.2.1 dX8_before_113 hl (k := 4) rfl rfl (by decide) rfl (fun ls hl => ?_)
  refine lv_goto (tgt := 25) X.1.1 X.1.2.1 dX8_before_116 (by decide) ?_
  exact hk25 (x1, x2, s0, (x4 + 1), t) h _ _ _ hP hS (lv_sub hl [2, 3, 4, 1, 0] rfl)
set_option maxRecDepth 100000 in
set_option maxHeartbeats 4000000 in
theorem w_X8_before_100 {l : Launch} {g : Ly} {p : Program} {e : Env} {s : State} {m : MethodId} {args : Array Value} {below : List Frame} {meth : Method} {c : Code} (N : Nat) (X : XC p m meth c cX8_before 7 s args (.code yX8_before cX8_before 7 (some .int)) RX8 (some .int) shR g) {r : Int32} {t' : Mm} {k25 : Int32 × Int32 × Int32 × Int32 × Mm → Option (Int32 × Mm)} (hk25 : ∀ x : Int32 × Int32 × Int32 × Int32 × Mm, k25 x = some (r, t') → ∀ (H : Heap) (locs : List Loc) (ls : Array Slot), XP shR g x.2.2.2.2 H → va_S (XA shR g) s.heap H locs → lv_has ls 7 [(0, .ref (g.2.2 (9, 0, 0))), (1, .int x.1), (2, .int x.2.1), (3, .int x.2.2.1), (4, .int x.2.2.2.1)] → W p l e (rmv 6) s m args below meth c H locs 0 0 (MQ below (XQi shR g r t') args s 0 0 (XA shR g)) (F0 m 25 ls [])) (x1 : Int32) (x3 : Int32) (x4 : Int32) (x5 : Int32) (x6 : Int32) (s0 : Int32) (t : Mm) (H : Heap) (locs : List Loc) (ls : Array Slot) (hP : XP shR g t H) (hS : va_S (XA shR g) s.heap H locs) (hl : lv_has ls 7 [(0, .ref (g.2.2 (9, 0, 0))), (1, .int x1), (3, .int x3), (4, .int x4), (5, .int x5), (6, .int x6)]) (h : f_X8_before_100 N k25 x1 x3 x4 x5 x6 s0 t = some (r, t')) : W p l e (rmv 6) s m args below meth c H locs 0 0 (MQ below (XQi shR g r t') args s 0 0 (XA shR g)) (F0 m 100 ls [.int s0]) := by
  unfold f_X8_before_100 at h
  refine lv_istore_n (lv' := [(2, .int s0), (0, .ref (g.2.2 (9, 0, 0))), (1, .int x1), (3, .int x3), (4, .int x4), (5, .int x5), (6, .int x6)]) X.1.1 X.1.2.1 dX8_before_100 rfl hl (by decide) rfl (fun ls hl => ?_)
  refine lv_iload X.1.1 X.1.2.1 dX8_before_101 (lv_at hl 6 rfl) ?_
  refine lv_if_eq (tgt := 111) X.1.1 X.1.2.1 dX8_before_103 (by decide) (fun c_1 => ?_) (fun c_1 => ?_)
  · have h := o_pos c_1 h
    refine lv_iload_n X.1.1 X.1.2.1 dX8_before_111 rfl (lv_at hl 3 rfl) ?_
    exact w_X8_before_112 N X hk25 x1 s0 x4 x3 t _ _ _ hP hS (lv_sub hl [1, 2, 0, 4] rfl) h
  · have h := o_neg c_1 h
    refine lv_iload X.1.1 X.1.2.1 dX8_before_106 (lv_at hl 5 rfl) ?_
    refine lv_goto (tgt := 112) X.1.1 X.1.2.1 dX8_before_108 (by decide) ?_
    exact w_X8_before_112 N X hk25 x1 s0 x4 x5 t _ _ _ hP hS (lv_sub hl [1, 2, 0, 4] rfl) h
set_option maxRecDepth 100000 in
set_option maxHeartbeats 4000000 in
theorem w_X8_before_87 {l : Launch} {g : Ly} {p : Program} {e : Env} {s : State} {m : MethodId} {args : Array Value} {below : List Frame} {meth : Method} {c : Code} (N : Nat) (X : XC p m meth c cX8_before 7 s args (.code yX8_before cX8_before 7 (some .int)) RX8 (some .int) shR g) {r : Int32} {t' : Mm} {k25 : Int32 × Int32 × Int32 × Int32 × Mm → Option (Int32 × Mm)} (hk25 : ∀ x : Int32 × Int32 × Int32 × Int32 × Mm, k25 x = some (r, t') → ∀ (H : Heap) (locs : List Loc) (ls : Array Slot), XP shR g x.2.2.2.2 H → va_S (XA shR g) s.heap H locs → lv_has ls 7 [(0, .ref (g.2.2 (9, 0, 0))), (1, .int x.1), (2, .int x.2.1), (3, .int x.2.2.1), (4, .int x.2.2.2.1)] → W p l e (rmv 6) s m args below meth c H locs 0 0 (MQ below (XQi shR g r t') args s 0 0 (XA shR g)) (F0 m 25 ls [])) (x1 : Int32) (x2 : Int32) (x3 : Int32) (x4 : Int32) (x5 : Int32) (s0 : Int32) (t : Mm) (H : Heap) (locs : List Loc) (ls : Array Slot) (hP : XP shR g t H) (hS : va_S (XA shR g) s.heap H locs) (hl : lv_has ls 7 [(0, .ref (g.2.2 (9, 0, 0))), (1, .int x1), (2, .int x2), (3, .int x3), (4, .int x4), (5, .int x5)]) (h : f_X8_before_87 N k25 x1 x2 x3 x4 x5 s0 t = some (r, t')) : W p l e (rmv 6) s m args below meth c H locs 0 0 (MQ below (XQi shR g r t') args s 0 0 (XA shR g)) (F0 m 87 ls [.int s0]) := by
  unfold f_X8_before_87 at h
  refine lv_istore (lv' := [(6, .int s0), (0, .ref (g.2.2 (9, 0, 0))), (1, .int x1), (2, .int x2), (3, .int x3), (4, .int x4), (5, .int x5)]) X.1.1 X.1.2.1 dX8_before_87 hl (by decide) rfl (fun ls hl => ?_)
  refine lv_iload X.1.1 X.1.2.1 dX8_before_89 (lv_at hl 0 rfl) ?_
  refine lv_if_eq (tgt := 99) X.1.1 X.1.2.1 dX8_before_91 (by decide) (fun c_2 => ?_) (fun c_2 => ?_)
  · have h := o_pos c_2 h
    refine lv_iload_n X.1.1 X.1.2.1 dX8_before_99 rfl (lv_at hl 3 rfl) ?_
    exact w_X8_before_100 N X hk25 x1 x3 x4 x5 s0 x2 t _ _ _ hP hS (lv_sub hl [1, 2, 4, 5, 6, 0] rfl) h
  · have h := o_neg c_2 h
    refine lv_iload X.1.1 X.1.2.1 dX8_before_94 (lv_at hl 5 rfl) ?_
    refine lv_goto (tgt := 100) X.1.1 X.1.2.1 dX8_before_96 (by decide) ?_
    exact w_X8_before_100 N X hk25 x1 x3 x4 x5 s0 x4 t _ _ _ hP hS (lv_sub hl [1, 2, 4, 5, 6, 0] rfl) h
set_option maxRecDepth 100000 in
set_option maxHeartbeats 4000000 in
theorem w_X8_before_86 {l : Launch} {g : Ly} {p : Program} {e : Env} {s : State} {m : MethodId} {args : Array Value} {below : List Frame} {meth : Method} {c : Code} (N : Nat) (X : XC p m meth c cX8_before 7 s args (.code yX8_before cX8_before 7 (some .int)) RX8 (some .int) shR g) {r : Int32} {t' : Mm} {k25 : Int32 × Int32 × Int32 × Int32 × Mm → Option (Int32 × Mm)} (hk25 : ∀ x : Int32 × Int32 × Int32 × Int32 × Mm, k25 x = some (r, t') → ∀ (H : Heap) (locs : List Loc) (ls : Array Slot), XP shR g x.2.2.2.2 H → va_S (XA shR g) s.heap H locs → lv_has ls 7 [(0, .ref (g.2.2 (9, 0, 0))), (1, .int x.1), (2, .int x.2.1), (3, .int x.2.2.1), (4, .int x.2.2.2.1)] → W p l e (rmv 6) s m args below meth c H locs 0 0 (MQ below (XQi shR g r t') args s 0 0 (XA shR g)) (F0 m 25 ls [])) (x1 : Int32) (x2 : Int32) (x3 : Int32) (x4 : Int32) (x5 : Int32) (t : Mm) (H : Heap) (locs : List Loc) (ls : Array Slot) (hP : XP shR g t H) (hS : va_S (XA shR g) s.heap H locs) (hl : lv_has ls 7 [(0, .ref (g.2.2 (9, 0, 0))), (1, .int x1), (2, .int x2), (3, .int x3), (4, .int x4), (5, .int x5)]) (h : f_X8_before_86 N k25 x1 x2 x3 x4 x5 t = some (r, t')) : W p l e (rmv 6) s m args below meth c H locs 0 0 (MQ below (XQi shR g r t') args s 0 0 (XA shR g)) (F0 m 86 ls []) := by
  unfold f_X8_before_86 at h
  refine lv_iconst (v := 0) X.1.1 X.1.2.1 dX8_before_86 (by decide) ?_
  exact w_X8_before_87 N X hk25 x1 x2 x3 x4 x5 0 t _ _ _ hP hS (lv_sub hl [0, 1, 2, 3, 4, 5] rfl) h
set_option maxRecDepth 100000 in
set_option maxHeartbeats 4000000 in
theorem wb_X8_before_25 {l : Launch} {g : Ly} {p : Program} {e : Env} {s : State} {m : MethodId} {args : Array Value} {below : List Frame} {meth : Method} {c : Code} (N : Nat) (X : XC p m meth c cX8_before 7 s args (.code yX8_before cX8_before 7 (some .int)) RX8 (some .int) shR g) {r : Int32} {t' : Mm} {k25 : Int32 × Int32 × Int32 × Int32 × Mm → Option (Int32 × Mm)} (hk25 : ∀ x : Int32 × Int32 × Int32 × Int32 × Mm, k25 x = some (r, t') → ∀ (H : Heap) (locs : List Loc) (ls : Array Slot), XP shR g x.2.2.2.2 H → va_S (XA shR g) s.heap H locs → lv_has ls 7 [(0, .ref (g.2.2 (9, 0, 0))), (1, .int x.1), (2, .int x.2.1), (3, .int x.2.2.1), (4, .int x.2.2.2.1)] → W p l e (rmv 6) s m args below meth c H locs 0 0 (MQ below (XQi shR g r t') args s 0 0 (XA shR g)) (F0 m 25 ls [])) (x1 : Int32) (x2 : Int32) (x3 : Int32) (x4 : Int32) (t : Mm) (H : Heap) (locs : List Loc) (ls : Array Slot) (hP : XP shR g t H) (hS : va_S (XA shR g) s.heap H locs) (hl : lv_has ls 7 [(0, .ref (g.2.2 (9, 0, 0))), (1, .int x1), (2, .int x2), (3, .int x3), (4, .int x4)]) (h : b_X8_before_25 N k25 x1 x2 x3 x4 t = some (r, t')) : W p l e (rmv 6) s m args below meth c H locs 0 0 (MQ below (XQi shR g r t') args s 0 0 (XA shR g)) (F0 m 25 ls []) := by
  unfold b_X8_before_25 at h
  refine lv_iload X.1.1 X.1.2.1 dX8_before_25 (lv_at hl 4 rfl) ?_
  refine lv_bipush (v := 41) X.1.1 X.1.2.1 dX8_before_27 (by decide) ?_
  refine lv_icmp_ge (tgt := 119) X.1.1 X.1.2.1 dX8_before_29 (by decide) (fun c_3 => ?_) (fun c_3 => ?_)
  · have h := o_pos c_3 h
    refine lv_iload_n X.1.1 X.1.2.1 dX8_before_119 rfl (lv_at hl 2 rfl) ?_
    obtain ⟨rfl, rfl⟩ := o_ret2 h
    exact x_iret X hP hS dX8_before_120
  · have h := o_neg c_3 h
    refine lv_aload_n X.1.1 X.1.2.1 dX8_before_32 rfl (lv_at hl 0 rfl) ?_
    refine gt_X8_4 X hP (kyM (by decide)) wd_884 dX8_before_33 ?_
    refine lv_bipush (v := 19) X.1.1 X.1.2.1 dX8_before_36 (by decide) ?_
    refine lv_iload_n X.1.1 X.1.2.1 dX8_before_38 rfl (lv_at hl 1 rfl) ?_
    refine lv_iadd X.1.1 X.1.2.1 dX8_before_39 ?_
    obtain ⟨g_4, h⟩ := o_gd_inv h
    refine x_iald X hP (kyM (by decide)) (fun _ _ => rfl) g_4 dX8_before_40 ?_
    refine lv_if_ne (tgt := 119) X.1.1 X.1.2.1 dX8_before_41 (by decide) (fun c_5 => ?_) (fun c_5 => ?_)
    · have h := o_neg c_5 h
      refine lv_iload_n X.1.1 X.1.2.1 dX8_before_119 rfl (lv_at hl 2 rfl) ?_
      obtain ⟨rfl, rfl⟩ := o_ret2 h
      exact x_iret X hP hS dX8_before_120
    · have h := o_pos c_5 h
      refine lv_aload_n X.1.1 X.1.2.1 dX8_before_44 rfl (lv_at hl 0 rfl) ?_
      obtain ⟨t_6, hc_7, h⟩ := o_bd_inv h
      refine x_callv (x_runV (As := []) (rest := []) X hP hS (c_X8_aside l g N X.2.2.2.2.1 t hc_7) ⟨wd_1014, wd_1011, wd_1013, wd_27, wd_62⟩ hd_X8_aside ⟨by omega, by decide⟩ (x_recv X hP (ci := 8) rfl (kyM (by decide)) rfl) rfl hl.1 rfl (Nat.le_of_ble_eq_true rfl) dX8_before_45) hS (fun H locs hP hS => ?_)
      refine lv_aload_n X.1.1 X.1.2.1 dX8_before_48 rfl (lv_at hl 0 rfl) ?_
      refine gt_X8_5 X hP (kyM (by decide)) wd_885 dX8_before_49 ?_
      refine lv_bipush (v := 14) X.1.1 X.1.2.1 dX8_before_52 (by decide) ?_
      refine lv_iload_n X.1.1 X.1.2.1 dX8_before_54 rfl (lv_at hl 1 rfl) ?_
      refine lv_iadd X.1.1 X.1.2.1 dX8_before_55 ?_
      refine lv_iload X.1.1 X.1.2.1 dX8_before_56 (lv_at hl 4 rfl) ?_
      obtain ⟨g_8, h⟩ := o_gd_inv h
      obtain ⟨t_9, e_10, h⟩ := o_nm_inv h
      refine x_iast X hP hS (kyM (by decide)) (fun _ _ => rfl) g_8 dX8_before_58 (fun H locs hP hS => ?_)
      have hP : XP shR g t_9 H := by rw [e_10]; exact hP
      refine lv_aload_n X.1.1 X.1.2.1 dX8_before_59 rfl (lv_at hl 0 rfl) ?_
      refine lv_iload_n X.1.1 X.1.2.1 dX8_before_60 rfl (lv_at hl 1 rfl) ?_
      obtain ⟨⟨r_13, t_11⟩, hc_12, h⟩ := o_bd_inv h
      refine x_calli (x_runV (As := [.int x1]) (rest := []) X hP hS (c_X8_overHour l g N X.2.2.2.2.1 x1 t_9 hc_12) ⟨wd_1154, wd_1151, wd_1153, wd_43, wd_62⟩ hd_X8_overHour ⟨by omega, by decide⟩ (x_recv X hP (ci := 8) rfl (kyM (by decide)) rfl) rfl hl.1 rfl (Nat.le_of_ble_eq_true rfl) dX8_before_61) hS (fun H locs hP hS => ?_)
      refine lv_istore (lv' := [(5, .int r_13), (0, .ref (g.2.2 (9, 0, 0))), (1, .int x1), (2, .int x2), (3, .int x3), (4, .int x4)]) X.1.1 X.1.2.1 dX8_before_64 hl (by decide) rfl (fun ls hl => ?_)
      refine lv_iload X.1.1 X.1.2.1 dX8_before_66 (lv_at hl 0 rfl) ?_
      refine lv_bipush (v := (-4)) X.1.1 X.1.2.1 dX8_before_68 (by decide) ?_
      refine lv_icmp_eq (tgt := 86) X.1.1 X.1.2.1 dX8_before_70 (by decide) (fun c_15 => ?_) (fun c_15 => ?_)
      · have h := o_pos c_15 h
        exact w_X8_before_86 N X hk25 x1 x2 x3 x4 r_13 t_11 _ _ _ hP hS (lv_sub hl [1, 2, 3, 4, 5, 0] rfl) h
      · have h := o_neg c_15 h
        refine lv_iload_n X.1.1 X.1.2.1 dX8_before_73 rfl (lv_at hl 4 rfl) ?_
        refine lv_iload X.1.1 X.1.2.1 dX8_before_74 (lv_at hl 0 rfl) ?_
        obtain ⟨⟨r_18, t_16⟩, hc_17, h⟩ := o_bd_inv h
        refine x_calli (x_runS (As := [.int x3, .int r_13]) (rest := []) X hP hS (c_X8_isSooner l g X.2.2.2.2.1 x3 r_13 t_11 hc_17) ⟨wd_1190, wd_1188, wd_1189, wd_62⟩ hd_X8_isSooner ⟨by omega, by decide⟩ rfl hl.1 rfl (Nat.le_of_ble_eq_true rfl) dX8_before_76) hS (fun H locs hP hS => ?_)
        refine lv_if_ne (tgt := 86) X.1.1 X.1.2.1 dX8_before_79 (by decide) (fun c_20 => ?_) (fun c_20 => ?_)
        · have h := o_neg c_20 h
          exact w_X8_before_86 N X hk25 x1 x2 x3 x4 r_13 t_16 _ _ _ hP hS (lv_sub hl [1, 2, 3, 4, 5, 0] rfl) h
        · have h := o_pos c_20 h
          refine lv_iconst (v := 1) X.1.1 X.1.2.1 dX8_before_82 (by decide) ?_
          refine lv_goto (tgt := 87) X.1.1 X.1.2.1 dX8_before_83 (by decide) ?_
          exact w_X8_before_87 N X hk25 x1 x2 x3 x4 r_13 1 t_16 _ _ _ hP hS (lv_sub hl [1, 2, 3, 4, 5, 0] rfl) h
set_option maxRecDepth 100000 in
set_option maxHeartbeats 4000000 in
theorem w_X8_before_25 {l : Launch} {g : Ly} {p : Program} {e : Env} {s : State} {m : MethodId} {args : Array Value} {below : List Frame} {meth : Method} {c : Code} (N : Nat) (X : XC p m meth c cX8_before 7 s args (.code yX8_before cX8_before 7 (some .int)) RX8 (some .int) shR g) {r : Int32} {t' : Mm} (x1 : Int32) (x2 : Int32) (x3 : Int32) (x4 : Int32) (t : Mm) (H : Heap) (locs : List Loc) (ls : Array Slot) (hP : XP shR g t H) (hS : va_S (XA shR g) s.heap H locs) (hl : lv_has ls 7 [(0, .ref (g.2.2 (9, 0, 0))), (1, .int x1), (2, .int x2), (3, .int x3), (4, .int x4)]) (h : f_X8_before_25 N x1 x2 x3 x4 t = some (r, t')) : W p l e (rmv 6) s m args below meth c H locs 0 0 (MQ below (XQi shR g r t') args s 0 0 (XA shR g)) (F0 m 25 ls []) :=
  o_lp_ind (P := fun x : Int32 × Int32 × Int32 × Int32 × Mm => ∀ (H : Heap) (locs : List Loc) (ls : Array Slot), XP shR g x.2.2.2.2 H → va_S (XA shR g) s.heap H locs → lv_has ls 7 [(0, .ref (g.2.2 (9, 0, 0))), (1, .int x.1), (2, .int x.2.1), (3, .int x.2.2.1), (4, .int x.2.2.2.1)] → W p l e (rmv 6) s m args below meth c H locs 0 0 (MQ below (XQi shR g r t') args s 0 0 (XA shR g)) (F0 m 25 ls [])) (fun k hk x h H locs ls hP hS hl => wb_X8_before_25 N X hk x.1 x.2.1 x.2.2.1 x.2.2.2.1 x.2.2.2.2 H locs ls hP hS hl h) N (x1, x2, x3, x4, t) h H locs ls hP hS hl
set_option maxRecDepth 100000 in
set_option maxHeartbeats 4000000 in
theorem c_X8_before (l : Launch) (g : Ly) (N : Nat) (hG : XG shR g) (a0 : Int32) (t : Mm) {r : Int32} {t' : Mm} (h : f_X8_before N a0 t = some (r, t')) : MI l yX8_before cX8_before 7 (some .int) 6 shR g [.ref (g.2.2 (9, 0, 0)), .int a0] t (XQi shR g r t') := by
  refine x_met hG (by decide +kernel) (Nat.le_of_ble_eq_true rfl) ?_
  intro p e s m below meth c ls X hP hl
  have hS : va_S (XA shR g) s.heap s.heap [] := va_S.rf
  have hl : lv_has ls 7 [(0, .ref (g.2.2 (9, 0, 0))), (1, .int a0)] := hl
  unfold f_X8_before at h
  generalize ([.ref (g.2.2 (9, 0, 0)), .int a0] : List Value).toArray = args at X ⊢
  refine lv_aload_n X.1.1 X.1.2.1 dX8_before_0 rfl (lv_at hl 0 rfl) ?_
  refine lv_iload_n X.1.1 X.1.2.1 dX8_before_1 rfl (lv_at hl 1 rfl) ?_
  obtain ⟨⟨r_23, t_21⟩, hc_22, h⟩ := o_bd_inv h
  refine x_calli (x_runV (As := [.int a0]) (rest := []) X hP hS (c_X8_isCrosser l g X.2.2.2.2.1 a0 t hc_22) ⟨wd_1006, wd_1003, wd_1005, wd_26, wd_62⟩ hd_X8_isCrosser ⟨by omega, by decide⟩ (x_recv X hP (ci := 8) rfl (kyM (by decide)) rfl) rfl hl.1 rfl (Nat.le_of_ble_eq_true rfl) dX8_before_2) hS (fun H locs hP hS => ?_)
  refine lv_if_ne (tgt := 10) X.1.1 X.1.2.1 dX8_before_5 (by decide) (fun c_25 => ?_) (fun c_25 => ?_)
  · have h := o_neg c_25 h
    refine lv_bipush (v := (-4)) X.1.1 X.1.2.1 dX8_before_10 (by decide) ?_
    refine lv_istore_n (lv' := [(2, .int (-4)), (0, .ref (g.2.2 (9, 0, 0))), (1, .int a0)]) X.1.1 X.1.2.1 dX8_before_12 rfl hl (by decide) rfl (fun ls hl => ?_)
    refine lv_bipush (v := (-4)) X.1.1 X.1.2.1 dX8_before_13 (by decide) ?_
    refine lv_istore_n (lv' := [(3, .int (-4)), (2, .int (-4)), (0, .ref (g.2.2 (9, 0, 0))), (1, .int a0)]) X.1.1 X.1.2.1 dX8_before_15 rfl hl (by decide) rfl (fun ls hl => ?_)
    refine lv_aload_n X.1.1 X.1.2.1 dX8_before_16 rfl (lv_at hl 2 rfl) ?_
    refine gt_X8_4 X hP (kyM (by decide)) wd_884 dX8_before_17 ?_
    refine lv_bipush (v := 29) X.1.1 X.1.2.1 dX8_before_20 (by decide) ?_
    obtain ⟨g_26, h⟩ := o_gd_inv h
    refine x_iald X hP (kyM (by decide)) (fun _ _ => rfl) g_26 dX8_before_22 ?_
    refine lv_topi (fun x_27 e_28 => ?_)
    have h := o_nm_to e_28 h
    refine lv_istore (lv' := [(4, .int x_27), (3, .int (-4)), (2, .int (-4)), (0, .ref (g.2.2 (9, 0, 0))), (1, .int a0)]) X.1.1 X.1.2.1 dX8_before_23 hl (by decide) rfl (fun ls hl => ?_)
    exact w_X8_before_25 N X a0 (-4) (-4) x_27 t_21 _ _ _ hP hS (lv_sub hl [3, 4, 2, 1, 0] rfl) h
  · have h := o_pos c_25 h
    refine lv_iconst (v := (-1)) X.1.1 X.1.2.1 dX8_before_8 (by decide) ?_
    obtain ⟨rfl, rfl⟩ := o_ret2 h
    exact x_iret X hP hS dX8_before_9
def b_X8_cramp_232 (N : Nat) (k232 : Int32 × Int32 × Int32 × Int32 × Int32 × Mm → Option (Int32 × Mm)) (x3 : Int32) (x4 : Int32) (x5 : Int32) (x6 : Int32) (x7 : Int32) (t : Mm) : Option (Int32 × Mm) := if x7 = 0 then (if x3 = 0 then (if ¬ (x6 = 0) then (some ((x4 / x6), t)) else none) else (if ¬ (x6 = 0) then (some ((x5 / x6), t)) else none)) else (if ¬ (x7 = 0) then (k232 (x3, x4, x5, x7, (x6 - x6 / x7 * x7), t)) else none)
def f_X8_cramp_232 (N : Nat) (x3 : Int32) (x4 : Int32) (x5 : Int32) (x6 : Int32) (x7 : Int32) (t : Mm) : Option (Int32 × Mm) := o_lp (fun k x => b_X8_cramp_232 N k x.1 x.2.1 x.2.2.1 x.2.2.2.1 x.2.2.2.2.1 x.2.2.2.2.2) N (x3, x4, x5, x6, x7, t)
def f_X8_cramp_215 (N : Nat) (k45 : Int32 × Int32 × Int32 × Int32 × Int32 × Int32 × Mm → Option (Int32 × Mm)) (x1 : Int32) (x2 : Int32) (x3 : Int32) (x5 : Int32) (x6 : Int32) (s0 : Int32) (s1 : Int32) (t : Mm) : Option (Int32 × Mm) := k45 (x1, x2, x3, (s0 + s1), x5, (x6 + 1), t)
def f_X8_cramp_185 (N : Nat) (k45 : Int32 × Int32 × Int32 × Int32 × Int32 × Int32 × Mm → Option (Int32 × Mm)) (k65 : Int32 × Int32 × Int32 × Int32 × Int32 × Int32 × Int32 × Int32 × Int32 × Mm → Option (Int32 × Mm)) (x1 : Int32) (x2 : Int32) (x3 : Int32) (x4 : Int32) (x5 : Int32) (x6 : Int32) (x7 : Int32) (x9 : Int32) (s0 : Int32) (s1 : Int32) (t : Mm) : Option (Int32 × Mm) := k65 (x1, x2, x3, x4, x5, x6, x7, (s0 + s1), (x9 + 1), t)
def f_X8_cramp_184 (N : Nat) (k45 : Int32 × Int32 × Int32 × Int32 × Int32 × Int32 × Mm → Option (Int32 × Mm)) (k65 : Int32 × Int32 × Int32 × Int32 × Int32 × Int32 × Int32 × Int32 × Int32 × Mm → Option (Int32 × Mm)) (x1 : Int32) (x2 : Int32) (x3 : Int32) (x4 : Int32) (x5 : Int32) (x6 : Int32) (x7 : Int32) (x9 : Int32) (s0 : Int32) (t : Mm) : Option (Int32 × Mm) := f_X8_cramp_185 N k45 k65 x1 x2 x3 x4 x5 x6 x7 x9 s0 0 t
def f_X8_cramp_167 (N : Nat) (k45 : Int32 × Int32 × Int32 × Int32 × Int32 × Int32 × Mm → Option (Int32 × Mm)) (k65 : Int32 × Int32 × Int32 × Int32 × Int32 × Int32 × Int32 × Int32 × Int32 × Mm → Option (Int32 × Mm)) (x1 : Int32) (x2 : Int32) (x3 : Int32) (x4 : Int32) (x5 : Int32) (x6 : Int32) (x7 : Int32) (x9 : Int32) (s0 : Int32) (s1 : Int32) (s2 : Int32) (t : Mm) : Option (Int32 × Mm) := if o_inb 29 31 = true then (if (s1 + s2) ≤ ((t.1 9 0 4 (Int32.toNatClampNeg 29)) + 1) then (f_X8_cramp_184 N k45 k65 x1 x2 x3 x4 x5 x6 x7 x9 s0 t) else (f_X8_cramp_185 N k45 k65 x1 x2 x3 x4 x5 x6 x7 x9 s0 1 t)) else none
def f_X8_cramp_137 (N : Nat) (k45 : Int32 × Int32 × Int32 × Int32 × Int32 × Int32 × Mm → Option (Int32 × Mm)) (k65 : Int32 × Int32 × Int32 × Int32 × Int32 × Int32 × Int32 × Int32 × Int32 × Mm → Option (Int32 × Mm)) (x1 : Int32) (x2 : Int32) (x3 : Int32) (x4 : Int32) (x5 : Int32) (x6 : Int32) (x8 : Int32) (x9 : Int32) (x10 : Int32) (x11 : Int32) (s0 : Int32) (s1 : Int32) (t : Mm) : Option (Int32 × Mm) := if x10 = 0 then (f_X8_cramp_184 N k45 k65 x1 x2 x3 x4 x5 x6 (s0 * s1) x9 x8 t) else (if o_inb (24 + x9) 31 = true then (if x11 = 0 then (f_X8_cramp_167 N k45 k65 x1 x2 x3 x4 x5 x6 (s0 * s1) x9 x8 (t.1 9 0 4 ((24 + x9).toNatClampNeg)) 0 t) else (f_X8_cramp_167 N k45 k65 x1 x2 x3 x4 x5 x6 (s0 * s1) x9 x8 (t.1 9 0 4 ((24 + x9).toNatClampNeg)) 1 t)) else none)
def f_X8_cramp_93 (N : Nat) (k45 : Int32 × Int32 × Int32 × Int32 × Int32 × Int32 × Mm → Option (Int32 × Mm)) (k65 : Int32 × Int32 × Int32 × Int32 × Int32 × Int32 × Int32 × Int32 × Int32 × Mm → Option (Int32 × Mm)) (x1 : Int32) (x2 : Int32) (x3 : Int32) (x4 : Int32) (x5 : Int32) (x6 : Int32) (x7 : Int32) (x8 : Int32) (x9 : Int32) (s0 : Int32) (t : Mm) : Option (Int32 × Mm) := o_bd (f_X8_has x6 x9 t) fun (r_13, t_11) => if s0 = 0 then (if r_13 = 0 then (f_X8_cramp_137 N k45 k65 x1 x2 x3 x4 x5 x6 x8 x9 s0 r_13 x7 1 t_11) else (f_X8_cramp_137 N k45 k65 x1 x2 x3 x4 x5 x6 x8 x9 s0 r_13 x7 0 t_11)) else (if r_13 = 0 then (f_X8_cramp_137 N k45 k65 x1 x2 x3 x4 x5 x6 x8 x9 s0 r_13 x7 (10 - x2) t_11) else (f_X8_cramp_137 N k45 k65 x1 x2 x3 x4 x5 x6 x8 x9 s0 r_13 x7 x2 t_11))
def b_X8_cramp_65 (N : Nat) (k45 : Int32 × Int32 × Int32 × Int32 × Int32 × Int32 × Mm → Option (Int32 × Mm)) (k65 : Int32 × Int32 × Int32 × Int32 × Int32 × Int32 × Int32 × Int32 × Int32 × Mm → Option (Int32 × Mm)) (x1 : Int32) (x2 : Int32) (x3 : Int32) (x4 : Int32) (x5 : Int32) (x6 : Int32) (x7 : Int32) (x8 : Int32) (x9 : Int32) (t : Mm) : Option (Int32 × Mm) := if (t.1 9 0 0 1) ≤ x9 then (if x8 < x1 then (f_X8_cramp_215 N k45 x1 x2 x3 (x5 + x7) x6 x4 0 t) else (f_X8_cramp_215 N k45 x1 x2 x3 (x5 + x7) x6 x4 x7 t)) else (if o_inb (19 + x9) 31 = true then (if (t.1 9 0 4 ((19 + x9).toNatClampNeg)) = 1 then (f_X8_cramp_93 N k45 k65 x1 x2 x3 x4 x5 x6 x7 x8 x9 1 t) else (f_X8_cramp_93 N k45 k65 x1 x2 x3 x4 x5 x6 x7 x8 x9 0 t)) else none)
def f_X8_cramp_65 (N : Nat) (k45 : Int32 × Int32 × Int32 × Int32 × Int32 × Int32 × Mm → Option (Int32 × Mm)) (x1 : Int32) (x2 : Int32) (x3 : Int32) (x4 : Int32) (x5 : Int32) (x6 : Int32) (x7 : Int32) (x8 : Int32) (x9 : Int32) (t : Mm) : Option (Int32 × Mm) := o_lp (fun k x => b_X8_cramp_65 N k45 k x.1 x.2.1 x.2.2.1 x.2.2.2.1 x.2.2.2.2.1 x.2.2.2.2.2.1 x.2.2.2.2.2.2.1 x.2.2.2.2.2.2.2.1 x.2.2.2.2.2.2.2.2.1 x.2.2.2.2.2.2.2.2.2) N (x1, x2, x3, x4, x5, x6, x7, x8, x9, t)
def b_X8_cramp_45 (N : Nat) (k45 : Int32 × Int32 × Int32 × Int32 × Int32 × Int32 × Mm → Option (Int32 × Mm)) (x1 : Int32) (x2 : Int32) (x3 : Int32) (x4 : Int32) (x5 : Int32) (x6 : Int32) (t : Mm) : Option (Int32 × Mm) := if (1 <<< ((t.1 9 0 0 1) &&& 31)) ≤ x6 then (f_X8_cramp_232 N x3 x4 x5 x4 x5 t) else (f_X8_cramp_65 N k45 x1 x2 x3 x4 x5 x6 1 0 0 t)
def f_X8_cramp_45 (N : Nat) (x1 : Int32) (x2 : Int32) (x3 : Int32) (x4 : Int32) (x5 : Int32) (x6 : Int32) (t : Mm) : Option (Int32 × Mm) := o_lp (fun k x => b_X8_cramp_45 N k x.1 x.2.1 x.2.2.1 x.2.2.2.1 x.2.2.2.2.1 x.2.2.2.2.2.1 x.2.2.2.2.2.2) N (x1, x2, x3, x4, x5, x6, t)
/-- FordQuestionsModel.cramp(III)I -/
def f_X8_cramp (N : Nat) (a0 : Int32) (a1 : Int32) (a2 : Int32) (t : Mm) : Option (Int32 × Mm) := o_bd (f_X8_in (a0.toInt64) 0 5 t) fun (r_25, t_23) => if r_25 = 0 then (some ((-1), t_23)) else (o_bd (f_X8_in (a1.toInt64) 0 10 t_23) fun (r_30, t_28) => if r_30 = 0 then (some ((-1), t_28)) else (o_bd (f_X8_in (a2.toInt64) 0 1 t_28) fun (r_35, t_33) => if r_35 = 0 then (some ((-1), t_33)) else (f_X8_cramp_45 N a0 a1 a2 0 0 0 t_33)))
theorem hd_X8_cramp : x_hd yX8_cramp 3 := by decide +kernel
set_option maxRecDepth 100000 in
set_option maxHeartbeats 4000000 in
theorem wb_X8_cramp_232 {l : Launch} {g : Ly} {p : Program} {e : Env} {s : State} {m : MethodId} {args : Array Value} {below : List Frame} {meth : Method} {c : Code} (N : Nat) (X : XC p m meth c cX8_cramp 12 s args (.code yX8_cramp cX8_cramp 12 (some .int)) RX8 (some .int) shR g) {r : Int32} {t' : Mm} {k232 : Int32 × Int32 × Int32 × Int32 × Int32 × Mm → Option (Int32 × Mm)} (hk232 : ∀ x : Int32 × Int32 × Int32 × Int32 × Int32 × Mm, k232 x = some (r, t') → ∀ (H : Heap) (locs : List Loc) (ls : Array Slot), XP shR g x.2.2.2.2.2 H → va_S (XA shR g) s.heap H locs → lv_has ls 12 [(3, .int x.1), (4, .int x.2.1), (5, .int x.2.2.1), (6, .int x.2.2.2.1), (7, .int x.2.2.2.2.1)] → W p l e (rmv 2) s m args below meth c H locs 0 0 (MQ below (XQi shR g r t') args s 0 0 (XA shR g)) (F0 m 232 ls [])) (x3 : Int32) (x4 : Int32) (x5 : Int32) (x6 : Int32) (x7 : Int32) (t : Mm) (H : Heap) (locs : List Loc) (ls : Array Slot) (hP : XP shR g t H) (hS : va_S (XA shR g) s.heap H locs) (hl : lv_has ls 12 [(3, .int x3), (4, .int x4), (5, .int x5), (6, .int x6), (7, .int x7)]) (h : b_X8_cramp_232 N k232 x3 x4 x5 x6 x7 t = some (r, t')) : W p l e (rmv 2) s m args below meth c H locs 0 0 (MQ below (XQi shR g r t') args s 0 0 (XA shR g)) (F0 m 232 ls []) := by
  unfold b_X8_cramp_232 at h
  refine lv_iload X.1.1 X.1.2.1 dX8_cramp_232 (lv_at hl 4 rfl) ?_
  refine lv_if_eq (tgt := 255) X.1.1 X.1.2.1 dX8_cramp_234 (by decide) (fun c_1 => ?_) (fun c_1 => ?_)
  · have h := o_pos c_1 h
    refine lv_iload_n X.1.1 X.1.2.1 dX8_cramp_255 rfl (lv_at hl 0 rfl) ?_
    refine lv_if_ne (tgt := 267) X.1.1 X.1.2.1 dX8_cramp_256 (by decide) (fun c_2 => ?_) (fun c_2 => ?_)
    · have h := o_neg c_2 h
      refine lv_iload X.1.1 X.1.2.1 dX8_cramp_267 (lv_at hl 2 rfl) ?_
      refine lv_iload X.1.1 X.1.2.1 dX8_cramp_269 (lv_at hl 3 rfl) ?_
      obtain ⟨g_3, h⟩ := o_gd_inv h
      refine lv_idiv X.1.1 X.1.2.1 dX8_cramp_271 g_3 ?_
      obtain ⟨rfl, rfl⟩ := o_ret2 h
      exact x_iret X hP hS dX8_cramp_272
    · have h := o_pos c_2 h
      refine lv_iload X.1.1 X.1.2.1 dX8_cramp_259 (lv_at hl 1 rfl) ?_
      refine lv_iload X.1.1 X.1.2.1 dX8_cramp_261 (lv_at hl 3 rfl) ?_
      obtain ⟨g_4, h⟩ := o_gd_inv h
      refine lv_idiv X.1.1 X.1.2.1 dX8_cramp_263 g_4 ?_
      refine lv_goto (tgt := 272) X.1.1 X.1.2.1 dX8_cramp_264 (by decide) ?_
      obtain ⟨rfl, rfl⟩ := o_ret2 h
      exact x_iret X hP hS dX8_cramp_272
  · have h := o_neg c_1 h
    refine lv_iload X.1.1 X.1.2.1 dX8_cramp_237 (lv_at hl 3 rfl) ?_
    refine lv_iload X.1.1 X.1.2.1 dX8_cramp_239 (lv_at hl 4 rfl) ?_
    obtain ⟨g_5, h⟩ := o_gd_inv h
    refine lv_irem X.1.1 X.1.2.1 dX8_cramp_241 g_5 ?_
    refine lv_istore (lv' := [(8, .int (x6 - x6 / x7 * x7)), (3, .int x3), (4, .int x4), (5, .int x5), (6, .int x6), (7, .int x7)]) X.1.1 X.1.2.1 dX8_cramp_242 hl (by decide) rfl (fun ls hl => ?_)
    refine lv_iload X.1.1 X.1.2.1 dX8_cramp_244 (lv_at hl 5 rfl) ?_
    refine lv_istore (lv' := [(6, .int x7), (8, .int (x6 - x6 / x7 * x7)), (3, .int x3), (4, .int x4), (5, .int x5), (7, .int x7)]) X.1.1 X.1.2.1 dX8_cramp_246 hl (by decide) rfl (fun ls hl => ?_)
    refine lv_iload X.1.1 X.1.2.1 dX8_cramp_248 (lv_at hl 1 rfl) ?_
    refine lv_istore (lv' := [(7, .int (x6 - x6 / x7 * x7)), (6, .int x7), (8, .int (x6 - x6 / x7 * x7)), (3, .int x3), (4, .int x4), (5, .int x5)]) X.1.1 X.1.2.1 dX8_cramp_250 hl (by decide) rfl (fun ls hl => ?_)
    refine lv_goto (tgt := 232) X.1.1 X.1.2.1 dX8_cramp_252 (by decide) ?_
    exact hk232 (x3, x4, x5, x7, (x6 - x6 / x7 * x7), t) h _ _ _ hP hS (lv_sub hl [3, 4, 5, 1, 0] rfl)
set_option maxRecDepth 100000 in
set_option maxHeartbeats 4000000 in
theorem w_X8_cramp_232 {l : Launch} {g : Ly} {p : Program} {e : Env} {s : State} {m : MethodId} {args : Array Value} {below : List Frame} {meth : Method} {c : Code} (N : Nat) (X : XC p m meth c cX8_cramp 12 s args (.code yX8_cramp cX8_cramp 12 (some .int)) RX8 (some .int) shR g) {r : Int32} {t' : Mm} (x3 : Int32) (x4 : Int32) (x5 : Int32) (x6 : Int32) (x7 : Int32) (t : Mm) (H : Heap) (locs : List Loc) (ls : Array Slot) (hP : XP shR g t H) (hS : va_S (XA shR g) s.heap H locs) (hl : lv_has ls 12 [(3, .int x3), (4, .int x4), (5, .int x5), (6, .int x6), (7, .int x7)]) (h : f_X8_cramp_232 N x3 x4 x5 x6 x7 t = some (r, t')) : W p l e (rmv 2) s m args below meth c H locs 0 0 (MQ below (XQi shR g r t') args s 0 0 (XA shR g)) (F0 m 232 ls []) :=
  o_lp_ind (P := fun x : Int32 × Int32 × Int32 × Int32 × Int32 × Mm => ∀ (H : Heap) (locs : List Loc) (ls : Array Slot), XP shR g x.2.2.2.2.2 H → va_S (XA shR g) s.heap H locs → lv_has ls 12 [(3, .int x.1), (4, .int x.2.1), (5, .int x.2.2.1), (6, .int x.2.2.2.1), (7, .int x.2.2.2.2.1)] → W p l e (rmv 2) s m args below meth c H locs 0 0 (MQ below (XQi shR g r t') args s 0 0 (XA shR g)) (F0 m 232 ls [])) (fun k hk x h H locs ls hP hS hl => wb_X8_cramp_232 N X hk x.1 x.2.1 x.2.2.1 x.2.2.2.1 x.2.2.2.2.1 x.2.2.2.2.2 H locs ls hP hS hl h) N (x3, x4, x5, x6, x7, t) h H locs ls hP hS hl
set_option maxRecDepth 100000 in
set_option maxHeartbeats 4000000 in
theorem w_X8_cramp_215 {l : Launch} {g : Ly} {p : Program} {e : Env} {s : State} {m : MethodId} {args : Array Value} {below : List Frame} {meth : Method} {c : Code} (N : Nat) (X : XC p m meth c cX8_cramp 12 s args (.code yX8_cramp cX8_cramp 12 (some .int)) RX8 (some .int) shR g) {r : Int32} {t' : Mm} {k45 : Int32 × Int32 × Int32 × Int32 × Int32 × Int32 × Mm → Option (Int32 × Mm)} (hk45 : ∀ x : Int32 × Int32 × Int32 × Int32 × Int32 × Int32 × Mm, k45 x = some (r, t') → ∀ (H : Heap) (locs : List Loc) (ls : Array Slot), XP shR g x.2.2.2.2.2.2 H → va_S (XA shR g) s.heap H locs → lv_has ls 12 [(0, .ref (g.2.2 (9, 0, 0))), (1, .int x.1), (2, .int x.2.1), (3, .int x.2.2.1), (4, .int x.2.2.2.1), (5, .int x.2.2.2.2.1), (6, .int x.2.2.2.2.2.1)] → W p l e (rmv 2) s m args below meth c H locs 0 0 (MQ below (XQi shR g r t') args s 0 0 (XA shR g)) (F0 m 45 ls [])) (x1 : Int32) (x2 : Int32) (x3 : Int32) (x5 : Int32) (x6 : Int32) (s0 : Int32) (s1 : Int32) (t : Mm) (H : Heap) (locs : List Loc) (ls : Array Slot) (hP : XP shR g t H) (hS : va_S (XA shR g) s.heap H locs) (hl : lv_has ls 12 [(0, .ref (g.2.2 (9, 0, 0))), (1, .int x1), (2, .int x2), (3, .int x3), (5, .int x5), (6, .int x6)]) (h : f_X8_cramp_215 N k45 x1 x2 x3 x5 x6 s0 s1 t = some (r, t')) : W p l e (rmv 2) s m args below meth c H locs 0 0 (MQ below (XQi shR g r t') args s 0 0 (XA shR g)) (F0 m 215 ls [.int s1, .int s0]) := by
  unfold f_X8_cramp_215 at h
  refine lv_iadd X.1.1 X.1.2.1 dX8_cramp_215 ?_
  refine lv_istore (lv' := [(4, .int (s0 + s1)), (0, .ref (g.2.2 (9, 0, 0))), (1, .int x1), (2, .int x2), (3, .int x3), (5, .int x5), (6, .int x6)]) X.1.1 X.1.2.1 dX8_cramp_216 hl (by decide) rfl (fun ls hl => ?_)
  refine lv_iinc (v := (x6 + 1)) (lv' := [(6, .int (x6 + 1)), (4, .int (s0 + s1)), (0, .ref (g.2.2 (9, 0, 0))), (1, .int x1), (2, .int x2), (3, .int x3), (5, .int x5)]) X.1.1 X.1.2.1 dX8_cramp_218 hl (k := 6) rfl rfl (by decide) rfl (fun ls hl => ?_)
  refine lv_goto (tgt := 45) X.1.1 X.1.2.1 dX8_cramp_221 (by decide) ?_
  exact hk45 (x1, x2, x3, (s0 + s1), x5, (x6 + 1), t) h _ _ _ hP hS (lv_sub hl [2, 3, 4, 5, 1, 6, 0] rfl)
set_option maxRecDepth 100000 in
set_option maxHeartbeats 4000000 in
theorem w_X8_cramp_185 {l : Launch} {g : Ly} {p : Program} {e : Env} {s : State} {m : MethodId} {args : Array Value} {below : List Frame} {meth : Method} {c : Code} (N : Nat) (X : XC p m meth c cX8_cramp 12 s args (.code yX8_cramp cX8_cramp 12 (some .int)) RX8 (some .int) shR g) {r : Int32} {t' : Mm} {k45 : Int32 × Int32 × Int32 × Int32 × Int32 × Int32 × Mm → Option (Int32 × Mm)} (hk45 : ∀ x : Int32 × Int32 × Int32 × Int32 × Int32 × Int32 × Mm, k45 x = some (r, t') → ∀ (H : Heap) (locs : List Loc) (ls : Array Slot), XP shR g x.2.2.2.2.2.2 H → va_S (XA shR g) s.heap H locs → lv_has ls 12 [(0, .ref (g.2.2 (9, 0, 0))), (1, .int x.1), (2, .int x.2.1), (3, .int x.2.2.1), (4, .int x.2.2.2.1), (5, .int x.2.2.2.2.1), (6, .int x.2.2.2.2.2.1)] → W p l e (rmv 2) s m args below meth c H locs 0 0 (MQ below (XQi shR g r t') args s 0 0 (XA shR g)) (F0 m 45 ls [])) {k65 : Int32 × Int32 × Int32 × Int32 × Int32 × Int32 × Int32 × Int32 × Int32 × Mm → Option (Int32 × Mm)} (hk65 : ∀ x : Int32 × Int32 × Int32 × Int32 × Int32 × Int32 × Int32 × Int32 × Int32 × Mm, k65 x = some (r, t') → ∀ (H : Heap) (locs : List Loc) (ls : Array Slot), XP shR g x.2.2.2.2.2.2.2.2.2 H → va_S (XA shR g) s.heap H locs → lv_has ls 12 [(0, .ref (g.2.2 (9, 0, 0))), (1, .int x.1), (2, .int x.2.1), (3, .int x.2.2.1), (4, .int x.2.2.2.1), (5, .int x.2.2.2.2.1), (6, .int x.2.2.2.2.2.1), (7, .int x.2.2.2.2.2.2.1), (8, .int x.2.2.2.2.2.2.2.1), (9, .int x.2.2.2.2.2.2.2.2.1)] → W p l e (rmv 2) s m args below meth c H locs 0 0 (MQ below (XQi shR g r t') args s 0 0 (XA shR g)) (F0 m 65 ls [])) (x1 : Int32) (x2 : Int32) (x3 : Int32) (x4 : Int32) (x5 : Int32) (x6 : Int32) (x7 : Int32) (x9 : Int32) (s0 : Int32) (s1 : Int32) (t : Mm) (H : Heap) (locs : List Loc) (ls : Array Slot) (hP : XP shR g t H) (hS : va_S (XA shR g) s.heap H locs) (hl : lv_has ls 12 [(0, .ref (g.2.2 (9, 0, 0))), (1, .int x1), (2, .int x2), (3, .int x3), (4, .int x4), (5, .int x5), (6, .int x6), (7, .int x7), (9, .int x9)]) (h : f_X8_cramp_185 N k45 k65 x1 x2 x3 x4 x5 x6 x7 x9 s0 s1 t = some (r, t')) : W p l e (rmv 2) s m args below meth c H locs 0 0 (MQ below (XQi shR g r t') args s 0 0 (XA shR g)) (F0 m 185 ls [.int s1, .int s0]) := by
  unfold f_X8_cramp_185 at h
  refine lv_iadd X.1.1 X.1.2.1 dX8_cramp_185 ?_
  refine lv_istore (lv' := [(8, .int (s0 + s1)), (0, .ref (g.2.2 (9, 0, 0))), (1, .int x1), (2, .int x2), (3, .int x3), (4, .int x4), (5, .int x5), (6, .int x6), (7, .int x7), (9, .int x9)]) X.1.1 X.1.2.1 dX8_cramp_186 hl (by decide) rfl (fun ls hl => ?_)
  refine lv_iinc (v := (x9 + 1)) (lv' := [(9, .int (x9 + 1)), (8, .int (s0 + s1)), (0, .ref (g.2.2 (9, 0, 0))), (1, .int x1), (2, .int x2), (3, .int x3), (4, .int x4), (5, .int x5), (6, .int x6), (7, .int x7)]) X.1.1 X.1.2.1 dX8_cramp_188 hl (k := 9) rfl rfl (by decide) rfl (fun ls hl => ?_)
  refine lv_goto (tgt := 65) X.1.1 X.1.2.1 dX8_cramp_191 (by decide) ?_
  exact hk65 (x1, x2, x3, x4, x5, x6, x7, (s0 + s1), (x9 + 1), t) h _ _ _ hP hS (lv_sub hl [2, 3, 4, 5, 6, 7, 8, 9, 1, 0] rfl)
set_option maxRecDepth 100000 in
set_option maxHeartbeats 4000000 in
theorem w_X8_cramp_184 {l : Launch} {g : Ly} {p : Program} {e : Env} {s : State} {m : MethodId} {args : Array Value} {below : List Frame} {meth : Method} {c : Code} (N : Nat) (X : XC p m meth c cX8_cramp 12 s args (.code yX8_cramp cX8_cramp 12 (some .int)) RX8 (some .int) shR g) {r : Int32} {t' : Mm} {k45 : Int32 × Int32 × Int32 × Int32 × Int32 × Int32 × Mm → Option (Int32 × Mm)} (hk45 : ∀ x : Int32 × Int32 × Int32 × Int32 × Int32 × Int32 × Mm, k45 x = some (r, t') → ∀ (H : Heap) (locs : List Loc) (ls : Array Slot), XP shR g x.2.2.2.2.2.2 H → va_S (XA shR g) s.heap H locs → lv_has ls 12 [(0, .ref (g.2.2 (9, 0, 0))), (1, .int x.1), (2, .int x.2.1), (3, .int x.2.2.1), (4, .int x.2.2.2.1), (5, .int x.2.2.2.2.1), (6, .int x.2.2.2.2.2.1)] → W p l e (rmv 2) s m args below meth c H locs 0 0 (MQ below (XQi shR g r t') args s 0 0 (XA shR g)) (F0 m 45 ls [])) {k65 : Int32 × Int32 × Int32 × Int32 × Int32 × Int32 × Int32 × Int32 × Int32 × Mm → Option (Int32 × Mm)} (hk65 : ∀ x : Int32 × Int32 × Int32 × Int32 × Int32 × Int32 × Int32 × Int32 × Int32 × Mm, k65 x = some (r, t') → ∀ (H : Heap) (locs : List Loc) (ls : Array Slot), XP shR g x.2.2.2.2.2.2.2.2.2 H → va_S (XA shR g) s.heap H locs → lv_has ls 12 [(0, .ref (g.2.2 (9, 0, 0))), (1, .int x.1), (2, .int x.2.1), (3, .int x.2.2.1), (4, .int x.2.2.2.1), (5, .int x.2.2.2.2.1), (6, .int x.2.2.2.2.2.1), (7, .int x.2.2.2.2.2.2.1), (8, .int x.2.2.2.2.2.2.2.1), (9, .int x.2.2.2.2.2.2.2.2.1)] → W p l e (rmv 2) s m args below meth c H locs 0 0 (MQ below (XQi shR g r t') args s 0 0 (XA shR g)) (F0 m 65 ls [])) (x1 : Int32) (x2 : Int32) (x3 : Int32) (x4 : Int32) (x5 : Int32) (x6 : Int32) (x7 : Int32) (x9 : Int32) (s0 : Int32) (t : Mm) (H : Heap) (locs : List Loc) (ls : Array Slot) (hP : XP shR g t H) (hS : va_S (XA shR g) s.heap H locs) (hl : lv_has ls 12 [(0, .ref (g.2.2 (9, 0, 0))), (1, .int x1), (2, .int x2), (3, .int x3), (4, .int x4), (5, .int x5), (6, .int x6), (7, .int x7), (9, .int x9)]) (h : f_X8_cramp_184 N k45 k65 x1 x2 x3 x4 x5 x6 x7 x9 s0 t = some (r, t')) : W p l e (rmv 2) s m args below meth c H locs 0 0 (MQ below (XQi shR g r t') args s 0 0 (XA shR g)) (F0 m 184 ls [.int s0]) := by
  unfold f_X8_cramp_184 at h
  refine lv_iconst (v := 0) X.1.1 X.1.2.1 dX8_cramp_184 (by decide) ?_
  exact w_X8_cramp_185 N X hk45 hk65 x1 x2 x3 x4 x5 x6 x7 x9 s0 0 t _ _ _ hP hS (lv_sub hl [0, 1, 2, 3, 4, 5, 6, 7, 8] rfl) h
set_option maxRecDepth 100000 in
set_option maxHeartbeats 4000000 in
theorem w_X8_cramp_167 {l : Launch} {g : Ly} {p : Program} {e : Env} {s : State} {m : MethodId} {args : Array Value} {below : List Frame} {meth : Method} {c : Code} (N : Nat) (X : XC p m meth c cX8_cramp 12 s args (.code yX8_cramp cX8_cramp 12 (some .int)) RX8 (some .int) shR g) {r : Int32} {t' : Mm} {k45 : Int32 × Int32 × Int32 × Int32 × Int32 × Int32 × Mm → Option (Int32 × Mm)} (hk45 : ∀ x : Int32 × Int32 × Int32 × Int32 × Int32 × Int32 × Mm, k45 x = some (r, t') → ∀ (H : Heap) (locs : List Loc) (ls : Array Slot), XP shR g x.2.2.2.2.2.2 H → va_S (XA shR g) s.heap H locs → lv_has ls 12 [(0, .ref (g.2.2 (9, 0, 0))), (1, .int x.1), (2, .int x.2.1), (3, .int x.2.2.1), (4, .int x.2.2.2.1), (5, .int x.2.2.2.2.1), (6, .int x.2.2.2.2.2.1)] → W p l e (rmv 2) s m args below meth c H locs 0 0 (MQ below (XQi shR g r t') args s 0 0 (XA shR g)) (F0 m 45 ls [])) {k65 : Int32 × Int32 × Int32 × Int32 × Int32 × Int32 × Int32 × Int32 × Int32 × Mm → Option (Int32 × Mm)} (hk65 : ∀ x : Int32 × Int32 × Int32 × Int32 × Int32 × Int32 × Int32 × Int32 × Int32 × Mm, k65 x = some (r, t') → ∀ (H : Heap) (locs : List Loc) (ls : Array Slot), XP shR g x.2.2.2.2.2.2.2.2.2 H → va_S (XA shR g) s.heap H locs → lv_has ls 12 [(0, .ref (g.2.2 (9, 0, 0))), (1, .int x.1), (2, .int x.2.1), (3, .int x.2.2.1), (4, .int x.2.2.2.1), (5, .int x.2.2.2.2.1), (6, .int x.2.2.2.2.2.1), (7, .int x.2.2.2.2.2.2.1), (8, .int x.2.2.2.2.2.2.2.1), (9, .int x.2.2.2.2.2.2.2.2.1)] → W p l e (rmv 2) s m args below meth c H locs 0 0 (MQ below (XQi shR g r t') args s 0 0 (XA shR g)) (F0 m 65 ls [])) (x1 : Int32) (x2 : Int32) (x3 : Int32) (x4 : Int32) (x5 : Int32) (x6 : Int32) (x7 : Int32) (x9 : Int32) (s0 : Int32) (s1 : Int32) (s2 : Int32) (t : Mm) (H : Heap) (locs : List Loc) (ls : Array Slot) (hP : XP shR g t H) (hS : va_S (XA shR g) s.heap H locs) (hl : lv_has ls 12 [(0, .ref (g.2.2 (9, 0, 0))), (1, .int x1), (2, .int x2), (3, .int x3), (4, .int x4), (5, .int x5), (6, .int x6), (7, .int x7), (9, .int x9)]) (h : f_X8_cramp_167 N k45 k65 x1 x2 x3 x4 x5 x6 x7 x9 s0 s1 s2 t = some (r, t')) : W p l e (rmv 2) s m args below meth c H locs 0 0 (MQ below (XQi shR g r t') args s 0 0 (XA shR g)) (F0 m 167 ls [.int s2, .int s1, .int s0]) := by
  unfold f_X8_cramp_167 at h
  refine lv_iadd X.1.1 X.1.2.1 dX8_cramp_167 ?_
  refine lv_aload_n X.1.1 X.1.2.1 dX8_cramp_168 rfl (lv_at hl 0 rfl) ?_
  refine gt_X8_4 X hP (kyM (by decide)) wd_884 dX8_cramp_169 ?_
  refine lv_bipush (v := 29) X.1.1 X.1.2.1 dX8_cramp_172 (by decide) ?_
  obtain ⟨g_6, h⟩ := o_gd_inv h
  refine x_iald X hP (kyM (by decide)) (fun _ _ => rfl) g_6 dX8_cramp_174 ?_
  refine lv_iconst (v := 1) X.1.1 X.1.2.1 dX8_cramp_175 (by decide) ?_
  refine lv_iadd X.1.1 X.1.2.1 dX8_cramp_176 ?_
  refine lv_icmp_le (tgt := 184) X.1.1 X.1.2.1 dX8_cramp_177 (by decide) (fun c_7 => ?_) (fun c_7 => ?_)
  · have h := o_pos c_7 h
    exact w_X8_cramp_184 N X hk45 hk65 x1 x2 x3 x4 x5 x6 x7 x9 s0 t _ _ _ hP hS (lv_sub hl [0, 1, 2, 3, 4, 5, 6, 7, 8] rfl) h
  · have h := o_neg c_7 h
    refine lv_iconst (v := 1) X.1.1 X.1.2.1 dX8_cramp_180 (by decide) ?_
    refine lv_goto (tgt := 185) X.1.1 X.1.2.1 dX8_cramp_181 (by decide) ?_
    exact w_X8_cramp_185 N X hk45 hk65 x1 x2 x3 x4 x5 x6 x7 x9 s0 1 t _ _ _ hP hS (lv_sub hl [0, 1, 2, 3, 4, 5, 6, 7, 8] rfl) h
set_option maxRecDepth 100000 in
set_option maxHeartbeats 4000000 in
theorem w_X8_cramp_137 {l : Launch} {g : Ly} {p : Program} {e : Env} {s : State} {m : MethodId} {args : Array Value} {below : List Frame} {meth : Method} {c : Code} (N : Nat) (X : XC p m meth c cX8_cramp 12 s args (.code yX8_cramp cX8_cramp 12 (some .int)) RX8 (some .int) shR g) {r : Int32} {t' : Mm} {k45 : Int32 × Int32 × Int32 × Int32 × Int32 × Int32 × Mm → Option (Int32 × Mm)} (hk45 : ∀ x : Int32 × Int32 × Int32 × Int32 × Int32 × Int32 × Mm, k45 x = some (r, t') → ∀ (H : Heap) (locs : List Loc) (ls : Array Slot), XP shR g x.2.2.2.2.2.2 H → va_S (XA shR g) s.heap H locs → lv_has ls 12 [(0, .ref (g.2.2 (9, 0, 0))), (1, .int x.1), (2, .int x.2.1), (3, .int x.2.2.1), (4, .int x.2.2.2.1), (5, .int x.2.2.2.2.1), (6, .int x.2.2.2.2.2.1)] → W p l e (rmv 2) s m args below meth c H locs 0 0 (MQ below (XQi shR g r t') args s 0 0 (XA shR g)) (F0 m 45 ls [])) {k65 : Int32 × Int32 × Int32 × Int32 × Int32 × Int32 × Int32 × Int32 × Int32 × Mm → Option (Int32 × Mm)} (hk65 : ∀ x : Int32 × Int32 × Int32 × Int32 × Int32 × Int32 × Int32 × Int32 × Int32 × Mm, k65 x = some (r, t') → ∀ (H : Heap) (locs : List Loc) (ls : Array Slot), XP shR g x.2.2.2.2.2.2.2.2.2 H → va_S (XA shR g) s.heap H locs → lv_has ls 12 [(0, .ref (g.2.2 (9, 0, 0))), (1, .int x.1), (2, .int x.2.1), (3, .int x.2.2.1), (4, .int x.2.2.2.1), (5, .int x.2.2.2.2.1), (6, .int x.2.2.2.2.2.1), (7, .int x.2.2.2.2.2.2.1), (8, .int x.2.2.2.2.2.2.2.1), (9, .int x.2.2.2.2.2.2.2.2.1)] → W p l e (rmv 2) s m args below meth c H locs 0 0 (MQ below (XQi shR g r t') args s 0 0 (XA shR g)) (F0 m 65 ls [])) (x1 : Int32) (x2 : Int32) (x3 : Int32) (x4 : Int32) (x5 : Int32) (x6 : Int32) (x8 : Int32) (x9 : Int32) (x10 : Int32) (x11 : Int32) (s0 : Int32) (s1 : Int32) (t : Mm) (H : Heap) (locs : List Loc) (ls : Array Slot) (hP : XP shR g t H) (hS : va_S (XA shR g) s.heap H locs) (hl : lv_has ls 12 [(0, .ref (g.2.2 (9, 0, 0))), (1, .int x1), (2, .int x2), (3, .int x3), (4, .int x4), (5, .int x5), (6, .int x6), (8, .int x8), (9, .int x9), (10, .int x10), (11, .int x11)]) (h : f_X8_cramp_137 N k45 k65 x1 x2 x3 x4 x5 x6 x8 x9 x10 x11 s0 s1 t = some (r, t')) : W p l e (rmv 2) s m args below meth c H locs 0 0 (MQ below (XQi shR g r t') args s 0 0 (XA shR g)) (F0 m 137 ls [.int s1, .int s0]) := by
  unfold f_X8_cramp_137 at h
  refine lv_imul X.1.1 X.1.2.1 dX8_cramp_137 ?_
  refine lv_istore (lv' := [(7, .int (s0 * s1)), (0, .ref (g.2.2 (9, 0, 0))), (1, .int x1), (2, .int x2), (3, .int x3), (4, .int x4), (5, .int x5), (6, .int x6), (8, .int x8), (9, .int x9), (10, .int x10), (11, .int x11)]) X.1.1 X.1.2.1 dX8_cramp_138 hl (by decide) rfl (fun ls hl => ?_)
  refine lv_iload X.1.1 X.1.2.1 dX8_cramp_140 (lv_at hl 8 rfl) ?_
  refine lv_iload X.1.1 X.1.2.1 dX8_cramp_142 (lv_at hl 10 rfl) ?_
  refine lv_if_eq (tgt := 184) X.1.1 X.1.2.1 dX8_cramp_144 (by decide) (fun c_8 => ?_) (fun c_8 => ?_)
  · have h := o_pos c_8 h
    exact w_X8_cramp_184 N X hk45 hk65 x1 x2 x3 x4 x5 x6 (s0 * s1) x9 x8 t _ _ _ hP hS (lv_sub hl [1, 2, 3, 4, 5, 6, 7, 0, 9] rfl) h
  · have h := o_neg c_8 h
    refine lv_aload_n X.1.1 X.1.2.1 dX8_cramp_147 rfl (lv_at hl 1 rfl) ?_
    refine gt_X8_4 X hP (kyM (by decide)) wd_884 dX8_cramp_148 ?_
    refine lv_bipush (v := 24) X.1.1 X.1.2.1 dX8_cramp_151 (by decide) ?_
    refine lv_iload X.1.1 X.1.2.1 dX8_cramp_153 (lv_at hl 9 rfl) ?_
    refine lv_iadd X.1.1 X.1.2.1 dX8_cramp_155 ?_
    obtain ⟨g_9, h⟩ := o_gd_inv h
    refine x_iald X hP (kyM (by decide)) (fun _ _ => rfl) g_9 dX8_cramp_156 ?_
    refine lv_iload X.1.1 X.1.2.1 dX8_cramp_157 (lv_at hl 11 rfl) ?_
    refine lv_if_eq (tgt := 166) X.1.1 X.1.2.1 dX8_cramp_159 (by decide) (fun c_10 => ?_) (fun c_10 => ?_)
    · have h := o_pos c_10 h
      refine lv_iconst (v := 0) X.1.1 X.1.2.1 dX8_cramp_166 (by decide) ?_
      exact w_X8_cramp_167 N X hk45 hk65 x1 x2 x3 x4 x5 x6 (s0 * s1) x9 x8 (t.1 9 0 4 ((24 + x9).toNatClampNeg)) 0 t _ _ _ hP hS (lv_sub hl [1, 2, 3, 4, 5, 6, 7, 0, 9] rfl) h
    · have h := o_neg c_10 h
      refine lv_iconst (v := 1) X.1.1 X.1.2.1 dX8_cramp_162 (by decide) ?_
      refine lv_goto (tgt := 167) X.1.1 X.1.2.1 dX8_cramp_163 (by decide) ?_
      exact w_X8_cramp_167 N X hk45 hk65 x1 x2 x3 x4 x5 x6 (s0 * s1) x9 x8 (t.1 9 0 4 ((24 + x9).toNatClampNeg)) 1 t _ _ _ hP hS (lv_sub hl [1, 2, 3, 4, 5, 6, 7, 0, 9] rfl) h
set_option maxRecDepth 100000 in
set_option maxHeartbeats 4000000 in
theorem w_X8_cramp_93 {l : Launch} {g : Ly} {p : Program} {e : Env} {s : State} {m : MethodId} {args : Array Value} {below : List Frame} {meth : Method} {c : Code} (N : Nat) (X : XC p m meth c cX8_cramp 12 s args (.code yX8_cramp cX8_cramp 12 (some .int)) RX8 (some .int) shR g) {r : Int32} {t' : Mm} {k45 : Int32 × Int32 × Int32 × Int32 × Int32 × Int32 × Mm → Option (Int32 × Mm)} (hk45 : ∀ x : Int32 × Int32 × Int32 × Int32 × Int32 × Int32 × Mm, k45 x = some (r, t') → ∀ (H : Heap) (locs : List Loc) (ls : Array Slot), XP shR g x.2.2.2.2.2.2 H → va_S (XA shR g) s.heap H locs → lv_has ls 12 [(0, .ref (g.2.2 (9, 0, 0))), (1, .int x.1), (2, .int x.2.1), (3, .int x.2.2.1), (4, .int x.2.2.2.1), (5, .int x.2.2.2.2.1), (6, .int x.2.2.2.2.2.1)] → W p l e (rmv 2) s m args below meth c H locs 0 0 (MQ below (XQi shR g r t') args s 0 0 (XA shR g)) (F0 m 45 ls [])) {k65 : Int32 × Int32 × Int32 × Int32 × Int32 × Int32 × Int32 × Int32 × Int32 × Mm → Option (Int32 × Mm)} (hk65 : ∀ x : Int32 × Int32 × Int32 × Int32 × Int32 × Int32 × Int32 × Int32 × Int32 × Mm, k65 x = some (r, t') → ∀ (H : Heap) (locs : List Loc) (ls : Array Slot), XP shR g x.2.2.2.2.2.2.2.2.2 H → va_S (XA shR g) s.heap H locs → lv_has ls 12 [(0, .ref (g.2.2 (9, 0, 0))), (1, .int x.1), (2, .int x.2.1), (3, .int x.2.2.1), (4, .int x.2.2.2.1), (5, .int x.2.2.2.2.1), (6, .int x.2.2.2.2.2.1), (7, .int x.2.2.2.2.2.2.1), (8, .int x.2.2.2.2.2.2.2.1), (9, .int x.2.2.2.2.2.2.2.2.1)] → W p l e (rmv 2) s m args below meth c H locs 0 0 (MQ below (XQi shR g r t') args s 0 0 (XA shR g)) (F0 m 65 ls [])) (x1 : Int32) (x2 : Int32) (x3 : Int32) (x4 : Int32) (x5 : Int32) (x6 : Int32) (x7 : Int32) (x8 : Int32) (x9 : Int32) (s0 : Int32) (t : Mm) (H : Heap) (locs : List Loc) (ls : Array Slot) (hP : XP shR g t H) (hS : va_S (XA shR g) s.heap H locs) (hl : lv_has ls 12 [(0, .ref (g.2.2 (9, 0, 0))), (1, .int x1), (2, .int x2), (3, .int x3), (4, .int x4), (5, .int x5), (6, .int x6), (7, .int x7), (8, .int x8), (9, .int x9)]) (h : f_X8_cramp_93 N k45 k65 x1 x2 x3 x4 x5 x6 x7 x8 x9 s0 t = some (r, t')) : W p l e (rmv 2) s m args below meth c H locs 0 0 (MQ below (XQi shR g r t') args s 0 0 (XA shR g)) (F0 m 93 ls [.int s0]) := by
  unfold f_X8_cramp_93 at h
  refine lv_istore (lv' := [(10, .int s0), (0, .ref (g.2.2 (9, 0, 0))), (1, .int x1), (2, .int x2), (3, .int x3), (4, .int x4), (5, .int x5), (6, .int x6), (7, .int x7), (8, .int x8), (9, .int x9)]) X.1.1 X.1.2.1 dX8_cramp_93 hl (by decide) rfl (fun ls hl => ?_)
  refine lv_iload X.1.1 X.1.2.1 dX8_cramp_95 (lv_at hl 7 rfl) ?_
  refine lv_iload X.1.1 X.1.2.1 dX8_cramp_97 (lv_at hl 10 rfl) ?_
  obtain ⟨⟨r_13, t_11⟩, hc_12, h⟩ := o_bd_inv h
  refine x_calli (x_runS (As := [.int x6, .int x9]) (rest := []) X hP hS (c_X8_has l g X.2.2.2.2.1 x6 x9 t hc_12) ⟨wd_1021, wd_1019, wd_1020, wd_62⟩ hd_X8_has ⟨by omega, by decide⟩ rfl hl.1 rfl (Nat.le_of_ble_eq_true rfl) dX8_cramp_99) hS (fun H locs hP hS => ?_)
  refine lv_istore (lv' := [(11, .int r_13), (10, .int s0), (0, .ref (g.2.2 (9, 0, 0))), (1, .int x1), (2, .int x2), (3, .int x3), (4, .int x4), (5, .int x5), (6, .int x6), (7, .int x7), (8, .int x8), (9, .int x9)]) X.1.1 X.1.2.1 dX8_cramp_102 hl (by decide) rfl (fun ls hl => ?_)
  refine lv_iload X.1.1 X.1.2.1 dX8_cramp_104 (lv_at hl 9 rfl) ?_
  refine lv_iload X.1.1 X.1.2.1 dX8_cramp_106 (lv_at hl 1 rfl) ?_
  refine lv_if_eq (tgt := 127) X.1.1 X.1.2.1 dX8_cramp_108 (by decide) (fun c_15 => ?_) (fun c_15 => ?_)
  · have h := o_pos c_15 h
    refine lv_iload X.1.1 X.1.2.1 dX8_cramp_127 (lv_at hl 0 rfl) ?_
    refine lv_if_eq (tgt := 136) X.1.1 X.1.2.1 dX8_cramp_129 (by decide) (fun c_16 => ?_) (fun c_16 => ?_)
    · have h := o_pos c_16 h
      refine lv_iconst (v := 1) X.1.1 X.1.2.1 dX8_cramp_136 (by decide) ?_
      exact w_X8_cramp_137 N X hk45 hk65 x1 x2 x3 x4 x5 x6 x8 x9 s0 r_13 x7 1 t_11 _ _ _ hP hS (lv_sub hl [2, 3, 4, 5, 6, 7, 8, 10, 11, 1, 0] rfl) h
    · have h := o_neg c_16 h
      refine lv_iconst (v := 0) X.1.1 X.1.2.1 dX8_cramp_132 (by decide) ?_
      refine lv_goto (tgt := 137) X.1.1 X.1.2.1 dX8_cramp_133 (by decide) ?_
      exact w_X8_cramp_137 N X hk45 hk65 x1 x2 x3 x4 x5 x6 x8 x9 s0 r_13 x7 0 t_11 _ _ _ hP hS (lv_sub hl [2, 3, 4, 5, 6, 7, 8, 10, 11, 1, 0] rfl) h
  · have h := o_neg c_15 h
    refine lv_iload X.1.1 X.1.2.1 dX8_cramp_111 (lv_at hl 0 rfl) ?_
    refine lv_if_eq (tgt := 120) X.1.1 X.1.2.1 dX8_cramp_113 (by decide) (fun c_17 => ?_) (fun c_17 => ?_)
    · have h := o_pos c_17 h
      refine lv_bipush (v := 10) X.1.1 X.1.2.1 dX8_cramp_120 (by decide) ?_
      refine lv_iload_n X.1.1 X.1.2.1 dX8_cramp_122 rfl (lv_at hl 4 rfl) ?_
      refine lv_isub X.1.1 X.1.2.1 dX8_cramp_123 ?_
      refine lv_goto (tgt := 137) X.1.1 X.1.2.1 dX8_cramp_124 (by decide) ?_
      exact w_X8_cramp_137 N X hk45 hk65 x1 x2 x3 x4 x5 x6 x8 x9 s0 r_13 x7 (10 - x2) t_11 _ _ _ hP hS (lv_sub hl [2, 3, 4, 5, 6, 7, 8, 10, 11, 1, 0] rfl) h
    · have h := o_neg c_17 h
      refine lv_iload_n X.1.1 X.1.2.1 dX8_cramp_116 rfl (lv_at hl 4 rfl) ?_
      refine lv_goto (tgt := 137) X.1.1 X.1.2.1 dX8_cramp_117 (by decide) ?_
      exact w_X8_cramp_137 N X hk45 hk65 x1 x2 x3 x4 x5 x6 x8 x9 s0 r_13 x7 x2 t_11 _ _ _ hP hS (lv_sub hl [2, 3, 4, 5, 6, 7, 8, 10, 11, 1, 0] rfl) h
set_option maxRecDepth 100000 in
set_option maxHeartbeats 4000000 in
theorem wb_X8_cramp_65 {l : Launch} {g : Ly} {p : Program} {e : Env} {s : State} {m : MethodId} {args : Array Value} {below : List Frame} {meth : Method} {c : Code} (N : Nat) (X : XC p m meth c cX8_cramp 12 s args (.code yX8_cramp cX8_cramp 12 (some .int)) RX8 (some .int) shR g) {r : Int32} {t' : Mm} {k45 : Int32 × Int32 × Int32 × Int32 × Int32 × Int32 × Mm → Option (Int32 × Mm)} (hk45 : ∀ x : Int32 × Int32 × Int32 × Int32 × Int32 × Int32 × Mm, k45 x = some (r, t') → ∀ (H : Heap) (locs : List Loc) (ls : Array Slot), XP shR g x.2.2.2.2.2.2 H → va_S (XA shR g) s.heap H locs → lv_has ls 12 [(0, .ref (g.2.2 (9, 0, 0))), (1, .int x.1), (2, .int x.2.1), (3, .int x.2.2.1), (4, .int x.2.2.2.1), (5, .int x.2.2.2.2.1), (6, .int x.2.2.2.2.2.1)] → W p l e (rmv 2) s m args below meth c H locs 0 0 (MQ below (XQi shR g r t') args s 0 0 (XA shR g)) (F0 m 45 ls [])) {k65 : Int32 × Int32 × Int32 × Int32 × Int32 × Int32 × Int32 × Int32 × Int32 × Mm → Option (Int32 × Mm)} (hk65 : ∀ x : Int32 × Int32 × Int32 × Int32 × Int32 × Int32 × Int32 × Int32 × Int32 × Mm, k65 x = some (r, t') → ∀ (H : Heap) (locs : List Loc) (ls : Array Slot), XP shR g x.2.2.2.2.2.2.2.2.2 H → va_S (XA shR g) s.heap H locs → lv_has ls 12 [(0, .ref (g.2.2 (9, 0, 0))), (1, .int x.1), (2, .int x.2.1), (3, .int x.2.2.1), (4, .int x.2.2.2.1), (5, .int x.2.2.2.2.1), (6, .int x.2.2.2.2.2.1), (7, .int x.2.2.2.2.2.2.1), (8, .int x.2.2.2.2.2.2.2.1), (9, .int x.2.2.2.2.2.2.2.2.1)] → W p l e (rmv 2) s m args below meth c H locs 0 0 (MQ below (XQi shR g r t') args s 0 0 (XA shR g)) (F0 m 65 ls [])) (x1 : Int32) (x2 : Int32) (x3 : Int32) (x4 : Int32) (x5 : Int32) (x6 : Int32) (x7 : Int32) (x8 : Int32) (x9 : Int32) (t : Mm) (H : Heap) (locs : List Loc) (ls : Array Slot) (hP : XP shR g t H) (hS : va_S (XA shR g) s.heap H locs) (hl : lv_has ls 12 [(0, .ref (g.2.2 (9, 0, 0))), (1, .int x1), (2, .int x2), (3, .int x3), (4, .int x4), (5, .int x5), (6, .int x6), (7, .int x7), (8, .int x8), (9, .int x9)]) (h : b_X8_cramp_65 N k45 k65 x1 x2 x3 x4 x5 x6 x7 x8 x9 t = some (r, t')) : W p l e (rmv 2) s m args below meth c H locs 0 0 (MQ below (XQi shR g r t') args s 0 0 (XA shR g)) (F0 m 65 ls []) := by
  unfold b_X8_cramp_65 at h
  refine lv_iload X.1.1 X.1.2.1 dX8_cramp_65 (lv_at hl 9 rfl) ?_
  refine lv_aload_n X.1.1 X.1.2.1 dX8_cramp_67 rfl (lv_at hl 0 rfl) ?_
  refine gt_X8_1 X hP (kyM (by decide)) wd_881 dX8_cramp_68 ?_
  refine lv_icmp_ge (tgt := 194) X.1.1 X.1.2.1 dX8_cramp_71 (by decide) (fun c_18 => ?_) (fun c_18 => ?_)
  · have h := o_pos c_18 h
    refine lv_iload X.1.1 X.1.2.1 dX8_cramp_194 (lv_at hl 5 rfl) ?_
    refine lv_iload X.1.1 X.1.2.1 dX8_cramp_196 (lv_at hl 7 rfl) ?_
    refine lv_iadd X.1.1 X.1.2.1 dX8_cramp_198 ?_
    refine lv_istore (lv' := [(5, .int (x5 + x7)), (0, .ref (g.2.2 (9, 0, 0))), (1, .int x1), (2, .int x2), (3, .int x3), (4, .int x4), (6, .int x6), (7, .int x7), (8, .int x8), (9, .int x9)]) X.1.1 X.1.2.1 dX8_cramp_199 hl (by decide) rfl (fun ls hl => ?_)
    refine lv_iload X.1.1 X.1.2.1 dX8_cramp_201 (lv_at hl 5 rfl) ?_
    refine lv_iload X.1.1 X.1.2.1 dX8_cramp_203 (lv_at hl 8 rfl) ?_
    refine lv_iload_n X.1.1 X.1.2.1 dX8_cramp_205 rfl (lv_at hl 2 rfl) ?_
    refine lv_icmp_lt (tgt := 214) X.1.1 X.1.2.1 dX8_cramp_206 (by decide) (fun c_19 => ?_) (fun c_19 => ?_)
    · have h := o_pos c_19 h
      refine lv_iconst (v := 0) X.1.1 X.1.2.1 dX8_cramp_214 (by decide) ?_
      exact w_X8_cramp_215 N X hk45 x1 x2 x3 (x5 + x7) x6 x4 0 t _ _ _ hP hS (lv_sub hl [1, 2, 3, 4, 0, 6] rfl) h
    · have h := o_neg c_19 h
      refine lv_iload X.1.1 X.1.2.1 dX8_cramp_209 (lv_at hl 7 rfl) ?_
      refine lv_goto (tgt := 215) X.1.1 X.1.2.1 dX8_cramp_211 (by decide) ?_
      exact w_X8_cramp_215 N X hk45 x1 x2 x3 (x5 + x7) x6 x4 x7 t _ _ _ hP hS (lv_sub hl [1, 2, 3, 4, 0, 6] rfl) h
  · have h := o_neg c_18 h
    refine lv_aload_n X.1.1 X.1.2.1 dX8_cramp_74 rfl (lv_at hl 0 rfl) ?_
    refine gt_X8_4 X hP (kyM (by decide)) wd_884 dX8_cramp_75 ?_
    refine lv_bipush (v := 19) X.1.1 X.1.2.1 dX8_cramp_78 (by decide) ?_
    refine lv_iload X.1.1 X.1.2.1 dX8_cramp_80 (lv_at hl 9 rfl) ?_
    refine lv_iadd X.1.1 X.1.2.1 dX8_cramp_82 ?_
    obtain ⟨g_20, h⟩ := o_gd_inv h
    refine x_iald X hP (kyM (by decide)) (fun _ _ => rfl) g_20 dX8_cramp_83 ?_
    refine lv_iconst (v := 1) X.1.1 X.1.2.1 dX8_cramp_84 (by decide) ?_
    refine lv_icmp_ne (tgt := 92) X.1.1 X.1.2.1 dX8_cramp_85 (by decide) (fun c_21 => ?_) (fun c_21 => ?_)
    · have h := o_neg c_21 h
      refine lv_iconst (v := 0) X.1.1 X.1.2.1 dX8_cramp_92 (by decide) ?_
      exact w_X8_cramp_93 N X hk45 hk65 x1 x2 x3 x4 x5 x6 x7 x8 x9 0 t _ _ _ hP hS (lv_sub hl [0, 1, 2, 3, 4, 5, 6, 7, 8, 9] rfl) h
    · have h := o_pos c_21 h
      refine lv_iconst (v := 1) X.1.1 X.1.2.1 dX8_cramp_88 (by decide) ?_
      refine lv_goto (tgt := 93) X.1.1 X.1.2.1 dX8_cramp_89 (by decide) ?_
      exact w_X8_cramp_93 N X hk45 hk65 x1 x2 x3 x4 x5 x6 x7 x8 x9 1 t _ _ _ hP hS (lv_sub hl [0, 1, 2, 3, 4, 5, 6, 7, 8, 9] rfl) h
set_option maxRecDepth 100000 in
set_option maxHeartbeats 4000000 in
theorem w_X8_cramp_65 {l : Launch} {g : Ly} {p : Program} {e : Env} {s : State} {m : MethodId} {args : Array Value} {below : List Frame} {meth : Method} {c : Code} (N : Nat) (X : XC p m meth c cX8_cramp 12 s args (.code yX8_cramp cX8_cramp 12 (some .int)) RX8 (some .int) shR g) {r : Int32} {t' : Mm} {k45 : Int32 × Int32 × Int32 × Int32 × Int32 × Int32 × Mm → Option (Int32 × Mm)} (hk45 : ∀ x : Int32 × Int32 × Int32 × Int32 × Int32 × Int32 × Mm, k45 x = some (r, t') → ∀ (H : Heap) (locs : List Loc) (ls : Array Slot), XP shR g x.2.2.2.2.2.2 H → va_S (XA shR g) s.heap H locs → lv_has ls 12 [(0, .ref (g.2.2 (9, 0, 0))), (1, .int x.1), (2, .int x.2.1), (3, .int x.2.2.1), (4, .int x.2.2.2.1), (5, .int x.2.2.2.2.1), (6, .int x.2.2.2.2.2.1)] → W p l e (rmv 2) s m args below meth c H locs 0 0 (MQ below (XQi shR g r t') args s 0 0 (XA shR g)) (F0 m 45 ls [])) (x1 : Int32) (x2 : Int32) (x3 : Int32) (x4 : Int32) (x5 : Int32) (x6 : Int32) (x7 : Int32) (x8 : Int32) (x9 : Int32) (t : Mm) (H : Heap) (locs : List Loc) (ls : Array Slot) (hP : XP shR g t H) (hS : va_S (XA shR g) s.heap H locs) (hl : lv_has ls 12 [(0, .ref (g.2.2 (9, 0, 0))), (1, .int x1), (2, .int x2), (3, .int x3), (4, .int x4), (5, .int x5), (6, .int x6), (7, .int x7), (8, .int x8), (9, .int x9)]) (h : f_X8_cramp_65 N k45 x1 x2 x3 x4 x5 x6 x7 x8 x9 t = some (r, t')) : W p l e (rmv 2) s m args below meth c H locs 0 0 (MQ below (XQi shR g r t') args s 0 0 (XA shR g)) (F0 m 65 ls []) :=
  o_lp_ind (P := fun x : Int32 × Int32 × Int32 × Int32 × Int32 × Int32 × Int32 × Int32 × Int32 × Mm => ∀ (H : Heap) (locs : List Loc) (ls : Array Slot), XP shR g x.2.2.2.2.2.2.2.2.2 H → va_S (XA shR g) s.heap H locs → lv_has ls 12 [(0, .ref (g.2.2 (9, 0, 0))), (1, .int x.1), (2, .int x.2.1), (3, .int x.2.2.1), (4, .int x.2.2.2.1), (5, .int x.2.2.2.2.1), (6, .int x.2.2.2.2.2.1), (7, .int x.2.2.2.2.2.2.1), (8, .int x.2.2.2.2.2.2.2.1), (9, .int x.2.2.2.2.2.2.2.2.1)] → W p l e (rmv 2) s m args below meth c H locs 0 0 (MQ below (XQi shR g r t') args s 0 0 (XA shR g)) (F0 m 65 ls [])) (fun k hk x h H locs ls hP hS hl => wb_X8_cramp_65 N X hk45 hk x.1 x.2.1 x.2.2.1 x.2.2.2.1 x.2.2.2.2.1 x.2.2.2.2.2.1 x.2.2.2.2.2.2.1 x.2.2.2.2.2.2.2.1 x.2.2.2.2.2.2.2.2.1 x.2.2.2.2.2.2.2.2.2 H locs ls hP hS hl h) N (x1, x2, x3, x4, x5, x6, x7, x8, x9, t) h H locs ls hP hS hl
set_option maxRecDepth 100000 in
set_option maxHeartbeats 4000000 in
theorem wb_X8_cramp_45 {l : Launch} {g : Ly} {p : Program} {e : Env} {s : State} {m : MethodId} {args : Array Value} {below : List Frame} {meth : Method} {c : Code} (N : Nat) (X : XC p m meth c cX8_cramp 12 s args (.code yX8_cramp cX8_cramp 12 (some .int)) RX8 (some .int) shR g) {r : Int32} {t' : Mm} {k45 : Int32 × Int32 × Int32 × Int32 × Int32 × Int32 × Mm → Option (Int32 × Mm)} (hk45 : ∀ x : Int32 × Int32 × Int32 × Int32 × Int32 × Int32 × Mm, k45 x = some (r, t') → ∀ (H : Heap) (locs : List Loc) (ls : Array Slot), XP shR g x.2.2.2.2.2.2 H → va_S (XA shR g) s.heap H locs → lv_has ls 12 [(0, .ref (g.2.2 (9, 0, 0))), (1, .int x.1), (2, .int x.2.1), (3, .int x.2.2.1), (4, .int x.2.2.2.1), (5, .int x.2.2.2.2.1), (6, .int x.2.2.2.2.2.1)] → W p l e (rmv 2) s m args below meth c H locs 0 0 (MQ below (XQi shR g r t') args s 0 0 (XA shR g)) (F0 m 45 ls [])) (x1 : Int32) (x2 : Int32) (x3 : Int32) (x4 : Int32) (x5 : Int32) (x6 : Int32) (t : Mm) (H : Heap) (locs : List Loc) (ls : Array Slot) (hP : XP shR g t H) (hS : va_S (XA shR g) s.heap H locs) (hl : lv_has ls 12 [(0, .ref (g.2.2 (9, 0, 0))), (1, .int x1), (2, .int x2), (3, .int x3), (4, .int x4), (5, .int x5), (6, .int x6)]) (h : b_X8_cramp_45 N k45 x1 x2 x3 x4 x5 x6 t = some (r, t')) : W p l e (rmv 2) s m args below meth c H locs 0 0 (MQ below (XQi shR g r t') args s 0 0 (XA shR g)) (F0 m 45 ls []) := by
  unfold b_X8_cramp_45 at h
  refine lv_iload X.1.1 X.1.2.1 dX8_cramp_45 (lv_at hl 6 rfl) ?_
  refine lv_iconst (v := 1) X.1.1 X.1.2.1 dX8_cramp_47 (by decide) ?_
  refine lv_aload_n X.1.1 X.1.2.1 dX8_cramp_48 rfl (lv_at hl 0 rfl) ?_
  refine gt_X8_1 X hP (kyM (by decide)) wd_881 dX8_cramp_49 ?_
  refine lv_ishl X.1.1 X.1.2.1 dX8_cramp_52 ?_
  refine lv_icmp_ge (tgt := 224) X.1.1 X.1.2.1 dX8_cramp_53 (by decide) (fun c_22 => ?_) (fun c_22 => ?_)
  · have h := o_pos c_22 h
    refine lv_iload X.1.1 X.1.2.1 dX8_cramp_224 (lv_at hl 4 rfl) ?_
    refine lv_istore (lv' := [(6, .int x4), (0, .ref (g.2.2 (9, 0, 0))), (1, .int x1), (2, .int x2), (3, .int x3), (4, .int x4), (5, .int x5)]) X.1.1 X.1.2.1 dX8_cramp_226 hl (by decide) rfl (fun ls hl => ?_)
    refine lv_iload X.1.1 X.1.2.1 dX8_cramp_228 (lv_at hl 6 rfl) ?_
    refine lv_istore (lv' := [(7, .int x5), (6, .int x4), (0, .ref (g.2.2 (9, 0, 0))), (1, .int x1), (2, .int x2), (3, .int x3), (4, .int x4), (5, .int x5)]) X.1.1 X.1.2.1 dX8_cramp_230 hl (by decide) rfl (fun ls hl => ?_)
    exact w_X8_cramp_232 N X x3 x4 x5 x4 x5 t _ _ _ hP hS (lv_sub hl [5, 6, 7, 1, 0] rfl) h
  · have h := o_neg c_22 h
    refine lv_iconst (v := 1) X.1.1 X.1.2.1 dX8_cramp_56 (by decide) ?_
    refine lv_istore (lv' := [(7, .int 1), (0, .ref (g.2.2 (9, 0, 0))), (1, .int x1), (2, .int x2), (3, .int x3), (4, .int x4), (5, .int x5), (6, .int x6)]) X.1.1 X.1.2.1 dX8_cramp_57 hl (by decide) rfl (fun ls hl => ?_)
    refine lv_iconst (v := 0) X.1.1 X.1.2.1 dX8_cramp_59 (by decide) ?_
    refine lv_istore (lv' := [(8, .int 0), (7, .int 1), (0, .ref (g.2.2 (9, 0, 0))), (1, .int x1), (2, .int x2), (3, .int x3), (4, .int x4), (5, .int x5), (6, .int x6)]) X.1.1 X.1.2.1 dX8_cramp_60 hl (by decide) rfl (fun ls hl => ?_)
    refine lv_iconst (v := 0) X.1.1 X.1.2.1 dX8_cramp_62 (by decide) ?_
    refine lv_istore (lv' := [(9, .int 0), (8, .int 0), (7, .int 1), (0, .ref (g.2.2 (9, 0, 0))), (1, .int x1), (2, .int x2), (3, .int x3), (4, .int x4), (5, .int x5), (6, .int x6)]) X.1.1 X.1.2.1 dX8_cramp_63 hl (by decide) rfl (fun ls hl => ?_)
    exact w_X8_cramp_65 N X hk45 x1 x2 x3 x4 x5 x6 1 0 0 t _ _ _ hP hS (lv_sub hl [3, 4, 5, 6, 7, 8, 9, 2, 1, 0] rfl) h
set_option maxRecDepth 100000 in
set_option maxHeartbeats 4000000 in
theorem w_X8_cramp_45 {l : Launch} {g : Ly} {p : Program} {e : Env} {s : State} {m : MethodId} {args : Array Value} {below : List Frame} {meth : Method} {c : Code} (N : Nat) (X : XC p m meth c cX8_cramp 12 s args (.code yX8_cramp cX8_cramp 12 (some .int)) RX8 (some .int) shR g) {r : Int32} {t' : Mm} (x1 : Int32) (x2 : Int32) (x3 : Int32) (x4 : Int32) (x5 : Int32) (x6 : Int32) (t : Mm) (H : Heap) (locs : List Loc) (ls : Array Slot) (hP : XP shR g t H) (hS : va_S (XA shR g) s.heap H locs) (hl : lv_has ls 12 [(0, .ref (g.2.2 (9, 0, 0))), (1, .int x1), (2, .int x2), (3, .int x3), (4, .int x4), (5, .int x5), (6, .int x6)]) (h : f_X8_cramp_45 N x1 x2 x3 x4 x5 x6 t = some (r, t')) : W p l e (rmv 2) s m args below meth c H locs 0 0 (MQ below (XQi shR g r t') args s 0 0 (XA shR g)) (F0 m 45 ls []) :=
  o_lp_ind (P := fun x : Int32 × Int32 × Int32 × Int32 × Int32 × Int32 × Mm => ∀ (H : Heap) (locs : List Loc) (ls : Array Slot), XP shR g x.2.2.2.2.2.2 H → va_S (XA shR g) s.heap H locs → lv_has ls 12 [(0, .ref (g.2.2 (9, 0, 0))), (1, .int x.1), (2, .int x.2.1), (3, .int x.2.2.1), (4, .int x.2.2.2.1), (5, .int x.2.2.2.2.1), (6, .int x.2.2.2.2.2.1)] → W p l e (rmv 2) s m args below meth c H locs 0 0 (MQ below (XQi shR g r t') args s 0 0 (XA shR g)) (F0 m 45 ls [])) (fun k hk x h H locs ls hP hS hl => wb_X8_cramp_45 N X hk x.1 x.2.1 x.2.2.1 x.2.2.2.1 x.2.2.2.2.1 x.2.2.2.2.2.1 x.2.2.2.2.2.2 H locs ls hP hS hl h) N (x1, x2, x3, x4, x5, x6, t) h H locs ls hP hS hl
set_option maxRecDepth 100000 in
set_option maxHeartbeats 4000000 in
theorem c_X8_cramp (l : Launch) (g : Ly) (N : Nat) (hG : XG shR g) (a0 : Int32) (a1 : Int32) (a2 : Int32) (t : Mm) {r : Int32} {t' : Mm} (h : f_X8_cramp N a0 a1 a2 t = some (r, t')) : MI l yX8_cramp cX8_cramp 12 (some .int) 2 shR g [.ref (g.2.2 (9, 0, 0)), .int a0, .int a1, .int a2] t (XQi shR g r t') := by
  refine x_met hG (by decide +kernel) (Nat.le_of_ble_eq_true rfl) ?_
  intro p e s m below meth c ls X hP hl
  have hS : va_S (XA shR g) s.heap s.heap [] := va_S.rf
  have hl : lv_has ls 12 [(0, .ref (g.2.2 (9, 0, 0))), (1, .int a0), (2, .int a1), (3, .int a2)] := hl
  unfold f_X8_cramp at h
  generalize ([.ref (g.2.2 (9, 0, 0)), .int a0, .int a1, .int a2] : List Value).toArray = args at X ⊢
  refine lv_iload_n X.1.1 X.1.2.1 dX8_cramp_0 rfl (lv_at hl 1 rfl) ?_
  refine lv_i2l (v := (a0.toInt64)) X.1.1 X.1.2.1 dX8_cramp_1 rfl ?_
  refine lv_lconst (v := 0) X.1.1 X.1.2.1 dX8_cramp_2 (by decide) ?_
  refine lv_ldc2 (v := 5) X.1.1 X.1.2.1 X.1.2.2.2.1 (X.1.2.2.2.2 _ (List.mem_cons_of_mem _ wd_1207)) dX8_cramp_3 ?_
  obtain ⟨⟨r_25, t_23⟩, hc_24, h⟩ := o_bd_inv h
  refine x_calli (x_runS (As := [.long (a0.toInt64), .long 0, .long 5]) (rest := []) X hP hS (c_X8_in l g X.2.2.2.2.1 (a0.toInt64) 0 5 t hc_24) ⟨wd_981, wd_979, wd_980, wd_62⟩ hd_X8_in ⟨by omega, by decide⟩ rfl hl.1 rfl (Nat.le_of_ble_eq_true rfl) dX8_cramp_6) hS (fun H locs hP hS => ?_)
  refine lv_if_eq (tgt := 34) X.1.1 X.1.2.1 dX8_cramp_9 (by decide) (fun c_27 => ?_) (fun c_27 => ?_)
  · have h := o_pos c_27 h
    refine lv_iconst (v := (-1)) X.1.1 X.1.2.1 dX8_cramp_34 (by decide) ?_
    obtain ⟨rfl, rfl⟩ := o_ret2 h
    exact x_iret X hP hS dX8_cramp_35
  · have h := o_neg c_27 h
    refine lv_iload_n X.1.1 X.1.2.1 dX8_cramp_12 rfl (lv_at hl 2 rfl) ?_
    refine lv_i2l (v := (a1.toInt64)) X.1.1 X.1.2.1 dX8_cramp_13 rfl ?_
    refine lv_lconst (v := 0) X.1.1 X.1.2.1 dX8_cramp_14 (by decide) ?_
    refine lv_ldc2 (v := 10) X.1.1 X.1.2.1 X.1.2.2.2.1 (X.1.2.2.2.2 _ (List.mem_cons_of_mem _ wd_1208)) dX8_cramp_15 ?_
    obtain ⟨⟨r_30, t_28⟩, hc_29, h⟩ := o_bd_inv h
    refine x_calli (x_runS (As := [.long (a1.toInt64), .long 0, .long 10]) (rest := []) X hP hS (c_X8_in l g X.2.2.2.2.1 (a1.toInt64) 0 10 t_23 hc_29) ⟨wd_981, wd_979, wd_980, wd_62⟩ hd_X8_in ⟨by omega, by decide⟩ rfl hl.1 rfl (Nat.le_of_ble_eq_true rfl) dX8_cramp_18) hS (fun H locs hP hS => ?_)
    refine lv_if_eq (tgt := 34) X.1.1 X.1.2.1 dX8_cramp_21 (by decide) (fun c_32 => ?_) (fun c_32 => ?_)
    · have h := o_pos c_32 h
      refine lv_iconst (v := (-1)) X.1.1 X.1.2.1 dX8_cramp_34 (by decide) ?_
      obtain ⟨rfl, rfl⟩ := o_ret2 h
      exact x_iret X hP hS dX8_cramp_35
    · have h := o_neg c_32 h
      refine lv_iload_n X.1.1 X.1.2.1 dX8_cramp_24 rfl (lv_at hl 3 rfl) ?_
      refine lv_i2l (v := (a2.toInt64)) X.1.1 X.1.2.1 dX8_cramp_25 rfl ?_
      refine lv_lconst (v := 0) X.1.1 X.1.2.1 dX8_cramp_26 (by decide) ?_
      refine lv_lconst (v := 1) X.1.1 X.1.2.1 dX8_cramp_27 (by decide) ?_
      obtain ⟨⟨r_35, t_33⟩, hc_34, h⟩ := o_bd_inv h
      refine x_calli (x_runS (As := [.long (a2.toInt64), .long 0, .long 1]) (rest := []) X hP hS (c_X8_in l g X.2.2.2.2.1 (a2.toInt64) 0 1 t_28 hc_34) ⟨wd_981, wd_979, wd_980, wd_62⟩ hd_X8_in ⟨by omega, by decide⟩ rfl hl.1 rfl (Nat.le_of_ble_eq_true rfl) dX8_cramp_28) hS (fun H locs hP hS => ?_)
      refine lv_if_ne (tgt := 36) X.1.1 X.1.2.1 dX8_cramp_31 (by decide) (fun c_37 => ?_) (fun c_37 => ?_)
      · have h := o_neg c_37 h
        refine lv_iconst (v := 0) X.1.1 X.1.2.1 dX8_cramp_36 (by decide) ?_
        refine lv_istore (lv' := [(4, .int 0), (0, .ref (g.2.2 (9, 0, 0))), (1, .int a0), (2, .int a1), (3, .int a2)]) X.1.1 X.1.2.1 dX8_cramp_37 hl (by decide) rfl (fun ls hl => ?_)
        refine lv_iconst (v := 0) X.1.1 X.1.2.1 dX8_cramp_39 (by decide) ?_
        refine lv_istore (lv' := [(5, .int 0), (4, .int 0), (0, .ref (g.2.2 (9, 0, 0))), (1, .int a0), (2, .int a1), (3, .int a2)]) X.1.1 X.1.2.1 dX8_cramp_40 hl (by decide) rfl (fun ls hl => ?_)
        refine lv_iconst (v := 0) X.1.1 X.1.2.1 dX8_cramp_42 (by decide) ?_
        refine lv_istore (lv' := [(6, .int 0), (5, .int 0), (4, .int 0), (0, .ref (g.2.2 (9, 0, 0))), (1, .int a0), (2, .int a1), (3, .int a2)]) X.1.1 X.1.2.1 dX8_cramp_43 hl (by decide) rfl (fun ls hl => ?_)
        exact w_X8_cramp_45 N X a0 a1 a2 0 0 0 t_33 _ _ _ hP hS (lv_sub hl [3, 4, 5, 6, 2, 1, 0] rfl) h
      · have h := o_pos c_37 h
        refine lv_iconst (v := (-1)) X.1.1 X.1.2.1 dX8_cramp_34 (by decide) ?_
        obtain ⟨rfl, rfl⟩ := o_ret2 h
        exact x_iret X hP hS dX8_cramp_35
def b_X8_image_114 (N : Nat) (k114 : Int32 × Mm → Option (Int32 × Mm)) (x1 : Int32) (t : Mm) : Option (Int32 × Mm) := if 248 ≤ x1 then (o_nm (sI t 9 0 0 8 1) fun t_2 => some (1, t_2)) else (if o_inb x1 248 = true then (if o_inb x1 248 = true then (o_nm (sI t 9 0 11 (x1.toNatClampNeg) (t.1 9 0 6 (x1.toNatClampNeg))) fun t_6 => k114 ((x1 + 1), t_6)) else none) else none)
def f_X8_image_114 (N : Nat) (x1 : Int32) (t : Mm) : Option (Int32 × Mm) := o_lp (fun k x => b_X8_image_114 N k x.1 x.2) N (x1, t)
def b_X8_image_88 (N : Nat) (k88 : Int32 × Mm → Option (Int32 × Mm)) (x1 : Int32) (t : Mm) : Option (Int32 × Mm) := if 31 ≤ x1 then (f_X8_image_114 N 0 t) else (if o_inb x1 31 = true then (if o_inb x1 31 = true then (o_nm (sI t 9 0 10 (x1.toNatClampNeg) (t.1 9 0 4 (x1.toNatClampNeg))) fun t_11 => k88 ((x1 + 1), t_11)) else none) else none)
def f_X8_image_88 (N : Nat) (x1 : Int32) (t : Mm) : Option (Int32 × Mm) := o_lp (fun k x => b_X8_image_88 N k x.1 x.2) N (x1, t)
def b_X8_image_60 (N : Nat) (k60 : Int32 × Mm → Option (Int32 × Mm)) (x1 : Int32) (t : Mm) : Option (Int32 × Mm) := if 5 ≤ x1 then (f_X8_image_88 N 0 t) else (if o_inb x1 5 = true then (if o_inb (11 + x1) 16 = true then (o_nm (sI t 9 0 9 ((11 + x1).toNatClampNeg) (t.1 9 0 3 (x1.toNatClampNeg))) fun t_16 => k60 ((x1 + 1), t_16)) else none) else none)
def f_X8_image_60 (N : Nat) (x1 : Int32) (t : Mm) : Option (Int32 × Mm) := o_lp (fun k x => b_X8_image_60 N k x.1 x.2) N (x1, t)
def b_X8_image_32 (N : Nat) (k32 : Int32 × Mm → Option (Int32 × Mm)) (x1 : Int32) (t : Mm) : Option (Int32 × Mm) := if 8 ≤ x1 then (f_X8_image_60 N 0 t) else (if o_inb x1 8 = true then (if o_inb (3 + x1) 16 = true then (o_nm (sI t 9 0 9 ((3 + x1).toNatClampNeg) (t.1 9 0 2 (x1.toNatClampNeg))) fun t_21 => k32 ((x1 + 1), t_21)) else none) else none)
def f_X8_image_32 (N : Nat) (x1 : Int32) (t : Mm) : Option (Int32 × Mm) := o_lp (fun k x => b_X8_image_32 N k x.1 x.2) N (x1, t)
/-- FordQuestionsModel.image()I -/
def f_X8_image (N : Nat) (t : Mm) : Option (Int32 × Mm) := if o_inb 0 16 = true then (o_nm (sI t 9 0 9 (Int32.toNatClampNeg 0) (t.1 9 0 0 0)) fun t_24 => if o_inb 1 16 = true then (o_nm (sI t_24 9 0 9 (Int32.toNatClampNeg 1) (t_24.1 9 0 0 1)) fun t_27 => if o_inb 2 16 = true then (o_nm (sI t_27 9 0 9 (Int32.toNatClampNeg 2) (t_27.1 9 0 0 7)) fun t_30 => f_X8_image_32 N 0 t_30) else none) else none) else none
theorem hd_X8_image : x_hd yX8_image 0 := by decide +kernel
set_option maxRecDepth 100000 in
set_option maxHeartbeats 4000000 in
theorem wb_X8_image_114 {l : Launch} {g : Ly} {p : Program} {e : Env} {s : State} {m : MethodId} {args : Array Value} {below : List Frame} {meth : Method} {c : Code} (N : Nat) (X : XC p m meth c cX8_image 2 s args (.code yX8_image cX8_image 2 (some .int)) RX8 (some .int) shR g) {r : Int32} {t' : Mm} {k114 : Int32 × Mm → Option (Int32 × Mm)} (hk114 : ∀ x : Int32 × Mm, k114 x = some (r, t') → ∀ (H : Heap) (locs : List Loc) (ls : Array Slot), XP shR g x.2 H → va_S (XA shR g) s.heap H locs → lv_has ls 2 [(0, .ref (g.2.2 (9, 0, 0))), (1, .int x.1)] → W p l e (rmv 1) s m args below meth c H locs 0 0 (MQ below (XQi shR g r t') args s 0 0 (XA shR g)) (F0 m 114 ls [])) (x1 : Int32) (t : Mm) (H : Heap) (locs : List Loc) (ls : Array Slot) (hP : XP shR g t H) (hS : va_S (XA shR g) s.heap H locs) (hl : lv_has ls 2 [(0, .ref (g.2.2 (9, 0, 0))), (1, .int x1)]) (h : b_X8_image_114 N k114 x1 t = some (r, t')) : W p l e (rmv 1) s m args below meth c H locs 0 0 (MQ below (XQi shR g r t') args s 0 0 (XA shR g)) (F0 m 114 ls []) := by
  unfold b_X8_image_114 at h
  refine lv_iload_n X.1.1 X.1.2.1 dX8_image_114 rfl (lv_at hl 1 rfl) ?_
  refine lv_sipush (v := 248) X.1.1 X.1.2.1 dX8_image_115 (by decide) ?_
  refine lv_icmp_ge (tgt := 139) X.1.1 X.1.2.1 dX8_image_118 (by decide) (fun c_1 => ?_) (fun c_1 => ?_)
  · have h := o_pos c_1 h
    refine lv_aload_n X.1.1 X.1.2.1 dX8_image_139 rfl (lv_at hl 0 rfl) ?_
    refine lv_iconst (v := 1) X.1.1 X.1.2.1 dX8_image_140 (by decide) ?_
    obtain ⟨t_2, e_3, h⟩ := o_nm_inv h
    refine pt_X8_8 (x := 1) X hP hS (kyM (by decide)) rfl rfl wd_888 dX8_image_141 (fun H locs hP hS => ?_)
    have hP : XP shR g t_2 H := by rw [e_3]; exact hP
    refine lv_iconst (v := 1) X.1.1 X.1.2.1 dX8_image_144 (by decide) ?_
    obtain ⟨rfl, rfl⟩ := o_ret2 h
    exact x_iret X hP hS dX8_image_145
  · have h := o_neg c_1 h
    refine lv_aload_n X.1.1 X.1.2.1 dX8_image_121 rfl (lv_at hl 0 rfl) ?_
    refine gt_X8_11 X hP (kyM (by decide)) wd_891 dX8_image_122 ?_
    refine lv_iload_n X.1.1 X.1.2.1 dX8_image_125 rfl (lv_at hl 1 rfl) ?_
    refine lv_aload_n X.1.1 X.1.2.1 dX8_image_126 rfl (lv_at hl 0 rfl) ?_
    refine gt_X8_6 X hP (kyM (by decide)) wd_886 dX8_image_127 ?_
    refine lv_iload_n X.1.1 X.1.2.1 dX8_image_130 rfl (lv_at hl 1 rfl) ?_
    obtain ⟨g_4, h⟩ := o_gd_inv h
    refine x_iald X hP (kyM (by decide)) (fun _ _ => rfl) g_4 dX8_image_131 ?_
    obtain ⟨g_5, h⟩ := o_gd_inv h
    obtain ⟨t_6, e_7, h⟩ := o_nm_inv h
    refine x_iast X hP hS (kyM (by decide)) (fun _ _ => rfl) g_5 dX8_image_132 (fun H locs hP hS => ?_)
    have hP : XP shR g t_6 H := by rw [e_7]; exact hP
    refine lv_iinc (v := (x1 + 1)) (lv' := [(1, .int (x1 + 1)), (0, .ref (g.2.2 (9, 0, 0)))]) X.1.1 X.1.2.1 dX8_image_133 hl (k := 1) rfl rfl (by decide) rfl (fun ls hl => ?_)
    refine lv_goto (tgt := 114) X.1.1 X.1.2.1 dX8_image_136 (by decide) ?_
    exact hk114 ((x1 + 1), t_6) h _ _ _ hP hS (lv_sub hl [1, 0] rfl)
set_option maxRecDepth 100000 in
set_option maxHeartbeats 4000000 in
theorem w_X8_image_114 {l : Launch} {g : Ly} {p : Program} {e : Env} {s : State} {m : MethodId} {args : Array Value} {below : List Frame} {meth : Method} {c : Code} (N : Nat) (X : XC p m meth c cX8_image 2 s args (.code yX8_image cX8_image 2 (some .int)) RX8 (some .int) shR g) {r : Int32} {t' : Mm} (x1 : Int32) (t : Mm) (H : Heap) (locs : List Loc) (ls : Array Slot) (hP : XP shR g t H) (hS : va_S (XA shR g) s.heap H locs) (hl : lv_has ls 2 [(0, .ref (g.2.2 (9, 0, 0))), (1, .int x1)]) (h : f_X8_image_114 N x1 t = some (r, t')) : W p l e (rmv 1) s m args below meth c H locs 0 0 (MQ below (XQi shR g r t') args s 0 0 (XA shR g)) (F0 m 114 ls []) :=
  o_lp_ind (P := fun x : Int32 × Mm => ∀ (H : Heap) (locs : List Loc) (ls : Array Slot), XP shR g x.2 H → va_S (XA shR g) s.heap H locs → lv_has ls 2 [(0, .ref (g.2.2 (9, 0, 0))), (1, .int x.1)] → W p l e (rmv 1) s m args below meth c H locs 0 0 (MQ below (XQi shR g r t') args s 0 0 (XA shR g)) (F0 m 114 ls [])) (fun k hk x h H locs ls hP hS hl => wb_X8_image_114 N X hk x.1 x.2 H locs ls hP hS hl h) N (x1, t) h H locs ls hP hS hl
set_option maxRecDepth 100000 in
set_option maxHeartbeats 4000000 in
theorem wb_X8_image_88 {l : Launch} {g : Ly} {p : Program} {e : Env} {s : State} {m : MethodId} {args : Array Value} {below : List Frame} {meth : Method} {c : Code} (N : Nat) (X : XC p m meth c cX8_image 2 s args (.code yX8_image cX8_image 2 (some .int)) RX8 (some .int) shR g) {r : Int32} {t' : Mm} {k88 : Int32 × Mm → Option (Int32 × Mm)} (hk88 : ∀ x : Int32 × Mm, k88 x = some (r, t') → ∀ (H : Heap) (locs : List Loc) (ls : Array Slot), XP shR g x.2 H → va_S (XA shR g) s.heap H locs → lv_has ls 2 [(0, .ref (g.2.2 (9, 0, 0))), (1, .int x.1)] → W p l e (rmv 1) s m args below meth c H locs 0 0 (MQ below (XQi shR g r t') args s 0 0 (XA shR g)) (F0 m 88 ls [])) (x1 : Int32) (t : Mm) (H : Heap) (locs : List Loc) (ls : Array Slot) (hP : XP shR g t H) (hS : va_S (XA shR g) s.heap H locs) (hl : lv_has ls 2 [(0, .ref (g.2.2 (9, 0, 0))), (1, .int x1)]) (h : b_X8_image_88 N k88 x1 t = some (r, t')) : W p l e (rmv 1) s m args below meth c H locs 0 0 (MQ below (XQi shR g r t') args s 0 0 (XA shR g)) (F0 m 88 ls []) := by
  unfold b_X8_image_88 at h
  refine lv_iload_n X.1.1 X.1.2.1 dX8_image_88 rfl (lv_at hl 1 rfl) ?_
  refine lv_bipush (v := 31) X.1.1 X.1.2.1 dX8_image_89 (by decide) ?_
  refine lv_icmp_ge (tgt := 112) X.1.1 X.1.2.1 dX8_image_91 (by decide) (fun c_8 => ?_) (fun c_8 => ?_)
  · have h := o_pos c_8 h
    refine lv_iconst (v := 0) X.1.1 X.1.2.1 dX8_image_112 (by decide) ?_
    refine lv_istore_n (lv' := [(1, .int 0), (0, .ref (g.2.2 (9, 0, 0)))]) X.1.1 X.1.2.1 dX8_image_113 rfl hl (by decide) rfl (fun ls hl => ?_)
    exact w_X8_image_114 N X 0 t _ _ _ hP hS (lv_sub hl [1, 0] rfl) h
  · have h := o_neg c_8 h
    refine lv_aload_n X.1.1 X.1.2.1 dX8_image_94 rfl (lv_at hl 0 rfl) ?_
    refine gt_X8_10 X hP (kyM (by decide)) wd_890 dX8_image_95 ?_
    refine lv_iload_n X.1.1 X.1.2.1 dX8_image_98 rfl (lv_at hl 1 rfl) ?_
    refine lv_aload_n X.1.1 X.1.2.1 dX8_image_99 rfl (lv_at hl 0 rfl) ?_
    refine gt_X8_4 X hP (kyM (by decide)) wd_884 dX8_image_100 ?_
    refine lv_iload_n X.1.1 X.1.2.1 dX8_image_103 rfl (lv_at hl 1 rfl) ?_
    obtain ⟨g_9, h⟩ := o_gd_inv h
    refine x_iald X hP (kyM (by decide)) (fun _ _ => rfl) g_9 dX8_image_104 ?_
    obtain ⟨g_10, h⟩ := o_gd_inv h
    obtain ⟨t_11, e_12, h⟩ := o_nm_inv h
    refine x_iast X hP hS (kyM (by decide)) (fun _ _ => rfl) g_10 dX8_image_105 (fun H locs hP hS => ?_)
    have hP : XP shR g t_11 H := by rw [e_12]; exact hP
    refine lv_iinc (v := (x1 + 1)) (lv' := [(1, .int (x1 + 1)), (0, .ref (g.2.2 (9, 0, 0)))]) X.1.1 X.1.2.1 dX8_image_106 hl (k := 1) rfl rfl (by decide) rfl (fun ls hl => ?_)
    refine lv_goto (tgt := 88) X.1.1 X.1.2.1 dX8_image_109 (by decide) ?_
    exact hk88 ((x1 + 1), t_11) h _ _ _ hP hS (lv_sub hl [1, 0] rfl)
set_option maxRecDepth 100000 in
set_option maxHeartbeats 4000000 in
theorem w_X8_image_88 {l : Launch} {g : Ly} {p : Program} {e : Env} {s : State} {m : MethodId} {args : Array Value} {below : List Frame} {meth : Method} {c : Code} (N : Nat) (X : XC p m meth c cX8_image 2 s args (.code yX8_image cX8_image 2 (some .int)) RX8 (some .int) shR g) {r : Int32} {t' : Mm} (x1 : Int32) (t : Mm) (H : Heap) (locs : List Loc) (ls : Array Slot) (hP : XP shR g t H) (hS : va_S (XA shR g) s.heap H locs) (hl : lv_has ls 2 [(0, .ref (g.2.2 (9, 0, 0))), (1, .int x1)]) (h : f_X8_image_88 N x1 t = some (r, t')) : W p l e (rmv 1) s m args below meth c H locs 0 0 (MQ below (XQi shR g r t') args s 0 0 (XA shR g)) (F0 m 88 ls []) :=
  o_lp_ind (P := fun x : Int32 × Mm => ∀ (H : Heap) (locs : List Loc) (ls : Array Slot), XP shR g x.2 H → va_S (XA shR g) s.heap H locs → lv_has ls 2 [(0, .ref (g.2.2 (9, 0, 0))), (1, .int x.1)] → W p l e (rmv 1) s m args below meth c H locs 0 0 (MQ below (XQi shR g r t') args s 0 0 (XA shR g)) (F0 m 88 ls [])) (fun k hk x h H locs ls hP hS hl => wb_X8_image_88 N X hk x.1 x.2 H locs ls hP hS hl h) N (x1, t) h H locs ls hP hS hl
set_option maxRecDepth 100000 in
set_option maxHeartbeats 4000000 in
theorem wb_X8_image_60 {l : Launch} {g : Ly} {p : Program} {e : Env} {s : State} {m : MethodId} {args : Array Value} {below : List Frame} {meth : Method} {c : Code} (N : Nat) (X : XC p m meth c cX8_image 2 s args (.code yX8_image cX8_image 2 (some .int)) RX8 (some .int) shR g) {r : Int32} {t' : Mm} {k60 : Int32 × Mm → Option (Int32 × Mm)} (hk60 : ∀ x : Int32 × Mm, k60 x = some (r, t') → ∀ (H : Heap) (locs : List Loc) (ls : Array Slot), XP shR g x.2 H → va_S (XA shR g) s.heap H locs → lv_has ls 2 [(0, .ref (g.2.2 (9, 0, 0))), (1, .int x.1)] → W p l e (rmv 1) s m args below meth c H locs 0 0 (MQ below (XQi shR g r t') args s 0 0 (XA shR g)) (F0 m 60 ls [])) (x1 : Int32) (t : Mm) (H : Heap) (locs : List Loc) (ls : Array Slot) (hP : XP shR g t H) (hS : va_S (XA shR g) s.heap H locs) (hl : lv_has ls 2 [(0, .ref (g.2.2 (9, 0, 0))), (1, .int x1)]) (h : b_X8_image_60 N k60 x1 t = some (r, t')) : W p l e (rmv 1) s m args below meth c H locs 0 0 (MQ below (XQi shR g r t') args s 0 0 (XA shR g)) (F0 m 60 ls []) := by
  unfold b_X8_image_60 at h
  refine lv_iload_n X.1.1 X.1.2.1 dX8_image_60 rfl (lv_at hl 1 rfl) ?_
  refine lv_iconst (v := 5) X.1.1 X.1.2.1 dX8_image_61 (by decide) ?_
  refine lv_icmp_ge (tgt := 86) X.1.1 X.1.2.1 dX8_image_62 (by decide) (fun c_13 => ?_) (fun c_13 => ?_)
  · have h := o_pos c_13 h
    refine lv_iconst (v := 0) X.1.1 X.1.2.1 dX8_image_86 (by decide) ?_
    refine lv_istore_n (lv' := [(1, .int 0), (0, .ref (g.2.2 (9, 0, 0)))]) X.1.1 X.1.2.1 dX8_image_87 rfl hl (by decide) rfl (fun ls hl => ?_)
    exact w_X8_image_88 N X 0 t _ _ _ hP hS (lv_sub hl [1, 0] rfl) h
  · have h := o_neg c_13 h
    refine lv_aload_n X.1.1 X.1.2.1 dX8_image_65 rfl (lv_at hl 0 rfl) ?_
    refine gt_X8_9 X hP (kyM (by decide)) wd_889 dX8_image_66 ?_
    refine lv_bipush (v := 11) X.1.1 X.1.2.1 dX8_image_69 (by decide) ?_
    refine lv_iload_n X.1.1 X.1.2.1 dX8_image_71 rfl (lv_at hl 1 rfl) ?_
    refine lv_iadd X.1.1 X.1.2.1 dX8_image_72 ?_
    refine lv_aload_n X.1.1 X.1.2.1 dX8_image_73 rfl (lv_at hl 0 rfl) ?_
    refine gt_X8_3 X hP (kyM (by decide)) wd_883 dX8_image_74 ?_
    refine lv_iload_n X.1.1 X.1.2.1 dX8_image_77 rfl (lv_at hl 1 rfl) ?_
    obtain ⟨g_14, h⟩ := o_gd_inv h
    refine x_iald X hP (kyM (by decide)) (fun _ _ => rfl) g_14 dX8_image_78 ?_
    obtain ⟨g_15, h⟩ := o_gd_inv h
    obtain ⟨t_16, e_17, h⟩ := o_nm_inv h
    refine x_iast X hP hS (kyM (by decide)) (fun _ _ => rfl) g_15 dX8_image_79 (fun H locs hP hS => ?_)
    have hP : XP shR g t_16 H := by rw [e_17]; exact hP
    refine lv_iinc (v := (x1 + 1)) (lv' := [(1, .int (x1 + 1)), (0, .ref (g.2.2 (9, 0, 0)))]) X.1.1 X.1.2.1 dX8_image_80 hl (k := 1) rfl rfl (by decide) rfl (fun ls hl => ?_)
    refine lv_goto (tgt := 60) X.1.1 X.1.2.1 dX8_image_83 (by decide) ?_
    exact hk60 ((x1 + 1), t_16) h _ _ _ hP hS (lv_sub hl [1, 0] rfl)
set_option maxRecDepth 100000 in
set_option maxHeartbeats 4000000 in
theorem w_X8_image_60 {l : Launch} {g : Ly} {p : Program} {e : Env} {s : State} {m : MethodId} {args : Array Value} {below : List Frame} {meth : Method} {c : Code} (N : Nat) (X : XC p m meth c cX8_image 2 s args (.code yX8_image cX8_image 2 (some .int)) RX8 (some .int) shR g) {r : Int32} {t' : Mm} (x1 : Int32) (t : Mm) (H : Heap) (locs : List Loc) (ls : Array Slot) (hP : XP shR g t H) (hS : va_S (XA shR g) s.heap H locs) (hl : lv_has ls 2 [(0, .ref (g.2.2 (9, 0, 0))), (1, .int x1)]) (h : f_X8_image_60 N x1 t = some (r, t')) : W p l e (rmv 1) s m args below meth c H locs 0 0 (MQ below (XQi shR g r t') args s 0 0 (XA shR g)) (F0 m 60 ls []) :=
  o_lp_ind (P := fun x : Int32 × Mm => ∀ (H : Heap) (locs : List Loc) (ls : Array Slot), XP shR g x.2 H → va_S (XA shR g) s.heap H locs → lv_has ls 2 [(0, .ref (g.2.2 (9, 0, 0))), (1, .int x.1)] → W p l e (rmv 1) s m args below meth c H locs 0 0 (MQ below (XQi shR g r t') args s 0 0 (XA shR g)) (F0 m 60 ls [])) (fun k hk x h H locs ls hP hS hl => wb_X8_image_60 N X hk x.1 x.2 H locs ls hP hS hl h) N (x1, t) h H locs ls hP hS hl
set_option maxRecDepth 100000 in
set_option maxHeartbeats 4000000 in
theorem wb_X8_image_32 {l : Launch} {g : Ly} {p : Program} {e : Env} {s : State} {m : MethodId} {args : Array Value} {below : List Frame} {meth : Method} {c : Code} (N : Nat) (X : XC p m meth c cX8_image 2 s args (.code yX8_image cX8_image 2 (some .int)) RX8 (some .int) shR g) {r : Int32} {t' : Mm} {k32 : Int32 × Mm → Option (Int32 × Mm)} (hk32 : ∀ x : Int32 × Mm, k32 x = some (r, t') → ∀ (H : Heap) (locs : List Loc) (ls : Array Slot), XP shR g x.2 H → va_S (XA shR g) s.heap H locs → lv_has ls 2 [(0, .ref (g.2.2 (9, 0, 0))), (1, .int x.1)] → W p l e (rmv 1) s m args below meth c H locs 0 0 (MQ below (XQi shR g r t') args s 0 0 (XA shR g)) (F0 m 32 ls [])) (x1 : Int32) (t : Mm) (H : Heap) (locs : List Loc) (ls : Array Slot) (hP : XP shR g t H) (hS : va_S (XA shR g) s.heap H locs) (hl : lv_has ls 2 [(0, .ref (g.2.2 (9, 0, 0))), (1, .int x1)]) (h : b_X8_image_32 N k32 x1 t = some (r, t')) : W p l e (rmv 1) s m args below meth c H locs 0 0 (MQ below (XQi shR g r t') args s 0 0 (XA shR g)) (F0 m 32 ls []) := by
  unfold b_X8_image_32 at h
  refine lv_iload_n X.1.1 X.1.2.1 dX8_image_32 rfl (lv_at hl 1 rfl) ?_
  refine lv_bipush (v := 8) X.1.1 X.1.2.1 dX8_image_33 (by decide) ?_
  refine lv_icmp_ge (tgt := 58) X.1.1 X.1.2.1 dX8_image_35 (by decide) (fun c_18 => ?_) (fun c_18 => ?_)
  · have h := o_pos c_18 h
    refine lv_iconst (v := 0) X.1.1 X.1.2.1 dX8_image_58 (by decide) ?_
    refine lv_istore_n (lv' := [(1, .int 0), (0, .ref (g.2.2 (9, 0, 0)))]) X.1.1 X.1.2.1 dX8_image_59 rfl hl (by decide) rfl (fun ls hl => ?_)
    exact w_X8_image_60 N X 0 t _ _ _ hP hS (lv_sub hl [1, 0] rfl) h
  · have h := o_neg c_18 h
    refine lv_aload_n X.1.1 X.1.2.1 dX8_image_38 rfl (lv_at hl 0 rfl) ?_
    refine gt_X8_9 X hP (kyM (by decide)) wd_889 dX8_image_39 ?_
    refine lv_iconst (v := 3) X.1.1 X.1.2.1 dX8_image_42 (by decide) ?_
    refine lv_iload_n X.1.1 X.1.2.1 dX8_image_43 rfl (lv_at hl 1 rfl) ?_
    refine lv_iadd X.1.1 X.1.2.1 dX8_image_44 ?_
    refine lv_aload_n X.1.1 X.1.2.1 dX8_image_45 rfl (lv_at hl 0 rfl) ?_
    refine gt_X8_2 X hP (kyM (by decide)) wd_882 dX8_image_46 ?_
    refine lv_iload_n X.1.1 X.1.2.1 dX8_image_49 rfl (lv_at hl 1 rfl) ?_
    obtain ⟨g_19, h⟩ := o_gd_inv h
    refine x_iald X hP (kyM (by decide)) (fun _ _ => rfl) g_19 dX8_image_50 ?_
    obtain ⟨g_20, h⟩ := o_gd_inv h
    obtain ⟨t_21, e_22, h⟩ := o_nm_inv h
    refine x_iast X hP hS (kyM (by decide)) (fun _ _ => rfl) g_20 dX8_image_51 (fun H locs hP hS => ?_)
    have hP : XP shR g t_21 H := by rw [e_22]; exact hP
    refine lv_iinc (v := (x1 + 1)) (lv' := [(1, .int (x1 + 1)), (0, .ref (g.2.2 (9, 0, 0)))]) X.1.1 X.1.2.1 dX8_image_52 hl (k := 1) rfl rfl (by decide) rfl (fun ls hl => ?_)
    refine lv_goto (tgt := 32) X.1.1 X.1.2.1 dX8_image_55 (by decide) ?_
    exact hk32 ((x1 + 1), t_21) h _ _ _ hP hS (lv_sub hl [1, 0] rfl)
set_option maxRecDepth 100000 in
set_option maxHeartbeats 4000000 in
theorem w_X8_image_32 {l : Launch} {g : Ly} {p : Program} {e : Env} {s : State} {m : MethodId} {args : Array Value} {below : List Frame} {meth : Method} {c : Code} (N : Nat) (X : XC p m meth c cX8_image 2 s args (.code yX8_image cX8_image 2 (some .int)) RX8 (some .int) shR g) {r : Int32} {t' : Mm} (x1 : Int32) (t : Mm) (H : Heap) (locs : List Loc) (ls : Array Slot) (hP : XP shR g t H) (hS : va_S (XA shR g) s.heap H locs) (hl : lv_has ls 2 [(0, .ref (g.2.2 (9, 0, 0))), (1, .int x1)]) (h : f_X8_image_32 N x1 t = some (r, t')) : W p l e (rmv 1) s m args below meth c H locs 0 0 (MQ below (XQi shR g r t') args s 0 0 (XA shR g)) (F0 m 32 ls []) :=
  o_lp_ind (P := fun x : Int32 × Mm => ∀ (H : Heap) (locs : List Loc) (ls : Array Slot), XP shR g x.2 H → va_S (XA shR g) s.heap H locs → lv_has ls 2 [(0, .ref (g.2.2 (9, 0, 0))), (1, .int x.1)] → W p l e (rmv 1) s m args below meth c H locs 0 0 (MQ below (XQi shR g r t') args s 0 0 (XA shR g)) (F0 m 32 ls [])) (fun k hk x h H locs ls hP hS hl => wb_X8_image_32 N X hk x.1 x.2 H locs ls hP hS hl h) N (x1, t) h H locs ls hP hS hl
set_option maxRecDepth 100000 in
set_option maxHeartbeats 4000000 in
theorem c_X8_image (l : Launch) (g : Ly) (N : Nat) (hG : XG shR g) (t : Mm) {r : Int32} {t' : Mm} (h : f_X8_image N t = some (r, t')) : MI l yX8_image cX8_image 2 (some .int) 1 shR g [.ref (g.2.2 (9, 0, 0))] t (XQi shR g r t') := by
  refine x_met hG (by decide +kernel) (Nat.le_of_ble_eq_true rfl) ?_
  intro p e s m below meth c ls X hP hl
  have hS : va_S (XA shR g) s.heap s.heap [] := va_S.rf
  have hl : lv_has ls 2 [(0, .ref (g.2.2 (9, 0, 0)))] := hl
  unfold f_X8_image at h
  generalize ([.ref (g.2.2 (9, 0, 0))] : List Value).toArray = args at X ⊢
  refine lv_aload_n X.1.1 X.1.2.1 dX8_image_0 rfl (lv_at hl 0 rfl) ?_
  refine gt_X8_9 X hP (kyM (by decide)) wd_889 dX8_image_1 ?_
  refine lv_iconst (v := 0) X.1.1 X.1.2.1 dX8_image_4 (by decide) ?_
  refine lv_aload_n X.1.1 X.1.2.1 dX8_image_5 rfl (lv_at hl 0 rfl) ?_
  refine gt_X8_0 X hP (kyM (by decide)) wd_880 dX8_image_6 ?_
  obtain ⟨g_23, h⟩ := o_gd_inv h
  obtain ⟨t_24, e_25, h⟩ := o_nm_inv h
  refine x_iast X hP hS (kyM (by decide)) (fun _ _ => rfl) g_23 dX8_image_9 (fun H locs hP hS => ?_)
  have hP : XP shR g t_24 H := by rw [e_25]; exact hP
  refine lv_aload_n X.1.1 X.1.2.1 dX8_image_10 rfl (lv_at hl 0 rfl) ?_
  refine gt_X8_9 X hP (kyM (by decide)) wd_889 dX8_image_11 ?_
  refine lv_iconst (v := 1) X.1.1 X.1.2.1 dX8_image_14 (by decide) ?_
  refine lv_aload_n X.1.1 X.1.2.1 dX8_image_15 rfl (lv_at hl 0 rfl) ?_
  refine gt_X8_1 X hP (kyM (by decide)) wd_881 dX8_image_16 ?_
  obtain ⟨g_26, h⟩ := o_gd_inv h
  obtain ⟨t_27, e_28, h⟩ := o_nm_inv h
  refine x_iast X hP hS (kyM (by decide)) (fun _ _ => rfl) g_26 dX8_image_19 (fun H locs hP hS => ?_)
  have hP : XP shR g t_27 H := by rw [e_28]; exact hP
  refine lv_aload_n X.1.1 X.1.2.1 dX8_image_20 rfl (lv_at hl 0 rfl) ?_
  refine gt_X8_9 X hP (kyM (by decide)) wd_889 dX8_image_21 ?_
  refine lv_iconst (v := 2) X.1.1 X.1.2.1 dX8_image_24 (by decide) ?_
  refine lv_aload_n X.1.1 X.1.2.1 dX8_image_25 rfl (lv_at hl 0 rfl) ?_
  refine gt_X8_7 X hP (kyM (by decide)) wd_887 dX8_image_26 ?_
  obtain ⟨g_29, h⟩ := o_gd_inv h
  obtain ⟨t_30, e_31, h⟩ := o_nm_inv h
  refine x_iast X hP hS (kyM (by decide)) (fun _ _ => rfl) g_29 dX8_image_29 (fun H locs hP hS => ?_)
  have hP : XP shR g t_30 H := by rw [e_31]; exact hP
  refine lv_iconst (v := 0) X.1.1 X.1.2.1 dX8_image_30 (by decide) ?_
  refine lv_istore_n (lv' := [(1, .int 0), (0, .ref (g.2.2 (9, 0, 0)))]) X.1.1 X.1.2.1 dX8_image_31 rfl hl (by decide) rfl (fun ls hl => ?_)
  exact w_X8_image_32 N X 0 t_30 _ _ _ hP hS (lv_sub hl [1, 0] rfl) h
def b_X8_restore_124 (N : Nat) (k124 : Int32 × Mm → Option (Int32 × Mm)) (x1 : Int32) (t : Mm) : Option (Int32 × Mm) := if 248 ≤ x1 then (some (1, t)) else (if o_inb x1 248 = true then (if o_inb x1 248 = true then (o_nm (sI t 9 0 6 (x1.toNatClampNeg) (t.1 9 0 11 (x1.toNatClampNeg))) fun t_4 => k124 ((x1 + 1), t_4)) else none) else none)
def f_X8_restore_124 (N : Nat) (x1 : Int32) (t : Mm) : Option (Int32 × Mm) := o_lp (fun k x => b_X8_restore_124 N k x.1 x.2) N (x1, t)
def b_X8_restore_98 (N : Nat) (k98 : Int32 × Mm → Option (Int32 × Mm)) (x1 : Int32) (t : Mm) : Option (Int32 × Mm) := if 31 ≤ x1 then (f_X8_restore_124 N 0 t) else (if o_inb x1 31 = true then (if o_inb x1 31 = true then (o_nm (sI t 9 0 4 (x1.toNatClampNeg) (t.1 9 0 10 (x1.toNatClampNeg))) fun t_9 => k98 ((x1 + 1), t_9)) else none) else none)
def f_X8_restore_98 (N : Nat) (x1 : Int32) (t : Mm) : Option (Int32 × Mm) := o_lp (fun k x => b_X8_restore_98 N k x.1 x.2) N (x1, t)
def b_X8_restore_70 (N : Nat) (k70 : Int32 × Mm → Option (Int32 × Mm)) (x1 : Int32) (t : Mm) : Option (Int32 × Mm) := if 5 ≤ x1 then (f_X8_restore_98 N 0 t) else (if o_inb (11 + x1) 16 = true then (if o_inb x1 5 = true then (o_nm (sI t 9 0 3 (x1.toNatClampNeg) (t.1 9 0 9 ((11 + x1).toNatClampNeg))) fun t_14 => k70 ((x1 + 1), t_14)) else none) else none)
def f_X8_restore_70 (N : Nat) (x1 : Int32) (t : Mm) : Option (Int32 × Mm) := o_lp (fun k x => b_X8_restore_70 N k x.1 x.2) N (x1, t)
def b_X8_restore_42 (N : Nat) (k42 : Int32 × Mm → Option (Int32 × Mm)) (x1 : Int32) (t : Mm) : Option (Int32 × Mm) := if 8 ≤ x1 then (f_X8_restore_70 N 0 t) else (if o_inb (3 + x1) 16 = true then (if o_inb x1 8 = true then (o_nm (sI t 9 0 2 (x1.toNatClampNeg) (t.1 9 0 9 ((3 + x1).toNatClampNeg))) fun t_19 => k42 ((x1 + 1), t_19)) else none) else none)
def f_X8_restore_42 (N : Nat) (x1 : Int32) (t : Mm) : Option (Int32 × Mm) := o_lp (fun k x => b_X8_restore_42 N k x.1 x.2) N (x1, t)
/-- FordQuestionsModel.restore()I -/
def f_X8_restore (N : Nat) (t : Mm) : Option (Int32 × Mm) := if (t.1 9 0 0 8) = 0 then (some ((-4), t)) else (if o_inb 0 16 = true then (o_nm (sI t 9 0 0 0 (t.1 9 0 9 (Int32.toNatClampNeg 0))) fun t_23 => if o_inb 1 16 = true then (o_nm (sI t_23 9 0 0 1 (t_23.1 9 0 9 (Int32.toNatClampNeg 1))) fun t_26 => if o_inb 2 16 = true then (o_nm (sI t_26 9 0 0 7 (t_26.1 9 0 9 (Int32.toNatClampNeg 2))) fun t_29 => f_X8_restore_42 N 0 t_29) else none) else none) else none)
theorem hd_X8_restore : x_hd yX8_restore 0 := by decide +kernel
set_option maxRecDepth 100000 in
set_option maxHeartbeats 4000000 in
theorem wb_X8_restore_124 {l : Launch} {g : Ly} {p : Program} {e : Env} {s : State} {m : MethodId} {args : Array Value} {below : List Frame} {meth : Method} {c : Code} (N : Nat) (X : XC p m meth c cX8_restore 2 s args (.code yX8_restore cX8_restore 2 (some .int)) RX8 (some .int) shR g) {r : Int32} {t' : Mm} {k124 : Int32 × Mm → Option (Int32 × Mm)} (hk124 : ∀ x : Int32 × Mm, k124 x = some (r, t') → ∀ (H : Heap) (locs : List Loc) (ls : Array Slot), XP shR g x.2 H → va_S (XA shR g) s.heap H locs → lv_has ls 2 [(0, .ref (g.2.2 (9, 0, 0))), (1, .int x.1)] → W p l e (rmv 1) s m args below meth c H locs 0 0 (MQ below (XQi shR g r t') args s 0 0 (XA shR g)) (F0 m 124 ls [])) (x1 : Int32) (t : Mm) (H : Heap) (locs : List Loc) (ls : Array Slot) (hP : XP shR g t H) (hS : va_S (XA shR g) s.heap H locs) (hl : lv_has ls 2 [(0, .ref (g.2.2 (9, 0, 0))), (1, .int x1)]) (h : b_X8_restore_124 N k124 x1 t = some (r, t')) : W p l e (rmv 1) s m args below meth c H locs 0 0 (MQ below (XQi shR g r t') args s 0 0 (XA shR g)) (F0 m 124 ls []) := by
  unfold b_X8_restore_124 at h
  refine lv_iload_n X.1.1 X.1.2.1 dX8_restore_124 rfl (lv_at hl 1 rfl) ?_
  refine lv_sipush (v := 248) X.1.1 X.1.2.1 dX8_restore_125 (by decide) ?_
  refine lv_icmp_ge (tgt := 149) X.1.1 X.1.2.1 dX8_restore_128 (by decide) (fun c_1 => ?_) (fun c_1 => ?_)
  · have h := o_pos c_1 h
    refine lv_iconst (v := 1) X.1.1 X.1.2.1 dX8_restore_149 (by decide) ?_
    obtain ⟨rfl, rfl⟩ := o_ret2 h
    exact x_iret X hP hS dX8_restore_150
  · have h := o_neg c_1 h
    refine lv_aload_n X.1.1 X.1.2.1 dX8_restore_131 rfl (lv_at hl 0 rfl) ?_
    refine gt_X8_6 X hP (kyM (by decide)) wd_886 dX8_restore_132 ?_
    refine lv_iload_n X.1.1 X.1.2.1 dX8_restore_135 rfl (lv_at hl 1 rfl) ?_
    refine lv_aload_n X.1.1 X.1.2.1 dX8_restore_136 rfl (lv_at hl 0 rfl) ?_
    refine gt_X8_11 X hP (kyM (by decide)) wd_891 dX8_restore_137 ?_
    refine lv_iload_n X.1.1 X.1.2.1 dX8_restore_140 rfl (lv_at hl 1 rfl) ?_
    obtain ⟨g_2, h⟩ := o_gd_inv h
    refine x_iald X hP (kyM (by decide)) (fun _ _ => rfl) g_2 dX8_restore_141 ?_
    obtain ⟨g_3, h⟩ := o_gd_inv h
    obtain ⟨t_4, e_5, h⟩ := o_nm_inv h
    refine x_iast X hP hS (kyM (by decide)) (fun _ _ => rfl) g_3 dX8_restore_142 (fun H locs hP hS => ?_)
    have hP : XP shR g t_4 H := by rw [e_5]; exact hP
    refine lv_iinc (v := (x1 + 1)) (lv' := [(1, .int (x1 + 1)), (0, .ref (g.2.2 (9, 0, 0)))]) X.1.1 X.1.2.1 dX8_restore_143 hl (k := 1) rfl rfl (by decide) rfl (fun ls hl => ?_)
    refine lv_goto (tgt := 124) X.1.1 X.1.2.1 dX8_restore_146 (by decide) ?_
    exact hk124 ((x1 + 1), t_4) h _ _ _ hP hS (lv_sub hl [1, 0] rfl)
set_option maxRecDepth 100000 in
set_option maxHeartbeats 4000000 in
theorem w_X8_restore_124 {l : Launch} {g : Ly} {p : Program} {e : Env} {s : State} {m : MethodId} {args : Array Value} {below : List Frame} {meth : Method} {c : Code} (N : Nat) (X : XC p m meth c cX8_restore 2 s args (.code yX8_restore cX8_restore 2 (some .int)) RX8 (some .int) shR g) {r : Int32} {t' : Mm} (x1 : Int32) (t : Mm) (H : Heap) (locs : List Loc) (ls : Array Slot) (hP : XP shR g t H) (hS : va_S (XA shR g) s.heap H locs) (hl : lv_has ls 2 [(0, .ref (g.2.2 (9, 0, 0))), (1, .int x1)]) (h : f_X8_restore_124 N x1 t = some (r, t')) : W p l e (rmv 1) s m args below meth c H locs 0 0 (MQ below (XQi shR g r t') args s 0 0 (XA shR g)) (F0 m 124 ls []) :=
  o_lp_ind (P := fun x : Int32 × Mm => ∀ (H : Heap) (locs : List Loc) (ls : Array Slot), XP shR g x.2 H → va_S (XA shR g) s.heap H locs → lv_has ls 2 [(0, .ref (g.2.2 (9, 0, 0))), (1, .int x.1)] → W p l e (rmv 1) s m args below meth c H locs 0 0 (MQ below (XQi shR g r t') args s 0 0 (XA shR g)) (F0 m 124 ls [])) (fun k hk x h H locs ls hP hS hl => wb_X8_restore_124 N X hk x.1 x.2 H locs ls hP hS hl h) N (x1, t) h H locs ls hP hS hl
set_option maxRecDepth 100000 in
set_option maxHeartbeats 4000000 in
theorem wb_X8_restore_98 {l : Launch} {g : Ly} {p : Program} {e : Env} {s : State} {m : MethodId} {args : Array Value} {below : List Frame} {meth : Method} {c : Code} (N : Nat) (X : XC p m meth c cX8_restore 2 s args (.code yX8_restore cX8_restore 2 (some .int)) RX8 (some .int) shR g) {r : Int32} {t' : Mm} {k98 : Int32 × Mm → Option (Int32 × Mm)} (hk98 : ∀ x : Int32 × Mm, k98 x = some (r, t') → ∀ (H : Heap) (locs : List Loc) (ls : Array Slot), XP shR g x.2 H → va_S (XA shR g) s.heap H locs → lv_has ls 2 [(0, .ref (g.2.2 (9, 0, 0))), (1, .int x.1)] → W p l e (rmv 1) s m args below meth c H locs 0 0 (MQ below (XQi shR g r t') args s 0 0 (XA shR g)) (F0 m 98 ls [])) (x1 : Int32) (t : Mm) (H : Heap) (locs : List Loc) (ls : Array Slot) (hP : XP shR g t H) (hS : va_S (XA shR g) s.heap H locs) (hl : lv_has ls 2 [(0, .ref (g.2.2 (9, 0, 0))), (1, .int x1)]) (h : b_X8_restore_98 N k98 x1 t = some (r, t')) : W p l e (rmv 1) s m args below meth c H locs 0 0 (MQ below (XQi shR g r t') args s 0 0 (XA shR g)) (F0 m 98 ls []) := by
  unfold b_X8_restore_98 at h
  refine lv_iload_n X.1.1 X.1.2.1 dX8_restore_98 rfl (lv_at hl 1 rfl) ?_
  refine lv_bipush (v := 31) X.1.1 X.1.2.1 dX8_restore_99 (by decide) ?_
  refine lv_icmp_ge (tgt := 122) X.1.1 X.1.2.1 dX8_restore_101 (by decide) (fun c_6 => ?_) (fun c_6 => ?_)
  · have h := o_pos c_6 h
    refine lv_iconst (v := 0) X.1.1 X.1.2.1 dX8_restore_122 (by decide) ?_
    refine lv_istore_n (lv' := [(1, .int 0), (0, .ref (g.2.2 (9, 0, 0)))]) X.1.1 X.1.2.1 dX8_restore_123 rfl hl (by decide) rfl (fun ls hl => ?_)
    exact w_X8_restore_124 N X 0 t _ _ _ hP hS (lv_sub hl [1, 0] rfl) h
  · have h := o_neg c_6 h
    refine lv_aload_n X.1.1 X.1.2.1 dX8_restore_104 rfl (lv_at hl 0 rfl) ?_
    refine gt_X8_4 X hP (kyM (by decide)) wd_884 dX8_restore_105 ?_
    refine lv_iload_n X.1.1 X.1.2.1 dX8_restore_108 rfl (lv_at hl 1 rfl) ?_
    refine lv_aload_n X.1.1 X.1.2.1 dX8_restore_109 rfl (lv_at hl 0 rfl) ?_
    refine gt_X8_10 X hP (kyM (by decide)) wd_890 dX8_restore_110 ?_
    refine lv_iload_n X.1.1 X.1.2.1 dX8_restore_113 rfl (lv_at hl 1 rfl) ?_
    obtain ⟨g_7, h⟩ := o_gd_inv h
    refine x_iald X hP (kyM (by decide)) (fun _ _ => rfl) g_7 dX8_restore_114 ?_
    obtain ⟨g_8, h⟩ := o_gd_inv h
    obtain ⟨t_9, e_10, h⟩ := o_nm_inv h
    refine x_iast X hP hS (kyM (by decide)) (fun _ _ => rfl) g_8 dX8_restore_115 (fun H locs hP hS => ?_)
    have hP : XP shR g t_9 H := by rw [e_10]; exact hP
    refine lv_iinc (v := (x1 + 1)) (lv' := [(1, .int (x1 + 1)), (0, .ref (g.2.2 (9, 0, 0)))]) X.1.1 X.1.2.1 dX8_restore_116 hl (k := 1) rfl rfl (by decide) rfl (fun ls hl => ?_)
    refine lv_goto (tgt := 98) X.1.1 X.1.2.1 dX8_restore_119 (by decide) ?_
    exact hk98 ((x1 + 1), t_9) h _ _ _ hP hS (lv_sub hl [1, 0] rfl)
set_option maxRecDepth 100000 in
set_option maxHeartbeats 4000000 in
theorem w_X8_restore_98 {l : Launch} {g : Ly} {p : Program} {e : Env} {s : State} {m : MethodId} {args : Array Value} {below : List Frame} {meth : Method} {c : Code} (N : Nat) (X : XC p m meth c cX8_restore 2 s args (.code yX8_restore cX8_restore 2 (some .int)) RX8 (some .int) shR g) {r : Int32} {t' : Mm} (x1 : Int32) (t : Mm) (H : Heap) (locs : List Loc) (ls : Array Slot) (hP : XP shR g t H) (hS : va_S (XA shR g) s.heap H locs) (hl : lv_has ls 2 [(0, .ref (g.2.2 (9, 0, 0))), (1, .int x1)]) (h : f_X8_restore_98 N x1 t = some (r, t')) : W p l e (rmv 1) s m args below meth c H locs 0 0 (MQ below (XQi shR g r t') args s 0 0 (XA shR g)) (F0 m 98 ls []) :=
  o_lp_ind (P := fun x : Int32 × Mm => ∀ (H : Heap) (locs : List Loc) (ls : Array Slot), XP shR g x.2 H → va_S (XA shR g) s.heap H locs → lv_has ls 2 [(0, .ref (g.2.2 (9, 0, 0))), (1, .int x.1)] → W p l e (rmv 1) s m args below meth c H locs 0 0 (MQ below (XQi shR g r t') args s 0 0 (XA shR g)) (F0 m 98 ls [])) (fun k hk x h H locs ls hP hS hl => wb_X8_restore_98 N X hk x.1 x.2 H locs ls hP hS hl h) N (x1, t) h H locs ls hP hS hl
set_option maxRecDepth 100000 in
set_option maxHeartbeats 4000000 in
theorem wb_X8_restore_70 {l : Launch} {g : Ly} {p : Program} {e : Env} {s : State} {m : MethodId} {args : Array Value} {below : List Frame} {meth : Method} {c : Code} (N : Nat) (X : XC p m meth c cX8_restore 2 s args (.code yX8_restore cX8_restore 2 (some .int)) RX8 (some .int) shR g) {r : Int32} {t' : Mm} {k70 : Int32 × Mm → Option (Int32 × Mm)} (hk70 : ∀ x : Int32 × Mm, k70 x = some (r, t') → ∀ (H : Heap) (locs : List Loc) (ls : Array Slot), XP shR g x.2 H → va_S (XA shR g) s.heap H locs → lv_has ls 2 [(0, .ref (g.2.2 (9, 0, 0))), (1, .int x.1)] → W p l e (rmv 1) s m args below meth c H locs 0 0 (MQ below (XQi shR g r t') args s 0 0 (XA shR g)) (F0 m 70 ls [])) (x1 : Int32) (t : Mm) (H : Heap) (locs : List Loc) (ls : Array Slot) (hP : XP shR g t H) (hS : va_S (XA shR g) s.heap H locs) (hl : lv_has ls 2 [(0, .ref (g.2.2 (9, 0, 0))), (1, .int x1)]) (h : b_X8_restore_70 N k70 x1 t = some (r, t')) : W p l e (rmv 1) s m args below meth c H locs 0 0 (MQ below (XQi shR g r t') args s 0 0 (XA shR g)) (F0 m 70 ls []) := by
  unfold b_X8_restore_70 at h
  refine lv_iload_n X.1.1 X.1.2.1 dX8_restore_70 rfl (lv_at hl 1 rfl) ?_
  refine lv_iconst (v := 5) X.1.1 X.1.2.1 dX8_restore_71 (by decide) ?_
  refine lv_icmp_ge (tgt := 96) X.1.1 X.1.2.1 dX8_restore_72 (by decide) (fun c_11 => ?_) (fun c_11 => ?_)
  · have h := o_pos c_11 h
    refine lv_iconst (v := 0) X.1.1 X.1.2.1 dX8_restore_96 (by decide) ?_
    refine lv_istore_n (lv' := [(1, .int 0), (0, .ref (g.2.2 (9, 0, 0)))]) X.1.1 X.1.2.1 dX8_restore_97 rfl hl (by decide) rfl (fun ls hl => ?_)
    exact w_X8_restore_98 N X 0 t _ _ _ hP hS (lv_sub hl [1, 0] rfl) h
  · have h := o_neg c_11 h
    refine lv_aload_n X.1.1 X.1.2.1 dX8_restore_75 rfl (lv_at hl 0 rfl) ?_
    refine gt_X8_3 X hP (kyM (by decide)) wd_883 dX8_restore_76 ?_
    refine lv_iload_n X.1.1 X.1.2.1 dX8_restore_79 rfl (lv_at hl 1 rfl) ?_
    refine lv_aload_n X.1.1 X.1.2.1 dX8_restore_80 rfl (lv_at hl 0 rfl) ?_
    refine gt_X8_9 X hP (kyM (by decide)) wd_889 dX8_restore_81 ?_
    refine lv_bipush (v := 11) X.1.1 X.1.2.1 dX8_restore_84 (by decide) ?_
    refine lv_iload_n X.1.1 X.1.2.1 dX8_restore_86 rfl (lv_at hl 1 rfl) ?_
    refine lv_iadd X.1.1 X.1.2.1 dX8_restore_87 ?_
    obtain ⟨g_12, h⟩ := o_gd_inv h
    refine x_iald X hP (kyM (by decide)) (fun _ _ => rfl) g_12 dX8_restore_88 ?_
    obtain ⟨g_13, h⟩ := o_gd_inv h
    obtain ⟨t_14, e_15, h⟩ := o_nm_inv h
    refine x_iast X hP hS (kyM (by decide)) (fun _ _ => rfl) g_13 dX8_restore_89 (fun H locs hP hS => ?_)
    have hP : XP shR g t_14 H := by rw [e_15]; exact hP
    refine lv_iinc (v := (x1 + 1)) (lv' := [(1, .int (x1 + 1)), (0, .ref (g.2.2 (9, 0, 0)))]) X.1.1 X.1.2.1 dX8_restore_90 hl (k := 1) rfl rfl (by decide) rfl (fun ls hl => ?_)
    refine lv_goto (tgt := 70) X.1.1 X.1.2.1 dX8_restore_93 (by decide) ?_
    exact hk70 ((x1 + 1), t_14) h _ _ _ hP hS (lv_sub hl [1, 0] rfl)
set_option maxRecDepth 100000 in
set_option maxHeartbeats 4000000 in
theorem w_X8_restore_70 {l : Launch} {g : Ly} {p : Program} {e : Env} {s : State} {m : MethodId} {args : Array Value} {below : List Frame} {meth : Method} {c : Code} (N : Nat) (X : XC p m meth c cX8_restore 2 s args (.code yX8_restore cX8_restore 2 (some .int)) RX8 (some .int) shR g) {r : Int32} {t' : Mm} (x1 : Int32) (t : Mm) (H : Heap) (locs : List Loc) (ls : Array Slot) (hP : XP shR g t H) (hS : va_S (XA shR g) s.heap H locs) (hl : lv_has ls 2 [(0, .ref (g.2.2 (9, 0, 0))), (1, .int x1)]) (h : f_X8_restore_70 N x1 t = some (r, t')) : W p l e (rmv 1) s m args below meth c H locs 0 0 (MQ below (XQi shR g r t') args s 0 0 (XA shR g)) (F0 m 70 ls []) :=
  o_lp_ind (P := fun x : Int32 × Mm => ∀ (H : Heap) (locs : List Loc) (ls : Array Slot), XP shR g x.2 H → va_S (XA shR g) s.heap H locs → lv_has ls 2 [(0, .ref (g.2.2 (9, 0, 0))), (1, .int x.1)] → W p l e (rmv 1) s m args below meth c H locs 0 0 (MQ below (XQi shR g r t') args s 0 0 (XA shR g)) (F0 m 70 ls [])) (fun k hk x h H locs ls hP hS hl => wb_X8_restore_70 N X hk x.1 x.2 H locs ls hP hS hl h) N (x1, t) h H locs ls hP hS hl
set_option maxRecDepth 100000 in
set_option maxHeartbeats 4000000 in
theorem wb_X8_restore_42 {l : Launch} {g : Ly} {p : Program} {e : Env} {s : State} {m : MethodId} {args : Array Value} {below : List Frame} {meth : Method} {c : Code} (N : Nat) (X : XC p m meth c cX8_restore 2 s args (.code yX8_restore cX8_restore 2 (some .int)) RX8 (some .int) shR g) {r : Int32} {t' : Mm} {k42 : Int32 × Mm → Option (Int32 × Mm)} (hk42 : ∀ x : Int32 × Mm, k42 x = some (r, t') → ∀ (H : Heap) (locs : List Loc) (ls : Array Slot), XP shR g x.2 H → va_S (XA shR g) s.heap H locs → lv_has ls 2 [(0, .ref (g.2.2 (9, 0, 0))), (1, .int x.1)] → W p l e (rmv 1) s m args below meth c H locs 0 0 (MQ below (XQi shR g r t') args s 0 0 (XA shR g)) (F0 m 42 ls [])) (x1 : Int32) (t : Mm) (H : Heap) (locs : List Loc) (ls : Array Slot) (hP : XP shR g t H) (hS : va_S (XA shR g) s.heap H locs) (hl : lv_has ls 2 [(0, .ref (g.2.2 (9, 0, 0))), (1, .int x1)]) (h : b_X8_restore_42 N k42 x1 t = some (r, t')) : W p l e (rmv 1) s m args below meth c H locs 0 0 (MQ below (XQi shR g r t') args s 0 0 (XA shR g)) (F0 m 42 ls []) := by
  unfold b_X8_restore_42 at h
  refine lv_iload_n X.1.1 X.1.2.1 dX8_restore_42 rfl (lv_at hl 1 rfl) ?_
  refine lv_bipush (v := 8) X.1.1 X.1.2.1 dX8_restore_43 (by decide) ?_
  refine lv_icmp_ge (tgt := 68) X.1.1 X.1.2.1 dX8_restore_45 (by decide) (fun c_16 => ?_) (fun c_16 => ?_)
  · have h := o_pos c_16 h
    refine lv_iconst (v := 0) X.1.1 X.1.2.1 dX8_restore_68 (by decide) ?_
    refine lv_istore_n (lv' := [(1, .int 0), (0, .ref (g.2.2 (9, 0, 0)))]) X.1.1 X.1.2.1 dX8_restore_69 rfl hl (by decide) rfl (fun ls hl => ?_)
    exact w_X8_restore_70 N X 0 t _ _ _ hP hS (lv_sub hl [1, 0] rfl) h
  · have h := o_neg c_16 h
    refine lv_aload_n X.1.1 X.1.2.1 dX8_restore_48 rfl (lv_at hl 0 rfl) ?_
    refine gt_X8_2 X hP (kyM (by decide)) wd_882 dX8_restore_49 ?_
    refine lv_iload_n X.1.1 X.1.2.1 dX8_restore_52 rfl (lv_at hl 1 rfl) ?_
    refine lv_aload_n X.1.1 X.1.2.1 dX8_restore_53 rfl (lv_at hl 0 rfl) ?_
    refine gt_X8_9 X hP (kyM (by decide)) wd_889 dX8_restore_54 ?_
    refine lv_iconst (v := 3) X.1.1 X.1.2.1 dX8_restore_57 (by decide) ?_
    refine lv_iload_n X.1.1 X.1.2.1 dX8_restore_58 rfl (lv_at hl 1 rfl) ?_
    refine lv_iadd X.1.1 X.1.2.1 dX8_restore_59 ?_
    obtain ⟨g_17, h⟩ := o_gd_inv h
    refine x_iald X hP (kyM (by decide)) (fun _ _ => rfl) g_17 dX8_restore_60 ?_
    obtain ⟨g_18, h⟩ := o_gd_inv h
    obtain ⟨t_19, e_20, h⟩ := o_nm_inv h
    refine x_iast X hP hS (kyM (by decide)) (fun _ _ => rfl) g_18 dX8_restore_61 (fun H locs hP hS => ?_)
    have hP : XP shR g t_19 H := by rw [e_20]; exact hP
    refine lv_iinc (v := (x1 + 1)) (lv' := [(1, .int (x1 + 1)), (0, .ref (g.2.2 (9, 0, 0)))]) X.1.1 X.1.2.1 dX8_restore_62 hl (k := 1) rfl rfl (by decide) rfl (fun ls hl => ?_)
    refine lv_goto (tgt := 42) X.1.1 X.1.2.1 dX8_restore_65 (by decide) ?_
    exact hk42 ((x1 + 1), t_19) h _ _ _ hP hS (lv_sub hl [1, 0] rfl)
set_option maxRecDepth 100000 in
set_option maxHeartbeats 4000000 in
theorem w_X8_restore_42 {l : Launch} {g : Ly} {p : Program} {e : Env} {s : State} {m : MethodId} {args : Array Value} {below : List Frame} {meth : Method} {c : Code} (N : Nat) (X : XC p m meth c cX8_restore 2 s args (.code yX8_restore cX8_restore 2 (some .int)) RX8 (some .int) shR g) {r : Int32} {t' : Mm} (x1 : Int32) (t : Mm) (H : Heap) (locs : List Loc) (ls : Array Slot) (hP : XP shR g t H) (hS : va_S (XA shR g) s.heap H locs) (hl : lv_has ls 2 [(0, .ref (g.2.2 (9, 0, 0))), (1, .int x1)]) (h : f_X8_restore_42 N x1 t = some (r, t')) : W p l e (rmv 1) s m args below meth c H locs 0 0 (MQ below (XQi shR g r t') args s 0 0 (XA shR g)) (F0 m 42 ls []) :=
  o_lp_ind (P := fun x : Int32 × Mm => ∀ (H : Heap) (locs : List Loc) (ls : Array Slot), XP shR g x.2 H → va_S (XA shR g) s.heap H locs → lv_has ls 2 [(0, .ref (g.2.2 (9, 0, 0))), (1, .int x.1)] → W p l e (rmv 1) s m args below meth c H locs 0 0 (MQ below (XQi shR g r t') args s 0 0 (XA shR g)) (F0 m 42 ls [])) (fun k hk x h H locs ls hP hS hl => wb_X8_restore_42 N X hk x.1 x.2 H locs ls hP hS hl h) N (x1, t) h H locs ls hP hS hl
set_option maxRecDepth 100000 in
set_option maxHeartbeats 4000000 in
theorem c_X8_restore (l : Launch) (g : Ly) (N : Nat) (hG : XG shR g) (t : Mm) {r : Int32} {t' : Mm} (h : f_X8_restore N t = some (r, t')) : MI l yX8_restore cX8_restore 2 (some .int) 1 shR g [.ref (g.2.2 (9, 0, 0))] t (XQi shR g r t') := by
  refine x_met hG (by decide +kernel) (Nat.le_of_ble_eq_true rfl) ?_
  intro p e s m below meth c ls X hP hl
  have hS : va_S (XA shR g) s.heap s.heap [] := va_S.rf
  have hl : lv_has ls 2 [(0, .ref (g.2.2 (9, 0, 0)))] := hl
  unfold f_X8_restore at h
  generalize ([.ref (g.2.2 (9, 0, 0))] : List Value).toArray = args at X ⊢
  refine lv_aload_n X.1.1 X.1.2.1 dX8_restore_0 rfl (lv_at hl 0 rfl) ?_
  refine gt_X8_8 X hP (kyM (by decide)) wd_888 dX8_restore_1 ?_
  refine lv_if_ne (tgt := 10) X.1.1 X.1.2.1 dX8_restore_4 (by decide) (fun c_21 => ?_) (fun c_21 => ?_)
  · have h := o_neg c_21 h
    refine lv_aload_n X.1.1 X.1.2.1 dX8_restore_10 rfl (lv_at hl 0 rfl) ?_
    refine lv_aload_n X.1.1 X.1.2.1 dX8_restore_11 rfl (lv_at hl 0 rfl) ?_
    refine gt_X8_9 X hP (kyM (by decide)) wd_889 dX8_restore_12 ?_
    refine lv_iconst (v := 0) X.1.1 X.1.2.1 dX8_restore_15 (by decide) ?_
    obtain ⟨g_22, h⟩ := o_gd_inv h
    refine x_iald X hP (kyM (by decide)) (fun _ _ => rfl) g_22 dX8_restore_16 ?_
    obtain ⟨t_23, e_24, h⟩ := o_nm_inv h
    refine pt_X8_0 (x := (t.1 9 0 9 (Int32.toNatClampNeg 0))) X hP hS (kyM (by decide)) wd_880 dX8_restore_17 (fun H locs hP hS => ?_)
    have hP : XP shR g t_23 H := by rw [e_24]; exact hP
    refine lv_aload_n X.1.1 X.1.2.1 dX8_restore_20 rfl (lv_at hl 0 rfl) ?_
    refine lv_aload_n X.1.1 X.1.2.1 dX8_restore_21 rfl (lv_at hl 0 rfl) ?_
    refine gt_X8_9 X hP (kyM (by decide)) wd_889 dX8_restore_22 ?_
    refine lv_iconst (v := 1) X.1.1 X.1.2.1 dX8_restore_25 (by decide) ?_
    obtain ⟨g_25, h⟩ := o_gd_inv h
    refine x_iald X hP (kyM (by decide)) (fun _ _ => rfl) g_25 dX8_restore_26 ?_
    obtain ⟨t_26, e_27, h⟩ := o_nm_inv h
    refine pt_X8_1 (x := (t_23.1 9 0 9 (Int32.toNatClampNeg 1))) X hP hS (kyM (by decide)) wd_881 dX8_restore_27 (fun H locs hP hS => ?_)
    have hP : XP shR g t_26 H := by rw [e_27]; exact hP
    refine lv_aload_n X.1.1 X.1.2.1 dX8_restore_30 rfl (lv_at hl 0 rfl) ?_
    refine lv_aload_n X.1.1 X.1.2.1 dX8_restore_31 rfl (lv_at hl 0 rfl) ?_
    refine gt_X8_9 X hP (kyM (by decide)) wd_889 dX8_restore_32 ?_
    refine lv_iconst (v := 2) X.1.1 X.1.2.1 dX8_restore_35 (by decide) ?_
    obtain ⟨g_28, h⟩ := o_gd_inv h
    refine x_iald X hP (kyM (by decide)) (fun _ _ => rfl) g_28 dX8_restore_36 ?_
    obtain ⟨t_29, e_30, h⟩ := o_nm_inv h
    refine pt_X8_7 (x := (t_26.1 9 0 9 (Int32.toNatClampNeg 2))) X hP hS (kyM (by decide)) wd_887 dX8_restore_37 (fun H locs hP hS => ?_)
    have hP : XP shR g t_29 H := by rw [e_30]; exact hP
    refine lv_iconst (v := 0) X.1.1 X.1.2.1 dX8_restore_40 (by decide) ?_
    refine lv_istore_n (lv' := [(1, .int 0), (0, .ref (g.2.2 (9, 0, 0)))]) X.1.1 X.1.2.1 dX8_restore_41 rfl hl (by decide) rfl (fun ls hl => ?_)
    exact w_X8_restore_42 N X 0 t_29 _ _ _ hP hS (lv_sub hl [1, 0] rfl) h
  · have h := o_pos c_21 h
    refine lv_bipush (v := (-4)) X.1.1 X.1.2.1 dX8_restore_7 (by decide) ?_
    obtain ⟨rfl, rfl⟩ := o_ret2 h
    exact x_iret X hP hS dX8_restore_9
/-- FordQuestionsModel.isSheet(I)Z -/
def f_X8_isSheet (a0 : Int32) (t : Mm) : Option (Int32 × Mm) := o_bd (f_X8_in (a0.toInt64) 0 3 t) fun (r_3, t_1) => if (r_3 = 0 ∨ r_3 = 1) then some (r_3, t_1) else none
theorem hd_X8_isSheet : x_hd yX8_isSheet 1 := by decide +kernel
set_option maxRecDepth 100000 in
set_option maxHeartbeats 4000000 in
theorem c_X8_isSheet (l : Launch) (g : Ly) (hG : XG shR g) (a0 : Int32) (t : Mm) {r : Int32} {t' : Mm} (h : f_X8_isSheet a0 t = some (r, t')) : MI l yX8_isSheet cX8_isSheet 1 (some .boolean) 2 shR g [.int a0] t (XQi shR g r t') := by
  refine x_met hG (by decide +kernel) (Nat.le_of_ble_eq_true rfl) ?_
  intro p e s m below meth c ls X hP hl
  have hS : va_S (XA shR g) s.heap s.heap [] := va_S.rf
  have hl : lv_has ls 1 [(0, .int a0)] := hl
  unfold f_X8_isSheet at h
  generalize ([.int a0] : List Value).toArray = args at X ⊢
  refine lv_iload_n X.1.1 X.1.2.1 dX8_isSheet_0 rfl (lv_at hl 0 rfl) ?_
  refine lv_i2l (v := (a0.toInt64)) X.1.1 X.1.2.1 dX8_isSheet_1 rfl ?_
  refine lv_lconst (v := 0) X.1.1 X.1.2.1 dX8_isSheet_2 (by decide) ?_
  refine lv_ldc2 (v := 3) X.1.1 X.1.2.1 X.1.2.2.2.1 (X.1.2.2.2.2 _ (List.mem_cons_of_mem _ wd_1224)) dX8_isSheet_3 ?_
  obtain ⟨⟨r_3, t_1⟩, hc_2, h⟩ := o_bd_inv h
  refine x_calli (x_runS (As := [.long (a0.toInt64), .long 0, .long 3]) (rest := []) X hP hS (c_X8_in l g X.2.2.2.2.1 (a0.toInt64) 0 3 t hc_2) ⟨wd_981, wd_979, wd_980, wd_62⟩ hd_X8_in ⟨by omega, by decide⟩ rfl hl.1 rfl (Nat.le_of_ble_eq_true rfl) dX8_isSheet_6) hS (fun H locs hP hS => ?_)
  obtain ⟨g_5, h⟩ := o_gd_inv h
  obtain ⟨rfl, rfl⟩ := o_ret2 h
  exact x_zret (x_narZ g_5) X hP hS dX8_isSheet_9
/-- FordQuestionsModel.isLane(I)Z -/
def f_X8_isLane (a0 : Int32) (t : Mm) : Option (Int32 × Mm) := o_bd (f_X8_in (a0.toInt64) 0 3 t) fun (r_3, t_1) => if (r_3 = 0 ∨ r_3 = 1) then some (r_3, t_1) else none
theorem hd_X8_isLane : x_hd yX8_isLane 1 := by decide +kernel
set_option maxRecDepth 100000 in
set_option maxHeartbeats 4000000 in
theorem c_X8_isLane (l : Launch) (g : Ly) (hG : XG shR g) (a0 : Int32) (t : Mm) {r : Int32} {t' : Mm} (h : f_X8_isLane a0 t = some (r, t')) : MI l yX8_isLane cX8_isLane 1 (some .boolean) 2 shR g [.int a0] t (XQi shR g r t') := by
  refine x_met hG (by decide +kernel) (Nat.le_of_ble_eq_true rfl) ?_
  intro p e s m below meth c ls X hP hl
  have hS : va_S (XA shR g) s.heap s.heap [] := va_S.rf
  have hl : lv_has ls 1 [(0, .int a0)] := hl
  unfold f_X8_isLane at h
  generalize ([.int a0] : List Value).toArray = args at X ⊢
  refine lv_iload_n X.1.1 X.1.2.1 dX8_isLane_0 rfl (lv_at hl 0 rfl) ?_
  refine lv_i2l (v := (a0.toInt64)) X.1.1 X.1.2.1 dX8_isLane_1 rfl ?_
  refine lv_lconst (v := 0) X.1.1 X.1.2.1 dX8_isLane_2 (by decide) ?_
  refine lv_ldc2 (v := 3) X.1.1 X.1.2.1 X.1.2.2.2.1 (X.1.2.2.2.2 _ (List.mem_cons_of_mem _ wd_1224)) dX8_isLane_3 ?_
  obtain ⟨⟨r_3, t_1⟩, hc_2, h⟩ := o_bd_inv h
  refine x_calli (x_runS (As := [.long (a0.toInt64), .long 0, .long 3]) (rest := []) X hP hS (c_X8_in l g X.2.2.2.2.1 (a0.toInt64) 0 3 t hc_2) ⟨wd_981, wd_979, wd_980, wd_62⟩ hd_X8_in ⟨by omega, by decide⟩ rfl hl.1 rfl (Nat.le_of_ble_eq_true rfl) dX8_isLane_6) hS (fun H locs hP hS => ?_)
  obtain ⟨g_5, h⟩ := o_gd_inv h
  obtain ⟨rfl, rfl⟩ := o_ret2 h
  exact x_zret (x_narZ g_5) X hP hS dX8_isLane_9
/-- FordQuestionsModel.isSpan(III)Z -/
def f_X8_isSpan (a0 : Int32) (a1 : Int32) (a2 : Int32) (t : Mm) : Option (Int32 × Mm) := if a1 < 0 then (some (0, t)) else (if a2 < 0 then (some (0, t)) else (if o_inb a0 4 = true then (if 0 < (lg_cmp ((a1.toInt64) + (a2.toInt64)) ((t.1 9 0 14 (a0.toNatClampNeg)).toInt64)) then (some (0, t)) else (some (1, t))) else none))
theorem hd_X8_isSpan : x_hd yX8_isSpan 3 := by decide +kernel
set_option maxRecDepth 100000 in
set_option maxHeartbeats 4000000 in
theorem c_X8_isSpan (l : Launch) (g : Ly) (hG : XG shR g) (a0 : Int32) (a1 : Int32) (a2 : Int32) (t : Mm) {r : Int32} {t' : Mm} (h : f_X8_isSpan a0 a1 a2 t = some (r, t')) : MI l yX8_isSpan cX8_isSpan 4 (some .boolean) 1 shR g [.ref (g.2.2 (9, 0, 0)), .int a0, .int a1, .int a2] t (XQi shR g r t') := by
  refine x_met hG (by decide +kernel) (Nat.le_of_ble_eq_true rfl) ?_
  intro p e s m below meth c ls X hP hl
  have hS : va_S (XA shR g) s.heap s.heap [] := va_S.rf
  have hl : lv_has ls 4 [(0, .ref (g.2.2 (9, 0, 0))), (1, .int a0), (2, .int a1), (3, .int a2)] := hl
  unfold f_X8_isSpan at h
  generalize ([.ref (g.2.2 (9, 0, 0)), .int a0, .int a1, .int a2] : List Value).toArray = args at X ⊢
  refine lv_iload_n X.1.1 X.1.2.1 dX8_isSpan_0 rfl (lv_at hl 2 rfl) ?_
  refine lv_if_lt (tgt := 28) X.1.1 X.1.2.1 dX8_isSpan_1 (by decide) (fun c_1 => ?_) (fun c_1 => ?_)
  · have h := o_pos c_1 h
    refine lv_iconst (v := 0) X.1.1 X.1.2.1 dX8_isSpan_28 (by decide) ?_
    obtain ⟨rfl, rfl⟩ := o_ret2 h
    exact x_zret rfl X hP hS dX8_isSpan_29
  · have h := o_neg c_1 h
    refine lv_iload_n X.1.1 X.1.2.1 dX8_isSpan_4 rfl (lv_at hl 3 rfl) ?_
    refine lv_if_lt (tgt := 28) X.1.1 X.1.2.1 dX8_isSpan_5 (by decide) (fun c_2 => ?_) (fun c_2 => ?_)
    · have h := o_pos c_2 h
      refine lv_iconst (v := 0) X.1.1 X.1.2.1 dX8_isSpan_28 (by decide) ?_
      obtain ⟨rfl, rfl⟩ := o_ret2 h
      exact x_zret rfl X hP hS dX8_isSpan_29
    · have h := o_neg c_2 h
      refine lv_iload_n X.1.1 X.1.2.1 dX8_isSpan_8 rfl (lv_at hl 2 rfl) ?_
      refine lv_i2l (v := (a1.toInt64)) X.1.1 X.1.2.1 dX8_isSpan_9 rfl ?_
      refine lv_iload_n X.1.1 X.1.2.1 dX8_isSpan_10 rfl (lv_at hl 3 rfl) ?_
      refine lv_i2l (v := (a2.toInt64)) X.1.1 X.1.2.1 dX8_isSpan_11 rfl ?_
      refine lv_ladd X.1.1 X.1.2.1 dX8_isSpan_12 ?_
      refine lv_aload_n X.1.1 X.1.2.1 dX8_isSpan_13 rfl (lv_at hl 0 rfl) ?_
      refine gt_X8_14 X hP (kyM (by decide)) wd_894 dX8_isSpan_14 ?_
      refine lv_iload_n X.1.1 X.1.2.1 dX8_isSpan_17 rfl (lv_at hl 1 rfl) ?_
      obtain ⟨g_3, h⟩ := o_gd_inv h
      refine x_iald X hP (kyM (by decide)) (fun _ _ => rfl) g_3 dX8_isSpan_18 ?_
      refine lv_i2l (v := ((t.1 9 0 14 (a0.toNatClampNeg)).toInt64)) X.1.1 X.1.2.1 dX8_isSpan_19 rfl ?_
      refine W.lcmp X.1.1 X.1.2.1 dX8_isSpan_20 ?_
      refine lv_if_gt (tgt := 28) X.1.1 X.1.2.1 dX8_isSpan_21 (by decide) (fun c_4 => ?_) (fun c_4 => ?_)
      · have h := o_pos c_4 h
        refine lv_iconst (v := 0) X.1.1 X.1.2.1 dX8_isSpan_28 (by decide) ?_
        obtain ⟨rfl, rfl⟩ := o_ret2 h
        exact x_zret rfl X hP hS dX8_isSpan_29
      · have h := o_neg c_4 h
        refine lv_iconst (v := 1) X.1.1 X.1.2.1 dX8_isSpan_24 (by decide) ?_
        refine lv_goto (tgt := 29) X.1.1 X.1.2.1 dX8_isSpan_25 (by decide) ?_
        obtain ⟨rfl, rfl⟩ := o_ret2 h
        exact x_zret rfl X hP hS dX8_isSpan_29
/-- FordQuestionsModel.lacks(IIII)I -/
def f_X8_lacks (a0 : Int32) (a1 : Int32) (a2 : Int32) (a3 : Int32) (t : Mm) : Option (Int32 × Mm) := if o_inb a0 4 = true then (if 0 ≤ (t.1 9 0 14 (a0.toNatClampNeg)) then (if o_inb a0 4 = true then (if (t.1 9 0 13 (a0.toNatClampNeg)) = a1 then (o_bd (f_X8_isSpan a0 a2 a3 t) fun (r_7, t_5) => if r_7 = 0 then (some ((-13), t_5)) else (some (0, t_5))) else (some ((-12), t))) else none) else (some ((-11), t))) else none
theorem hd_X8_lacks : x_hd yX8_lacks 4 := by decide +kernel
set_option maxRecDepth 100000 in
set_option maxHeartbeats 4000000 in
theorem c_X8_lacks (l : Launch) (g : Ly) (hG : XG shR g) (a0 : Int32) (a1 : Int32) (a2 : Int32) (a3 : Int32) (t : Mm) {r : Int32} {t' : Mm} (h : f_X8_lacks a0 a1 a2 a3 t = some (r, t')) : MI l yX8_lacks cX8_lacks 5 (some .int) 2 shR g [.ref (g.2.2 (9, 0, 0)), .int a0, .int a1, .int a2, .int a3] t (XQi shR g r t') := by
  refine x_met hG (by decide +kernel) (Nat.le_of_ble_eq_true rfl) ?_
  intro p e s m below meth c ls X hP hl
  have hS : va_S (XA shR g) s.heap s.heap [] := va_S.rf
  have hl : lv_has ls 5 [(0, .ref (g.2.2 (9, 0, 0))), (1, .int a0), (2, .int a1), (3, .int a2), (4, .int a3)] := hl
  unfold f_X8_lacks at h
  generalize ([.ref (g.2.2 (9, 0, 0)), .int a0, .int a1, .int a2, .int a3] : List Value).toArray = args at X ⊢
  refine lv_aload_n X.1.1 X.1.2.1 dX8_lacks_0 rfl (lv_at hl 0 rfl) ?_
  refine gt_X8_14 X hP (kyM (by decide)) wd_894 dX8_lacks_1 ?_
  refine lv_iload_n X.1.1 X.1.2.1 dX8_lacks_4 rfl (lv_at hl 1 rfl) ?_
  obtain ⟨g_1, h⟩ := o_gd_inv h
  refine x_iald X hP (kyM (by decide)) (fun _ _ => rfl) g_1 dX8_lacks_5 ?_
  refine lv_if_ge (tgt := 14) X.1.1 X.1.2.1 dX8_lacks_6 (by decide) (fun c_2 => ?_) (fun c_2 => ?_)
  · have h := o_pos c_2 h
    refine lv_aload_n X.1.1 X.1.2.1 dX8_lacks_14 rfl (lv_at hl 0 rfl) ?_
    refine gt_X8_13 X hP (kyM (by decide)) wd_893 dX8_lacks_15 ?_
    refine lv_iload_n X.1.1 X.1.2.1 dX8_lacks_18 rfl (lv_at hl 1 rfl) ?_
    obtain ⟨g_3, h⟩ := o_gd_inv h
    refine x_iald X hP (kyM (by decide)) (fun _ _ => rfl) g_3 dX8_lacks_19 ?_
    refine lv_iload_n X.1.1 X.1.2.1 dX8_lacks_20 rfl (lv_at hl 2 rfl) ?_
    refine lv_icmp_eq (tgt := 29) X.1.1 X.1.2.1 dX8_lacks_21 (by decide) (fun c_4 => ?_) (fun c_4 => ?_)
    · have h := o_pos c_4 h
      refine lv_aload_n X.1.1 X.1.2.1 dX8_lacks_29 rfl (lv_at hl 0 rfl) ?_
      refine lv_iload_n X.1.1 X.1.2.1 dX8_lacks_30 rfl (lv_at hl 1 rfl) ?_
      refine lv_iload_n X.1.1 X.1.2.1 dX8_lacks_31 rfl (lv_at hl 3 rfl) ?_
      refine lv_iload X.1.1 X.1.2.1 dX8_lacks_32 (lv_at hl 4 rfl) ?_
      obtain ⟨⟨r_7, t_5⟩, hc_6, h⟩ := o_bd_inv h
      refine x_calli (x_runV (As := [.int a0, .int a2, .int a3]) (rest := []) X hP hS (c_X8_isSpan l g X.2.2.2.2.1 a0 a2 a3 t hc_6) ⟨wd_1236, wd_1233, wd_1235, wd_50, wd_62⟩ hd_X8_isSpan ⟨by omega, by decide⟩ (x_recv X hP (ci := 8) rfl (kyM (by decide)) rfl) rfl hl.1 rfl (Nat.le_of_ble_eq_true rfl) dX8_lacks_34) hS (fun H locs hP hS => ?_)
      refine lv_if_eq (tgt := 44) X.1.1 X.1.2.1 dX8_lacks_37 (by decide) (fun c_9 => ?_) (fun c_9 => ?_)
      · have h := o_pos c_9 h
        refine lv_bipush (v := (-13)) X.1.1 X.1.2.1 dX8_lacks_44 (by decide) ?_
        obtain ⟨rfl, rfl⟩ := o_ret2 h
        exact x_iret X hP hS dX8_lacks_46
      · have h := o_neg c_9 h
        refine lv_iconst (v := 0) X.1.1 X.1.2.1 dX8_lacks_40 (by decide) ?_
        refine lv_goto (tgt := 46) X.1.1 X.1.2.1 dX8_lacks_41 (by decide) ?_
        obtain ⟨rfl, rfl⟩ := o_ret2 h
        exact x_iret X hP hS dX8_lacks_46
    · have h := o_neg c_4 h
      refine lv_bipush (v := (-12)) X.1.1 X.1.2.1 dX8_lacks_24 (by decide) ?_
      refine lv_goto (tgt := 46) X.1.1 X.1.2.1 dX8_lacks_26 (by decide) ?_
      obtain ⟨rfl, rfl⟩ := o_ret2 h
      exact x_iret X hP hS dX8_lacks_46
  · have h := o_neg c_2 h
    refine lv_bipush (v := (-11)) X.1.1 X.1.2.1 dX8_lacks_9 (by decide) ?_
    refine lv_goto (tgt := 46) X.1.1 X.1.2.1 dX8_lacks_11 (by decide) ?_
    obtain ⟨rfl, rfl⟩ := o_ret2 h
    exact x_iret X hP hS dX8_lacks_46
def f_X8_isSeen_49 (N : Nat) (k6 : Int32 × Int32 × Int32 × Int32 × Int32 × Mm → Option (Int32 × Mm)) (x1 : Int32) (x2 : Int32) (x3 : Int32) (x5 : Int32) (s0 : Int32) (t : Mm) : Option (Int32 × Mm) := k6 (x1, x2, x3, s0, (x5 + 1), t)
def f_X8_isSeen_48 (N : Nat) (k6 : Int32 × Int32 × Int32 × Int32 × Int32 × Mm → Option (Int32 × Mm)) (x1 : Int32) (x2 : Int32) (x3 : Int32) (x5 : Int32) (t : Mm) : Option (Int32 × Mm) := f_X8_isSeen_49 N k6 x1 x2 x3 x5 0 t
def b_X8_isSeen_6 (N : Nat) (k6 : Int32 × Int32 × Int32 × Int32 × Int32 × Mm → Option (Int32 × Mm)) (x1 : Int32) (x2 : Int32) (x3 : Int32) (x4 : Int32) (x5 : Int32) (t : Mm) : Option (Int32 × Mm) := if x3 ≤ x5 then (if (x4 = 0 ∨ x4 = 1) then some (x4, t) else none) else (o_bd (f_X8_goHour N t) fun t_3 => if x4 = 0 then (f_X8_isSeen_48 N k6 x1 x2 x3 x5 t_3) else (if o_inb (((24 * x1) + x2) + x5) 96 = true then (o_bd (f_X8_inMany N t_3) fun (r_9, t_7) => if (lg_cmp (t_3.2 0 ((((24 * x1) + x2) + x5).toNatClampNeg)) (r_9.toInt64)) = 0 then (f_X8_isSeen_49 N k6 x1 x2 x3 x5 1 t_7) else (f_X8_isSeen_48 N k6 x1 x2 x3 x5 t_7)) else none))
def f_X8_isSeen_6 (N : Nat) (x1 : Int32) (x2 : Int32) (x3 : Int32) (x4 : Int32) (x5 : Int32) (t : Mm) : Option (Int32 × Mm) := o_lp (fun k x => b_X8_isSeen_6 N k x.1 x.2.1 x.2.2.1 x.2.2.2.1 x.2.2.2.2.1 x.2.2.2.2.2) N (x1, x2, x3, x4, x5, t)
/-- FordQuestionsModel.isSeen(III)Z -/
def f_X8_isSeen (N : Nat) (a0 : Int32) (a1 : Int32) (a2 : Int32) (t : Mm) : Option (Int32 × Mm) := f_X8_isSeen_6 N a0 a1 a2 1 0 t
theorem hd_X8_isSeen : x_hd yX8_isSeen 3 := by decide +kernel
set_option maxRecDepth 100000 in
set_option maxHeartbeats 4000000 in
theorem w_X8_isSeen_49 {l : Launch} {g : Ly} {p : Program} {e : Env} {s : State} {m : MethodId} {args : Array Value} {below : List Frame} {meth : Method} {c : Code} (N : Nat) (X : XC p m meth c cX8_isSeen 6 s args (.code yX8_isSeen cX8_isSeen 6 (some .boolean)) RX8 (some .boolean) shR g) {r : Int32} {t' : Mm} {k6 : Int32 × Int32 × Int32 × Int32 × Int32 × Mm → Option (Int32 × Mm)} (hk6 : ∀ x : Int32 × Int32 × Int32 × Int32 × Int32 × Mm, k6 x = some (r, t') → ∀ (H : Heap) (locs : List Loc) (ls : Array Slot), XP shR g x.2.2.2.2.2 H → va_S (XA shR g) s.heap H locs → lv_has ls 6 [(0, .ref (g.2.2 (9, 0, 0))), (1, .int x.1), (2, .int x.2.1), (3, .int x.2.2.1), (4, .int x.2.2.2.1), (5, .int x.2.2.2.2.1)] → W p l e (rmv 5) s m args below meth c H locs 0 0 (MQ below (XQi shR g r t') args s 0 0 (XA shR g)) (F0 m 6 ls [])) (x1 : Int32) (x2 : Int32) (x3 : Int32) (x5 : Int32) (s0 : Int32) (t : Mm) (H : Heap) (locs : List Loc) (ls : Array Slot) (hP : XP shR g t H) (hS : va_S (XA shR g) s.heap H locs) (hl : lv_has ls 6 [(0, .ref (g.2.2 (9, 0, 0))), (1, .int x1), (2, .int x2), (3, .int x3), (5, .int x5)]) (h : f_X8_isSeen_49 N k6 x1 x2 x3 x5 s0 t = some (r, t')) : W p l e (rmv 5) s m args below meth c H locs 0 0 (MQ below (XQi shR g r t') args s 0 0 (XA shR g)) (F0 m 49 ls [.int s0]) := by
  unfold f_X8_isSeen_49 at h
  refine lv_istore (lv' := [(4, .int s0), (0, .ref (g.2.2 (9, 0, 0))), (1, .int x1), (2, .int x2), (3, .int x3), (5, .int x5)]) X.1.1 X.1.2.1 dX8_isSeen_49 hl (by decide) rfl (fun ls hl => ?_)
  refine lv_iinc (v := (x5 + 1)) (lv' := [(5, .int (x5 + 1)), (4, .int s0), (0, .ref (g.2.2 (9, 0, 0))), (1, .int x1), (2, .int x2), (3, .int x3)]) X.1.1 X.1.2.1 dX8_isSeen_51 hl (k := 5) rfl rfl (by decide) rfl (fun ls hl => ?_)
  refine lv_goto (tgt := 6) X.1.1 X.1.2.1 dX8_isSeen_54 (by decide) ?_
  exact hk6 (x1, x2, x3, s0, (x5 + 1), t) h _ _ _ hP hS (lv_sub hl [2, 3, 4, 5, 1, 0] rfl)
set_option maxRecDepth 100000 in
set_option maxHeartbeats 4000000 in
theorem w_X8_isSeen_48 {l : Launch} {g : Ly} {p : Program} {e : Env} {s : State} {m : MethodId} {args : Array Value} {below : List Frame} {meth : Method} {c : Code} (N : Nat) (X : XC p m meth c cX8_isSeen 6 s args (.code yX8_isSeen cX8_isSeen 6 (some .boolean)) RX8 (some .boolean) shR g) {r : Int32} {t' : Mm} {k6 : Int32 × Int32 × Int32 × Int32 × Int32 × Mm → Option (Int32 × Mm)} (hk6 : ∀ x : Int32 × Int32 × Int32 × Int32 × Int32 × Mm, k6 x = some (r, t') → ∀ (H : Heap) (locs : List Loc) (ls : Array Slot), XP shR g x.2.2.2.2.2 H → va_S (XA shR g) s.heap H locs → lv_has ls 6 [(0, .ref (g.2.2 (9, 0, 0))), (1, .int x.1), (2, .int x.2.1), (3, .int x.2.2.1), (4, .int x.2.2.2.1), (5, .int x.2.2.2.2.1)] → W p l e (rmv 5) s m args below meth c H locs 0 0 (MQ below (XQi shR g r t') args s 0 0 (XA shR g)) (F0 m 6 ls [])) (x1 : Int32) (x2 : Int32) (x3 : Int32) (x5 : Int32) (t : Mm) (H : Heap) (locs : List Loc) (ls : Array Slot) (hP : XP shR g t H) (hS : va_S (XA shR g) s.heap H locs) (hl : lv_has ls 6 [(0, .ref (g.2.2 (9, 0, 0))), (1, .int x1), (2, .int x2), (3, .int x3), (5, .int x5)]) (h : f_X8_isSeen_48 N k6 x1 x2 x3 x5 t = some (r, t')) : W p l e (rmv 5) s m args below meth c H locs 0 0 (MQ below (XQi shR g r t') args s 0 0 (XA shR g)) (F0 m 48 ls []) := by
  unfold f_X8_isSeen_48 at h
  refine lv_iconst (v := 0) X.1.1 X.1.2.1 dX8_isSeen_48 (by decide) ?_
  exact w_X8_isSeen_49 N X hk6 x1 x2 x3 x5 0 t _ _ _ hP hS (lv_sub hl [0, 1, 2, 3, 4] rfl) h
set_option maxRecDepth 100000 in
set_option maxHeartbeats 4000000 in
theorem wb_X8_isSeen_6 {l : Launch} {g : Ly} {p : Program} {e : Env} {s : State} {m : MethodId} {args : Array Value} {below : List Frame} {meth : Method} {c : Code} (N : Nat) (X : XC p m meth c cX8_isSeen 6 s args (.code yX8_isSeen cX8_isSeen 6 (some .boolean)) RX8 (some .boolean) shR g) {r : Int32} {t' : Mm} {k6 : Int32 × Int32 × Int32 × Int32 × Int32 × Mm → Option (Int32 × Mm)} (hk6 : ∀ x : Int32 × Int32 × Int32 × Int32 × Int32 × Mm, k6 x = some (r, t') → ∀ (H : Heap) (locs : List Loc) (ls : Array Slot), XP shR g x.2.2.2.2.2 H → va_S (XA shR g) s.heap H locs → lv_has ls 6 [(0, .ref (g.2.2 (9, 0, 0))), (1, .int x.1), (2, .int x.2.1), (3, .int x.2.2.1), (4, .int x.2.2.2.1), (5, .int x.2.2.2.2.1)] → W p l e (rmv 5) s m args below meth c H locs 0 0 (MQ below (XQi shR g r t') args s 0 0 (XA shR g)) (F0 m 6 ls [])) (x1 : Int32) (x2 : Int32) (x3 : Int32) (x4 : Int32) (x5 : Int32) (t : Mm) (H : Heap) (locs : List Loc) (ls : Array Slot) (hP : XP shR g t H) (hS : va_S (XA shR g) s.heap H locs) (hl : lv_has ls 6 [(0, .ref (g.2.2 (9, 0, 0))), (1, .int x1), (2, .int x2), (3, .int x3), (4, .int x4), (5, .int x5)]) (h : b_X8_isSeen_6 N k6 x1 x2 x3 x4 x5 t = some (r, t')) : W p l e (rmv 5) s m args below meth c H locs 0 0 (MQ below (XQi shR g r t') args s 0 0 (XA shR g)) (F0 m 6 ls []) := by
  unfold b_X8_isSeen_6 at h
  refine lv_iload X.1.1 X.1.2.1 dX8_isSeen_6 (lv_at hl 5 rfl) ?_
  refine lv_iload_n X.1.1 X.1.2.1 dX8_isSeen_8 rfl (lv_at hl 3 rfl) ?_
  refine lv_icmp_ge (tgt := 57) X.1.1 X.1.2.1 dX8_isSeen_9 (by decide) (fun c_1 => ?_) (fun c_1 => ?_)
  · have h := o_pos c_1 h
    refine lv_iload X.1.1 X.1.2.1 dX8_isSeen_57 (lv_at hl 4 rfl) ?_
    obtain ⟨g_2, h⟩ := o_gd_inv h
    obtain ⟨rfl, rfl⟩ := o_ret2 h
    exact x_zret (x_narZ g_2) X hP hS dX8_isSeen_59
  · have h := o_neg c_1 h
    refine lv_aload_n X.1.1 X.1.2.1 dX8_isSeen_12 rfl (lv_at hl 0 rfl) ?_
    obtain ⟨t_3, hc_4, h⟩ := o_bd_inv h
    refine x_callv (x_runV (As := []) (rest := []) X hP hS (c_X8_goHour l g N X.2.2.2.2.1 t hc_4) ⟨wd_1093, wd_1090, wd_1092, wd_38, wd_62⟩ hd_X8_goHour ⟨by omega, by decide⟩ (x_recv X hP (ci := 8) rfl (kyM (by decide)) rfl) rfl hl.1 rfl (Nat.le_of_ble_eq_true rfl) dX8_isSeen_13) hS (fun H locs hP hS => ?_)
    refine lv_iload X.1.1 X.1.2.1 dX8_isSeen_16 (lv_at hl 4 rfl) ?_
    refine lv_if_eq (tgt := 48) X.1.1 X.1.2.1 dX8_isSeen_18 (by decide) (fun c_5 => ?_) (fun c_5 => ?_)
    · have h := o_pos c_5 h
      exact w_X8_isSeen_48 N X hk6 x1 x2 x3 x5 t_3 _ _ _ hP hS (lv_sub hl [0, 1, 2, 3, 5] rfl) h
    · have h := o_neg c_5 h
      refine lv_aload_n X.1.1 X.1.2.1 dX8_isSeen_21 rfl (lv_at hl 0 rfl) ?_
      refine gt_X8_12 X hP (kyM (by decide)) wd_892 dX8_isSeen_22 ?_
      refine lv_bipush (v := 24) X.1.1 X.1.2.1 dX8_isSeen_25 (by decide) ?_
      refine lv_iload_n X.1.1 X.1.2.1 dX8_isSeen_27 rfl (lv_at hl 1 rfl) ?_
      refine lv_imul X.1.1 X.1.2.1 dX8_isSeen_28 ?_
      refine lv_iload_n X.1.1 X.1.2.1 dX8_isSeen_29 rfl (lv_at hl 2 rfl) ?_
      refine lv_iadd X.1.1 X.1.2.1 dX8_isSeen_30 ?_
      refine lv_iload X.1.1 X.1.2.1 dX8_isSeen_31 (lv_at hl 5 rfl) ?_
      refine lv_iadd X.1.1 X.1.2.1 dX8_isSeen_33 ?_
      obtain ⟨g_6, h⟩ := o_gd_inv h
      refine x_lald X hP (kyM (by decide)) (fun _ _ => rfl) g_6 dX8_isSeen_34 ?_
      refine lv_aload_n X.1.1 X.1.2.1 dX8_isSeen_35 rfl (lv_at hl 0 rfl) ?_
      obtain ⟨⟨r_9, t_7⟩, hc_8, h⟩ := o_bd_inv h
      refine x_calli (x_runV (As := []) (rest := [.long (t_3.2 0 ((((24 * x1) + x2) + x5).toNatClampNeg))]) X hP hS (c_X8_inMany l g N X.2.2.2.2.1 t_3 hc_8) ⟨wd_1170, wd_1167, wd_1169, wd_45, wd_62⟩ hd_X8_inMany ⟨by omega, by decide⟩ (x_recv X hP (ci := 8) rfl (kyM (by decide)) rfl) rfl hl.1 rfl (Nat.le_of_ble_eq_true rfl) dX8_isSeen_36) hS (fun H locs hP hS => ?_)
      refine lv_i2l (v := (r_9.toInt64)) X.1.1 X.1.2.1 dX8_isSeen_39 rfl ?_
      refine W.lcmp X.1.1 X.1.2.1 dX8_isSeen_40 ?_
      refine lv_if_ne (tgt := 48) X.1.1 X.1.2.1 dX8_isSeen_41 (by decide) (fun c_11 => ?_) (fun c_11 => ?_)
      · have h := o_neg c_11 h
        exact w_X8_isSeen_48 N X hk6 x1 x2 x3 x5 t_7 _ _ _ hP hS (lv_sub hl [0, 1, 2, 3, 5] rfl) h
      · have h := o_pos c_11 h
        refine lv_iconst (v := 1) X.1.1 X.1.2.1 dX8_isSeen_44 (by decide) ?_
        refine lv_goto (tgt := 49) X.1.1 X.1.2.1 dX8_isSeen_45 (by decide) ?_
        exact w_X8_isSeen_49 N X hk6 x1 x2 x3 x5 1 t_7 _ _ _ hP hS (lv_sub hl [0, 1, 2, 3, 5] rfl) h
set_option maxRecDepth 100000 in
set_option maxHeartbeats 4000000 in
theorem w_X8_isSeen_6 {l : Launch} {g : Ly} {p : Program} {e : Env} {s : State} {m : MethodId} {args : Array Value} {below : List Frame} {meth : Method} {c : Code} (N : Nat) (X : XC p m meth c cX8_isSeen 6 s args (.code yX8_isSeen cX8_isSeen 6 (some .boolean)) RX8 (some .boolean) shR g) {r : Int32} {t' : Mm} (x1 : Int32) (x2 : Int32) (x3 : Int32) (x4 : Int32) (x5 : Int32) (t : Mm) (H : Heap) (locs : List Loc) (ls : Array Slot) (hP : XP shR g t H) (hS : va_S (XA shR g) s.heap H locs) (hl : lv_has ls 6 [(0, .ref (g.2.2 (9, 0, 0))), (1, .int x1), (2, .int x2), (3, .int x3), (4, .int x4), (5, .int x5)]) (h : f_X8_isSeen_6 N x1 x2 x3 x4 x5 t = some (r, t')) : W p l e (rmv 5) s m args below meth c H locs 0 0 (MQ below (XQi shR g r t') args s 0 0 (XA shR g)) (F0 m 6 ls []) :=
  o_lp_ind (P := fun x : Int32 × Int32 × Int32 × Int32 × Int32 × Mm => ∀ (H : Heap) (locs : List Loc) (ls : Array Slot), XP shR g x.2.2.2.2.2 H → va_S (XA shR g) s.heap H locs → lv_has ls 6 [(0, .ref (g.2.2 (9, 0, 0))), (1, .int x.1), (2, .int x.2.1), (3, .int x.2.2.1), (4, .int x.2.2.2.1), (5, .int x.2.2.2.2.1)] → W p l e (rmv 5) s m args below meth c H locs 0 0 (MQ below (XQi shR g r t') args s 0 0 (XA shR g)) (F0 m 6 ls [])) (fun k hk x h H locs ls hP hS hl => wb_X8_isSeen_6 N X hk x.1 x.2.1 x.2.2.1 x.2.2.2.1 x.2.2.2.2.1 x.2.2.2.2.2 H locs ls hP hS hl h) N (x1, x2, x3, x4, x5, t) h H locs ls hP hS hl
set_option maxRecDepth 100000 in
set_option maxHeartbeats 4000000 in
theorem c_X8_isSeen (l : Launch) (g : Ly) (N : Nat) (hG : XG shR g) (a0 : Int32) (a1 : Int32) (a2 : Int32) (t : Mm) {r : Int32} {t' : Mm} (h : f_X8_isSeen N a0 a1 a2 t = some (r, t')) : MI l yX8_isSeen cX8_isSeen 6 (some .boolean) 5 shR g [.ref (g.2.2 (9, 0, 0)), .int a0, .int a1, .int a2] t (XQi shR g r t') := by
  refine x_met hG (by decide +kernel) (Nat.le_of_ble_eq_true rfl) ?_
  intro p e s m below meth c ls X hP hl
  have hS : va_S (XA shR g) s.heap s.heap [] := va_S.rf
  have hl : lv_has ls 6 [(0, .ref (g.2.2 (9, 0, 0))), (1, .int a0), (2, .int a1), (3, .int a2)] := hl
  unfold f_X8_isSeen at h
  generalize ([.ref (g.2.2 (9, 0, 0)), .int a0, .int a1, .int a2] : List Value).toArray = args at X ⊢
  refine lv_iconst (v := 1) X.1.1 X.1.2.1 dX8_isSeen_0 (by decide) ?_
  refine lv_istore (lv' := [(4, .int 1), (0, .ref (g.2.2 (9, 0, 0))), (1, .int a0), (2, .int a1), (3, .int a2)]) X.1.1 X.1.2.1 dX8_isSeen_1 hl (by decide) rfl (fun ls hl => ?_)
  refine lv_iconst (v := 0) X.1.1 X.1.2.1 dX8_isSeen_3 (by decide) ?_
  refine lv_istore (lv' := [(5, .int 0), (4, .int 1), (0, .ref (g.2.2 (9, 0, 0))), (1, .int a0), (2, .int a1), (3, .int a2)]) X.1.1 X.1.2.1 dX8_isSeen_4 hl (by decide) rfl (fun ls hl => ?_)
  exact w_X8_isSeen_6 N X a0 a1 a2 1 0 t _ _ _ hP hS (lv_sub hl [2, 3, 4, 5, 1, 0] rfl) h
def f_X8_seenKinds_48 (N : Nat) (k13 : Int32 × Int32 × Int32 × Int32 × Mm → Option (Int32 × Mm)) (x2 : Int32) (x3 : Int32) (x4 : Int32) (s0 : Int32) (s1 : Int32) (t : Mm) : Option (Int32 × Mm) := o_nm (sI t 9 0 0 18 ((t.1 9 0 0 18) + 1)) fun t_1 => k13 (x2, x3, x4, (s0 ||| s1), t_1)
def b_X8_seenKinds_13 (N : Nat) (k13 : Int32 × Int32 × Int32 × Int32 × Mm → Option (Int32 × Mm)) (x2 : Int32) (x3 : Int32) (x4 : Int32) (x5 : Int32) (t : Mm) : Option (Int32 × Mm) := if 5 ≤ (t.1 9 0 0 18) then (o_nm (sI t 9 0 0 17 (-4)) fun t_4 => some (x5, t_4)) else (o_bd (f_X8_aside N t) fun t_6 => o_bd (f_X8_isSeen N x2 x3 x4 t_6) fun (r_10, t_8) => if r_10 = 0 then (f_X8_seenKinds_48 N k13 x2 x3 x4 x5 0 t_8) else (f_X8_seenKinds_48 N k13 x2 x3 x4 x5 (1 <<< ((t_8.1 9 0 0 18) &&& 31)) t_8))
def f_X8_seenKinds_13 (N : Nat) (x2 : Int32) (x3 : Int32) (x4 : Int32) (x5 : Int32) (t : Mm) : Option (Int32 × Mm) := o_lp (fun k x => b_X8_seenKinds_13 N k x.1 x.2.1 x.2.2.1 x.2.2.2.1 x.2.2.2.2) N (x2, x3, x4, x5, t)
/-- FordQuestionsModel.seenKinds(IIII)I -/
def f_X8_seenKinds (N : Nat) (a0 : Int32) (a1 : Int32) (a2 : Int32) (a3 : Int32) (t : Mm) : Option (Int32 × Mm) := o_nm (sI t 9 0 0 17 a0) fun t_13 => o_nm (sI t_13 9 0 0 18 0) fun t_15 => f_X8_seenKinds_13 N a1 a2 a3 0 t_15
theorem hd_X8_seenKinds : x_hd yX8_seenKinds 4 := by decide +kernel
set_option maxRecDepth 100000 in
set_option maxHeartbeats 4000000 in
theorem w_X8_seenKinds_48 {l : Launch} {g : Ly} {p : Program} {e : Env} {s : State} {m : MethodId} {args : Array Value} {below : List Frame} {meth : Method} {c : Code} (N : Nat) (X : XC p m meth c cX8_seenKinds 6 s args (.code yX8_seenKinds cX8_seenKinds 6 (some .int)) RX8 (some .int) shR g) {r : Int32} {t' : Mm} {k13 : Int32 × Int32 × Int32 × Int32 × Mm → Option (Int32 × Mm)} (hk13 : ∀ x : Int32 × Int32 × Int32 × Int32 × Mm, k13 x = some (r, t') → ∀ (H : Heap) (locs : List Loc) (ls : Array Slot), XP shR g x.2.2.2.2 H → va_S (XA shR g) s.heap H locs → lv_has ls 6 [(0, .ref (g.2.2 (9, 0, 0))), (2, .int x.1), (3, .int x.2.1), (4, .int x.2.2.1), (5, .int x.2.2.2.1)] → W p l e (rmv 6) s m args below meth c H locs 0 0 (MQ below (XQi shR g r t') args s 0 0 (XA shR g)) (F0 m 13 ls [])) (x2 : Int32) (x3 : Int32) (x4 : Int32) (s0 : Int32) (s1 : Int32) (t : Mm) (H : Heap) (locs : List Loc) (ls : Array Slot) (hP : XP shR g t H) (hS : va_S (XA shR g) s.heap H locs) (hl : lv_has ls 6 [(0, .ref (g.2.2 (9, 0, 0))), (2, .int x2), (3, .int x3), (4, .int x4)]) (h : f_X8_seenKinds_48 N k13 x2 x3 x4 s0 s1 t = some (r, t')) : W p l e (rmv 6) s m args below meth c H locs 0 0 (MQ below (XQi shR g r t') args s 0 0 (XA shR g)) (F0 m 48 ls [.int s1, .int s0]) := by
  unfold f_X8_seenKinds_48 at h
  refine lv_ior X.1.1 X.1.2.1 dX8_seenKinds_48 ?_
  refine lv_istore (lv' := [(5, .int (s0 ||| s1)), (0, .ref (g.2.2 (9, 0, 0))), (2, .int x2), (3, .int x3), (4, .int x4)]) X.1.1 X.1.2.1 dX8_seenKinds_49 hl (by decide) rfl (fun ls hl => ?_)
  refine lv_aload_n X.1.1 X.1.2.1 dX8_seenKinds_51 rfl (lv_at hl 1 rfl) ?_
  refine lv_dup X.1.1 X.1.2.1 dX8_seenKinds_52 rfl ?_
  refine gt_X8_18 X hP (kyM (by decide)) wd_898 dX8_seenKinds_53 ?_
  refine lv_iconst (v := 1) X.1.1 X.1.2.1 dX8_seenKinds_56 (by decide) ?_
  refine lv_iadd X.1.1 X.1.2.1 dX8_seenKinds_57 ?_
  obtain ⟨t_1, e_2, h⟩ := o_nm_inv h
  refine pt_X8_18 (x := ((t.1 9 0 0 18) + 1)) X hP hS (kyM (by decide)) wd_898 dX8_seenKinds_58 (fun H locs hP hS => ?_)
  have hP : XP shR g t_1 H := by rw [e_2]; exact hP
  refine lv_goto (tgt := 13) X.1.1 X.1.2.1 dX8_seenKinds_61 (by decide) ?_
  exact hk13 (x2, x3, x4, (s0 ||| s1), t_1) h _ _ _ hP hS (lv_sub hl [1, 2, 3, 4, 0] rfl)
set_option maxRecDepth 100000 in
set_option maxHeartbeats 4000000 in
theorem wb_X8_seenKinds_13 {l : Launch} {g : Ly} {p : Program} {e : Env} {s : State} {m : MethodId} {args : Array Value} {below : List Frame} {meth : Method} {c : Code} (N : Nat) (X : XC p m meth c cX8_seenKinds 6 s args (.code yX8_seenKinds cX8_seenKinds 6 (some .int)) RX8 (some .int) shR g) {r : Int32} {t' : Mm} {k13 : Int32 × Int32 × Int32 × Int32 × Mm → Option (Int32 × Mm)} (hk13 : ∀ x : Int32 × Int32 × Int32 × Int32 × Mm, k13 x = some (r, t') → ∀ (H : Heap) (locs : List Loc) (ls : Array Slot), XP shR g x.2.2.2.2 H → va_S (XA shR g) s.heap H locs → lv_has ls 6 [(0, .ref (g.2.2 (9, 0, 0))), (2, .int x.1), (3, .int x.2.1), (4, .int x.2.2.1), (5, .int x.2.2.2.1)] → W p l e (rmv 6) s m args below meth c H locs 0 0 (MQ below (XQi shR g r t') args s 0 0 (XA shR g)) (F0 m 13 ls [])) (x2 : Int32) (x3 : Int32) (x4 : Int32) (x5 : Int32) (t : Mm) (H : Heap) (locs : List Loc) (ls : Array Slot) (hP : XP shR g t H) (hS : va_S (XA shR g) s.heap H locs) (hl : lv_has ls 6 [(0, .ref (g.2.2 (9, 0, 0))), (2, .int x2), (3, .int x3), (4, .int x4), (5, .int x5)]) (h : b_X8_seenKinds_13 N k13 x2 x3 x4 x5 t = some (r, t')) : W p l e (rmv 6) s m args below meth c H locs 0 0 (MQ below (XQi shR g r t') args s 0 0 (XA shR g)) (F0 m 13 ls []) := by
  unfold b_X8_seenKinds_13 at h
  refine lv_aload_n X.1.1 X.1.2.1 dX8_seenKinds_13 rfl (lv_at hl 0 rfl) ?_
  refine gt_X8_18 X hP (kyM (by decide)) wd_898 dX8_seenKinds_14 ?_
  refine lv_iconst (v := 5) X.1.1 X.1.2.1 dX8_seenKinds_17 (by decide) ?_
  refine lv_icmp_ge (tgt := 64) X.1.1 X.1.2.1 dX8_seenKinds_18 (by decide) (fun c_3 => ?_) (fun c_3 => ?_)
  · have h := o_pos c_3 h
    refine lv_aload_n X.1.1 X.1.2.1 dX8_seenKinds_64 rfl (lv_at hl 0 rfl) ?_
    refine lv_bipush (v := (-4)) X.1.1 X.1.2.1 dX8_seenKinds_65 (by decide) ?_
    obtain ⟨t_4, e_5, h⟩ := o_nm_inv h
    refine pt_X8_17 (x := (-4)) X hP hS (kyM (by decide)) wd_897 dX8_seenKinds_67 (fun H locs hP hS => ?_)
    have hP : XP shR g t_4 H := by rw [e_5]; exact hP
    refine lv_iload X.1.1 X.1.2.1 dX8_seenKinds_70 (lv_at hl 4 rfl) ?_
    obtain ⟨rfl, rfl⟩ := o_ret2 h
    exact x_iret X hP hS dX8_seenKinds_72
  · have h := o_neg c_3 h
    refine lv_aload_n X.1.1 X.1.2.1 dX8_seenKinds_21 rfl (lv_at hl 0 rfl) ?_
    obtain ⟨t_6, hc_7, h⟩ := o_bd_inv h
    refine x_callv (x_runV (As := []) (rest := []) X hP hS (c_X8_aside l g N X.2.2.2.2.1 t hc_7) ⟨wd_1014, wd_1011, wd_1013, wd_27, wd_62⟩ hd_X8_aside ⟨by omega, by decide⟩ (x_recv X hP (ci := 8) rfl (kyM (by decide)) rfl) rfl hl.1 rfl (Nat.le_of_ble_eq_true rfl) dX8_seenKinds_22) hS (fun H locs hP hS => ?_)
    refine lv_iload X.1.1 X.1.2.1 dX8_seenKinds_25 (lv_at hl 4 rfl) ?_
    refine lv_aload_n X.1.1 X.1.2.1 dX8_seenKinds_27 rfl (lv_at hl 0 rfl) ?_
    refine lv_iload_n X.1.1 X.1.2.1 dX8_seenKinds_28 rfl (lv_at hl 1 rfl) ?_
    refine lv_iload_n X.1.1 X.1.2.1 dX8_seenKinds_29 rfl (lv_at hl 2 rfl) ?_
    refine lv_iload X.1.1 X.1.2.1 dX8_seenKinds_30 (lv_at hl 3 rfl) ?_
    obtain ⟨⟨r_10, t_8⟩, hc_9, h⟩ := o_bd_inv h
    refine x_calli (x_runV (As := [.int x2, .int x3, .int x4]) (rest := [.int x5]) X hP hS (c_X8_isSeen l g N X.2.2.2.2.1 x2 x3 x4 t_6 hc_9) ⟨wd_1244, wd_1241, wd_1243, wd_52, wd_62⟩ hd_X8_isSeen ⟨by omega, by decide⟩ (x_recv X hP (ci := 8) rfl (kyM (by decide)) rfl) rfl hl.1 rfl (Nat.le_of_ble_eq_true rfl) dX8_seenKinds_32) hS (fun H locs hP hS => ?_)
    refine lv_if_eq (tgt := 47) X.1.1 X.1.2.1 dX8_seenKinds_35 (by decide) (fun c_12 => ?_) (fun c_12 => ?_)
    · have h := o_pos c_12 h
      refine lv_iconst (v := 0) X.1.1 X.1.2.1 dX8_seenKinds_47 (by decide) ?_
      exact w_X8_seenKinds_48 N X hk13 x2 x3 x4 x5 0 t_8 _ _ _ hP hS (lv_sub hl [0, 1, 2, 3] rfl) h
    · have h := o_neg c_12 h
      refine lv_iconst (v := 1) X.1.1 X.1.2.1 dX8_seenKinds_38 (by decide) ?_
      refine lv_aload_n X.1.1 X.1.2.1 dX8_seenKinds_39 rfl (lv_at hl 0 rfl) ?_
      refine gt_X8_18 X hP (kyM (by decide)) wd_898 dX8_seenKinds_40 ?_
      refine lv_ishl X.1.1 X.1.2.1 dX8_seenKinds_43 ?_
      refine lv_goto (tgt := 48) X.1.1 X.1.2.1 dX8_seenKinds_44 (by decide) ?_
      exact w_X8_seenKinds_48 N X hk13 x2 x3 x4 x5 (1 <<< ((t_8.1 9 0 0 18) &&& 31)) t_8 _ _ _ hP hS (lv_sub hl [0, 1, 2, 3] rfl) h
set_option maxRecDepth 100000 in
set_option maxHeartbeats 4000000 in
theorem w_X8_seenKinds_13 {l : Launch} {g : Ly} {p : Program} {e : Env} {s : State} {m : MethodId} {args : Array Value} {below : List Frame} {meth : Method} {c : Code} (N : Nat) (X : XC p m meth c cX8_seenKinds 6 s args (.code yX8_seenKinds cX8_seenKinds 6 (some .int)) RX8 (some .int) shR g) {r : Int32} {t' : Mm} (x2 : Int32) (x3 : Int32) (x4 : Int32) (x5 : Int32) (t : Mm) (H : Heap) (locs : List Loc) (ls : Array Slot) (hP : XP shR g t H) (hS : va_S (XA shR g) s.heap H locs) (hl : lv_has ls 6 [(0, .ref (g.2.2 (9, 0, 0))), (2, .int x2), (3, .int x3), (4, .int x4), (5, .int x5)]) (h : f_X8_seenKinds_13 N x2 x3 x4 x5 t = some (r, t')) : W p l e (rmv 6) s m args below meth c H locs 0 0 (MQ below (XQi shR g r t') args s 0 0 (XA shR g)) (F0 m 13 ls []) :=
  o_lp_ind (P := fun x : Int32 × Int32 × Int32 × Int32 × Mm => ∀ (H : Heap) (locs : List Loc) (ls : Array Slot), XP shR g x.2.2.2.2 H → va_S (XA shR g) s.heap H locs → lv_has ls 6 [(0, .ref (g.2.2 (9, 0, 0))), (2, .int x.1), (3, .int x.2.1), (4, .int x.2.2.1), (5, .int x.2.2.2.1)] → W p l e (rmv 6) s m args below meth c H locs 0 0 (MQ below (XQi shR g r t') args s 0 0 (XA shR g)) (F0 m 13 ls [])) (fun k hk x h H locs ls hP hS hl => wb_X8_seenKinds_13 N X hk x.1 x.2.1 x.2.2.1 x.2.2.2.1 x.2.2.2.2 H locs ls hP hS hl h) N (x2, x3, x4, x5, t) h H locs ls hP hS hl
set_option maxRecDepth 100000 in
set_option maxHeartbeats 4000000 in
theorem c_X8_seenKinds (l : Launch) (g : Ly) (N : Nat) (hG : XG shR g) (a0 : Int32) (a1 : Int32) (a2 : Int32) (a3 : Int32) (t : Mm) {r : Int32} {t' : Mm} (h : f_X8_seenKinds N a0 a1 a2 a3 t = some (r, t')) : MI l yX8_seenKinds cX8_seenKinds 6 (some .int) 6 shR g [.ref (g.2.2 (9, 0, 0)), .int a0, .int a1, .int a2, .int a3] t (XQi shR g r t') := by
  refine x_met hG (by decide +kernel) (Nat.le_of_ble_eq_true rfl) ?_
  intro p e s m below meth c ls X hP hl
  have hS : va_S (XA shR g) s.heap s.heap [] := va_S.rf
  have hl : lv_has ls 6 [(0, .ref (g.2.2 (9, 0, 0))), (1, .int a0), (2, .int a1), (3, .int a2), (4, .int a3)] := hl
  unfold f_X8_seenKinds at h
  generalize ([.ref (g.2.2 (9, 0, 0)), .int a0, .int a1, .int a2, .int a3] : List Value).toArray = args at X ⊢
  refine lv_iconst (v := 0) X.1.1 X.1.2.1 dX8_seenKinds_0 (by decide) ?_
  refine lv_istore (lv' := [(5, .int 0), (0, .ref (g.2.2 (9, 0, 0))), (1, .int a0), (2, .int a1), (3, .int a2), (4, .int a3)]) X.1.1 X.1.2.1 dX8_seenKinds_1 hl (by decide) rfl (fun ls hl => ?_)
  refine lv_aload_n X.1.1 X.1.2.1 dX8_seenKinds_3 rfl (lv_at hl 1 rfl) ?_
  refine lv_iload_n X.1.1 X.1.2.1 dX8_seenKinds_4 rfl (lv_at hl 2 rfl) ?_
  obtain ⟨t_13, e_14, h⟩ := o_nm_inv h
  refine pt_X8_17 (x := a0) X hP hS (kyM (by decide)) wd_897 dX8_seenKinds_5 (fun H locs hP hS => ?_)
  have hP : XP shR g t_13 H := by rw [e_14]; exact hP
  refine lv_aload_n X.1.1 X.1.2.1 dX8_seenKinds_8 rfl (lv_at hl 1 rfl) ?_
  refine lv_iconst (v := 0) X.1.1 X.1.2.1 dX8_seenKinds_9 (by decide) ?_
  obtain ⟨t_15, e_16, h⟩ := o_nm_inv h
  refine pt_X8_18 (x := 0) X hP hS (kyM (by decide)) wd_898 dX8_seenKinds_10 (fun H locs hP hS => ?_)
  have hP : XP shR g t_15 H := by rw [e_16]; exact hP
  exact w_X8_seenKinds_13 N X a1 a2 a3 0 t_15 _ _ _ hP hS (lv_sub hl [1, 3, 4, 5, 0] rfl) h
def f_X8_seen_156 (N : Nat) (k98 : Int32 × Int32 × Int32 × Int32 × Int32 × Int32 × Int32 × Int32 × Mm → Option (Int32 × Mm)) (x1 : Int32) (x2 : Int32) (x4 : Int32) (x5 : Int32) (x6 : Int32) (x8 : Int32) (x10 : Int32) (s0 : Int32) (t : Mm) : Option (Int32 × Mm) := k98 (x1, x2, x4, x5, x6, x8, s0, (x10 + (-1)), t)
def f_X8_seen_141 (N : Nat) (k98 : Int32 × Int32 × Int32 × Int32 × Int32 × Int32 × Int32 × Int32 × Mm → Option (Int32 × Mm)) (x1 : Int32) (x2 : Int32) (x4 : Int32) (x5 : Int32) (x6 : Int32) (x9 : Int32) (x10 : Int32) (x11 : Int32) (s0 : Int32) (s1 : Int32) (t : Mm) : Option (Int32 × Mm) := if x11 = 0 then (f_X8_seen_156 N k98 x1 x2 x4 x5 x6 (s0 + s1) x10 x9 t) else (f_X8_seen_156 N k98 x1 x2 x4 x5 x6 (s0 + s1) x10 x10 t)
def b_X8_seen_98 (N : Nat) (k98 : Int32 × Int32 × Int32 × Int32 × Int32 × Int32 × Int32 × Int32 × Mm → Option (Int32 × Mm)) (x1 : Int32) (x2 : Int32) (x4 : Int32) (x5 : Int32) (x6 : Int32) (x8 : Int32) (x9 : Int32) (x10 : Int32) (t : Mm) : Option (Int32 × Mm) := if x10 < 0 then (if x6 = 1 then (some (x8, t)) else (some (x9, t))) else (o_bd (f_X8_aside N t) fun t_4 => if o_inb (9 + x1) 31 = true then (o_nm (sI t_4 9 0 5 ((9 + x1).toNatClampNeg) x10) fun t_7 => o_bd (f_X8_isSeen N x2 x4 x5 t_7) fun (r_11, t_9) => if r_11 = 0 then (f_X8_seen_141 N k98 x1 x2 x4 x5 x6 x9 x10 r_11 x8 0 t_9) else (f_X8_seen_141 N k98 x1 x2 x4 x5 x6 x9 x10 r_11 x8 1 t_9)) else none)
def f_X8_seen_98 (N : Nat) (x1 : Int32) (x2 : Int32) (x4 : Int32) (x5 : Int32) (x6 : Int32) (x8 : Int32) (x9 : Int32) (x10 : Int32) (t : Mm) : Option (Int32 × Mm) := o_lp (fun k x => b_X8_seen_98 N k x.1 x.2.1 x.2.2.1 x.2.2.2.1 x.2.2.2.2.1 x.2.2.2.2.2.1 x.2.2.2.2.2.2.1 x.2.2.2.2.2.2.2.1 x.2.2.2.2.2.2.2.2) N (x1, x2, x4, x5, x6, x8, x9, x10, t)
/-- FordQuestionsModel.seen(IIIIII)I -/
def f_X8_seen (N : Nat) (a0 : Int32) (a1 : Int32) (a2 : Int32) (a3 : Int32) (a4 : Int32) (a5 : Int32) (t : Mm) : Option (Int32 × Mm) := o_bd (f_X8_isCrosser a0 t) fun (r_16, t_14) => if r_16 = 0 then (some ((-1), t_14)) else (o_bd (f_X8_isSheet a1 t_14) fun (r_21, t_19) => if r_21 = 0 then (some ((-1), t_19)) else (o_bd (f_X8_isLane a2 t_19) fun (r_26, t_24) => if r_26 = 0 then (some ((-1), t_24)) else (o_bd (f_X8_in (a4.toInt64) 1 8 t_24) fun (r_31, t_29) => if r_31 = 0 then (some ((-1), t_29)) else (o_bd (f_X8_in (a5.toInt64) 0 2 t_29) fun (r_36, t_34) => if r_36 = 0 then (some ((-1), t_34)) else (o_bd (f_X8_lacks a1 a2 a3 a4 t_34) fun (r_41, t_39) => if r_41 = 0 then (if a5 = 0 then (o_bd (f_X8_seenKinds N a0 a1 a3 a4 t_39) fun (r_47, t_45) => some (r_47, t_45)) else (f_X8_seen_98 N a0 a1 a3 a4 a5 0 (-4) 255 t_39)) else (some (r_41, t_39)))))))
theorem hd_X8_seen : x_hd yX8_seen 6 := by decide +kernel
set_option maxRecDepth 100000 in
set_option maxHeartbeats 4000000 in
theorem w_X8_seen_156 {l : Launch} {g : Ly} {p : Program} {e : Env} {s : State} {m : MethodId} {args : Array Value} {below : List Frame} {meth : Method} {c : Code} (N : Nat) (X : XC p m meth c cX8_seen 12 s args (.code yX8_seen cX8_seen 12 (some .int)) RX8 (some .int) shR g) {r : Int32} {t' : Mm} {k98 : Int32 × Int32 × Int32 × Int32 × Int32 × Int32 × Int32 × Int32 × Mm → Option (Int32 × Mm)} (hk98 : ∀ x : Int32 × Int32 × Int32 × Int32 × Int32 × Int32 × Int32 × Int32 × Mm, k98 x = some (r, t') → ∀ (H : Heap) (locs : List Loc) (ls : Array Slot), XP shR g x.2.2.2.2.2.2.2.2 H → va_S (XA shR g) s.heap H locs → lv_has ls 12 [(0, .ref (g.2.2 (9, 0, 0))), (1, .int x.1), (2, .int x.2.1), (4, .int x.2.2.1), (5, .int x.2.2.2.1), (6, .int x.2.2.2.2.1), (8, .int x.2.2.2.2.2.1), (9, .int x.2.2.2.2.2.2.1), (10, .int x.2.2.2.2.2.2.2.1)] → W p l e (rmv 7) s m args below meth c H locs 0 0 (MQ below (XQi shR g r t') args s 0 0 (XA shR g)) (F0 m 98 ls [])) (x1 : Int32) (x2 : Int32) (x4 : Int32) (x5 : Int32) (x6 : Int32) (x8 : Int32) (x10 : Int32) (s0 : Int32) (t : Mm) (H : Heap) (locs : List Loc) (ls : Array Slot) (hP : XP shR g t H) (hS : va_S (XA shR g) s.heap H locs) (hl : lv_has ls 12 [(0, .ref (g.2.2 (9, 0, 0))), (1, .int x1), (2, .int x2), (4, .int x4), (5, .int x5), (6, .int x6), (8, .int x8), (10, .int x10)]) (h : f_X8_seen_156 N k98 x1 x2 x4 x5 x6 x8 x10 s0 t = some (r, t')) : W p l e (rmv 7) s m args below meth c H locs 0 0 (MQ below (XQi shR g r t') args s 0 0 (XA shR g)) (F0 m 156 ls [.int s0]) := by
  unfold f_X8_seen_156 at h
  refine lv_istore (lv' := [(9, .int s0), (0, .ref (g.2.2 (9, 0, 0))), (1, .int x1), (2, .int x2), (4, .int x4), (5, .int x5), (6, .int x6), (8, .int x8), (10, .int x10)]) X.1.1 X.1.2.1 dX8_seen_156 hl (by decide) rfl (fun ls hl => ?_)
  refine lv_iinc (v := (x10 + (-1))) (lv' := [(10, .int (x10 + (-1))), (9, .int s0), (0, .ref (g.2.2 (9, 0, 0))), (1, .int x1), (2, .int x2), (4, .int x4), (5, .int x5), (6, .int x6), (8, .int x8)]) X.1.1 X.1.2.1 dX8_seen_158 hl (k := 8) rfl rfl (by decide) rfl (fun ls hl => ?_)
  refine lv_goto (tgt := 98) X.1.1 X.1.2.1 dX8_seen_161 (by decide) ?_
  exact hk98 (x1, x2, x4, x5, x6, x8, s0, (x10 + (-1)), t) h _ _ _ hP hS (lv_sub hl [2, 3, 4, 5, 6, 7, 8, 1, 0] rfl)
set_option maxRecDepth 100000 in
set_option maxHeartbeats 4000000 in
theorem w_X8_seen_141 {l : Launch} {g : Ly} {p : Program} {e : Env} {s : State} {m : MethodId} {args : Array Value} {below : List Frame} {meth : Method} {c : Code} (N : Nat) (X : XC p m meth c cX8_seen 12 s args (.code yX8_seen cX8_seen 12 (some .int)) RX8 (some .int) shR g) {r : Int32} {t' : Mm} {k98 : Int32 × Int32 × Int32 × Int32 × Int32 × Int32 × Int32 × Int32 × Mm → Option (Int32 × Mm)} (hk98 : ∀ x : Int32 × Int32 × Int32 × Int32 × Int32 × Int32 × Int32 × Int32 × Mm, k98 x = some (r, t') → ∀ (H : Heap) (locs : List Loc) (ls : Array Slot), XP shR g x.2.2.2.2.2.2.2.2 H → va_S (XA shR g) s.heap H locs → lv_has ls 12 [(0, .ref (g.2.2 (9, 0, 0))), (1, .int x.1), (2, .int x.2.1), (4, .int x.2.2.1), (5, .int x.2.2.2.1), (6, .int x.2.2.2.2.1), (8, .int x.2.2.2.2.2.1), (9, .int x.2.2.2.2.2.2.1), (10, .int x.2.2.2.2.2.2.2.1)] → W p l e (rmv 7) s m args below meth c H locs 0 0 (MQ below (XQi shR g r t') args s 0 0 (XA shR g)) (F0 m 98 ls [])) (x1 : Int32) (x2 : Int32) (x4 : Int32) (x5 : Int32) (x6 : Int32) (x9 : Int32) (x10 : Int32) (x11 : Int32) (s0 : Int32) (s1 : Int32) (t : Mm) (H : Heap) (locs : List Loc) (ls : Array Slot) (hP : XP shR g t H) (hS : va_S (XA shR g) s.heap H locs) (hl : lv_has ls 12 [(0, .ref (g.2.2 (9, 0, 0))), (1, .int x1), (2, .int x2), (4, .int x4), (5, .int x5), (6, .int x6), (9, .int x9), (10, .int x10), (11, .int x11)]) (h : f_X8_seen_141 N k98 x1 x2 x4 x5 x6 x9 x10 x11 s0 s1 t = some (r, t')) : W p l e (rmv 7) s m args below meth c H locs 0 0 (MQ below (XQi shR g r t') args s 0 0 (XA shR g)) (F0 m 141 ls [.int s1, .int s0]) := by
  unfold f_X8_seen_141 at h
  refine lv_iadd X.1.1 X.1.2.1 dX8_seen_141 ?_
  refine lv_istore (lv' := [(8, .int (s0 + s1)), (0, .ref (g.2.2 (9, 0, 0))), (1, .int x1), (2, .int x2), (4, .int x4), (5, .int x5), (6, .int x6), (9, .int x9), (10, .int x10), (11, .int x11)]) X.1.1 X.1.2.1 dX8_seen_142 hl (by decide) rfl (fun ls hl => ?_)
  refine lv_iload X.1.1 X.1.2.1 dX8_seen_144 (lv_at hl 9 rfl) ?_
  refine lv_if_eq (tgt := 154) X.1.1 X.1.2.1 dX8_seen_146 (by decide) (fun c_1 => ?_) (fun c_1 => ?_)
  · have h := o_pos c_1 h
    refine lv_iload X.1.1 X.1.2.1 dX8_seen_154 (lv_at hl 7 rfl) ?_
    exact w_X8_seen_156 N X hk98 x1 x2 x4 x5 x6 (s0 + s1) x10 x9 t _ _ _ hP hS (lv_sub hl [1, 2, 3, 4, 5, 6, 0, 8] rfl) h
  · have h := o_neg c_1 h
    refine lv_iload X.1.1 X.1.2.1 dX8_seen_149 (lv_at hl 8 rfl) ?_
    refine lv_goto (tgt := 156) X.1.1 X.1.2.1 dX8_seen_151 (by decide) ?_
    exact w_X8_seen_156 N X hk98 x1 x2 x4 x5 x6 (s0 + s1) x10 x10 t _ _ _ hP hS (lv_sub hl [1, 2, 3, 4, 5, 6, 0, 8] rfl) h
set_option maxRecDepth 100000 in
set_option maxHeartbeats 4000000 in
theorem wb_X8_seen_98 {l : Launch} {g : Ly} {p : Program} {e : Env} {s : State} {m : MethodId} {args : Array Value} {below : List Frame} {meth : Method} {c : Code} (N : Nat) (X : XC p m meth c cX8_seen 12 s args (.code yX8_seen cX8_seen 12 (some .int)) RX8 (some .int) shR g) {r : Int32} {t' : Mm} {k98 : Int32 × Int32 × Int32 × Int32 × Int32 × Int32 × Int32 × Int32 × Mm → Option (Int32 × Mm)} (hk98 : ∀ x : Int32 × Int32 × Int32 × Int32 × Int32 × Int32 × Int32 × Int32 × Mm, k98 x = some (r, t') → ∀ (H : Heap) (locs : List Loc) (ls : Array Slot), XP shR g x.2.2.2.2.2.2.2.2 H → va_S (XA shR g) s.heap H locs → lv_has ls 12 [(0, .ref (g.2.2 (9, 0, 0))), (1, .int x.1), (2, .int x.2.1), (4, .int x.2.2.1), (5, .int x.2.2.2.1), (6, .int x.2.2.2.2.1), (8, .int x.2.2.2.2.2.1), (9, .int x.2.2.2.2.2.2.1), (10, .int x.2.2.2.2.2.2.2.1)] → W p l e (rmv 7) s m args below meth c H locs 0 0 (MQ below (XQi shR g r t') args s 0 0 (XA shR g)) (F0 m 98 ls [])) (x1 : Int32) (x2 : Int32) (x4 : Int32) (x5 : Int32) (x6 : Int32) (x8 : Int32) (x9 : Int32) (x10 : Int32) (t : Mm) (H : Heap) (locs : List Loc) (ls : Array Slot) (hP : XP shR g t H) (hS : va_S (XA shR g) s.heap H locs) (hl : lv_has ls 12 [(0, .ref (g.2.2 (9, 0, 0))), (1, .int x1), (2, .int x2), (4, .int x4), (5, .int x5), (6, .int x6), (8, .int x8), (9, .int x9), (10, .int x10)]) (h : b_X8_seen_98 N k98 x1 x2 x4 x5 x6 x8 x9 x10 t = some (r, t')) : W p l e (rmv 7) s m args below meth c H locs 0 0 (MQ below (XQi shR g r t') args s 0 0 (XA shR g)) (F0 m 98 ls []) := by
  unfold b_X8_seen_98 at h
  refine lv_iload X.1.1 X.1.2.1 dX8_seen_98 (lv_at hl 8 rfl) ?_
  refine lv_if_lt (tgt := 164) X.1.1 X.1.2.1 dX8_seen_100 (by decide) (fun c_2 => ?_) (fun c_2 => ?_)
  · have h := o_pos c_2 h
    refine lv_iload X.1.1 X.1.2.1 dX8_seen_164 (lv_at hl 5 rfl) ?_
    refine lv_iconst (v := 1) X.1.1 X.1.2.1 dX8_seen_166 (by decide) ?_
    refine lv_icmp_ne (tgt := 175) X.1.1 X.1.2.1 dX8_seen_167 (by decide) (fun c_3 => ?_) (fun c_3 => ?_)
    · have h := o_neg c_3 h
      refine lv_iload X.1.1 X.1.2.1 dX8_seen_175 (lv_at hl 7 rfl) ?_
      obtain ⟨rfl, rfl⟩ := o_ret2 h
      exact x_iret X hP hS dX8_seen_177
    · have h := o_pos c_3 h
      refine lv_iload X.1.1 X.1.2.1 dX8_seen_170 (lv_at hl 6 rfl) ?_
      refine lv_goto (tgt := 177) X.1.1 X.1.2.1 dX8_seen_172 (by decide) ?_
      obtain ⟨rfl, rfl⟩ := o_ret2 h
      exact x_iret X hP hS dX8_seen_177
  · have h := o_neg c_2 h
    refine lv_aload_n X.1.1 X.1.2.1 dX8_seen_103 rfl (lv_at hl 0 rfl) ?_
    obtain ⟨t_4, hc_5, h⟩ := o_bd_inv h
    refine x_callv (x_runV (As := []) (rest := []) X hP hS (c_X8_aside l g N X.2.2.2.2.1 t hc_5) ⟨wd_1014, wd_1011, wd_1013, wd_27, wd_62⟩ hd_X8_aside ⟨by omega, by decide⟩ (x_recv X hP (ci := 8) rfl (kyM (by decide)) rfl) rfl hl.1 rfl (Nat.le_of_ble_eq_true rfl) dX8_seen_104) hS (fun H locs hP hS => ?_)
    refine lv_aload_n X.1.1 X.1.2.1 dX8_seen_107 rfl (lv_at hl 0 rfl) ?_
    refine gt_X8_5 X hP (kyM (by decide)) wd_885 dX8_seen_108 ?_
    refine lv_bipush (v := 9) X.1.1 X.1.2.1 dX8_seen_111 (by decide) ?_
    refine lv_iload_n X.1.1 X.1.2.1 dX8_seen_113 rfl (lv_at hl 1 rfl) ?_
    refine lv_iadd X.1.1 X.1.2.1 dX8_seen_114 ?_
    refine lv_iload X.1.1 X.1.2.1 dX8_seen_115 (lv_at hl 8 rfl) ?_
    obtain ⟨g_6, h⟩ := o_gd_inv h
    obtain ⟨t_7, e_8, h⟩ := o_nm_inv h
    refine x_iast X hP hS (kyM (by decide)) (fun _ _ => rfl) g_6 dX8_seen_117 (fun H locs hP hS => ?_)
    have hP : XP shR g t_7 H := by rw [e_8]; exact hP
    refine lv_aload_n X.1.1 X.1.2.1 dX8_seen_118 rfl (lv_at hl 0 rfl) ?_
    refine lv_iload_n X.1.1 X.1.2.1 dX8_seen_119 rfl (lv_at hl 2 rfl) ?_
    refine lv_iload X.1.1 X.1.2.1 dX8_seen_120 (lv_at hl 3 rfl) ?_
    refine lv_iload X.1.1 X.1.2.1 dX8_seen_122 (lv_at hl 4 rfl) ?_
    obtain ⟨⟨r_11, t_9⟩, hc_10, h⟩ := o_bd_inv h
    refine x_calli (x_runV (As := [.int x2, .int x4, .int x5]) (rest := []) X hP hS (c_X8_isSeen l g N X.2.2.2.2.1 x2 x4 x5 t_7 hc_10) ⟨wd_1244, wd_1241, wd_1243, wd_52, wd_62⟩ hd_X8_isSeen ⟨by omega, by decide⟩ (x_recv X hP (ci := 8) rfl (kyM (by decide)) rfl) rfl hl.1 rfl (Nat.le_of_ble_eq_true rfl) dX8_seen_124) hS (fun H locs hP hS => ?_)
    refine lv_istore (lv' := [(11, .int r_11), (0, .ref (g.2.2 (9, 0, 0))), (1, .int x1), (2, .int x2), (4, .int x4), (5, .int x5), (6, .int x6), (8, .int x8), (9, .int x9), (10, .int x10)]) X.1.1 X.1.2.1 dX8_seen_127 hl (by decide) rfl (fun ls hl => ?_)
    refine lv_iload X.1.1 X.1.2.1 dX8_seen_129 (lv_at hl 7 rfl) ?_
    refine lv_iload X.1.1 X.1.2.1 dX8_seen_131 (lv_at hl 0 rfl) ?_
    refine lv_if_eq (tgt := 140) X.1.1 X.1.2.1 dX8_seen_133 (by decide) (fun c_13 => ?_) (fun c_13 => ?_)
    · have h := o_pos c_13 h
      refine lv_iconst (v := 0) X.1.1 X.1.2.1 dX8_seen_140 (by decide) ?_
      exact w_X8_seen_141 N X hk98 x1 x2 x4 x5 x6 x9 x10 r_11 x8 0 t_9 _ _ _ hP hS (lv_sub hl [1, 2, 3, 4, 5, 6, 8, 9, 0] rfl) h
    · have h := o_neg c_13 h
      refine lv_iconst (v := 1) X.1.1 X.1.2.1 dX8_seen_136 (by decide) ?_
      refine lv_goto (tgt := 141) X.1.1 X.1.2.1 dX8_seen_137 (by decide) ?_
      exact w_X8_seen_141 N X hk98 x1 x2 x4 x5 x6 x9 x10 r_11 x8 1 t_9 _ _ _ hP hS (lv_sub hl [1, 2, 3, 4, 5, 6, 8, 9, 0] rfl) h
set_option maxRecDepth 100000 in
set_option maxHeartbeats 4000000 in
theorem w_X8_seen_98 {l : Launch} {g : Ly} {p : Program} {e : Env} {s : State} {m : MethodId} {args : Array Value} {below : List Frame} {meth : Method} {c : Code} (N : Nat) (X : XC p m meth c cX8_seen 12 s args (.code yX8_seen cX8_seen 12 (some .int)) RX8 (some .int) shR g) {r : Int32} {t' : Mm} (x1 : Int32) (x2 : Int32) (x4 : Int32) (x5 : Int32) (x6 : Int32) (x8 : Int32) (x9 : Int32) (x10 : Int32) (t : Mm) (H : Heap) (locs : List Loc) (ls : Array Slot) (hP : XP shR g t H) (hS : va_S (XA shR g) s.heap H locs) (hl : lv_has ls 12 [(0, .ref (g.2.2 (9, 0, 0))), (1, .int x1), (2, .int x2), (4, .int x4), (5, .int x5), (6, .int x6), (8, .int x8), (9, .int x9), (10, .int x10)]) (h : f_X8_seen_98 N x1 x2 x4 x5 x6 x8 x9 x10 t = some (r, t')) : W p l e (rmv 7) s m args below meth c H locs 0 0 (MQ below (XQi shR g r t') args s 0 0 (XA shR g)) (F0 m 98 ls []) :=
  o_lp_ind (P := fun x : Int32 × Int32 × Int32 × Int32 × Int32 × Int32 × Int32 × Int32 × Mm => ∀ (H : Heap) (locs : List Loc) (ls : Array Slot), XP shR g x.2.2.2.2.2.2.2.2 H → va_S (XA shR g) s.heap H locs → lv_has ls 12 [(0, .ref (g.2.2 (9, 0, 0))), (1, .int x.1), (2, .int x.2.1), (4, .int x.2.2.1), (5, .int x.2.2.2.1), (6, .int x.2.2.2.2.1), (8, .int x.2.2.2.2.2.1), (9, .int x.2.2.2.2.2.2.1), (10, .int x.2.2.2.2.2.2.2.1)] → W p l e (rmv 7) s m args below meth c H locs 0 0 (MQ below (XQi shR g r t') args s 0 0 (XA shR g)) (F0 m 98 ls [])) (fun k hk x h H locs ls hP hS hl => wb_X8_seen_98 N X hk x.1 x.2.1 x.2.2.1 x.2.2.2.1 x.2.2.2.2.1 x.2.2.2.2.2.1 x.2.2.2.2.2.2.1 x.2.2.2.2.2.2.2.1 x.2.2.2.2.2.2.2.2 H locs ls hP hS hl h) N (x1, x2, x4, x5, x6, x8, x9, x10, t) h H locs ls hP hS hl
set_option maxRecDepth 100000 in
set_option maxHeartbeats 4000000 in
theorem c_X8_seen (l : Launch) (g : Ly) (N : Nat) (hG : XG shR g) (a0 : Int32) (a1 : Int32) (a2 : Int32) (a3 : Int32) (a4 : Int32) (a5 : Int32) (t : Mm) {r : Int32} {t' : Mm} (h : f_X8_seen N a0 a1 a2 a3 a4 a5 t = some (r, t')) : MI l yX8_seen cX8_seen 12 (some .int) 7 shR g [.ref (g.2.2 (9, 0, 0)), .int a0, .int a1, .int a2, .int a3, .int a4, .int a5] t (XQi shR g r t') := by
  refine x_met hG (by decide +kernel) (Nat.le_of_ble_eq_true rfl) ?_
  intro p e s m below meth c ls X hP hl
  have hS : va_S (XA shR g) s.heap s.heap [] := va_S.rf
  have hl : lv_has ls 12 [(0, .ref (g.2.2 (9, 0, 0))), (1, .int a0), (2, .int a1), (3, .int a2), (4, .int a3), (5, .int a4), (6, .int a5)] := hl
  unfold f_X8_seen at h
  generalize ([.ref (g.2.2 (9, 0, 0)), .int a0, .int a1, .int a2, .int a3, .int a4, .int a5] : List Value).toArray = args at X ⊢
  refine lv_aload_n X.1.1 X.1.2.1 dX8_seen_0 rfl (lv_at hl 0 rfl) ?_
  refine lv_iload_n X.1.1 X.1.2.1 dX8_seen_1 rfl (lv_at hl 1 rfl) ?_
  obtain ⟨⟨r_16, t_14⟩, hc_15, h⟩ := o_bd_inv h
  refine x_calli (x_runV (As := [.int a0]) (rest := []) X hP hS (c_X8_isCrosser l g X.2.2.2.2.1 a0 t hc_15) ⟨wd_1006, wd_1003, wd_1005, wd_26, wd_62⟩ hd_X8_isCrosser ⟨by omega, by decide⟩ (x_recv X hP (ci := 8) rfl (kyM (by decide)) rfl) rfl hl.1 rfl (Nat.le_of_ble_eq_true rfl) dX8_seen_2) hS (fun H locs hP hS => ?_)
  refine lv_if_eq (tgt := 48) X.1.1 X.1.2.1 dX8_seen_5 (by decide) (fun c_18 => ?_) (fun c_18 => ?_)
  · have h := o_pos c_18 h
    refine lv_iconst (v := (-1)) X.1.1 X.1.2.1 dX8_seen_48 (by decide) ?_
    obtain ⟨rfl, rfl⟩ := o_ret2 h
    exact x_iret X hP hS dX8_seen_49
  · have h := o_neg c_18 h
    refine lv_iload_n X.1.1 X.1.2.1 dX8_seen_8 rfl (lv_at hl 2 rfl) ?_
    obtain ⟨⟨r_21, t_19⟩, hc_20, h⟩ := o_bd_inv h
    refine x_calli (x_runS (As := [.int a1]) (rest := []) X hP hS (c_X8_isSheet l g X.2.2.2.2.1 a1 t_14 hc_20) ⟨wd_1223, wd_1221, wd_1222, wd_62⟩ hd_X8_isSheet ⟨by omega, by decide⟩ rfl hl.1 rfl (Nat.le_of_ble_eq_true rfl) dX8_seen_9) hS (fun H locs hP hS => ?_)
    refine lv_if_eq (tgt := 48) X.1.1 X.1.2.1 dX8_seen_12 (by decide) (fun c_23 => ?_) (fun c_23 => ?_)
    · have h := o_pos c_23 h
      refine lv_iconst (v := (-1)) X.1.1 X.1.2.1 dX8_seen_48 (by decide) ?_
      obtain ⟨rfl, rfl⟩ := o_ret2 h
      exact x_iret X hP hS dX8_seen_49
    · have h := o_neg c_23 h
      refine lv_iload_n X.1.1 X.1.2.1 dX8_seen_15 rfl (lv_at hl 3 rfl) ?_
      obtain ⟨⟨r_26, t_24⟩, hc_25, h⟩ := o_bd_inv h
      refine x_calli (x_runS (As := [.int a2]) (rest := []) X hP hS (c_X8_isLane l g X.2.2.2.2.1 a2 t_19 hc_25) ⟨wd_1227, wd_1225, wd_1226, wd_62⟩ hd_X8_isLane ⟨by omega, by decide⟩ rfl hl.1 rfl (Nat.le_of_ble_eq_true rfl) dX8_seen_16) hS (fun H locs hP hS => ?_)
      refine lv_if_eq (tgt := 48) X.1.1 X.1.2.1 dX8_seen_19 (by decide) (fun c_28 => ?_) (fun c_28 => ?_)
      · have h := o_pos c_28 h
        refine lv_iconst (v := (-1)) X.1.1 X.1.2.1 dX8_seen_48 (by decide) ?_
        obtain ⟨rfl, rfl⟩ := o_ret2 h
        exact x_iret X hP hS dX8_seen_49
      · have h := o_neg c_28 h
        refine lv_iload X.1.1 X.1.2.1 dX8_seen_22 (lv_at hl 5 rfl) ?_
        refine lv_i2l (v := (a4.toInt64)) X.1.1 X.1.2.1 dX8_seen_24 rfl ?_
        refine lv_lconst (v := 1) X.1.1 X.1.2.1 dX8_seen_25 (by decide) ?_
        refine lv_ldc2 (v := 8) X.1.1 X.1.2.1 X.1.2.2.2.1 (X.1.2.2.2.2 _ (List.mem_cons_of_mem _ wd_1228)) dX8_seen_26 ?_
        obtain ⟨⟨r_31, t_29⟩, hc_30, h⟩ := o_bd_inv h
        refine x_calli (x_runS (As := [.long (a4.toInt64), .long 1, .long 8]) (rest := []) X hP hS (c_X8_in l g X.2.2.2.2.1 (a4.toInt64) 1 8 t_24 hc_30) ⟨wd_981, wd_979, wd_980, wd_62⟩ hd_X8_in ⟨by omega, by decide⟩ rfl hl.1 rfl (Nat.le_of_ble_eq_true rfl) dX8_seen_29) hS (fun H locs hP hS => ?_)
        refine lv_if_eq (tgt := 48) X.1.1 X.1.2.1 dX8_seen_32 (by decide) (fun c_33 => ?_) (fun c_33 => ?_)
        · have h := o_pos c_33 h
          refine lv_iconst (v := (-1)) X.1.1 X.1.2.1 dX8_seen_48 (by decide) ?_
          obtain ⟨rfl, rfl⟩ := o_ret2 h
          exact x_iret X hP hS dX8_seen_49
        · have h := o_neg c_33 h
          refine lv_iload X.1.1 X.1.2.1 dX8_seen_35 (lv_at hl 6 rfl) ?_
          refine lv_i2l (v := (a5.toInt64)) X.1.1 X.1.2.1 dX8_seen_37 rfl ?_
          refine lv_lconst (v := 0) X.1.1 X.1.2.1 dX8_seen_38 (by decide) ?_
          refine lv_ldc2 (v := 2) X.1.1 X.1.2.1 X.1.2.2.2.1 (X.1.2.2.2.2 _ (List.mem_cons_of_mem _ wd_998)) dX8_seen_39 ?_
          obtain ⟨⟨r_36, t_34⟩, hc_35, h⟩ := o_bd_inv h
          refine x_calli (x_runS (As := [.long (a5.toInt64), .long 0, .long 2]) (rest := []) X hP hS (c_X8_in l g X.2.2.2.2.1 (a5.toInt64) 0 2 t_29 hc_35) ⟨wd_981, wd_979, wd_980, wd_62⟩ hd_X8_in ⟨by omega, by decide⟩ rfl hl.1 rfl (Nat.le_of_ble_eq_true rfl) dX8_seen_42) hS (fun H locs hP hS => ?_)
          refine lv_if_ne (tgt := 50) X.1.1 X.1.2.1 dX8_seen_45 (by decide) (fun c_38 => ?_) (fun c_38 => ?_)
          · have h := o_neg c_38 h
            refine lv_aload_n X.1.1 X.1.2.1 dX8_seen_50 rfl (lv_at hl 0 rfl) ?_
            refine lv_iload_n X.1.1 X.1.2.1 dX8_seen_51 rfl (lv_at hl 2 rfl) ?_
            refine lv_iload_n X.1.1 X.1.2.1 dX8_seen_52 rfl (lv_at hl 3 rfl) ?_
            refine lv_iload X.1.1 X.1.2.1 dX8_seen_53 (lv_at hl 4 rfl) ?_
            refine lv_iload X.1.1 X.1.2.1 dX8_seen_55 (lv_at hl 5 rfl) ?_
            obtain ⟨⟨r_41, t_39⟩, hc_40, h⟩ := o_bd_inv h
            refine x_calli (x_runV (As := [.int a1, .int a2, .int a3, .int a4]) (rest := []) X hP hS (c_X8_lacks l g X.2.2.2.2.1 a1 a2 a3 a4 t_34 hc_40) ⟨wd_1232, wd_1229, wd_1231, wd_49, wd_62⟩ hd_X8_lacks ⟨by omega, by decide⟩ (x_recv X hP (ci := 8) rfl (kyM (by decide)) rfl) rfl hl.1 rfl (Nat.le_of_ble_eq_true rfl) dX8_seen_57) hS (fun H locs hP hS => ?_)
            refine lv_istore (lv' := [(7, .int r_41), (0, .ref (g.2.2 (9, 0, 0))), (1, .int a0), (2, .int a1), (3, .int a2), (4, .int a3), (5, .int a4), (6, .int a5)]) X.1.1 X.1.2.1 dX8_seen_60 hl (by decide) rfl (fun ls hl => ?_)
            refine lv_iload X.1.1 X.1.2.1 dX8_seen_62 (lv_at hl 0 rfl) ?_
            refine lv_if_eq (tgt := 70) X.1.1 X.1.2.1 dX8_seen_64 (by decide) (fun c_43 => ?_) (fun c_43 => ?_)
            · have h := o_pos c_43 h
              refine lv_iload X.1.1 X.1.2.1 dX8_seen_70 (lv_at hl 7 rfl) ?_
              refine lv_if_ne (tgt := 86) X.1.1 X.1.2.1 dX8_seen_72 (by decide) (fun c_44 => ?_) (fun c_44 => ?_)
              · have h := o_neg c_44 h
                refine lv_iconst (v := 0) X.1.1 X.1.2.1 dX8_seen_86 (by decide) ?_
                refine lv_istore (lv' := [(8, .int 0), (7, .int r_41), (0, .ref (g.2.2 (9, 0, 0))), (1, .int a0), (2, .int a1), (3, .int a2), (4, .int a3), (5, .int a4), (6, .int a5)]) X.1.1 X.1.2.1 dX8_seen_87 hl (by decide) rfl (fun ls hl => ?_)
                refine lv_bipush (v := (-4)) X.1.1 X.1.2.1 dX8_seen_89 (by decide) ?_
                refine lv_istore (lv' := [(9, .int (-4)), (8, .int 0), (7, .int r_41), (0, .ref (g.2.2 (9, 0, 0))), (1, .int a0), (2, .int a1), (3, .int a2), (4, .int a3), (5, .int a4), (6, .int a5)]) X.1.1 X.1.2.1 dX8_seen_91 hl (by decide) rfl (fun ls hl => ?_)
                refine lv_sipush (v := 255) X.1.1 X.1.2.1 dX8_seen_93 (by decide) ?_
                refine lv_istore (lv' := [(10, .int 255), (9, .int (-4)), (8, .int 0), (7, .int r_41), (0, .ref (g.2.2 (9, 0, 0))), (1, .int a0), (2, .int a1), (3, .int a2), (4, .int a3), (5, .int a4), (6, .int a5)]) X.1.1 X.1.2.1 dX8_seen_96 hl (by decide) rfl (fun ls hl => ?_)
                exact w_X8_seen_98 N X a0 a1 a3 a4 a5 0 (-4) 255 t_39 _ _ _ hP hS (lv_sub hl [4, 5, 6, 8, 9, 10, 2, 1, 0] rfl) h
              · have h := o_pos c_44 h
                refine lv_aload_n X.1.1 X.1.2.1 dX8_seen_75 rfl (lv_at hl 1 rfl) ?_
                refine lv_iload_n X.1.1 X.1.2.1 dX8_seen_76 rfl (lv_at hl 2 rfl) ?_
                refine lv_iload_n X.1.1 X.1.2.1 dX8_seen_77 rfl (lv_at hl 3 rfl) ?_
                refine lv_iload X.1.1 X.1.2.1 dX8_seen_78 (lv_at hl 5 rfl) ?_
                refine lv_iload X.1.1 X.1.2.1 dX8_seen_80 (lv_at hl 6 rfl) ?_
                obtain ⟨⟨r_47, t_45⟩, hc_46, h⟩ := o_bd_inv h
                refine x_calli (x_runV (As := [.int a0, .int a1, .int a3, .int a4]) (rest := []) X hP hS (c_X8_seenKinds l g N X.2.2.2.2.1 a0 a1 a3 a4 t_39 hc_46) ⟨wd_1240, wd_1237, wd_1239, wd_51, wd_62⟩ hd_X8_seenKinds ⟨by omega, by decide⟩ (x_recv X hP (ci := 8) rfl (kyM (by decide)) rfl) rfl hl.1 rfl (Nat.le_of_ble_eq_true rfl) dX8_seen_82) hS (fun H locs hP hS => ?_)
                obtain ⟨rfl, rfl⟩ := o_ret2 h
                exact x_iret X hP hS dX8_seen_85
            · have h := o_neg c_43 h
              refine lv_iload X.1.1 X.1.2.1 dX8_seen_67 (lv_at hl 0 rfl) ?_
              obtain ⟨rfl, rfl⟩ := o_ret2 h
              exact x_iret X hP hS dX8_seen_69
          · have h := o_pos c_38 h
            refine lv_iconst (v := (-1)) X.1.1 X.1.2.1 dX8_seen_48 (by decide) ?_
            obtain ⟨rfl, rfl⟩ := o_ret2 h
            exact x_iret X hP hS dX8_seen_49
def b_X8_film_54 (N : Nat) (k54 : Int32 × Int32 × Int32 × Int32 × Mm → Option (Int32 × Mm)) (x1 : Int32) (x2 : Int32) (x4 : Int32) (x6 : Int32) (t : Mm) : Option (Int32 × Mm) := if x1 ≤ x6 then (some (x1, t)) else (o_bd (f_X8_goHour N t) fun t_2 => o_bd (f_X8_inMany N t_2) fun (r_6, t_4) => if o_inb (((24 * x2) + x4) + x6) 96 = true then (o_nm (sJ t_4 0 ((((24 * x2) + x4) + x6).toNatClampNeg) (r_6.toInt64)) fun t_9 => k54 (x1, x2, x4, (x6 + 1), t_9)) else none)
def f_X8_film_54 (N : Nat) (x1 : Int32) (x2 : Int32) (x4 : Int32) (x6 : Int32) (t : Mm) : Option (Int32 × Mm) := o_lp (fun k x => b_X8_film_54 N k x.1 x.2.1 x.2.2.1 x.2.2.2.1 x.2.2.2.2) N (x1, x2, x4, x6, t)
/-- FordQuestionsModel.film(IIII)I -/
def f_X8_film (N : Nat) (a0 : Int32) (a1 : Int32) (a2 : Int32) (a3 : Int32) (t : Mm) : Option (Int32 × Mm) := o_bd (f_X8_in (a0.toInt64) 1 24 t) fun (r_13, t_11) => if r_13 = 0 then (some ((-1), t_11)) else (o_bd (f_X8_isSheet a1 t_11) fun (r_18, t_16) => if r_18 = 0 then (some ((-1), t_16)) else (o_bd (f_X8_isLane a2 t_16) fun (r_23, t_21) => if r_23 = 0 then (some ((-1), t_21)) else (o_bd (f_X8_lacks a1 a2 a3 a0 t_21) fun (r_28, t_26) => if r_28 = 0 then (o_bd (f_X8_aside N t_26) fun t_31 => f_X8_film_54 N a0 a1 a3 0 t_31) else (some (r_28, t_26)))))
theorem hd_X8_film : x_hd yX8_film 4 := by decide +kernel
set_option maxRecDepth 100000 in
set_option maxHeartbeats 4000000 in
theorem wb_X8_film_54 {l : Launch} {g : Ly} {p : Program} {e : Env} {s : State} {m : MethodId} {args : Array Value} {below : List Frame} {meth : Method} {c : Code} (N : Nat) (X : XC p m meth c cX8_film 7 s args (.code yX8_film cX8_film 7 (some .int)) RX8 (some .int) shR g) {r : Int32} {t' : Mm} {k54 : Int32 × Int32 × Int32 × Int32 × Mm → Option (Int32 × Mm)} (hk54 : ∀ x : Int32 × Int32 × Int32 × Int32 × Mm, k54 x = some (r, t') → ∀ (H : Heap) (locs : List Loc) (ls : Array Slot), XP shR g x.2.2.2.2 H → va_S (XA shR g) s.heap H locs → lv_has ls 7 [(0, .ref (g.2.2 (9, 0, 0))), (1, .int x.1), (2, .int x.2.1), (4, .int x.2.2.1), (6, .int x.2.2.2.1)] → W p l e (rmv 5) s m args below meth c H locs 0 0 (MQ below (XQi shR g r t') args s 0 0 (XA shR g)) (F0 m 54 ls [])) (x1 : Int32) (x2 : Int32) (x4 : Int32) (x6 : Int32) (t : Mm) (H : Heap) (locs : List Loc) (ls : Array Slot) (hP : XP shR g t H) (hS : va_S (XA shR g) s.heap H locs) (hl : lv_has ls 7 [(0, .ref (g.2.2 (9, 0, 0))), (1, .int x1), (2, .int x2), (4, .int x4), (6, .int x6)]) (h : b_X8_film_54 N k54 x1 x2 x4 x6 t = some (r, t')) : W p l e (rmv 5) s m args below meth c H locs 0 0 (MQ below (XQi shR g r t') args s 0 0 (XA shR g)) (F0 m 54 ls []) := by
  unfold b_X8_film_54 at h
  refine lv_iload X.1.1 X.1.2.1 dX8_film_54 (lv_at hl 4 rfl) ?_
  refine lv_iload_n X.1.1 X.1.2.1 dX8_film_56 rfl (lv_at hl 1 rfl) ?_
  refine lv_icmp_ge (tgt := 90) X.1.1 X.1.2.1 dX8_film_57 (by decide) (fun c_1 => ?_) (fun c_1 => ?_)
  · have h := o_pos c_1 h
    refine lv_iload_n X.1.1 X.1.2.1 dX8_film_90 rfl (lv_at hl 1 rfl) ?_
    obtain ⟨rfl, rfl⟩ := o_ret2 h
    exact x_iret X hP hS dX8_film_91
  · have h := o_neg c_1 h
    refine lv_aload_n X.1.1 X.1.2.1 dX8_film_60 rfl (lv_at hl 0 rfl) ?_
    obtain ⟨t_2, hc_3, h⟩ := o_bd_inv h
    refine x_callv (x_runV (As := []) (rest := []) X hP hS (c_X8_goHour l g N X.2.2.2.2.1 t hc_3) ⟨wd_1093, wd_1090, wd_1092, wd_38, wd_62⟩ hd_X8_goHour ⟨by omega, by decide⟩ (x_recv X hP (ci := 8) rfl (kyM (by decide)) rfl) rfl hl.1 rfl (Nat.le_of_ble_eq_true rfl) dX8_film_61) hS (fun H locs hP hS => ?_)
    refine lv_aload_n X.1.1 X.1.2.1 dX8_film_64 rfl (lv_at hl 0 rfl) ?_
    refine gt_X8_12 X hP (kyM (by decide)) wd_892 dX8_film_65 ?_
    refine lv_bipush (v := 24) X.1.1 X.1.2.1 dX8_film_68 (by decide) ?_
    refine lv_iload_n X.1.1 X.1.2.1 dX8_film_70 rfl (lv_at hl 2 rfl) ?_
    refine lv_imul X.1.1 X.1.2.1 dX8_film_71 ?_
    refine lv_iload X.1.1 X.1.2.1 dX8_film_72 (lv_at hl 3 rfl) ?_
    refine lv_iadd X.1.1 X.1.2.1 dX8_film_74 ?_
    refine lv_iload X.1.1 X.1.2.1 dX8_film_75 (lv_at hl 4 rfl) ?_
    refine lv_iadd X.1.1 X.1.2.1 dX8_film_77 ?_
    refine lv_aload_n X.1.1 X.1.2.1 dX8_film_78 rfl (lv_at hl 0 rfl) ?_
    obtain ⟨⟨r_6, t_4⟩, hc_5, h⟩ := o_bd_inv h
    refine x_calli (x_runV (As := []) (rest := [.int (((24 * x2) + x4) + x6), .ref (g.2.2 (9, 0, 12))]) X hP hS (c_X8_inMany l g N X.2.2.2.2.1 t_2 hc_5) ⟨wd_1170, wd_1167, wd_1169, wd_45, wd_62⟩ hd_X8_inMany ⟨by omega, by decide⟩ (x_recv X hP (ci := 8) rfl (kyM (by decide)) rfl) rfl hl.1 rfl (Nat.le_of_ble_eq_true rfl) dX8_film_79) hS (fun H locs hP hS => ?_)
    refine lv_i2l (v := (r_6.toInt64)) X.1.1 X.1.2.1 dX8_film_82 rfl ?_
    obtain ⟨g_8, h⟩ := o_gd_inv h
    obtain ⟨t_9, e_10, h⟩ := o_nm_inv h
    refine x_last X hP hS (kyM (by decide)) (fun _ _ => rfl) hLR g_8 dX8_film_83 (fun H locs hP hS => ?_)
    have hP : XP shR g t_9 H := by rw [e_10]; exact hP
    refine lv_iinc (v := (x6 + 1)) (lv' := [(6, .int (x6 + 1)), (0, .ref (g.2.2 (9, 0, 0))), (1, .int x1), (2, .int x2), (4, .int x4)]) X.1.1 X.1.2.1 dX8_film_84 hl (k := 4) rfl rfl (by decide) rfl (fun ls hl => ?_)
    refine lv_goto (tgt := 54) X.1.1 X.1.2.1 dX8_film_87 (by decide) ?_
    exact hk54 (x1, x2, x4, (x6 + 1), t_9) h _ _ _ hP hS (lv_sub hl [1, 2, 3, 4, 0] rfl)
set_option maxRecDepth 100000 in
set_option maxHeartbeats 4000000 in
theorem w_X8_film_54 {l : Launch} {g : Ly} {p : Program} {e : Env} {s : State} {m : MethodId} {args : Array Value} {below : List Frame} {meth : Method} {c : Code} (N : Nat) (X : XC p m meth c cX8_film 7 s args (.code yX8_film cX8_film 7 (some .int)) RX8 (some .int) shR g) {r : Int32} {t' : Mm} (x1 : Int32) (x2 : Int32) (x4 : Int32) (x6 : Int32) (t : Mm) (H : Heap) (locs : List Loc) (ls : Array Slot) (hP : XP shR g t H) (hS : va_S (XA shR g) s.heap H locs) (hl : lv_has ls 7 [(0, .ref (g.2.2 (9, 0, 0))), (1, .int x1), (2, .int x2), (4, .int x4), (6, .int x6)]) (h : f_X8_film_54 N x1 x2 x4 x6 t = some (r, t')) : W p l e (rmv 5) s m args below meth c H locs 0 0 (MQ below (XQi shR g r t') args s 0 0 (XA shR g)) (F0 m 54 ls []) :=
  o_lp_ind (P := fun x : Int32 × Int32 × Int32 × Int32 × Mm => ∀ (H : Heap) (locs : List Loc) (ls : Array Slot), XP shR g x.2.2.2.2 H → va_S (XA shR g) s.heap H locs → lv_has ls 7 [(0, .ref (g.2.2 (9, 0, 0))), (1, .int x.1), (2, .int x.2.1), (4, .int x.2.2.1), (6, .int x.2.2.2.1)] → W p l e (rmv 5) s m args below meth c H locs 0 0 (MQ below (XQi shR g r t') args s 0 0 (XA shR g)) (F0 m 54 ls [])) (fun k hk x h H locs ls hP hS hl => wb_X8_film_54 N X hk x.1 x.2.1 x.2.2.1 x.2.2.2.1 x.2.2.2.2 H locs ls hP hS hl h) N (x1, x2, x4, x6, t) h H locs ls hP hS hl
set_option maxRecDepth 100000 in
set_option maxHeartbeats 4000000 in
theorem c_X8_film (l : Launch) (g : Ly) (N : Nat) (hG : XG shR g) (a0 : Int32) (a1 : Int32) (a2 : Int32) (a3 : Int32) (t : Mm) {r : Int32} {t' : Mm} (h : f_X8_film N a0 a1 a2 a3 t = some (r, t')) : MI l yX8_film cX8_film 7 (some .int) 5 shR g [.ref (g.2.2 (9, 0, 0)), .int a0, .int a1, .int a2, .int a3] t (XQi shR g r t') := by
  refine x_met hG (by decide +kernel) (Nat.le_of_ble_eq_true rfl) ?_
  intro p e s m below meth c ls X hP hl
  have hS : va_S (XA shR g) s.heap s.heap [] := va_S.rf
  have hl : lv_has ls 7 [(0, .ref (g.2.2 (9, 0, 0))), (1, .int a0), (2, .int a1), (3, .int a2), (4, .int a3)] := hl
  unfold f_X8_film at h
  generalize ([.ref (g.2.2 (9, 0, 0)), .int a0, .int a1, .int a2, .int a3] : List Value).toArray = args at X ⊢
  refine lv_iload_n X.1.1 X.1.2.1 dX8_film_0 rfl (lv_at hl 1 rfl) ?_
  refine lv_i2l (v := (a0.toInt64)) X.1.1 X.1.2.1 dX8_film_1 rfl ?_
  refine lv_lconst (v := 1) X.1.1 X.1.2.1 dX8_film_2 (by decide) ?_
  refine lv_ldc2 (v := 24) X.1.1 X.1.2.1 X.1.2.2.2.1 (X.1.2.2.2.2 _ (List.mem_cons_of_mem _ wd_1249)) dX8_film_3 ?_
  obtain ⟨⟨r_13, t_11⟩, hc_12, h⟩ := o_bd_inv h
  refine x_calli (x_runS (As := [.long (a0.toInt64), .long 1, .long 24]) (rest := []) X hP hS (c_X8_in l g X.2.2.2.2.1 (a0.toInt64) 1 24 t hc_12) ⟨wd_981, wd_979, wd_980, wd_62⟩ hd_X8_in ⟨by omega, by decide⟩ rfl hl.1 rfl (Nat.le_of_ble_eq_true rfl) dX8_film_6) hS (fun H locs hP hS => ?_)
  refine lv_if_eq (tgt := 26) X.1.1 X.1.2.1 dX8_film_9 (by decide) (fun c_15 => ?_) (fun c_15 => ?_)
  · have h := o_pos c_15 h
    refine lv_iconst (v := (-1)) X.1.1 X.1.2.1 dX8_film_26 (by decide) ?_
    obtain ⟨rfl, rfl⟩ := o_ret2 h
    exact x_iret X hP hS dX8_film_27
  · have h := o_neg c_15 h
    refine lv_iload_n X.1.1 X.1.2.1 dX8_film_12 rfl (lv_at hl 2 rfl) ?_
    obtain ⟨⟨r_18, t_16⟩, hc_17, h⟩ := o_bd_inv h
    refine x_calli (x_runS (As := [.int a1]) (rest := []) X hP hS (c_X8_isSheet l g X.2.2.2.2.1 a1 t_11 hc_17) ⟨wd_1223, wd_1221, wd_1222, wd_62⟩ hd_X8_isSheet ⟨by omega, by decide⟩ rfl hl.1 rfl (Nat.le_of_ble_eq_true rfl) dX8_film_13) hS (fun H locs hP hS => ?_)
    refine lv_if_eq (tgt := 26) X.1.1 X.1.2.1 dX8_film_16 (by decide) (fun c_20 => ?_) (fun c_20 => ?_)
    · have h := o_pos c_20 h
      refine lv_iconst (v := (-1)) X.1.1 X.1.2.1 dX8_film_26 (by decide) ?_
      obtain ⟨rfl, rfl⟩ := o_ret2 h
      exact x_iret X hP hS dX8_film_27
    · have h := o_neg c_20 h
      refine lv_iload_n X.1.1 X.1.2.1 dX8_film_19 rfl (lv_at hl 3 rfl) ?_
      obtain ⟨⟨r_23, t_21⟩, hc_22, h⟩ := o_bd_inv h
      refine x_calli (x_runS (As := [.int a2]) (rest := []) X hP hS (c_X8_isLane l g X.2.2.2.2.1 a2 t_16 hc_22) ⟨wd_1227, wd_1225, wd_1226, wd_62⟩ hd_X8_isLane ⟨by omega, by decide⟩ rfl hl.1 rfl (Nat.le_of_ble_eq_true rfl) dX8_film_20) hS (fun H locs hP hS => ?_)
      refine lv_if_ne (tgt := 28) X.1.1 X.1.2.1 dX8_film_23 (by decide) (fun c_25 => ?_) (fun c_25 => ?_)
      · have h := o_neg c_25 h
        refine lv_aload_n X.1.1 X.1.2.1 dX8_film_28 rfl (lv_at hl 0 rfl) ?_
        refine lv_iload_n X.1.1 X.1.2.1 dX8_film_29 rfl (lv_at hl 2 rfl) ?_
        refine lv_iload_n X.1.1 X.1.2.1 dX8_film_30 rfl (lv_at hl 3 rfl) ?_
        refine lv_iload X.1.1 X.1.2.1 dX8_film_31 (lv_at hl 4 rfl) ?_
        refine lv_iload_n X.1.1 X.1.2.1 dX8_film_33 rfl (lv_at hl 1 rfl) ?_
        obtain ⟨⟨r_28, t_26⟩, hc_27, h⟩ := o_bd_inv h
        refine x_calli (x_runV (As := [.int a1, .int a2, .int a3, .int a0]) (rest := []) X hP hS (c_X8_lacks l g X.2.2.2.2.1 a1 a2 a3 a0 t_21 hc_27) ⟨wd_1232, wd_1229, wd_1231, wd_49, wd_62⟩ hd_X8_lacks ⟨by omega, by decide⟩ (x_recv X hP (ci := 8) rfl (kyM (by decide)) rfl) rfl hl.1 rfl (Nat.le_of_ble_eq_true rfl) dX8_film_34) hS (fun H locs hP hS => ?_)
        refine lv_istore (lv' := [(5, .int r_28), (0, .ref (g.2.2 (9, 0, 0))), (1, .int a0), (2, .int a1), (3, .int a2), (4, .int a3)]) X.1.1 X.1.2.1 dX8_film_37 hl (by decide) rfl (fun ls hl => ?_)
        refine lv_iload X.1.1 X.1.2.1 dX8_film_39 (lv_at hl 0 rfl) ?_
        refine lv_if_eq (tgt := 47) X.1.1 X.1.2.1 dX8_film_41 (by decide) (fun c_30 => ?_) (fun c_30 => ?_)
        · have h := o_pos c_30 h
          refine lv_aload_n X.1.1 X.1.2.1 dX8_film_47 rfl (lv_at hl 1 rfl) ?_
          obtain ⟨t_31, hc_32, h⟩ := o_bd_inv h
          refine x_callv (x_runV (As := []) (rest := []) X hP hS (c_X8_aside l g N X.2.2.2.2.1 t_26 hc_32) ⟨wd_1014, wd_1011, wd_1013, wd_27, wd_62⟩ hd_X8_aside ⟨by omega, by decide⟩ (x_recv X hP (ci := 8) rfl (kyM (by decide)) rfl) rfl hl.1 rfl (Nat.le_of_ble_eq_true rfl) dX8_film_48) hS (fun H locs hP hS => ?_)
          refine lv_iconst (v := 0) X.1.1 X.1.2.1 dX8_film_51 (by decide) ?_
          refine lv_istore (lv' := [(6, .int 0), (5, .int r_28), (0, .ref (g.2.2 (9, 0, 0))), (1, .int a0), (2, .int a1), (3, .int a2), (4, .int a3)]) X.1.1 X.1.2.1 dX8_film_52 hl (by decide) rfl (fun ls hl => ?_)
          exact w_X8_film_54 N X a0 a1 a3 0 t_31 _ _ _ hP hS (lv_sub hl [2, 3, 4, 6, 0] rfl) h
        · have h := o_neg c_30 h
          refine lv_iload X.1.1 X.1.2.1 dX8_film_44 (lv_at hl 0 rfl) ?_
          obtain ⟨rfl, rfl⟩ := o_ret2 h
          exact x_iret X hP hS dX8_film_46
      · have h := o_pos c_25 h
        refine lv_iconst (v := (-1)) X.1.1 X.1.2.1 dX8_film_26 (by decide) ?_
        obtain ⟨rfl, rfl⟩ := o_ret2 h
        exact x_iret X hP hS dX8_film_27
def b_X8_sheet_46 (N : Nat) (k46 : Int32 × Int32 × Int32 × Mm → Option (Int32 × Mm)) (x1 : Int32) (x3 : Int32) (x4 : Int32) (t : Mm) : Option (Int32 × Mm) := if x3 ≤ x4 then (some (x3, t)) else (if o_inb ((24 * x1) + x4) 96 = true then (o_nm (sJ t 0 (((24 * x1) + x4).toNatClampNeg) 0) fun t_3 => k46 (x1, x3, (x4 + 1), t_3)) else none)
def f_X8_sheet_46 (N : Nat) (x1 : Int32) (x3 : Int32) (x4 : Int32) (t : Mm) : Option (Int32 × Mm) := o_lp (fun k x => b_X8_sheet_46 N k x.1 x.2.1 x.2.2.1 x.2.2.2) N (x1, x3, x4, t)
/-- FordQuestionsModel.sheet(III)I -/
def f_X8_sheet (N : Nat) (a0 : Int32) (a1 : Int32) (a2 : Int32) (t : Mm) : Option (Int32 × Mm) := o_bd (f_X8_isSheet a0 t) fun (r_7, t_5) => if r_7 = 0 then (some ((-1), t_5)) else (o_bd (f_X8_isLane a1 t_5) fun (r_12, t_10) => if r_12 = 0 then (some ((-1), t_10)) else (if a2 ≤ 24 then (if 0 ≤ a2 then (if o_inb a0 4 = true then (o_nm (sI t_10 9 0 13 (a0.toNatClampNeg) a1) fun t_18 => if o_inb a0 4 = true then (o_nm (sI t_18 9 0 14 (a0.toNatClampNeg) a2) fun t_21 => f_X8_sheet_46 N a0 a2 0 t_21) else none) else none) else (some ((-14), t_10))) else (some ((-1), t_10))))
theorem hd_X8_sheet : x_hd yX8_sheet 3 := by decide +kernel
set_option maxRecDepth 100000 in
set_option maxHeartbeats 4000000 in
theorem wb_X8_sheet_46 {l : Launch} {g : Ly} {p : Program} {e : Env} {s : State} {m : MethodId} {args : Array Value} {below : List Frame} {meth : Method} {c : Code} (N : Nat) (X : XC p m meth c cX8_sheet 5 s args (.code yX8_sheet cX8_sheet 5 (some .int)) RX8 (some .int) shR g) {r : Int32} {t' : Mm} {k46 : Int32 × Int32 × Int32 × Mm → Option (Int32 × Mm)} (hk46 : ∀ x : Int32 × Int32 × Int32 × Mm, k46 x = some (r, t') → ∀ (H : Heap) (locs : List Loc) (ls : Array Slot), XP shR g x.2.2.2 H → va_S (XA shR g) s.heap H locs → lv_has ls 5 [(0, .ref (g.2.2 (9, 0, 0))), (1, .int x.1), (3, .int x.2.1), (4, .int x.2.2.1)] → W p l e (rmv 3) s m args below meth c H locs 0 0 (MQ below (XQi shR g r t') args s 0 0 (XA shR g)) (F0 m 46 ls [])) (x1 : Int32) (x3 : Int32) (x4 : Int32) (t : Mm) (H : Heap) (locs : List Loc) (ls : Array Slot) (hP : XP shR g t H) (hS : va_S (XA shR g) s.heap H locs) (hl : lv_has ls 5 [(0, .ref (g.2.2 (9, 0, 0))), (1, .int x1), (3, .int x3), (4, .int x4)]) (h : b_X8_sheet_46 N k46 x1 x3 x4 t = some (r, t')) : W p l e (rmv 3) s m args below meth c H locs 0 0 (MQ below (XQi shR g r t') args s 0 0 (XA shR g)) (F0 m 46 ls []) := by
  unfold b_X8_sheet_46 at h
  refine lv_iload X.1.1 X.1.2.1 dX8_sheet_46 (lv_at hl 3 rfl) ?_
  refine lv_iload_n X.1.1 X.1.2.1 dX8_sheet_48 rfl (lv_at hl 2 rfl) ?_
  refine lv_icmp_ge (tgt := 71) X.1.1 X.1.2.1 dX8_sheet_49 (by decide) (fun c_1 => ?_) (fun c_1 => ?_)
  · have h := o_pos c_1 h
    refine lv_iload_n X.1.1 X.1.2.1 dX8_sheet_71 rfl (lv_at hl 2 rfl) ?_
    obtain ⟨rfl, rfl⟩ := o_ret2 h
    exact x_iret X hP hS dX8_sheet_72
  · have h := o_neg c_1 h
    refine lv_aload_n X.1.1 X.1.2.1 dX8_sheet_52 rfl (lv_at hl 0 rfl) ?_
    refine gt_X8_12 X hP (kyM (by decide)) wd_892 dX8_sheet_53 ?_
    refine lv_bipush (v := 24) X.1.1 X.1.2.1 dX8_sheet_56 (by decide) ?_
    refine lv_iload_n X.1.1 X.1.2.1 dX8_sheet_58 rfl (lv_at hl 1 rfl) ?_
    refine lv_imul X.1.1 X.1.2.1 dX8_sheet_59 ?_
    refine lv_iload X.1.1 X.1.2.1 dX8_sheet_60 (lv_at hl 3 rfl) ?_
    refine lv_iadd X.1.1 X.1.2.1 dX8_sheet_62 ?_
    refine lv_lconst (v := 0) X.1.1 X.1.2.1 dX8_sheet_63 (by decide) ?_
    obtain ⟨g_2, h⟩ := o_gd_inv h
    obtain ⟨t_3, e_4, h⟩ := o_nm_inv h
    refine x_last X hP hS (kyM (by decide)) (fun _ _ => rfl) hLR g_2 dX8_sheet_64 (fun H locs hP hS => ?_)
    have hP : XP shR g t_3 H := by rw [e_4]; exact hP
    refine lv_iinc (v := (x4 + 1)) (lv' := [(4, .int (x4 + 1)), (0, .ref (g.2.2 (9, 0, 0))), (1, .int x1), (3, .int x3)]) X.1.1 X.1.2.1 dX8_sheet_65 hl (k := 3) rfl rfl (by decide) rfl (fun ls hl => ?_)
    refine lv_goto (tgt := 46) X.1.1 X.1.2.1 dX8_sheet_68 (by decide) ?_
    exact hk46 (x1, x3, (x4 + 1), t_3) h _ _ _ hP hS (lv_sub hl [1, 2, 3, 0] rfl)
set_option maxRecDepth 100000 in
set_option maxHeartbeats 4000000 in
theorem w_X8_sheet_46 {l : Launch} {g : Ly} {p : Program} {e : Env} {s : State} {m : MethodId} {args : Array Value} {below : List Frame} {meth : Method} {c : Code} (N : Nat) (X : XC p m meth c cX8_sheet 5 s args (.code yX8_sheet cX8_sheet 5 (some .int)) RX8 (some .int) shR g) {r : Int32} {t' : Mm} (x1 : Int32) (x3 : Int32) (x4 : Int32) (t : Mm) (H : Heap) (locs : List Loc) (ls : Array Slot) (hP : XP shR g t H) (hS : va_S (XA shR g) s.heap H locs) (hl : lv_has ls 5 [(0, .ref (g.2.2 (9, 0, 0))), (1, .int x1), (3, .int x3), (4, .int x4)]) (h : f_X8_sheet_46 N x1 x3 x4 t = some (r, t')) : W p l e (rmv 3) s m args below meth c H locs 0 0 (MQ below (XQi shR g r t') args s 0 0 (XA shR g)) (F0 m 46 ls []) :=
  o_lp_ind (P := fun x : Int32 × Int32 × Int32 × Mm => ∀ (H : Heap) (locs : List Loc) (ls : Array Slot), XP shR g x.2.2.2 H → va_S (XA shR g) s.heap H locs → lv_has ls 5 [(0, .ref (g.2.2 (9, 0, 0))), (1, .int x.1), (3, .int x.2.1), (4, .int x.2.2.1)] → W p l e (rmv 3) s m args below meth c H locs 0 0 (MQ below (XQi shR g r t') args s 0 0 (XA shR g)) (F0 m 46 ls [])) (fun k hk x h H locs ls hP hS hl => wb_X8_sheet_46 N X hk x.1 x.2.1 x.2.2.1 x.2.2.2 H locs ls hP hS hl h) N (x1, x3, x4, t) h H locs ls hP hS hl
set_option maxRecDepth 100000 in
set_option maxHeartbeats 4000000 in
theorem c_X8_sheet (l : Launch) (g : Ly) (N : Nat) (hG : XG shR g) (a0 : Int32) (a1 : Int32) (a2 : Int32) (t : Mm) {r : Int32} {t' : Mm} (h : f_X8_sheet N a0 a1 a2 t = some (r, t')) : MI l yX8_sheet cX8_sheet 5 (some .int) 3 shR g [.ref (g.2.2 (9, 0, 0)), .int a0, .int a1, .int a2] t (XQi shR g r t') := by
  refine x_met hG (by decide +kernel) (Nat.le_of_ble_eq_true rfl) ?_
  intro p e s m below meth c ls X hP hl
  have hS : va_S (XA shR g) s.heap s.heap [] := va_S.rf
  have hl : lv_has ls 5 [(0, .ref (g.2.2 (9, 0, 0))), (1, .int a0), (2, .int a1), (3, .int a2)] := hl
  unfold f_X8_sheet at h
  generalize ([.ref (g.2.2 (9, 0, 0)), .int a0, .int a1, .int a2] : List Value).toArray = args at X ⊢
  refine lv_iload_n X.1.1 X.1.2.1 dX8_sheet_0 rfl (lv_at hl 1 rfl) ?_
  obtain ⟨⟨r_7, t_5⟩, hc_6, h⟩ := o_bd_inv h
  refine x_calli (x_runS (As := [.int a0]) (rest := []) X hP hS (c_X8_isSheet l g X.2.2.2.2.1 a0 t hc_6) ⟨wd_1223, wd_1221, wd_1222, wd_62⟩ hd_X8_isSheet ⟨by omega, by decide⟩ rfl hl.1 rfl (Nat.le_of_ble_eq_true rfl) dX8_sheet_1) hS (fun H locs hP hS => ?_)
  refine lv_if_eq (tgt := 20) X.1.1 X.1.2.1 dX8_sheet_4 (by decide) (fun c_9 => ?_) (fun c_9 => ?_)
  · have h := o_pos c_9 h
    refine lv_iconst (v := (-1)) X.1.1 X.1.2.1 dX8_sheet_20 (by decide) ?_
    obtain ⟨rfl, rfl⟩ := o_ret2 h
    exact x_iret X hP hS dX8_sheet_21
  · have h := o_neg c_9 h
    refine lv_iload_n X.1.1 X.1.2.1 dX8_sheet_7 rfl (lv_at hl 2 rfl) ?_
    obtain ⟨⟨r_12, t_10⟩, hc_11, h⟩ := o_bd_inv h
    refine x_calli (x_runS (As := [.int a1]) (rest := []) X hP hS (c_X8_isLane l g X.2.2.2.2.1 a1 t_5 hc_11) ⟨wd_1227, wd_1225, wd_1226, wd_62⟩ hd_X8_isLane ⟨by omega, by decide⟩ rfl hl.1 rfl (Nat.le_of_ble_eq_true rfl) dX8_sheet_8) hS (fun H locs hP hS => ?_)
    refine lv_if_eq (tgt := 20) X.1.1 X.1.2.1 dX8_sheet_11 (by decide) (fun c_14 => ?_) (fun c_14 => ?_)
    · have h := o_pos c_14 h
      refine lv_iconst (v := (-1)) X.1.1 X.1.2.1 dX8_sheet_20 (by decide) ?_
      obtain ⟨rfl, rfl⟩ := o_ret2 h
      exact x_iret X hP hS dX8_sheet_21
    · have h := o_neg c_14 h
      refine lv_iload_n X.1.1 X.1.2.1 dX8_sheet_14 rfl (lv_at hl 3 rfl) ?_
      refine lv_bipush (v := 24) X.1.1 X.1.2.1 dX8_sheet_15 (by decide) ?_
      refine lv_icmp_le (tgt := 22) X.1.1 X.1.2.1 dX8_sheet_17 (by decide) (fun c_15 => ?_) (fun c_15 => ?_)
      · have h := o_pos c_15 h
        refine lv_iload_n X.1.1 X.1.2.1 dX8_sheet_22 rfl (lv_at hl 3 rfl) ?_
        refine lv_if_ge (tgt := 29) X.1.1 X.1.2.1 dX8_sheet_23 (by decide) (fun c_16 => ?_) (fun c_16 => ?_)
        · have h := o_pos c_16 h
          refine lv_aload_n X.1.1 X.1.2.1 dX8_sheet_29 rfl (lv_at hl 0 rfl) ?_
          refine gt_X8_13 X hP (kyM (by decide)) wd_893 dX8_sheet_30 ?_
          refine lv_iload_n X.1.1 X.1.2.1 dX8_sheet_33 rfl (lv_at hl 1 rfl) ?_
          refine lv_iload_n X.1.1 X.1.2.1 dX8_sheet_34 rfl (lv_at hl 2 rfl) ?_
          obtain ⟨g_17, h⟩ := o_gd_inv h
          obtain ⟨t_18, e_19, h⟩ := o_nm_inv h
          refine x_iast X hP hS (kyM (by decide)) (fun _ _ => rfl) g_17 dX8_sheet_35 (fun H locs hP hS => ?_)
          have hP : XP shR g t_18 H := by rw [e_19]; exact hP
          refine lv_aload_n X.1.1 X.1.2.1 dX8_sheet_36 rfl (lv_at hl 0 rfl) ?_
          refine gt_X8_14 X hP (kyM (by decide)) wd_894 dX8_sheet_37 ?_
          refine lv_iload_n X.1.1 X.1.2.1 dX8_sheet_40 rfl (lv_at hl 1 rfl) ?_
          refine lv_iload_n X.1.1 X.1.2.1 dX8_sheet_41 rfl (lv_at hl 3 rfl) ?_
          obtain ⟨g_20, h⟩ := o_gd_inv h
          obtain ⟨t_21, e_22, h⟩ := o_nm_inv h
          refine x_iast X hP hS (kyM (by decide)) (fun _ _ => rfl) g_20 dX8_sheet_42 (fun H locs hP hS => ?_)
          have hP : XP shR g t_21 H := by rw [e_22]; exact hP
          refine lv_iconst (v := 0) X.1.1 X.1.2.1 dX8_sheet_43 (by decide) ?_
          refine lv_istore (lv' := [(4, .int 0), (0, .ref (g.2.2 (9, 0, 0))), (1, .int a0), (2, .int a1), (3, .int a2)]) X.1.1 X.1.2.1 dX8_sheet_44 hl (by decide) rfl (fun ls hl => ?_)
          exact w_X8_sheet_46 N X a0 a2 0 t_21 _ _ _ hP hS (lv_sub hl [1, 2, 4, 0] rfl) h
        · have h := o_neg c_16 h
          refine lv_bipush (v := (-14)) X.1.1 X.1.2.1 dX8_sheet_26 (by decide) ?_
          obtain ⟨rfl, rfl⟩ := o_ret2 h
          exact x_iret X hP hS dX8_sheet_28
      · have h := o_neg c_15 h
        refine lv_iconst (v := (-1)) X.1.1 X.1.2.1 dX8_sheet_20 (by decide) ?_
        obtain ⟨rfl, rfl⟩ := o_ret2 h
        exact x_iret X hP hS dX8_sheet_21
/-- FordQuestionsModel.drop(I)I -/
def f_X8_drop (a0 : Int32) (t : Mm) : Option (Int32 × Mm) := o_bd (f_X8_isSheet a0 t) fun (r_3, t_1) => if r_3 = 0 then (some ((-1), t_1)) else (if o_inb a0 4 = true then (if 0 ≤ (t_1.1 9 0 14 (a0.toNatClampNeg)) then (if o_inb a0 4 = true then (o_nm ((t_1.1 9 0 14 (a0.toNatClampNeg))) fun x_9 => if o_inb a0 4 = true then (o_nm (sI t_1 9 0 14 (a0.toNatClampNeg) (-1)) fun t_12 => some (x_9, t_12)) else none) else none) else (some ((-11), t_1))) else none)
theorem hd_X8_drop : x_hd yX8_drop 1 := by decide +kernel
set_option maxRecDepth 100000 in
set_option maxHeartbeats 4000000 in
theorem c_X8_drop (l : Launch) (g : Ly) (hG : XG shR g) (a0 : Int32) (t : Mm) {r : Int32} {t' : Mm} (h : f_X8_drop a0 t = some (r, t')) : MI l yX8_drop cX8_drop 3 (some .int) 3 shR g [.ref (g.2.2 (9, 0, 0)), .int a0] t (XQi shR g r t') := by
  refine x_met hG (by decide +kernel) (Nat.le_of_ble_eq_true rfl) ?_
  intro p e s m below meth c ls X hP hl
  have hS : va_S (XA shR g) s.heap s.heap [] := va_S.rf
  have hl : lv_has ls 3 [(0, .ref (g.2.2 (9, 0, 0))), (1, .int a0)] := hl
  unfold f_X8_drop at h
  generalize ([.ref (g.2.2 (9, 0, 0)), .int a0] : List Value).toArray = args at X ⊢
  refine lv_iload_n X.1.1 X.1.2.1 dX8_drop_0 rfl (lv_at hl 1 rfl) ?_
  obtain ⟨⟨r_3, t_1⟩, hc_2, h⟩ := o_bd_inv h
  refine x_calli (x_runS (As := [.int a0]) (rest := []) X hP hS (c_X8_isSheet l g X.2.2.2.2.1 a0 t hc_2) ⟨wd_1223, wd_1221, wd_1222, wd_62⟩ hd_X8_isSheet ⟨by omega, by decide⟩ rfl hl.1 rfl (Nat.le_of_ble_eq_true rfl) dX8_drop_1) hS (fun H locs hP hS => ?_)
  refine lv_if_ne (tgt := 9) X.1.1 X.1.2.1 dX8_drop_4 (by decide) (fun c_5 => ?_) (fun c_5 => ?_)
  · have h := o_neg c_5 h
    refine lv_aload_n X.1.1 X.1.2.1 dX8_drop_9 rfl (lv_at hl 0 rfl) ?_
    refine gt_X8_14 X hP (kyM (by decide)) wd_894 dX8_drop_10 ?_
    refine lv_iload_n X.1.1 X.1.2.1 dX8_drop_13 rfl (lv_at hl 1 rfl) ?_
    obtain ⟨g_6, h⟩ := o_gd_inv h
    refine x_iald X hP (kyM (by decide)) (fun _ _ => rfl) g_6 dX8_drop_14 ?_
    refine lv_if_ge (tgt := 21) X.1.1 X.1.2.1 dX8_drop_15 (by decide) (fun c_7 => ?_) (fun c_7 => ?_)
    · have h := o_pos c_7 h
      refine lv_aload_n X.1.1 X.1.2.1 dX8_drop_21 rfl (lv_at hl 0 rfl) ?_
      refine gt_X8_14 X hP (kyM (by decide)) wd_894 dX8_drop_22 ?_
      refine lv_iload_n X.1.1 X.1.2.1 dX8_drop_25 rfl (lv_at hl 1 rfl) ?_
      obtain ⟨g_8, h⟩ := o_gd_inv h
      refine x_iald X hP (kyM (by decide)) (fun _ _ => rfl) g_8 dX8_drop_26 ?_
      refine lv_topi (fun x_9 e_10 => ?_)
      have h := o_nm_to e_10 h
      refine lv_istore_n (lv' := [(2, .int x_9), (0, .ref (g.2.2 (9, 0, 0))), (1, .int a0)]) X.1.1 X.1.2.1 dX8_drop_27 rfl hl (by decide) rfl (fun ls hl => ?_)
      refine lv_aload_n X.1.1 X.1.2.1 dX8_drop_28 rfl (lv_at hl 1 rfl) ?_
      refine gt_X8_14 X hP (kyM (by decide)) wd_894 dX8_drop_29 ?_
      refine lv_iload_n X.1.1 X.1.2.1 dX8_drop_32 rfl (lv_at hl 2 rfl) ?_
      refine lv_iconst (v := (-1)) X.1.1 X.1.2.1 dX8_drop_33 (by decide) ?_
      obtain ⟨g_11, h⟩ := o_gd_inv h
      obtain ⟨t_12, e_13, h⟩ := o_nm_inv h
      refine x_iast X hP hS (kyM (by decide)) (fun _ _ => rfl) g_11 dX8_drop_34 (fun H locs hP hS => ?_)
      have hP : XP shR g t_12 H := by rw [e_13]; exact hP
      refine lv_iload_n X.1.1 X.1.2.1 dX8_drop_35 rfl (lv_at hl 0 rfl) ?_
      obtain ⟨rfl, rfl⟩ := o_ret2 h
      exact x_iret X hP hS dX8_drop_36
    · have h := o_neg c_7 h
      refine lv_bipush (v := (-11)) X.1.1 X.1.2.1 dX8_drop_18 (by decide) ?_
      obtain ⟨rfl, rfl⟩ := o_ret2 h
      exact x_iret X hP hS dX8_drop_20
  · have h := o_pos c_5 h
    refine lv_iconst (v := (-1)) X.1.1 X.1.2.1 dX8_drop_7 (by decide) ?_
    obtain ⟨rfl, rfl⟩ := o_ret2 h
    exact x_iret X hP hS dX8_drop_8
def f_X8_item_93 (s1 : Int32) (s2 : Int64) (t : Mm) : Option (Int32 × Mm) := if o_inb s1 96 = true then (o_nm (sJ t 0 (s1.toNatClampNeg) s2) fun t_2 => some (1, t_2)) else none
/-- FordQuestionsModel.item(IIIJ)I -/
def f_X8_item (a0 : Int32) (a1 : Int32) (a2 : Int32) (a3 : Int64) (t : Mm) : Option (Int32 × Mm) := o_bd (f_X8_isSheet a0 t) fun (r_6, t_4) => if r_6 = 0 then (some ((-1), t_4)) else (o_bd (f_X8_isLane a1 t_4) fun (r_11, t_9) => if r_11 = 0 then (some ((-1), t_9)) else (o_bd (f_X8_lacks a0 a1 a2 1 t_9) fun (r_16, t_14) => if r_16 = 0 then (if a1 = 0 then (f_X8_item_93 ((24 * a0) + a2) ((a3 <<< ((56 : Int32).toInt64 &&& 63)) >>> ((56 : Int32).toInt64 &&& 63)) t_14) else (if a1 = 1 then (f_X8_item_93 ((24 * a0) + a2) ((a3 <<< ((48 : Int32).toInt64 &&& 63)) >>> ((48 : Int32).toInt64 &&& 63)) t_14) else (if a1 = 2 then (f_X8_item_93 ((24 * a0) + a2) ((a3 <<< ((32 : Int32).toInt64 &&& 63)) >>> ((32 : Int32).toInt64 &&& 63)) t_14) else (f_X8_item_93 ((24 * a0) + a2) a3 t_14)))) else (some (r_16, t_14))))
theorem hd_X8_item : x_hd yX8_item 4 := by decide +kernel
set_option maxRecDepth 100000 in
set_option maxHeartbeats 4000000 in
theorem w_X8_item_93 {l : Launch} {g : Ly} {p : Program} {e : Env} {s : State} {m : MethodId} {args : Array Value} {below : List Frame} {meth : Method} {c : Code} (X : XC p m meth c cX8_item 7 s args (.code yX8_item cX8_item 7 (some .int)) RX8 (some .int) shR g) {r : Int32} {t' : Mm} (s1 : Int32) (s2 : Int64) (t : Mm) (H : Heap) (locs : List Loc) (ls : Array Slot) (hP : XP shR g t H) (hS : va_S (XA shR g) s.heap H locs) (hl : lv_has ls 7 []) (h : f_X8_item_93 s1 s2 t = some (r, t')) : W p l e (rmv 3) s m args below meth c H locs 0 0 (MQ below (XQi shR g r t') args s 0 0 (XA shR g)) (F0 m 93 ls [.long s2, .int s1, .ref (g.2.2 (9, 0, 12))]) := by
  unfold f_X8_item_93 at h
  obtain ⟨g_1, h⟩ := o_gd_inv h
  obtain ⟨t_2, e_3, h⟩ := o_nm_inv h
  refine x_last X hP hS (kyM (by decide)) (fun _ _ => rfl) hLR g_1 dX8_item_93 (fun H locs hP hS => ?_)
  have hP : XP shR g t_2 H := by rw [e_3]; exact hP
  refine lv_iconst (v := 1) X.1.1 X.1.2.1 dX8_item_94 (by decide) ?_
  obtain ⟨rfl, rfl⟩ := o_ret2 h
  exact x_iret X hP hS dX8_item_95
set_option maxRecDepth 100000 in
set_option maxHeartbeats 4000000 in
theorem c_X8_item (l : Launch) (g : Ly) (hG : XG shR g) (a0 : Int32) (a1 : Int32) (a2 : Int32) (a3 : Int64) (t : Mm) {r : Int32} {t' : Mm} (h : f_X8_item a0 a1 a2 a3 t = some (r, t')) : MI l yX8_item cX8_item 7 (some .int) 3 shR g [.ref (g.2.2 (9, 0, 0)), .int a0, .int a1, .int a2, .long a3] t (XQi shR g r t') := by
  refine x_met hG (by decide +kernel) (Nat.le_of_ble_eq_true rfl) ?_
  intro p e s m below meth c ls X hP hl
  have hS : va_S (XA shR g) s.heap s.heap [] := va_S.rf
  have hl : lv_has ls 7 [(0, .ref (g.2.2 (9, 0, 0))), (1, .int a0), (2, .int a1), (3, .int a2), (4, .long a3)] := hl
  unfold f_X8_item at h
  generalize ([.ref (g.2.2 (9, 0, 0)), .int a0, .int a1, .int a2, .long a3] : List Value).toArray = args at X ⊢
  refine lv_iload_n X.1.1 X.1.2.1 dX8_item_0 rfl (lv_at hl 1 rfl) ?_
  obtain ⟨⟨r_6, t_4⟩, hc_5, h⟩ := o_bd_inv h
  refine x_calli (x_runS (As := [.int a0]) (rest := []) X hP hS (c_X8_isSheet l g X.2.2.2.2.1 a0 t hc_5) ⟨wd_1223, wd_1221, wd_1222, wd_62⟩ hd_X8_isSheet ⟨by omega, by decide⟩ rfl hl.1 rfl (Nat.le_of_ble_eq_true rfl) dX8_item_1) hS (fun H locs hP hS => ?_)
  refine lv_if_eq (tgt := 14) X.1.1 X.1.2.1 dX8_item_4 (by decide) (fun c_8 => ?_) (fun c_8 => ?_)
  · have h := o_pos c_8 h
    refine lv_iconst (v := (-1)) X.1.1 X.1.2.1 dX8_item_14 (by decide) ?_
    obtain ⟨rfl, rfl⟩ := o_ret2 h
    exact x_iret X hP hS dX8_item_15
  · have h := o_neg c_8 h
    refine lv_iload_n X.1.1 X.1.2.1 dX8_item_7 rfl (lv_at hl 2 rfl) ?_
    obtain ⟨⟨r_11, t_9⟩, hc_10, h⟩ := o_bd_inv h
    refine x_calli (x_runS (As := [.int a1]) (rest := []) X hP hS (c_X8_isLane l g X.2.2.2.2.1 a1 t_4 hc_10) ⟨wd_1227, wd_1225, wd_1226, wd_62⟩ hd_X8_isLane ⟨by omega, by decide⟩ rfl hl.1 rfl (Nat.le_of_ble_eq_true rfl) dX8_item_8) hS (fun H locs hP hS => ?_)
    refine lv_if_ne (tgt := 16) X.1.1 X.1.2.1 dX8_item_11 (by decide) (fun c_13 => ?_) (fun c_13 => ?_)
    · have h := o_neg c_13 h
      refine lv_aload_n X.1.1 X.1.2.1 dX8_item_16 rfl (lv_at hl 0 rfl) ?_
      refine lv_iload_n X.1.1 X.1.2.1 dX8_item_17 rfl (lv_at hl 1 rfl) ?_
      refine lv_iload_n X.1.1 X.1.2.1 dX8_item_18 rfl (lv_at hl 2 rfl) ?_
      refine lv_iload_n X.1.1 X.1.2.1 dX8_item_19 rfl (lv_at hl 3 rfl) ?_
      refine lv_iconst (v := 1) X.1.1 X.1.2.1 dX8_item_20 (by decide) ?_
      obtain ⟨⟨r_16, t_14⟩, hc_15, h⟩ := o_bd_inv h
      refine x_calli (x_runV (As := [.int a0, .int a1, .int a2, .int 1]) (rest := []) X hP hS (c_X8_lacks l g X.2.2.2.2.1 a0 a1 a2 1 t_9 hc_15) ⟨wd_1232, wd_1229, wd_1231, wd_49, wd_62⟩ hd_X8_lacks ⟨by omega, by decide⟩ (x_recv X hP (ci := 8) rfl (kyM (by decide)) rfl) rfl hl.1 rfl (Nat.le_of_ble_eq_true rfl) dX8_item_21) hS (fun H locs hP hS => ?_)
      refine lv_istore (lv' := [(6, .int r_16), (0, .ref (g.2.2 (9, 0, 0))), (1, .int a0), (2, .int a1), (3, .int a2), (4, .long a3)]) X.1.1 X.1.2.1 dX8_item_24 hl (by decide) rfl (fun ls hl => ?_)
      refine lv_iload X.1.1 X.1.2.1 dX8_item_26 (lv_at hl 0 rfl) ?_
      refine lv_if_eq (tgt := 34) X.1.1 X.1.2.1 dX8_item_28 (by decide) (fun c_18 => ?_) (fun c_18 => ?_)
      · have h := o_pos c_18 h
        refine lv_aload_n X.1.1 X.1.2.1 dX8_item_34 rfl (lv_at hl 1 rfl) ?_
        refine gt_X8_12 X hP (kyM (by decide)) wd_892 dX8_item_35 ?_
        refine lv_bipush (v := 24) X.1.1 X.1.2.1 dX8_item_38 (by decide) ?_
        refine lv_iload_n X.1.1 X.1.2.1 dX8_item_40 rfl (lv_at hl 2 rfl) ?_
        refine lv_imul X.1.1 X.1.2.1 dX8_item_41 ?_
        refine lv_iload_n X.1.1 X.1.2.1 dX8_item_42 rfl (lv_at hl 4 rfl) ?_
        refine lv_iadd X.1.1 X.1.2.1 dX8_item_43 ?_
        refine lv_iload_n X.1.1 X.1.2.1 dX8_item_44 rfl (lv_at hl 3 rfl) ?_
        refine lv_if_ne (tgt := 59) X.1.1 X.1.2.1 dX8_item_45 (by decide) (fun c_19 => ?_) (fun c_19 => ?_)
        · have h := o_neg c_19 h
          refine lv_iload_n X.1.1 X.1.2.1 dX8_item_59 rfl (lv_at hl 3 rfl) ?_
          refine lv_iconst (v := 1) X.1.1 X.1.2.1 dX8_item_60 (by decide) ?_
          refine lv_icmp_ne (tgt := 75) X.1.1 X.1.2.1 dX8_item_61 (by decide) (fun c_20 => ?_) (fun c_20 => ?_)
          · have h := o_neg c_20 h
            refine lv_iload_n X.1.1 X.1.2.1 dX8_item_75 rfl (lv_at hl 3 rfl) ?_
            refine lv_iconst (v := 2) X.1.1 X.1.2.1 dX8_item_76 (by decide) ?_
            refine lv_icmp_ne (tgt := 91) X.1.1 X.1.2.1 dX8_item_77 (by decide) (fun c_21 => ?_) (fun c_21 => ?_)
            · have h := o_neg c_21 h
              refine lv_lload X.1.1 X.1.2.1 dX8_item_91 (lv_at hl 5 rfl) ?_
              exact w_X8_item_93 X ((24 * a0) + a2) a3 t_14 _ _ _ hP hS (lv_sub hl [] rfl) h
            · have h := o_pos c_21 h
              refine lv_lload X.1.1 X.1.2.1 dX8_item_80 (lv_at hl 5 rfl) ?_
              refine lv_bipush (v := 32) X.1.1 X.1.2.1 dX8_item_82 (by decide) ?_
              refine lv_lshl (v := (a3 <<< ((32 : Int32).toInt64 &&& 63))) X.1.1 X.1.2.1 dX8_item_84 rfl ?_
              refine lv_bipush (v := 32) X.1.1 X.1.2.1 dX8_item_85 (by decide) ?_
              refine lv_lshr (v := ((a3 <<< ((32 : Int32).toInt64 &&& 63)) >>> ((32 : Int32).toInt64 &&& 63))) X.1.1 X.1.2.1 dX8_item_87 rfl ?_
              refine lv_goto (tgt := 93) X.1.1 X.1.2.1 dX8_item_88 (by decide) ?_
              exact w_X8_item_93 X ((24 * a0) + a2) ((a3 <<< ((32 : Int32).toInt64 &&& 63)) >>> ((32 : Int32).toInt64 &&& 63)) t_14 _ _ _ hP hS (lv_sub hl [] rfl) h
          · have h := o_pos c_20 h
            refine lv_lload X.1.1 X.1.2.1 dX8_item_64 (lv_at hl 5 rfl) ?_
            refine lv_bipush (v := 48) X.1.1 X.1.2.1 dX8_item_66 (by decide) ?_
            refine lv_lshl (v := (a3 <<< ((48 : Int32).toInt64 &&& 63))) X.1.1 X.1.2.1 dX8_item_68 rfl ?_
            refine lv_bipush (v := 48) X.1.1 X.1.2.1 dX8_item_69 (by decide) ?_
            refine lv_lshr (v := ((a3 <<< ((48 : Int32).toInt64 &&& 63)) >>> ((48 : Int32).toInt64 &&& 63))) X.1.1 X.1.2.1 dX8_item_71 rfl ?_
            refine lv_goto (tgt := 93) X.1.1 X.1.2.1 dX8_item_72 (by decide) ?_
            exact w_X8_item_93 X ((24 * a0) + a2) ((a3 <<< ((48 : Int32).toInt64 &&& 63)) >>> ((48 : Int32).toInt64 &&& 63)) t_14 _ _ _ hP hS (lv_sub hl [] rfl) h
        · have h := o_pos c_19 h
          refine lv_lload X.1.1 X.1.2.1 dX8_item_48 (lv_at hl 5 rfl) ?_
          refine lv_bipush (v := 56) X.1.1 X.1.2.1 dX8_item_50 (by decide) ?_
          refine lv_lshl (v := (a3 <<< ((56 : Int32).toInt64 &&& 63))) X.1.1 X.1.2.1 dX8_item_52 rfl ?_
          refine lv_bipush (v := 56) X.1.1 X.1.2.1 dX8_item_53 (by decide) ?_
          refine lv_lshr (v := ((a3 <<< ((56 : Int32).toInt64 &&& 63)) >>> ((56 : Int32).toInt64 &&& 63))) X.1.1 X.1.2.1 dX8_item_55 rfl ?_
          refine lv_goto (tgt := 93) X.1.1 X.1.2.1 dX8_item_56 (by decide) ?_
          exact w_X8_item_93 X ((24 * a0) + a2) ((a3 <<< ((56 : Int32).toInt64 &&& 63)) >>> ((56 : Int32).toInt64 &&& 63)) t_14 _ _ _ hP hS (lv_sub hl [] rfl) h
      · have h := o_neg c_18 h
        refine lv_iload X.1.1 X.1.2.1 dX8_item_31 (lv_at hl 0 rfl) ?_
        obtain ⟨rfl, rfl⟩ := o_ret2 h
        exact x_iret X hP hS dX8_item_33
    · have h := o_pos c_13 h
      refine lv_iconst (v := (-1)) X.1.1 X.1.2.1 dX8_item_14 (by decide) ?_
      obtain ⟨rfl, rfl⟩ := o_ret2 h
      exact x_iret X hP hS dX8_item_15
def f_X8_copy_109 (N : Nat) (k84 : Int32 × Int32 × Int32 × Int32 × Int32 × Int32 × Mm → Option (Int32 × Mm)) (x1 : Int32) (x2 : Int32) (x3 : Int32) (x4 : Int32) (x5 : Int32) (x6 : Int32) (s0 : Int32) (t : Mm) : Option (Int32 × Mm) := if o_inb (((24 * x1) + x2) + s0) 96 = true then (if o_inb (((24 * x3) + x4) + s0) 96 = true then (o_nm (sJ t 0 ((((24 * x3) + x4) + s0).toNatClampNeg) (t.2 0 ((((24 * x1) + x2) + s0).toNatClampNeg))) fun t_3 => k84 (x1, x2, x3, x4, x5, (x6 + 1), t_3)) else none) else none
def b_X8_copy_84 (N : Nat) (k84 : Int32 × Int32 × Int32 × Int32 × Int32 × Int32 × Mm → Option (Int32 × Mm)) (x1 : Int32) (x2 : Int32) (x3 : Int32) (x4 : Int32) (x5 : Int32) (x6 : Int32) (t : Mm) : Option (Int32 × Mm) := if x5 ≤ x6 then (some (x5, t)) else (if x2 < x4 then (f_X8_copy_109 N k84 x1 x2 x3 x4 x5 x6 ((x5 - 1) - x6) t) else (f_X8_copy_109 N k84 x1 x2 x3 x4 x5 x6 x6 t))
def f_X8_copy_84 (N : Nat) (x1 : Int32) (x2 : Int32) (x3 : Int32) (x4 : Int32) (x5 : Int32) (x6 : Int32) (t : Mm) : Option (Int32 × Mm) := o_lp (fun k x => b_X8_copy_84 N k x.1 x.2.1 x.2.2.1 x.2.2.2.1 x.2.2.2.2.1 x.2.2.2.2.2.1 x.2.2.2.2.2.2) N (x1, x2, x3, x4, x5, x6, t)
/-- FordQuestionsModel.copy(IIIII)I -/
def f_X8_copy (N : Nat) (a0 : Int32) (a1 : Int32) (a2 : Int32) (a3 : Int32) (a4 : Int32) (t : Mm) : Option (Int32 × Mm) := o_bd (f_X8_isSheet a0 t) fun (r_9, t_7) => if r_9 = 0 then (some ((-1), t_7)) else (o_bd (f_X8_isSheet a2 t_7) fun (r_14, t_12) => if r_14 = 0 then (some ((-1), t_12)) else (if o_inb a0 4 = true then (if (t_12.1 9 0 14 (a0.toNatClampNeg)) < 0 then (some ((-11), t_12)) else (if o_inb a2 4 = true then (if 0 ≤ (t_12.1 9 0 14 (a2.toNatClampNeg)) then (if o_inb a0 4 = true then (if o_inb a2 4 = true then (if (t_12.1 9 0 13 (a0.toNatClampNeg)) = (t_12.1 9 0 13 (a2.toNatClampNeg)) then (o_bd (f_X8_isSpan a0 a1 a4 t_12) fun (r_26, t_24) => if r_26 = 0 then (some ((-13), t_24)) else (o_bd (f_X8_isSpan a2 a3 a4 t_24) fun (r_31, t_29) => if r_31 = 0 then (some ((-13), t_29)) else (f_X8_copy_84 N a0 a1 a2 a3 a4 0 t_29))) else (some ((-12), t_12))) else none) else none) else (some ((-11), t_12))) else none)) else none))
theorem hd_X8_copy : x_hd yX8_copy 5 := by decide +kernel
set_option maxRecDepth 100000 in
set_option maxHeartbeats 4000000 in
theorem w_X8_copy_109 {l : Launch} {g : Ly} {p : Program} {e : Env} {s : State} {m : MethodId} {args : Array Value} {below : List Frame} {meth : Method} {c : Code} (N : Nat) (X : XC p m meth c cX8_copy 8 s args (.code yX8_copy cX8_copy 8 (some .int)) RX8 (some .int) shR g) {r : Int32} {t' : Mm} {k84 : Int32 × Int32 × Int32 × Int32 × Int32 × Int32 × Mm → Option (Int32 × Mm)} (hk84 : ∀ x : Int32 × Int32 × Int32 × Int32 × Int32 × Int32 × Mm, k84 x = some (r, t') → ∀ (H : Heap) (locs : List Loc) (ls : Array Slot), XP shR g x.2.2.2.2.2.2 H → va_S (XA shR g) s.heap H locs → lv_has ls 8 [(0, .ref (g.2.2 (9, 0, 0))), (1, .int x.1), (2, .int x.2.1), (3, .int x.2.2.1), (4, .int x.2.2.2.1), (5, .int x.2.2.2.2.1), (6, .int x.2.2.2.2.2.1)] → W p l e (rmv 3) s m args below meth c H locs 0 0 (MQ below (XQi shR g r t') args s 0 0 (XA shR g)) (F0 m 84 ls [])) (x1 : Int32) (x2 : Int32) (x3 : Int32) (x4 : Int32) (x5 : Int32) (x6 : Int32) (s0 : Int32) (t : Mm) (H : Heap) (locs : List Loc) (ls : Array Slot) (hP : XP shR g t H) (hS : va_S (XA shR g) s.heap H locs) (hl : lv_has ls 8 [(0, .ref (g.2.2 (9, 0, 0))), (1, .int x1), (2, .int x2), (3, .int x3), (4, .int x4), (5, .int x5), (6, .int x6)]) (h : f_X8_copy_109 N k84 x1 x2 x3 x4 x5 x6 s0 t = some (r, t')) : W p l e (rmv 3) s m args below meth c H locs 0 0 (MQ below (XQi shR g r t') args s 0 0 (XA shR g)) (F0 m 109 ls [.int s0]) := by
  unfold f_X8_copy_109 at h
  refine lv_istore (lv' := [(7, .int s0), (0, .ref (g.2.2 (9, 0, 0))), (1, .int x1), (2, .int x2), (3, .int x3), (4, .int x4), (5, .int x5), (6, .int x6)]) X.1.1 X.1.2.1 dX8_copy_109 hl (by decide) rfl (fun ls hl => ?_)
  refine lv_aload_n X.1.1 X.1.2.1 dX8_copy_111 rfl (lv_at hl 1 rfl) ?_
  refine gt_X8_12 X hP (kyM (by decide)) wd_892 dX8_copy_112 ?_
  refine lv_bipush (v := 24) X.1.1 X.1.2.1 dX8_copy_115 (by decide) ?_
  refine lv_iload_n X.1.1 X.1.2.1 dX8_copy_117 rfl (lv_at hl 4 rfl) ?_
  refine lv_imul X.1.1 X.1.2.1 dX8_copy_118 ?_
  refine lv_iload X.1.1 X.1.2.1 dX8_copy_119 (lv_at hl 5 rfl) ?_
  refine lv_iadd X.1.1 X.1.2.1 dX8_copy_121 ?_
  refine lv_iload X.1.1 X.1.2.1 dX8_copy_122 (lv_at hl 0 rfl) ?_
  refine lv_iadd X.1.1 X.1.2.1 dX8_copy_124 ?_
  refine lv_aload_n X.1.1 X.1.2.1 dX8_copy_125 rfl (lv_at hl 1 rfl) ?_
  refine gt_X8_12 X hP (kyM (by decide)) wd_892 dX8_copy_126 ?_
  refine lv_bipush (v := 24) X.1.1 X.1.2.1 dX8_copy_129 (by decide) ?_
  refine lv_iload_n X.1.1 X.1.2.1 dX8_copy_131 rfl (lv_at hl 2 rfl) ?_
  refine lv_imul X.1.1 X.1.2.1 dX8_copy_132 ?_
  refine lv_iload_n X.1.1 X.1.2.1 dX8_copy_133 rfl (lv_at hl 3 rfl) ?_
  refine lv_iadd X.1.1 X.1.2.1 dX8_copy_134 ?_
  refine lv_iload X.1.1 X.1.2.1 dX8_copy_135 (lv_at hl 0 rfl) ?_
  refine lv_iadd X.1.1 X.1.2.1 dX8_copy_137 ?_
  obtain ⟨g_1, h⟩ := o_gd_inv h
  refine x_lald X hP (kyM (by decide)) (fun _ _ => rfl) g_1 dX8_copy_138 ?_
  obtain ⟨g_2, h⟩ := o_gd_inv h
  obtain ⟨t_3, e_4, h⟩ := o_nm_inv h
  refine x_last X hP hS (kyM (by decide)) (fun _ _ => rfl) hLR g_2 dX8_copy_139 (fun H locs hP hS => ?_)
  have hP : XP shR g t_3 H := by rw [e_4]; exact hP
  refine lv_iinc (v := (x6 + 1)) (lv' := [(6, .int (x6 + 1)), (7, .int s0), (0, .ref (g.2.2 (9, 0, 0))), (1, .int x1), (2, .int x2), (3, .int x3), (4, .int x4), (5, .int x5)]) X.1.1 X.1.2.1 dX8_copy_140 hl (k := 7) rfl rfl (by decide) rfl (fun ls hl => ?_)
  refine lv_goto (tgt := 84) X.1.1 X.1.2.1 dX8_copy_143 (by decide) ?_
  exact hk84 (x1, x2, x3, x4, x5, (x6 + 1), t_3) h _ _ _ hP hS (lv_sub hl [2, 3, 4, 5, 6, 7, 0] rfl)
set_option maxRecDepth 100000 in
set_option maxHeartbeats 4000000 in
theorem wb_X8_copy_84 {l : Launch} {g : Ly} {p : Program} {e : Env} {s : State} {m : MethodId} {args : Array Value} {below : List Frame} {meth : Method} {c : Code} (N : Nat) (X : XC p m meth c cX8_copy 8 s args (.code yX8_copy cX8_copy 8 (some .int)) RX8 (some .int) shR g) {r : Int32} {t' : Mm} {k84 : Int32 × Int32 × Int32 × Int32 × Int32 × Int32 × Mm → Option (Int32 × Mm)} (hk84 : ∀ x : Int32 × Int32 × Int32 × Int32 × Int32 × Int32 × Mm, k84 x = some (r, t') → ∀ (H : Heap) (locs : List Loc) (ls : Array Slot), XP shR g x.2.2.2.2.2.2 H → va_S (XA shR g) s.heap H locs → lv_has ls 8 [(0, .ref (g.2.2 (9, 0, 0))), (1, .int x.1), (2, .int x.2.1), (3, .int x.2.2.1), (4, .int x.2.2.2.1), (5, .int x.2.2.2.2.1), (6, .int x.2.2.2.2.2.1)] → W p l e (rmv 3) s m args below meth c H locs 0 0 (MQ below (XQi shR g r t') args s 0 0 (XA shR g)) (F0 m 84 ls [])) (x1 : Int32) (x2 : Int32) (x3 : Int32) (x4 : Int32) (x5 : Int32) (x6 : Int32) (t : Mm) (H : Heap) (locs : List Loc) (ls : Array Slot) (hP : XP shR g t H) (hS : va_S (XA shR g) s.heap H locs) (hl : lv_has ls 8 [(0, .ref (g.2.2 (9, 0, 0))), (1, .int x1), (2, .int x2), (3, .int x3), (4, .int x4), (5, .int x5), (6, .int x6)]) (h : b_X8_copy_84 N k84 x1 x2 x3 x4 x5 x6 t = some (r, t')) : W p l e (rmv 3) s m args below meth c H locs 0 0 (MQ below (XQi shR g r t') args s 0 0 (XA shR g)) (F0 m 84 ls []) := by
  unfold b_X8_copy_84 at h
  refine lv_iload X.1.1 X.1.2.1 dX8_copy_84 (lv_at hl 6 rfl) ?_
  refine lv_iload X.1.1 X.1.2.1 dX8_copy_86 (lv_at hl 5 rfl) ?_
  refine lv_icmp_ge (tgt := 146) X.1.1 X.1.2.1 dX8_copy_88 (by decide) (fun c_5 => ?_) (fun c_5 => ?_)
  · have h := o_pos c_5 h
    refine lv_iload X.1.1 X.1.2.1 dX8_copy_146 (lv_at hl 5 rfl) ?_
    obtain ⟨rfl, rfl⟩ := o_ret2 h
    exact x_iret X hP hS dX8_copy_148
  · have h := o_neg c_5 h
    refine lv_iload_n X.1.1 X.1.2.1 dX8_copy_91 rfl (lv_at hl 2 rfl) ?_
    refine lv_iload X.1.1 X.1.2.1 dX8_copy_92 (lv_at hl 4 rfl) ?_
    refine lv_icmp_lt (tgt := 102) X.1.1 X.1.2.1 dX8_copy_94 (by decide) (fun c_6 => ?_) (fun c_6 => ?_)
    · have h := o_pos c_6 h
      refine lv_iload X.1.1 X.1.2.1 dX8_copy_102 (lv_at hl 5 rfl) ?_
      refine lv_iconst (v := 1) X.1.1 X.1.2.1 dX8_copy_104 (by decide) ?_
      refine lv_isub X.1.1 X.1.2.1 dX8_copy_105 ?_
      refine lv_iload X.1.1 X.1.2.1 dX8_copy_106 (lv_at hl 6 rfl) ?_
      refine lv_isub X.1.1 X.1.2.1 dX8_copy_108 ?_
      exact w_X8_copy_109 N X hk84 x1 x2 x3 x4 x5 x6 ((x5 - 1) - x6) t _ _ _ hP hS (lv_sub hl [0, 1, 2, 3, 4, 5, 6] rfl) h
    · have h := o_neg c_6 h
      refine lv_iload X.1.1 X.1.2.1 dX8_copy_97 (lv_at hl 6 rfl) ?_
      refine lv_goto (tgt := 109) X.1.1 X.1.2.1 dX8_copy_99 (by decide) ?_
      exact w_X8_copy_109 N X hk84 x1 x2 x3 x4 x5 x6 x6 t _ _ _ hP hS (lv_sub hl [0, 1, 2, 3, 4, 5, 6] rfl) h
set_option maxRecDepth 100000 in
set_option maxHeartbeats 4000000 in
theorem w_X8_copy_84 {l : Launch} {g : Ly} {p : Program} {e : Env} {s : State} {m : MethodId} {args : Array Value} {below : List Frame} {meth : Method} {c : Code} (N : Nat) (X : XC p m meth c cX8_copy 8 s args (.code yX8_copy cX8_copy 8 (some .int)) RX8 (some .int) shR g) {r : Int32} {t' : Mm} (x1 : Int32) (x2 : Int32) (x3 : Int32) (x4 : Int32) (x5 : Int32) (x6 : Int32) (t : Mm) (H : Heap) (locs : List Loc) (ls : Array Slot) (hP : XP shR g t H) (hS : va_S (XA shR g) s.heap H locs) (hl : lv_has ls 8 [(0, .ref (g.2.2 (9, 0, 0))), (1, .int x1), (2, .int x2), (3, .int x3), (4, .int x4), (5, .int x5), (6, .int x6)]) (h : f_X8_copy_84 N x1 x2 x3 x4 x5 x6 t = some (r, t')) : W p l e (rmv 3) s m args below meth c H locs 0 0 (MQ below (XQi shR g r t') args s 0 0 (XA shR g)) (F0 m 84 ls []) :=
  o_lp_ind (P := fun x : Int32 × Int32 × Int32 × Int32 × Int32 × Int32 × Mm => ∀ (H : Heap) (locs : List Loc) (ls : Array Slot), XP shR g x.2.2.2.2.2.2 H → va_S (XA shR g) s.heap H locs → lv_has ls 8 [(0, .ref (g.2.2 (9, 0, 0))), (1, .int x.1), (2, .int x.2.1), (3, .int x.2.2.1), (4, .int x.2.2.2.1), (5, .int x.2.2.2.2.1), (6, .int x.2.2.2.2.2.1)] → W p l e (rmv 3) s m args below meth c H locs 0 0 (MQ below (XQi shR g r t') args s 0 0 (XA shR g)) (F0 m 84 ls [])) (fun k hk x h H locs ls hP hS hl => wb_X8_copy_84 N X hk x.1 x.2.1 x.2.2.1 x.2.2.2.1 x.2.2.2.2.1 x.2.2.2.2.2.1 x.2.2.2.2.2.2 H locs ls hP hS hl h) N (x1, x2, x3, x4, x5, x6, t) h H locs ls hP hS hl
set_option maxRecDepth 100000 in
set_option maxHeartbeats 4000000 in
theorem c_X8_copy (l : Launch) (g : Ly) (N : Nat) (hG : XG shR g) (a0 : Int32) (a1 : Int32) (a2 : Int32) (a3 : Int32) (a4 : Int32) (t : Mm) {r : Int32} {t' : Mm} (h : f_X8_copy N a0 a1 a2 a3 a4 t = some (r, t')) : MI l yX8_copy cX8_copy 8 (some .int) 3 shR g [.ref (g.2.2 (9, 0, 0)), .int a0, .int a1, .int a2, .int a3, .int a4] t (XQi shR g r t') := by
  refine x_met hG (by decide +kernel) (Nat.le_of_ble_eq_true rfl) ?_
  intro p e s m below meth c ls X hP hl
  have hS : va_S (XA shR g) s.heap s.heap [] := va_S.rf
  have hl : lv_has ls 8 [(0, .ref (g.2.2 (9, 0, 0))), (1, .int a0), (2, .int a1), (3, .int a2), (4, .int a3), (5, .int a4)] := hl
  unfold f_X8_copy at h
  generalize ([.ref (g.2.2 (9, 0, 0)), .int a0, .int a1, .int a2, .int a3, .int a4] : List Value).toArray = args at X ⊢
  refine lv_iload_n X.1.1 X.1.2.1 dX8_copy_0 rfl (lv_at hl 1 rfl) ?_
  obtain ⟨⟨r_9, t_7⟩, hc_8, h⟩ := o_bd_inv h
  refine x_calli (x_runS (As := [.int a0]) (rest := []) X hP hS (c_X8_isSheet l g X.2.2.2.2.1 a0 t hc_8) ⟨wd_1223, wd_1221, wd_1222, wd_62⟩ hd_X8_isSheet ⟨by omega, by decide⟩ rfl hl.1 rfl (Nat.le_of_ble_eq_true rfl) dX8_copy_1) hS (fun H locs hP hS => ?_)
  refine lv_if_eq (tgt := 14) X.1.1 X.1.2.1 dX8_copy_4 (by decide) (fun c_11 => ?_) (fun c_11 => ?_)
  · have h := o_pos c_11 h
    refine lv_iconst (v := (-1)) X.1.1 X.1.2.1 dX8_copy_14 (by decide) ?_
    obtain ⟨rfl, rfl⟩ := o_ret2 h
    exact x_iret X hP hS dX8_copy_15
  · have h := o_neg c_11 h
    refine lv_iload_n X.1.1 X.1.2.1 dX8_copy_7 rfl (lv_at hl 3 rfl) ?_
    obtain ⟨⟨r_14, t_12⟩, hc_13, h⟩ := o_bd_inv h
    refine x_calli (x_runS (As := [.int a2]) (rest := []) X hP hS (c_X8_isSheet l g X.2.2.2.2.1 a2 t_7 hc_13) ⟨wd_1223, wd_1221, wd_1222, wd_62⟩ hd_X8_isSheet ⟨by omega, by decide⟩ rfl hl.1 rfl (Nat.le_of_ble_eq_true rfl) dX8_copy_8) hS (fun H locs hP hS => ?_)
    refine lv_if_ne (tgt := 16) X.1.1 X.1.2.1 dX8_copy_11 (by decide) (fun c_16 => ?_) (fun c_16 => ?_)
    · have h := o_neg c_16 h
      refine lv_aload_n X.1.1 X.1.2.1 dX8_copy_16 rfl (lv_at hl 0 rfl) ?_
      refine gt_X8_14 X hP (kyM (by decide)) wd_894 dX8_copy_17 ?_
      refine lv_iload_n X.1.1 X.1.2.1 dX8_copy_20 rfl (lv_at hl 1 rfl) ?_
      obtain ⟨g_17, h⟩ := o_gd_inv h
      refine x_iald X hP (kyM (by decide)) (fun _ _ => rfl) g_17 dX8_copy_21 ?_
      refine lv_if_lt (tgt := 34) X.1.1 X.1.2.1 dX8_copy_22 (by decide) (fun c_18 => ?_) (fun c_18 => ?_)
      · have h := o_pos c_18 h
        refine lv_bipush (v := (-11)) X.1.1 X.1.2.1 dX8_copy_34 (by decide) ?_
        obtain ⟨rfl, rfl⟩ := o_ret2 h
        exact x_iret X hP hS dX8_copy_36
      · have h := o_neg c_18 h
        refine lv_aload_n X.1.1 X.1.2.1 dX8_copy_25 rfl (lv_at hl 0 rfl) ?_
        refine gt_X8_14 X hP (kyM (by decide)) wd_894 dX8_copy_26 ?_
        refine lv_iload_n X.1.1 X.1.2.1 dX8_copy_29 rfl (lv_at hl 3 rfl) ?_
        obtain ⟨g_19, h⟩ := o_gd_inv h
        refine x_iald X hP (kyM (by decide)) (fun _ _ => rfl) g_19 dX8_copy_30 ?_
        refine lv_if_ge (tgt := 37) X.1.1 X.1.2.1 dX8_copy_31 (by decide) (fun c_20 => ?_) (fun c_20 => ?_)
        · have h := o_pos c_20 h
          refine lv_aload_n X.1.1 X.1.2.1 dX8_copy_37 rfl (lv_at hl 0 rfl) ?_
          refine gt_X8_13 X hP (kyM (by decide)) wd_893 dX8_copy_38 ?_
          refine lv_iload_n X.1.1 X.1.2.1 dX8_copy_41 rfl (lv_at hl 1 rfl) ?_
          obtain ⟨g_21, h⟩ := o_gd_inv h
          refine x_iald X hP (kyM (by decide)) (fun _ _ => rfl) g_21 dX8_copy_42 ?_
          refine lv_aload_n X.1.1 X.1.2.1 dX8_copy_43 rfl (lv_at hl 0 rfl) ?_
          refine gt_X8_13 X hP (kyM (by decide)) wd_893 dX8_copy_44 ?_
          refine lv_iload_n X.1.1 X.1.2.1 dX8_copy_47 rfl (lv_at hl 3 rfl) ?_
          obtain ⟨g_22, h⟩ := o_gd_inv h
          refine x_iald X hP (kyM (by decide)) (fun _ _ => rfl) g_22 dX8_copy_48 ?_
          refine lv_icmp_eq (tgt := 55) X.1.1 X.1.2.1 dX8_copy_49 (by decide) (fun c_23 => ?_) (fun c_23 => ?_)
          · have h := o_pos c_23 h
            refine lv_aload_n X.1.1 X.1.2.1 dX8_copy_55 rfl (lv_at hl 0 rfl) ?_
            refine lv_iload_n X.1.1 X.1.2.1 dX8_copy_56 rfl (lv_at hl 1 rfl) ?_
            refine lv_iload_n X.1.1 X.1.2.1 dX8_copy_57 rfl (lv_at hl 2 rfl) ?_
            refine lv_iload X.1.1 X.1.2.1 dX8_copy_58 (lv_at hl 5 rfl) ?_
            obtain ⟨⟨r_26, t_24⟩, hc_25, h⟩ := o_bd_inv h
            refine x_calli (x_runV (As := [.int a0, .int a1, .int a4]) (rest := []) X hP hS (c_X8_isSpan l g X.2.2.2.2.1 a0 a1 a4 t_12 hc_25) ⟨wd_1236, wd_1233, wd_1235, wd_50, wd_62⟩ hd_X8_isSpan ⟨by omega, by decide⟩ (x_recv X hP (ci := 8) rfl (kyM (by decide)) rfl) rfl hl.1 rfl (Nat.le_of_ble_eq_true rfl) dX8_copy_60) hS (fun H locs hP hS => ?_)
            refine lv_if_eq (tgt := 78) X.1.1 X.1.2.1 dX8_copy_63 (by decide) (fun c_28 => ?_) (fun c_28 => ?_)
            · have h := o_pos c_28 h
              refine lv_bipush (v := (-13)) X.1.1 X.1.2.1 dX8_copy_78 (by decide) ?_
              obtain ⟨rfl, rfl⟩ := o_ret2 h
              exact x_iret X hP hS dX8_copy_80
            · have h := o_neg c_28 h
              refine lv_aload_n X.1.1 X.1.2.1 dX8_copy_66 rfl (lv_at hl 0 rfl) ?_
              refine lv_iload_n X.1.1 X.1.2.1 dX8_copy_67 rfl (lv_at hl 3 rfl) ?_
              refine lv_iload X.1.1 X.1.2.1 dX8_copy_68 (lv_at hl 4 rfl) ?_
              refine lv_iload X.1.1 X.1.2.1 dX8_copy_70 (lv_at hl 5 rfl) ?_
              obtain ⟨⟨r_31, t_29⟩, hc_30, h⟩ := o_bd_inv h
              refine x_calli (x_runV (As := [.int a2, .int a3, .int a4]) (rest := []) X hP hS (c_X8_isSpan l g X.2.2.2.2.1 a2 a3 a4 t_24 hc_30) ⟨wd_1236, wd_1233, wd_1235, wd_50, wd_62⟩ hd_X8_isSpan ⟨by omega, by decide⟩ (x_recv X hP (ci := 8) rfl (kyM (by decide)) rfl) rfl hl.1 rfl (Nat.le_of_ble_eq_true rfl) dX8_copy_72) hS (fun H locs hP hS => ?_)
              refine lv_if_ne (tgt := 81) X.1.1 X.1.2.1 dX8_copy_75 (by decide) (fun c_33 => ?_) (fun c_33 => ?_)
              · have h := o_neg c_33 h
                refine lv_iconst (v := 0) X.1.1 X.1.2.1 dX8_copy_81 (by decide) ?_
                refine lv_istore (lv' := [(6, .int 0), (0, .ref (g.2.2 (9, 0, 0))), (1, .int a0), (2, .int a1), (3, .int a2), (4, .int a3), (5, .int a4)]) X.1.1 X.1.2.1 dX8_copy_82 hl (by decide) rfl (fun ls hl => ?_)
                exact w_X8_copy_84 N X a0 a1 a2 a3 a4 0 t_29 _ _ _ hP hS (lv_sub hl [1, 2, 3, 4, 5, 6, 0] rfl) h
              · have h := o_pos c_33 h
                refine lv_bipush (v := (-13)) X.1.1 X.1.2.1 dX8_copy_78 (by decide) ?_
                obtain ⟨rfl, rfl⟩ := o_ret2 h
                exact x_iret X hP hS dX8_copy_80
          · have h := o_neg c_23 h
            refine lv_bipush (v := (-12)) X.1.1 X.1.2.1 dX8_copy_52 (by decide) ?_
            obtain ⟨rfl, rfl⟩ := o_ret2 h
            exact x_iret X hP hS dX8_copy_54
        · have h := o_neg c_20 h
          refine lv_bipush (v := (-11)) X.1.1 X.1.2.1 dX8_copy_34 (by decide) ?_
          obtain ⟨rfl, rfl⟩ := o_ret2 h
          exact x_iret X hP hS dX8_copy_36
    · have h := o_pos c_16 h
      refine lv_iconst (v := (-1)) X.1.1 X.1.2.1 dX8_copy_14 (by decide) ?_
      obtain ⟨rfl, rfl⟩ := o_ret2 h
      exact x_iret X hP hS dX8_copy_15
