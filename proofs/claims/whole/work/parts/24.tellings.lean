def f_X6_howManyComeAheadOf_89 (N : Nat) (k4 : Int32 × Int32 × Int32 × Mm → Option (Int32 × Mm)) (x1 : Int32) (x2 : Int32) (x3 : Int32) (t : Mm) : Option (Int32 × Mm) := k4 (x1, x2, (x3 + 1), t)
def f_X6_howManyComeAheadOf_67 (N : Nat) (k4 : Int32 × Int32 × Int32 × Mm → Option (Int32 × Mm)) (x1 : Int32) (x2 : Int32) (x3 : Int32) (s0 : Int32) (t : Mm) : Option (Int32 × Mm) := if o_inb x3 5 = true then (if (t.1 0 19 6 (x3.toNatClampNeg)) = 0 then (if s0 = 0 then (f_X6_howManyComeAheadOf_89 N k4 x1 x2 x3 t) else (f_X6_howManyComeAheadOf_89 N k4 x1 (x2 + 1) x3 t)) else (f_X6_howManyComeAheadOf_89 N k4 x1 x2 x3 t)) else none
def f_X6_howManyComeAheadOf_66 (N : Nat) (k4 : Int32 × Int32 × Int32 × Mm → Option (Int32 × Mm)) (x1 : Int32) (x2 : Int32) (x3 : Int32) (t : Mm) : Option (Int32 × Mm) := f_X6_howManyComeAheadOf_67 N k4 x1 x2 x3 0 t
def f_X6_howManyComeAheadOf_62 (N : Nat) (k4 : Int32 × Int32 × Int32 × Mm → Option (Int32 × Mm)) (x1 : Int32) (x2 : Int32) (x3 : Int32) (t : Mm) : Option (Int32 × Mm) := f_X6_howManyComeAheadOf_67 N k4 x1 x2 x3 1 t
def b_X6_howManyComeAheadOf_4 (N : Nat) (k4 : Int32 × Int32 × Int32 × Mm → Option (Int32 × Mm)) (x1 : Int32) (x2 : Int32) (x3 : Int32) (t : Mm) : Option (Int32 × Mm) := if (t.1 0 19 0 1) ≤ x3 then (some (x2, t)) else (if o_inb x3 5 = true then (if o_inb x1 5 = true then (if (t.1 0 19 5 (x3.toNatClampNeg)) < (t.1 0 19 5 (x1.toNatClampNeg)) then (f_X6_howManyComeAheadOf_62 N k4 x1 x2 x3 t) else (if o_inb x3 5 = true then (if o_inb x1 5 = true then (if (t.1 0 19 5 (x3.toNatClampNeg)) = (t.1 0 19 5 (x1.toNatClampNeg)) then (if x1 ≤ x3 then (f_X6_howManyComeAheadOf_66 N k4 x1 x2 x3 t) else (f_X6_howManyComeAheadOf_62 N k4 x1 x2 x3 t)) else (f_X6_howManyComeAheadOf_66 N k4 x1 x2 x3 t)) else none) else none)) else none) else none)
def f_X6_howManyComeAheadOf_4 (N : Nat) (x1 : Int32) (x2 : Int32) (x3 : Int32) (t : Mm) : Option (Int32 × Mm) := o_lp (fun k x => b_X6_howManyComeAheadOf_4 N k x.1 x.2.1 x.2.2.1 x.2.2.2) N (x1, x2, x3, t)
/-- FordQuestions$Tellings.howManyComeAheadOf(I)I -/
def f_X6_howManyComeAheadOf (N : Nat) (a0 : Int32) (t : Mm) : Option (Int32 × Mm) := f_X6_howManyComeAheadOf_4 N a0 0 0 t
theorem hd_X6_howManyComeAheadOf : x_hd yX6_howManyComeAheadOf 1 := by decide +kernel
set_option maxRecDepth 100000 in
set_option maxHeartbeats 4000000 in
theorem w_X6_howManyComeAheadOf_89 {l : Launch} {g : Ly} {p : Program} {e : Env} {s : State} {m : MethodId} {args : Array Value} {below : List Frame} {meth : Method} {c : Code} (N : Nat) (X : XC p m meth c cX6_howManyComeAheadOf 5 s args (.code yX6_howManyComeAheadOf cX6_howManyComeAheadOf 5 (some .int)) RX6 (some .int) shC g) {r : Int32} {t' : Mm} {k4 : Int32 × Int32 × Int32 × Mm → Option (Int32 × Mm)} (hk4 : ∀ x : Int32 × Int32 × Int32 × Mm, k4 x = some (r, t') → ∀ (H : Heap) (locs : List Loc) (ls : Array Slot), XP shC g x.2.2.2 H → va_S (XA shC g) s.heap H locs → lv_has ls 5 [(0, .ref (g.2.2 (3, 5, 0))), (1, .int x.1), (2, .int x.2.1), (3, .int x.2.2.1)] → W p l e (rmv 1) s m args below meth c H locs 0 0 (MQ below (XQi shC g r t') args s 0 0 (XA shC g)) (F0 m 4 ls [])) (x1 : Int32) (x2 : Int32) (x3 : Int32) (t : Mm) (H : Heap) (locs : List Loc) (ls : Array Slot) (hP : XP shC g t H) (hS : va_S (XA shC g) s.heap H locs) (hl : lv_has ls 5 [(0, .ref (g.2.2 (3, 5, 0))), (1, .int x1), (2, .int x2), (3, .int x3)]) (h : f_X6_howManyComeAheadOf_89 N k4 x1 x2 x3 t = some (r, t')) : W p l e (rmv 1) s m args below meth c H locs 0 0 (MQ below (XQi shC g r t') args s 0 0 (XA shC g)) (F0 m 89 ls []) := by
  unfold f_X6_howManyComeAheadOf_89 at h
  refine lv_iinc (v := (x3 + 1)) (lv' := [(3, .int (x3 + 1)), (0, .ref (g.2.2 (3, 5, 0))), (1, .int x1), (2, .int x2)]) X.1.1 X.1.2.1 dX6_howManyComeAheadOf_89 hl (k := 3) rfl rfl (by decide) rfl (fun ls hl => ?_)
  refine lv_goto (tgt := 4) X.1.1 X.1.2.1 dX6_howManyComeAheadOf_92 (by decide) ?_
  exact hk4 (x1, x2, (x3 + 1), t) h _ _ _ hP hS (lv_sub hl [1, 2, 3, 0] rfl)
set_option maxRecDepth 100000 in
set_option maxHeartbeats 4000000 in
theorem w_X6_howManyComeAheadOf_67 {l : Launch} {g : Ly} {p : Program} {e : Env} {s : State} {m : MethodId} {args : Array Value} {below : List Frame} {meth : Method} {c : Code} (N : Nat) (X : XC p m meth c cX6_howManyComeAheadOf 5 s args (.code yX6_howManyComeAheadOf cX6_howManyComeAheadOf 5 (some .int)) RX6 (some .int) shC g) {r : Int32} {t' : Mm} {k4 : Int32 × Int32 × Int32 × Mm → Option (Int32 × Mm)} (hk4 : ∀ x : Int32 × Int32 × Int32 × Mm, k4 x = some (r, t') → ∀ (H : Heap) (locs : List Loc) (ls : Array Slot), XP shC g x.2.2.2 H → va_S (XA shC g) s.heap H locs → lv_has ls 5 [(0, .ref (g.2.2 (3, 5, 0))), (1, .int x.1), (2, .int x.2.1), (3, .int x.2.2.1)] → W p l e (rmv 1) s m args below meth c H locs 0 0 (MQ below (XQi shC g r t') args s 0 0 (XA shC g)) (F0 m 4 ls [])) (x1 : Int32) (x2 : Int32) (x3 : Int32) (s0 : Int32) (t : Mm) (H : Heap) (locs : List Loc) (ls : Array Slot) (hP : XP shC g t H) (hS : va_S (XA shC g) s.heap H locs) (hl : lv_has ls 5 [(0, .ref (g.2.2 (3, 5, 0))), (1, .int x1), (2, .int x2), (3, .int x3)]) (h : f_X6_howManyComeAheadOf_67 N k4 x1 x2 x3 s0 t = some (r, t')) : W p l e (rmv 1) s m args below meth c H locs 0 0 (MQ below (XQi shC g r t') args s 0 0 (XA shC g)) (F0 m 67 ls [.int s0]) := by
  unfold f_X6_howManyComeAheadOf_67 at h
  refine lv_istore (lv' := [(4, .int s0), (0, .ref (g.2.2 (3, 5, 0))), (1, .int x1), (2, .int x2), (3, .int x3)]) X.1.1 X.1.2.1 dX6_howManyComeAheadOf_67 hl (by decide) rfl (fun ls hl => ?_)
  refine lv_aload_n X.1.1 X.1.2.1 dX6_howManyComeAheadOf_69 rfl (lv_at hl 1 rfl) ?_
  refine gt_X6_0 X hP (kyO (by decide)) wd_243 dX6_howManyComeAheadOf_70 ?_
  refine gtN_X0_10 X hP (kyF (by omega) (by decide)) wd_126 dX6_howManyComeAheadOf_73 ?_
  refine lv_iload_n X.1.1 X.1.2.1 dX6_howManyComeAheadOf_76 rfl (lv_at hl 4 rfl) ?_
  obtain ⟨g_1, h⟩ := o_gd_inv h
  refine x_iald X hP (kyF (by omega) (by decide)) (fun _ _ => rfl) g_1 dX6_howManyComeAheadOf_77 ?_
  refine lv_if_ne (tgt := 89) X.1.1 X.1.2.1 dX6_howManyComeAheadOf_78 (by decide) (fun c_2 => ?_) (fun c_2 => ?_)
  · have h := o_neg c_2 h
    exact w_X6_howManyComeAheadOf_89 N X hk4 x1 x2 x3 t _ _ _ hP hS (lv_sub hl [1, 2, 3, 4] rfl) h
  · have h := o_pos c_2 h
    refine lv_iload X.1.1 X.1.2.1 dX6_howManyComeAheadOf_81 (lv_at hl 0 rfl) ?_
    refine lv_if_eq (tgt := 89) X.1.1 X.1.2.1 dX6_howManyComeAheadOf_83 (by decide) (fun c_3 => ?_) (fun c_3 => ?_)
    · have h := o_pos c_3 h
      exact w_X6_howManyComeAheadOf_89 N X hk4 x1 x2 x3 t _ _ _ hP hS (lv_sub hl [1, 2, 3, 4] rfl) h
    · have h := o_neg c_3 h
      refine lv_iinc (v := (x2 + 1)) (lv' := [(2, .int (x2 + 1)), (4, .int s0), (0, .ref (g.2.2 (3, 5, 0))), (1, .int x1), (3, .int x3)]) X.1.1 X.1.2.1 dX6_howManyComeAheadOf_86 hl (k := 3) rfl rfl (by decide) rfl (fun ls hl => ?_)
      exact w_X6_howManyComeAheadOf_89 N X hk4 x1 (x2 + 1) x3 t _ _ _ hP hS (lv_sub hl [2, 3, 0, 4] rfl) h
set_option maxRecDepth 100000 in
set_option maxHeartbeats 4000000 in
theorem w_X6_howManyComeAheadOf_66 {l : Launch} {g : Ly} {p : Program} {e : Env} {s : State} {m : MethodId} {args : Array Value} {below : List Frame} {meth : Method} {c : Code} (N : Nat) (X : XC p m meth c cX6_howManyComeAheadOf 5 s args (.code yX6_howManyComeAheadOf cX6_howManyComeAheadOf 5 (some .int)) RX6 (some .int) shC g) {r : Int32} {t' : Mm} {k4 : Int32 × Int32 × Int32 × Mm → Option (Int32 × Mm)} (hk4 : ∀ x : Int32 × Int32 × Int32 × Mm, k4 x = some (r, t') → ∀ (H : Heap) (locs : List Loc) (ls : Array Slot), XP shC g x.2.2.2 H → va_S (XA shC g) s.heap H locs → lv_has ls 5 [(0, .ref (g.2.2 (3, 5, 0))), (1, .int x.1), (2, .int x.2.1), (3, .int x.2.2.1)] → W p l e (rmv 1) s m args below meth c H locs 0 0 (MQ below (XQi shC g r t') args s 0 0 (XA shC g)) (F0 m 4 ls [])) (x1 : Int32) (x2 : Int32) (x3 : Int32) (t : Mm) (H : Heap) (locs : List Loc) (ls : Array Slot) (hP : XP shC g t H) (hS : va_S (XA shC g) s.heap H locs) (hl : lv_has ls 5 [(0, .ref (g.2.2 (3, 5, 0))), (1, .int x1), (2, .int x2), (3, .int x3)]) (h : f_X6_howManyComeAheadOf_66 N k4 x1 x2 x3 t = some (r, t')) : W p l e (rmv 1) s m args below meth c H locs 0 0 (MQ below (XQi shC g r t') args s 0 0 (XA shC g)) (F0 m 66 ls []) := by
  unfold f_X6_howManyComeAheadOf_66 at h
  refine lv_iconst (v := 0) X.1.1 X.1.2.1 dX6_howManyComeAheadOf_66 (by decide) ?_
  exact w_X6_howManyComeAheadOf_67 N X hk4 x1 x2 x3 0 t _ _ _ hP hS (lv_sub hl [0, 1, 2, 3] rfl) h
set_option maxRecDepth 100000 in
set_option maxHeartbeats 4000000 in
theorem w_X6_howManyComeAheadOf_62 {l : Launch} {g : Ly} {p : Program} {e : Env} {s : State} {m : MethodId} {args : Array Value} {below : List Frame} {meth : Method} {c : Code} (N : Nat) (X : XC p m meth c cX6_howManyComeAheadOf 5 s args (.code yX6_howManyComeAheadOf cX6_howManyComeAheadOf 5 (some .int)) RX6 (some .int) shC g) {r : Int32} {t' : Mm} {k4 : Int32 × Int32 × Int32 × Mm → Option (Int32 × Mm)} (hk4 : ∀ x : Int32 × Int32 × Int32 × Mm, k4 x = some (r, t') → ∀ (H : Heap) (locs : List Loc) (ls : Array Slot), XP shC g x.2.2.2 H → va_S (XA shC g) s.heap H locs → lv_has ls 5 [(0, .ref (g.2.2 (3, 5, 0))), (1, .int x.1), (2, .int x.2.1), (3, .int x.2.2.1)] → W p l e (rmv 1) s m args below meth c H locs 0 0 (MQ below (XQi shC g r t') args s 0 0 (XA shC g)) (F0 m 4 ls [])) (x1 : Int32) (x2 : Int32) (x3 : Int32) (t : Mm) (H : Heap) (locs : List Loc) (ls : Array Slot) (hP : XP shC g t H) (hS : va_S (XA shC g) s.heap H locs) (hl : lv_has ls 5 [(0, .ref (g.2.2 (3, 5, 0))), (1, .int x1), (2, .int x2), (3, .int x3)]) (h : f_X6_howManyComeAheadOf_62 N k4 x1 x2 x3 t = some (r, t')) : W p l e (rmv 1) s m args below meth c H locs 0 0 (MQ below (XQi shC g r t') args s 0 0 (XA shC g)) (F0 m 62 ls []) := by
  unfold f_X6_howManyComeAheadOf_62 at h
  refine lv_iconst (v := 1) X.1.1 X.1.2.1 dX6_howManyComeAheadOf_62 (by decide) ?_
  refine lv_goto (tgt := 67) X.1.1 X.1.2.1 dX6_howManyComeAheadOf_63 (by decide) ?_
  exact w_X6_howManyComeAheadOf_67 N X hk4 x1 x2 x3 1 t _ _ _ hP hS (lv_sub hl [0, 1, 2, 3] rfl) h
set_option maxRecDepth 100000 in
set_option maxHeartbeats 4000000 in
theorem wb_X6_howManyComeAheadOf_4 {l : Launch} {g : Ly} {p : Program} {e : Env} {s : State} {m : MethodId} {args : Array Value} {below : List Frame} {meth : Method} {c : Code} (N : Nat) (X : XC p m meth c cX6_howManyComeAheadOf 5 s args (.code yX6_howManyComeAheadOf cX6_howManyComeAheadOf 5 (some .int)) RX6 (some .int) shC g) {r : Int32} {t' : Mm} {k4 : Int32 × Int32 × Int32 × Mm → Option (Int32 × Mm)} (hk4 : ∀ x : Int32 × Int32 × Int32 × Mm, k4 x = some (r, t') → ∀ (H : Heap) (locs : List Loc) (ls : Array Slot), XP shC g x.2.2.2 H → va_S (XA shC g) s.heap H locs → lv_has ls 5 [(0, .ref (g.2.2 (3, 5, 0))), (1, .int x.1), (2, .int x.2.1), (3, .int x.2.2.1)] → W p l e (rmv 1) s m args below meth c H locs 0 0 (MQ below (XQi shC g r t') args s 0 0 (XA shC g)) (F0 m 4 ls [])) (x1 : Int32) (x2 : Int32) (x3 : Int32) (t : Mm) (H : Heap) (locs : List Loc) (ls : Array Slot) (hP : XP shC g t H) (hS : va_S (XA shC g) s.heap H locs) (hl : lv_has ls 5 [(0, .ref (g.2.2 (3, 5, 0))), (1, .int x1), (2, .int x2), (3, .int x3)]) (h : b_X6_howManyComeAheadOf_4 N k4 x1 x2 x3 t = some (r, t')) : W p l e (rmv 1) s m args below meth c H locs 0 0 (MQ below (XQi shC g r t') args s 0 0 (XA shC g)) (F0 m 4 ls []) := by
  unfold b_X6_howManyComeAheadOf_4 at h
  refine lv_iload_n X.1.1 X.1.2.1 dX6_howManyComeAheadOf_4 rfl (lv_at hl 3 rfl) ?_
  refine lv_aload_n X.1.1 X.1.2.1 dX6_howManyComeAheadOf_5 rfl (lv_at hl 0 rfl) ?_
  refine gt_X6_0 X hP (kyO (by decide)) wd_243 dX6_howManyComeAheadOf_6 ?_
  refine gtN_X0_1 X hP (kyF (by omega) (by decide)) wd_97 dX6_howManyComeAheadOf_9 ?_
  refine lv_icmp_ge (tgt := 95) X.1.1 X.1.2.1 dX6_howManyComeAheadOf_12 (by decide) (fun c_4 => ?_) (fun c_4 => ?_)
  · have h := o_pos c_4 h
    refine lv_iload_n X.1.1 X.1.2.1 dX6_howManyComeAheadOf_95 rfl (lv_at hl 2 rfl) ?_
    obtain ⟨rfl, rfl⟩ := o_ret2 h
    exact x_iret X hP hS dX6_howManyComeAheadOf_96
  · have h := o_neg c_4 h
    refine lv_aload_n X.1.1 X.1.2.1 dX6_howManyComeAheadOf_15 rfl (lv_at hl 0 rfl) ?_
    refine gt_X6_0 X hP (kyO (by decide)) wd_243 dX6_howManyComeAheadOf_16 ?_
    refine gtN_X0_9 X hP (kyF (by omega) (by decide)) wd_123 dX6_howManyComeAheadOf_19 ?_
    refine lv_iload_n X.1.1 X.1.2.1 dX6_howManyComeAheadOf_22 rfl (lv_at hl 3 rfl) ?_
    obtain ⟨g_5, h⟩ := o_gd_inv h
    refine x_iald X hP (kyF (by omega) (by decide)) (fun _ _ => rfl) g_5 dX6_howManyComeAheadOf_23 ?_
    refine lv_aload_n X.1.1 X.1.2.1 dX6_howManyComeAheadOf_24 rfl (lv_at hl 0 rfl) ?_
    refine gt_X6_0 X hP (kyO (by decide)) wd_243 dX6_howManyComeAheadOf_25 ?_
    refine gtN_X0_9 X hP (kyF (by omega) (by decide)) wd_123 dX6_howManyComeAheadOf_28 ?_
    refine lv_iload_n X.1.1 X.1.2.1 dX6_howManyComeAheadOf_31 rfl (lv_at hl 1 rfl) ?_
    obtain ⟨g_6, h⟩ := o_gd_inv h
    refine x_iald X hP (kyF (by omega) (by decide)) (fun _ _ => rfl) g_6 dX6_howManyComeAheadOf_32 ?_
    refine lv_icmp_lt (tgt := 62) X.1.1 X.1.2.1 dX6_howManyComeAheadOf_33 (by decide) (fun c_7 => ?_) (fun c_7 => ?_)
    · have h := o_pos c_7 h
      exact w_X6_howManyComeAheadOf_62 N X hk4 x1 x2 x3 t _ _ _ hP hS (lv_sub hl [0, 1, 2, 3] rfl) h
    · have h := o_neg c_7 h
      refine lv_aload_n X.1.1 X.1.2.1 dX6_howManyComeAheadOf_36 rfl (lv_at hl 0 rfl) ?_
      refine gt_X6_0 X hP (kyO (by decide)) wd_243 dX6_howManyComeAheadOf_37 ?_
      refine gtN_X0_9 X hP (kyF (by omega) (by decide)) wd_123 dX6_howManyComeAheadOf_40 ?_
      refine lv_iload_n X.1.1 X.1.2.1 dX6_howManyComeAheadOf_43 rfl (lv_at hl 3 rfl) ?_
      obtain ⟨g_8, h⟩ := o_gd_inv h
      refine x_iald X hP (kyF (by omega) (by decide)) (fun _ _ => rfl) g_8 dX6_howManyComeAheadOf_44 ?_
      refine lv_aload_n X.1.1 X.1.2.1 dX6_howManyComeAheadOf_45 rfl (lv_at hl 0 rfl) ?_
      refine gt_X6_0 X hP (kyO (by decide)) wd_243 dX6_howManyComeAheadOf_46 ?_
      refine gtN_X0_9 X hP (kyF (by omega) (by decide)) wd_123 dX6_howManyComeAheadOf_49 ?_
      refine lv_iload_n X.1.1 X.1.2.1 dX6_howManyComeAheadOf_52 rfl (lv_at hl 1 rfl) ?_
      obtain ⟨g_9, h⟩ := o_gd_inv h
      refine x_iald X hP (kyF (by omega) (by decide)) (fun _ _ => rfl) g_9 dX6_howManyComeAheadOf_53 ?_
      refine lv_icmp_ne (tgt := 66) X.1.1 X.1.2.1 dX6_howManyComeAheadOf_54 (by decide) (fun c_10 => ?_) (fun c_10 => ?_)
      · have h := o_neg c_10 h
        exact w_X6_howManyComeAheadOf_66 N X hk4 x1 x2 x3 t _ _ _ hP hS (lv_sub hl [0, 1, 2, 3] rfl) h
      · have h := o_pos c_10 h
        refine lv_iload_n X.1.1 X.1.2.1 dX6_howManyComeAheadOf_57 rfl (lv_at hl 3 rfl) ?_
        refine lv_iload_n X.1.1 X.1.2.1 dX6_howManyComeAheadOf_58 rfl (lv_at hl 1 rfl) ?_
        refine lv_icmp_ge (tgt := 66) X.1.1 X.1.2.1 dX6_howManyComeAheadOf_59 (by decide) (fun c_11 => ?_) (fun c_11 => ?_)
        · have h := o_pos c_11 h
          exact w_X6_howManyComeAheadOf_66 N X hk4 x1 x2 x3 t _ _ _ hP hS (lv_sub hl [0, 1, 2, 3] rfl) h
        · have h := o_neg c_11 h
          exact w_X6_howManyComeAheadOf_62 N X hk4 x1 x2 x3 t _ _ _ hP hS (lv_sub hl [0, 1, 2, 3] rfl) h
set_option maxRecDepth 100000 in
set_option maxHeartbeats 4000000 in
theorem w_X6_howManyComeAheadOf_4 {l : Launch} {g : Ly} {p : Program} {e : Env} {s : State} {m : MethodId} {args : Array Value} {below : List Frame} {meth : Method} {c : Code} (N : Nat) (X : XC p m meth c cX6_howManyComeAheadOf 5 s args (.code yX6_howManyComeAheadOf cX6_howManyComeAheadOf 5 (some .int)) RX6 (some .int) shC g) {r : Int32} {t' : Mm} (x1 : Int32) (x2 : Int32) (x3 : Int32) (t : Mm) (H : Heap) (locs : List Loc) (ls : Array Slot) (hP : XP shC g t H) (hS : va_S (XA shC g) s.heap H locs) (hl : lv_has ls 5 [(0, .ref (g.2.2 (3, 5, 0))), (1, .int x1), (2, .int x2), (3, .int x3)]) (h : f_X6_howManyComeAheadOf_4 N x1 x2 x3 t = some (r, t')) : W p l e (rmv 1) s m args below meth c H locs 0 0 (MQ below (XQi shC g r t') args s 0 0 (XA shC g)) (F0 m 4 ls []) :=
  o_lp_ind (P := fun x : Int32 × Int32 × Int32 × Mm => ∀ (H : Heap) (locs : List Loc) (ls : Array Slot), XP shC g x.2.2.2 H → va_S (XA shC g) s.heap H locs → lv_has ls 5 [(0, .ref (g.2.2 (3, 5, 0))), (1, .int x.1), (2, .int x.2.1), (3, .int x.2.2.1)] → W p l e (rmv 1) s m args below meth c H locs 0 0 (MQ below (XQi shC g r t') args s 0 0 (XA shC g)) (F0 m 4 ls [])) (fun k hk x h H locs ls hP hS hl => wb_X6_howManyComeAheadOf_4 N X hk x.1 x.2.1 x.2.2.1 x.2.2.2 H locs ls hP hS hl h) N (x1, x2, x3, t) h H locs ls hP hS hl
set_option maxRecDepth 100000 in
set_option maxHeartbeats 4000000 in
theorem c_X6_howManyComeAheadOf (l : Launch) (g : Ly) (N : Nat) (hG : XG shC g) (a0 : Int32) (t : Mm) {r : Int32} {t' : Mm} (h : f_X6_howManyComeAheadOf N a0 t = some (r, t')) : MI l yX6_howManyComeAheadOf cX6_howManyComeAheadOf 5 (some .int) 1 shC g [.ref (g.2.2 (3, 5, 0)), .int a0] t (XQi shC g r t') := by
  refine x_met hG (by decide +kernel) (Nat.le_of_ble_eq_true rfl) ?_
  intro p e s m below meth c ls X hP hl
  have hS : va_S (XA shC g) s.heap s.heap [] := va_S.rf
  have hl : lv_has ls 5 [(0, .ref (g.2.2 (3, 5, 0))), (1, .int a0)] := hl
  unfold f_X6_howManyComeAheadOf at h
  generalize ([.ref (g.2.2 (3, 5, 0)), .int a0] : List Value).toArray = args at X ⊢
  refine lv_iconst (v := 0) X.1.1 X.1.2.1 dX6_howManyComeAheadOf_0 (by decide) ?_
  refine lv_istore_n (lv' := [(2, .int 0), (0, .ref (g.2.2 (3, 5, 0))), (1, .int a0)]) X.1.1 X.1.2.1 dX6_howManyComeAheadOf_1 rfl hl (by decide) rfl (fun ls hl => ?_)
  refine lv_iconst (v := 0) X.1.1 X.1.2.1 dX6_howManyComeAheadOf_2 (by decide) ?_
  refine lv_istore_n (lv' := [(3, .int 0), (2, .int 0), (0, .ref (g.2.2 (3, 5, 0))), (1, .int a0)]) X.1.1 X.1.2.1 dX6_howManyComeAheadOf_3 rfl hl (by decide) rfl (fun ls hl => ?_)
  exact w_X6_howManyComeAheadOf_4 N X a0 0 0 t _ _ _ hP hS (lv_sub hl [2, 3, 1, 0] rfl) h
def f_X6_chooseWhoIsAsked_70 (N : Nat) (k26 : Int32 × Int32 × Mm → Option (Mm)) (x1 : Int32) (x2 : Int32) (t : Mm) : Option (Mm) := k26 (x1, (x2 + 1), t)
def b_X6_chooseWhoIsAsked_26 (N : Nat) (k26 : Int32 × Int32 × Mm → Option (Mm)) (x1 : Int32) (x2 : Int32) (t : Mm) : Option (Mm) := if (t.1 0 19 0 1) ≤ x2 then (some t) else (if o_inb x2 5 = true then (if (t.1 0 19 6 (x2.toNatClampNeg)) = 0 then (o_bd (f_X6_howManyComeAheadOf N x2 t) fun (r_6, t_4) => if x1 ≤ r_6 then (f_X6_chooseWhoIsAsked_70 N k26 x1 x2 t_4) else (o_nm (sI t_4 3 5 0 3 ((t_4.1 3 5 0 3) ||| (1 <<< (x2 &&& 31)))) fun t_9 => f_X6_chooseWhoIsAsked_70 N k26 x1 x2 t_9)) else (f_X6_chooseWhoIsAsked_70 N k26 x1 x2 t)) else none)
def f_X6_chooseWhoIsAsked_26 (N : Nat) (x1 : Int32) (x2 : Int32) (t : Mm) : Option (Mm) := o_lp (fun k x => b_X6_chooseWhoIsAsked_26 N k x.1 x.2.1 x.2.2) N (x1, x2, t)
/-- FordQuestions$Tellings.chooseWhoIsAsked()V -/
def f_X6_chooseWhoIsAsked (N : Nat) (t : Mm) : Option (Mm) := o_bd (f_J6_bitCount_0f7a4 (t.1 0 19 0 2) t) fun (r_13, t_11) => o_nm (sI t_11 3 5 0 3 0) fun t_15 => f_X6_chooseWhoIsAsked_26 N ((t.1 0 19 0 0) - r_13) 0 t_15
theorem hd_X6_chooseWhoIsAsked : x_hd yX6_chooseWhoIsAsked 0 := by decide +kernel
set_option maxRecDepth 100000 in
set_option maxHeartbeats 4000000 in
theorem w_X6_chooseWhoIsAsked_70 {l : Launch} {g : Ly} {p : Program} {e : Env} {s : State} {m : MethodId} {args : Array Value} {below : List Frame} {meth : Method} {c : Code} (N : Nat) (X : XC p m meth c cX6_chooseWhoIsAsked 3 s args (.code yX6_chooseWhoIsAsked cX6_chooseWhoIsAsked 3 none) RX6 none shC g) {t' : Mm} {k26 : Int32 × Int32 × Mm → Option (Mm)} (hk26 : ∀ x : Int32 × Int32 × Mm, k26 x = some t' → ∀ (H : Heap) (locs : List Loc) (ls : Array Slot), XP shC g x.2.2 H → va_S (XA shC g) s.heap H locs → lv_has ls 3 [(0, .ref (g.2.2 (3, 5, 0))), (1, .int x.1), (2, .int x.2.1)] → W p l e (rmv 2) s m args below meth c H locs 0 0 (MQ below (XQv shC g t') args s 0 0 (XA shC g)) (F0 m 26 ls [])) (x1 : Int32) (x2 : Int32) (t : Mm) (H : Heap) (locs : List Loc) (ls : Array Slot) (hP : XP shC g t H) (hS : va_S (XA shC g) s.heap H locs) (hl : lv_has ls 3 [(0, .ref (g.2.2 (3, 5, 0))), (1, .int x1), (2, .int x2)]) (h : f_X6_chooseWhoIsAsked_70 N k26 x1 x2 t = some t') : W p l e (rmv 2) s m args below meth c H locs 0 0 (MQ below (XQv shC g t') args s 0 0 (XA shC g)) (F0 m 70 ls []) := by
  unfold f_X6_chooseWhoIsAsked_70 at h
  refine lv_iinc (v := (x2 + 1)) (lv' := [(2, .int (x2 + 1)), (0, .ref (g.2.2 (3, 5, 0))), (1, .int x1)]) X.1.1 X.1.2.1 dX6_chooseWhoIsAsked_70 hl (k := 2) rfl rfl (by decide) rfl (fun ls hl => ?_)
  refine lv_goto (tgt := 26) X.1.1 X.1.2.1 dX6_chooseWhoIsAsked_73 (by decide) ?_
  exact hk26 (x1, (x2 + 1), t) h _ _ _ hP hS (lv_sub hl [1, 2, 0] rfl)
set_option maxRecDepth 100000 in
set_option maxHeartbeats 4000000 in
theorem wb_X6_chooseWhoIsAsked_26 {l : Launch} {g : Ly} {p : Program} {e : Env} {s : State} {m : MethodId} {args : Array Value} {below : List Frame} {meth : Method} {c : Code} (N : Nat) (X : XC p m meth c cX6_chooseWhoIsAsked 3 s args (.code yX6_chooseWhoIsAsked cX6_chooseWhoIsAsked 3 none) RX6 none shC g) {t' : Mm} {k26 : Int32 × Int32 × Mm → Option (Mm)} (hk26 : ∀ x : Int32 × Int32 × Mm, k26 x = some t' → ∀ (H : Heap) (locs : List Loc) (ls : Array Slot), XP shC g x.2.2 H → va_S (XA shC g) s.heap H locs → lv_has ls 3 [(0, .ref (g.2.2 (3, 5, 0))), (1, .int x.1), (2, .int x.2.1)] → W p l e (rmv 2) s m args below meth c H locs 0 0 (MQ below (XQv shC g t') args s 0 0 (XA shC g)) (F0 m 26 ls [])) (x1 : Int32) (x2 : Int32) (t : Mm) (H : Heap) (locs : List Loc) (ls : Array Slot) (hP : XP shC g t H) (hS : va_S (XA shC g) s.heap H locs) (hl : lv_has ls 3 [(0, .ref (g.2.2 (3, 5, 0))), (1, .int x1), (2, .int x2)]) (h : b_X6_chooseWhoIsAsked_26 N k26 x1 x2 t = some t') : W p l e (rmv 2) s m args below meth c H locs 0 0 (MQ below (XQv shC g t') args s 0 0 (XA shC g)) (F0 m 26 ls []) := by
  unfold b_X6_chooseWhoIsAsked_26 at h
  refine lv_iload_n X.1.1 X.1.2.1 dX6_chooseWhoIsAsked_26 rfl (lv_at hl 2 rfl) ?_
  refine lv_aload_n X.1.1 X.1.2.1 dX6_chooseWhoIsAsked_27 rfl (lv_at hl 0 rfl) ?_
  refine gt_X6_0 X hP (kyO (by decide)) wd_243 dX6_chooseWhoIsAsked_28 ?_
  refine gtN_X0_1 X hP (kyF (by omega) (by decide)) wd_97 dX6_chooseWhoIsAsked_31 ?_
  refine lv_icmp_ge (tgt := 76) X.1.1 X.1.2.1 dX6_chooseWhoIsAsked_34 (by decide) (fun c_1 => ?_) (fun c_1 => ?_)
  · have h := o_pos c_1 h
    obtain rfl := o_ret h
    exact x_vret X hP hS dX6_chooseWhoIsAsked_76
  · have h := o_neg c_1 h
    refine lv_aload_n X.1.1 X.1.2.1 dX6_chooseWhoIsAsked_37 rfl (lv_at hl 0 rfl) ?_
    refine gt_X6_0 X hP (kyO (by decide)) wd_243 dX6_chooseWhoIsAsked_38 ?_
    refine gtN_X0_10 X hP (kyF (by omega) (by decide)) wd_126 dX6_chooseWhoIsAsked_41 ?_
    refine lv_iload_n X.1.1 X.1.2.1 dX6_chooseWhoIsAsked_44 rfl (lv_at hl 2 rfl) ?_
    obtain ⟨g_2, h⟩ := o_gd_inv h
    refine x_iald X hP (kyF (by omega) (by decide)) (fun _ _ => rfl) g_2 dX6_chooseWhoIsAsked_45 ?_
    refine lv_if_ne (tgt := 70) X.1.1 X.1.2.1 dX6_chooseWhoIsAsked_46 (by decide) (fun c_3 => ?_) (fun c_3 => ?_)
    · have h := o_neg c_3 h
      exact w_X6_chooseWhoIsAsked_70 N X hk26 x1 x2 t _ _ _ hP hS (lv_sub hl [0, 1, 2] rfl) h
    · have h := o_pos c_3 h
      refine lv_aload_n X.1.1 X.1.2.1 dX6_chooseWhoIsAsked_49 rfl (lv_at hl 0 rfl) ?_
      refine lv_iload_n X.1.1 X.1.2.1 dX6_chooseWhoIsAsked_50 rfl (lv_at hl 2 rfl) ?_
      obtain ⟨⟨r_6, t_4⟩, hc_5, h⟩ := o_bd_inv h
      refine x_calli (x_runV (As := [.int x2]) (rest := []) X hP hS (c_X6_howManyComeAheadOf l g N X.2.2.2.2.1 x2 t hc_5) ⟨wd_690, wd_687, wd_689, wd_14, wd_60⟩ hd_X6_howManyComeAheadOf ⟨by omega, by decide⟩ (x_recv X hP (ci := 6) rfl (kyO (by decide)) rfl) rfl hl.1 rfl (Nat.le_of_ble_eq_true rfl) dX6_chooseWhoIsAsked_51) hS (fun H locs hP hS => ?_)
      refine lv_iload_n X.1.1 X.1.2.1 dX6_chooseWhoIsAsked_54 rfl (lv_at hl 1 rfl) ?_
      refine lv_icmp_ge (tgt := 70) X.1.1 X.1.2.1 dX6_chooseWhoIsAsked_55 (by decide) (fun c_8 => ?_) (fun c_8 => ?_)
      · have h := o_pos c_8 h
        exact w_X6_chooseWhoIsAsked_70 N X hk26 x1 x2 t_4 _ _ _ hP hS (lv_sub hl [0, 1, 2] rfl) h
      · have h := o_neg c_8 h
        refine lv_aload_n X.1.1 X.1.2.1 dX6_chooseWhoIsAsked_58 rfl (lv_at hl 0 rfl) ?_
        refine lv_dup X.1.1 X.1.2.1 dX6_chooseWhoIsAsked_59 rfl ?_
        refine gt_X6_3 X hP (kyO (by decide)) wd_246 dX6_chooseWhoIsAsked_60 ?_
        refine lv_iconst (v := 1) X.1.1 X.1.2.1 dX6_chooseWhoIsAsked_63 (by decide) ?_
        refine lv_iload_n X.1.1 X.1.2.1 dX6_chooseWhoIsAsked_64 rfl (lv_at hl 2 rfl) ?_
        refine lv_ishl X.1.1 X.1.2.1 dX6_chooseWhoIsAsked_65 ?_
        refine lv_ior X.1.1 X.1.2.1 dX6_chooseWhoIsAsked_66 ?_
        obtain ⟨t_9, e_10, h⟩ := o_nm_inv h
        refine pt_X6_3 (x := ((t_4.1 3 5 0 3) ||| (1 <<< (x2 &&& 31)))) X hP hS (kyO (by decide)) wd_246 dX6_chooseWhoIsAsked_67 (fun H locs hP hS => ?_)
        have hP : XP shC g t_9 H := by rw [e_10]; exact hP
        exact w_X6_chooseWhoIsAsked_70 N X hk26 x1 x2 t_9 _ _ _ hP hS (lv_sub hl [0, 1, 2] rfl) h
set_option maxRecDepth 100000 in
set_option maxHeartbeats 4000000 in
theorem w_X6_chooseWhoIsAsked_26 {l : Launch} {g : Ly} {p : Program} {e : Env} {s : State} {m : MethodId} {args : Array Value} {below : List Frame} {meth : Method} {c : Code} (N : Nat) (X : XC p m meth c cX6_chooseWhoIsAsked 3 s args (.code yX6_chooseWhoIsAsked cX6_chooseWhoIsAsked 3 none) RX6 none shC g) {t' : Mm} (x1 : Int32) (x2 : Int32) (t : Mm) (H : Heap) (locs : List Loc) (ls : Array Slot) (hP : XP shC g t H) (hS : va_S (XA shC g) s.heap H locs) (hl : lv_has ls 3 [(0, .ref (g.2.2 (3, 5, 0))), (1, .int x1), (2, .int x2)]) (h : f_X6_chooseWhoIsAsked_26 N x1 x2 t = some t') : W p l e (rmv 2) s m args below meth c H locs 0 0 (MQ below (XQv shC g t') args s 0 0 (XA shC g)) (F0 m 26 ls []) :=
  o_lp_ind (P := fun x : Int32 × Int32 × Mm => ∀ (H : Heap) (locs : List Loc) (ls : Array Slot), XP shC g x.2.2 H → va_S (XA shC g) s.heap H locs → lv_has ls 3 [(0, .ref (g.2.2 (3, 5, 0))), (1, .int x.1), (2, .int x.2.1)] → W p l e (rmv 2) s m args below meth c H locs 0 0 (MQ below (XQv shC g t') args s 0 0 (XA shC g)) (F0 m 26 ls [])) (fun k hk x h H locs ls hP hS hl => wb_X6_chooseWhoIsAsked_26 N X hk x.1 x.2.1 x.2.2 H locs ls hP hS hl h) N (x1, x2, t) h H locs ls hP hS hl
set_option maxRecDepth 100000 in
set_option maxHeartbeats 4000000 in
theorem c_X6_chooseWhoIsAsked (l : Launch) (g : Ly) (N : Nat) (hG : XG shC g) (t : Mm) {t' : Mm} (h : f_X6_chooseWhoIsAsked N t = some t') : MI l yX6_chooseWhoIsAsked cX6_chooseWhoIsAsked 3 none 2 shC g [.ref (g.2.2 (3, 5, 0))] t (XQv shC g t') := by
  refine x_met hG (by decide +kernel) (Nat.le_of_ble_eq_true rfl) ?_
  intro p e s m below meth c ls X hP hl
  have hS : va_S (XA shC g) s.heap s.heap [] := va_S.rf
  have hl : lv_has ls 3 [(0, .ref (g.2.2 (3, 5, 0)))] := hl
  unfold f_X6_chooseWhoIsAsked at h
  generalize ([.ref (g.2.2 (3, 5, 0))] : List Value).toArray = args at X ⊢
  refine lv_aload_n X.1.1 X.1.2.1 dX6_chooseWhoIsAsked_0 rfl (lv_at hl 0 rfl) ?_
  refine gt_X6_0 X hP (kyO (by decide)) wd_243 dX6_chooseWhoIsAsked_1 ?_
  refine gtN_X0_0 X hP (kyF (by omega) (by decide)) wd_94 dX6_chooseWhoIsAsked_4 ?_
  refine lv_aload_n X.1.1 X.1.2.1 dX6_chooseWhoIsAsked_7 rfl (lv_at hl 0 rfl) ?_
  refine gt_X6_0 X hP (kyO (by decide)) wd_243 dX6_chooseWhoIsAsked_8 ?_
  refine gtN_X0_2 X hP (kyF (by omega) (by decide)) wd_101 dX6_chooseWhoIsAsked_11 ?_
  obtain ⟨⟨r_13, t_11⟩, hc_12, h⟩ := o_bd_inv h
  refine x_calli (x_runS (As := [.int (t.1 0 19 0 2)]) (rest := [.int (t.1 0 19 0 0)]) X hP hS (c_J6_bitCount_0f7a4 l g X.2.2.2.2.1 (t.1 0 19 0 2) t hc_12) ⟨wd_372, wd_686, wd_371, wd_63⟩ hd_J6_bitCount_0f7a4 ⟨by omega, by decide⟩ rfl hl.1 rfl (Nat.le_of_ble_eq_true rfl) dX6_chooseWhoIsAsked_14) hS (fun H locs hP hS => ?_)
  refine lv_isub X.1.1 X.1.2.1 dX6_chooseWhoIsAsked_17 ?_
  refine lv_istore_n (lv' := [(1, .int ((t.1 0 19 0 0) - r_13)), (0, .ref (g.2.2 (3, 5, 0)))]) X.1.1 X.1.2.1 dX6_chooseWhoIsAsked_18 rfl hl (by decide) rfl (fun ls hl => ?_)
  refine lv_aload_n X.1.1 X.1.2.1 dX6_chooseWhoIsAsked_19 rfl (lv_at hl 1 rfl) ?_
  refine lv_iconst (v := 0) X.1.1 X.1.2.1 dX6_chooseWhoIsAsked_20 (by decide) ?_
  obtain ⟨t_15, e_16, h⟩ := o_nm_inv h
  refine pt_X6_3 (x := 0) X hP hS (kyO (by decide)) wd_246 dX6_chooseWhoIsAsked_21 (fun H locs hP hS => ?_)
  have hP : XP shC g t_15 H := by rw [e_16]; exact hP
  refine lv_iconst (v := 0) X.1.1 X.1.2.1 dX6_chooseWhoIsAsked_24 (by decide) ?_
  refine lv_istore_n (lv' := [(2, .int 0), (1, .int ((t.1 0 19 0 0) - r_13)), (0, .ref (g.2.2 (3, 5, 0)))]) X.1.1 X.1.2.1 dX6_chooseWhoIsAsked_25 rfl hl (by decide) rfl (fun ls hl => ?_)
  exact w_X6_chooseWhoIsAsked_26 N X ((t.1 0 19 0 0) - r_13) 0 t_15 _ _ _ hP hS (lv_sub hl [2, 1, 0] rfl) h
/-- FordQuestions$Tellings.comingOf(I)I -/
def f_X6_comingOf (a0 : Int32) (t : Mm) : Option (Int32 × Mm) := if o_inb a0 5 = true then (some ((if (t.1 0 19 0 3) < (t.1 0 19 5 (a0.toNatClampNeg)) then (t.1 0 19 5 (a0.toNatClampNeg)) else (t.1 0 19 0 3)), t)) else none
theorem hd_X6_comingOf : x_hd yX6_comingOf 1 := by decide +kernel
set_option maxRecDepth 100000 in
set_option maxHeartbeats 4000000 in
theorem c_X6_comingOf (l : Launch) (g : Ly) (hG : XG shC g) (a0 : Int32) (t : Mm) {r : Int32} {t' : Mm} (h : f_X6_comingOf a0 t = some (r, t')) : MI l yX6_comingOf cX6_comingOf 2 (some .int) 1 shC g [.ref (g.2.2 (3, 5, 0)), .int a0] t (XQi shC g r t') := by
  refine x_met hG (by decide +kernel) (Nat.le_of_ble_eq_true rfl) ?_
  intro p e s m below meth c ls X hP hl
  have hS : va_S (XA shC g) s.heap s.heap [] := va_S.rf
  have hl : lv_has ls 2 [(0, .ref (g.2.2 (3, 5, 0))), (1, .int a0)] := hl
  unfold f_X6_comingOf at h
  generalize ([.ref (g.2.2 (3, 5, 0)), .int a0] : List Value).toArray = args at X ⊢
  refine lv_aload_n X.1.1 X.1.2.1 dX6_comingOf_0 rfl (lv_at hl 0 rfl) ?_
  refine gt_X6_0 X hP (kyO (by decide)) wd_243 dX6_comingOf_1 ?_
  refine gtN_X0_3 X hP (kyF (by omega) (by decide)) wd_106 dX6_comingOf_4 ?_
  refine lv_aload_n X.1.1 X.1.2.1 dX6_comingOf_7 rfl (lv_at hl 0 rfl) ?_
  refine gt_X6_0 X hP (kyO (by decide)) wd_243 dX6_comingOf_8 ?_
  refine gtN_X0_9 X hP (kyF (by omega) (by decide)) wd_123 dX6_comingOf_11 ?_
  refine lv_iload_n X.1.1 X.1.2.1 dX6_comingOf_14 rfl (lv_at hl 1 rfl) ?_
  obtain ⟨g_1, h⟩ := o_gd_inv h
  refine x_iald X hP (kyF (by omega) (by decide)) (fun _ _ => rfl) g_1 dX6_comingOf_15 ?_
  refine x_max X ⟨wd_703, wd_384, wd_64, wd_385⟩ hl.1 (by omega) (Nat.le_of_ble_eq_true rfl) dX6_comingOf_16 ?_
  obtain ⟨rfl, rfl⟩ := o_ret2 h
  exact x_iret X hP hS dX6_comingOf_19
def f_X6_insertComer_54 (N : Nat) (x1 : Int32) (x2 : Int32) (t : Mm) : Option (Mm) := if 5 ≤ x2 then (some t) else (if o_inb x2 5 = true then (o_nm (sI t 3 6 0 (x2.toNatClampNeg) x1) fun t_3 => o_nm (sI t_3 3 5 0 2 ((t_3.1 3 5 0 2) + 1)) fun t_5 => some t_5) else none)
def b_X6_insertComer_5 (N : Nat) (k5 : Int32 × Int32 × Mm → Option (Mm)) (x1 : Int32) (x2 : Int32) (t : Mm) : Option (Mm) := if x2 ≤ 0 then (f_X6_insertComer_54 N x1 x2 t) else (if 5 ≤ x2 then (f_X6_insertComer_54 N x1 x2 t) else (if o_inb (x2 - 1) 5 = true then (o_bd (f_X6_comingOf (t.1 3 6 0 ((x2 - 1).toNatClampNeg)) t) fun (r_12, t_10) => o_bd (f_X6_comingOf x1 t_10) fun (r_16, t_14) => if r_12 ≤ r_16 then (f_X6_insertComer_54 N x1 x2 t_14) else (if o_inb (x2 - 1) 5 = true then (if o_inb x2 5 = true then (o_nm (sI t_14 3 6 0 (x2.toNatClampNeg) (t_14.1 3 6 0 ((x2 - 1).toNatClampNeg))) fun t_21 => k5 (x1, (x2 + (-1)), t_21)) else none) else none)) else none))
def f_X6_insertComer_5 (N : Nat) (x1 : Int32) (x2 : Int32) (t : Mm) : Option (Mm) := o_lp (fun k x => b_X6_insertComer_5 N k x.1 x.2.1 x.2.2) N (x1, x2, t)
/-- FordQuestions$Tellings.insertComer(I)V -/
def f_X6_insertComer (N : Nat) (a0 : Int32) (t : Mm) : Option (Mm) := f_X6_insertComer_5 N a0 (t.1 3 5 0 2) t
theorem hd_X6_insertComer : x_hd yX6_insertComer 1 := by decide +kernel
set_option maxRecDepth 100000 in
set_option maxHeartbeats 4000000 in
theorem w_X6_insertComer_54 {l : Launch} {g : Ly} {p : Program} {e : Env} {s : State} {m : MethodId} {args : Array Value} {below : List Frame} {meth : Method} {c : Code} (N : Nat) (X : XC p m meth c cX6_insertComer 3 s args (.code yX6_insertComer cX6_insertComer 3 none) RX6 none shC g) {t' : Mm} (x1 : Int32) (x2 : Int32) (t : Mm) (H : Heap) (locs : List Loc) (ls : Array Slot) (hP : XP shC g t H) (hS : va_S (XA shC g) s.heap H locs) (hl : lv_has ls 3 [(0, .ref (g.2.2 (3, 5, 0))), (1, .int x1), (2, .int x2)]) (h : f_X6_insertComer_54 N x1 x2 t = some t') : W p l e (rmv 2) s m args below meth c H locs 0 0 (MQ below (XQv shC g t') args s 0 0 (XA shC g)) (F0 m 54 ls []) := by
  unfold f_X6_insertComer_54 at h
  refine lv_iload_n X.1.1 X.1.2.1 dX6_insertComer_54 rfl (lv_at hl 2 rfl) ?_
  refine lv_iconst (v := 5) X.1.1 X.1.2.1 dX6_insertComer_55 (by decide) ?_
  refine lv_icmp_ge (tgt := 76) X.1.1 X.1.2.1 dX6_insertComer_56 (by decide) (fun c_1 => ?_) (fun c_1 => ?_)
  · have h := o_pos c_1 h
    obtain rfl := o_ret h
    exact x_vret X hP hS dX6_insertComer_76
  · have h := o_neg c_1 h
    refine lv_aload_n X.1.1 X.1.2.1 dX6_insertComer_59 rfl (lv_at hl 0 rfl) ?_
    refine gt_X6_1 X hP (kyO (by decide)) wd_244 dX6_insertComer_60 ?_
    refine lv_iload_n X.1.1 X.1.2.1 dX6_insertComer_63 rfl (lv_at hl 2 rfl) ?_
    refine lv_iload_n X.1.1 X.1.2.1 dX6_insertComer_64 rfl (lv_at hl 1 rfl) ?_
    obtain ⟨g_2, h⟩ := o_gd_inv h
    obtain ⟨t_3, e_4, h⟩ := o_nm_inv h
    refine x_iast X hP hS (kyO (by decide)) (fun _ _ => rfl) g_2 dX6_insertComer_65 (fun H locs hP hS => ?_)
    have hP : XP shC g t_3 H := by rw [e_4]; exact hP
    refine lv_aload_n X.1.1 X.1.2.1 dX6_insertComer_66 rfl (lv_at hl 0 rfl) ?_
    refine lv_dup X.1.1 X.1.2.1 dX6_insertComer_67 rfl ?_
    refine gt_X6_2 X hP (kyO (by decide)) wd_245 dX6_insertComer_68 ?_
    refine lv_iconst (v := 1) X.1.1 X.1.2.1 dX6_insertComer_71 (by decide) ?_
    refine lv_iadd X.1.1 X.1.2.1 dX6_insertComer_72 ?_
    obtain ⟨t_5, e_6, h⟩ := o_nm_inv h
    refine pt_X6_2 (x := ((t_3.1 3 5 0 2) + 1)) X hP hS (kyO (by decide)) wd_245 dX6_insertComer_73 (fun H locs hP hS => ?_)
    have hP : XP shC g t_5 H := by rw [e_6]; exact hP
    obtain rfl := o_ret h
    exact x_vret X hP hS dX6_insertComer_76
set_option maxRecDepth 100000 in
set_option maxHeartbeats 4000000 in
theorem wb_X6_insertComer_5 {l : Launch} {g : Ly} {p : Program} {e : Env} {s : State} {m : MethodId} {args : Array Value} {below : List Frame} {meth : Method} {c : Code} (N : Nat) (X : XC p m meth c cX6_insertComer 3 s args (.code yX6_insertComer cX6_insertComer 3 none) RX6 none shC g) {t' : Mm} {k5 : Int32 × Int32 × Mm → Option (Mm)} (hk5 : ∀ x : Int32 × Int32 × Mm, k5 x = some t' → ∀ (H : Heap) (locs : List Loc) (ls : Array Slot), XP shC g x.2.2 H → va_S (XA shC g) s.heap H locs → lv_has ls 3 [(0, .ref (g.2.2 (3, 5, 0))), (1, .int x.1), (2, .int x.2.1)] → W p l e (rmv 2) s m args below meth c H locs 0 0 (MQ below (XQv shC g t') args s 0 0 (XA shC g)) (F0 m 5 ls [])) (x1 : Int32) (x2 : Int32) (t : Mm) (H : Heap) (locs : List Loc) (ls : Array Slot) (hP : XP shC g t H) (hS : va_S (XA shC g) s.heap H locs) (hl : lv_has ls 3 [(0, .ref (g.2.2 (3, 5, 0))), (1, .int x1), (2, .int x2)]) (h : b_X6_insertComer_5 N k5 x1 x2 t = some t') : W p l e (rmv 2) s m args below meth c H locs 0 0 (MQ below (XQv shC g t') args s 0 0 (XA shC g)) (F0 m 5 ls []) := by
  unfold b_X6_insertComer_5 at h
  refine lv_iload_n X.1.1 X.1.2.1 dX6_insertComer_5 rfl (lv_at hl 2 rfl) ?_
  refine lv_if_le (tgt := 54) X.1.1 X.1.2.1 dX6_insertComer_6 (by decide) (fun c_7 => ?_) (fun c_7 => ?_)
  · have h := o_pos c_7 h
    exact w_X6_insertComer_54 N X x1 x2 t _ _ _ hP hS (lv_sub hl [0, 1, 2] rfl) h
  · have h := o_neg c_7 h
    refine lv_iload_n X.1.1 X.1.2.1 dX6_insertComer_9 rfl (lv_at hl 2 rfl) ?_
    refine lv_iconst (v := 5) X.1.1 X.1.2.1 dX6_insertComer_10 (by decide) ?_
    refine lv_icmp_ge (tgt := 54) X.1.1 X.1.2.1 dX6_insertComer_11 (by decide) (fun c_8 => ?_) (fun c_8 => ?_)
    · have h := o_pos c_8 h
      exact w_X6_insertComer_54 N X x1 x2 t _ _ _ hP hS (lv_sub hl [0, 1, 2] rfl) h
    · have h := o_neg c_8 h
      refine lv_aload_n X.1.1 X.1.2.1 dX6_insertComer_14 rfl (lv_at hl 0 rfl) ?_
      refine lv_aload_n X.1.1 X.1.2.1 dX6_insertComer_15 rfl (lv_at hl 0 rfl) ?_
      refine gt_X6_1 X hP (kyO (by decide)) wd_244 dX6_insertComer_16 ?_
      refine lv_iload_n X.1.1 X.1.2.1 dX6_insertComer_19 rfl (lv_at hl 2 rfl) ?_
      refine lv_iconst (v := 1) X.1.1 X.1.2.1 dX6_insertComer_20 (by decide) ?_
      refine lv_isub X.1.1 X.1.2.1 dX6_insertComer_21 ?_
      obtain ⟨g_9, h⟩ := o_gd_inv h
      refine x_iald X hP (kyO (by decide)) (fun _ _ => rfl) g_9 dX6_insertComer_22 ?_
      obtain ⟨⟨r_12, t_10⟩, hc_11, h⟩ := o_bd_inv h
      refine x_calli (x_runV (As := [.int (t.1 3 6 0 ((x2 - 1).toNatClampNeg))]) (rest := []) X hP hS (c_X6_comingOf l g X.2.2.2.2.1 (t.1 3 6 0 ((x2 - 1).toNatClampNeg)) t hc_11) ⟨wd_702, wd_699, wd_701, wd_17, wd_60⟩ hd_X6_comingOf ⟨by omega, by decide⟩ (x_recv X hP (ci := 6) rfl (kyO (by decide)) rfl) rfl hl.1 rfl (Nat.le_of_ble_eq_true rfl) dX6_insertComer_23) hS (fun H locs hP hS => ?_)
      refine lv_aload_n X.1.1 X.1.2.1 dX6_insertComer_26 rfl (lv_at hl 0 rfl) ?_
      refine lv_iload_n X.1.1 X.1.2.1 dX6_insertComer_27 rfl (lv_at hl 1 rfl) ?_
      obtain ⟨⟨r_16, t_14⟩, hc_15, h⟩ := o_bd_inv h
      refine x_calli (x_runV (As := [.int x1]) (rest := [.int r_12]) X hP hS (c_X6_comingOf l g X.2.2.2.2.1 x1 t_10 hc_15) ⟨wd_702, wd_699, wd_701, wd_17, wd_60⟩ hd_X6_comingOf ⟨by omega, by decide⟩ (x_recv X hP (ci := 6) rfl (kyO (by decide)) rfl) rfl hl.1 rfl (Nat.le_of_ble_eq_true rfl) dX6_insertComer_28) hS (fun H locs hP hS => ?_)
      refine lv_icmp_le (tgt := 54) X.1.1 X.1.2.1 dX6_insertComer_31 (by decide) (fun c_18 => ?_) (fun c_18 => ?_)
      · have h := o_pos c_18 h
        exact w_X6_insertComer_54 N X x1 x2 t_14 _ _ _ hP hS (lv_sub hl [0, 1, 2] rfl) h
      · have h := o_neg c_18 h
        refine lv_aload_n X.1.1 X.1.2.1 dX6_insertComer_34 rfl (lv_at hl 0 rfl) ?_
        refine gt_X6_1 X hP (kyO (by decide)) wd_244 dX6_insertComer_35 ?_
        refine lv_iload_n X.1.1 X.1.2.1 dX6_insertComer_38 rfl (lv_at hl 2 rfl) ?_
        refine lv_aload_n X.1.1 X.1.2.1 dX6_insertComer_39 rfl (lv_at hl 0 rfl) ?_
        refine gt_X6_1 X hP (kyO (by decide)) wd_244 dX6_insertComer_40 ?_
        refine lv_iload_n X.1.1 X.1.2.1 dX6_insertComer_43 rfl (lv_at hl 2 rfl) ?_
        refine lv_iconst (v := 1) X.1.1 X.1.2.1 dX6_insertComer_44 (by decide) ?_
        refine lv_isub X.1.1 X.1.2.1 dX6_insertComer_45 ?_
        obtain ⟨g_19, h⟩ := o_gd_inv h
        refine x_iald X hP (kyO (by decide)) (fun _ _ => rfl) g_19 dX6_insertComer_46 ?_
        obtain ⟨g_20, h⟩ := o_gd_inv h
        obtain ⟨t_21, e_22, h⟩ := o_nm_inv h
        refine x_iast X hP hS (kyO (by decide)) (fun _ _ => rfl) g_20 dX6_insertComer_47 (fun H locs hP hS => ?_)
        have hP : XP shC g t_21 H := by rw [e_22]; exact hP
        refine lv_iinc (v := (x2 + (-1))) (lv' := [(2, .int (x2 + (-1))), (0, .ref (g.2.2 (3, 5, 0))), (1, .int x1)]) X.1.1 X.1.2.1 dX6_insertComer_48 hl (k := 2) rfl rfl (by decide) rfl (fun ls hl => ?_)
        refine lv_goto (tgt := 5) X.1.1 X.1.2.1 dX6_insertComer_51 (by decide) ?_
        exact hk5 (x1, (x2 + (-1)), t_21) h _ _ _ hP hS (lv_sub hl [1, 2, 0] rfl)
set_option maxRecDepth 100000 in
set_option maxHeartbeats 4000000 in
theorem w_X6_insertComer_5 {l : Launch} {g : Ly} {p : Program} {e : Env} {s : State} {m : MethodId} {args : Array Value} {below : List Frame} {meth : Method} {c : Code} (N : Nat) (X : XC p m meth c cX6_insertComer 3 s args (.code yX6_insertComer cX6_insertComer 3 none) RX6 none shC g) {t' : Mm} (x1 : Int32) (x2 : Int32) (t : Mm) (H : Heap) (locs : List Loc) (ls : Array Slot) (hP : XP shC g t H) (hS : va_S (XA shC g) s.heap H locs) (hl : lv_has ls 3 [(0, .ref (g.2.2 (3, 5, 0))), (1, .int x1), (2, .int x2)]) (h : f_X6_insertComer_5 N x1 x2 t = some t') : W p l e (rmv 2) s m args below meth c H locs 0 0 (MQ below (XQv shC g t') args s 0 0 (XA shC g)) (F0 m 5 ls []) :=
  o_lp_ind (P := fun x : Int32 × Int32 × Mm => ∀ (H : Heap) (locs : List Loc) (ls : Array Slot), XP shC g x.2.2 H → va_S (XA shC g) s.heap H locs → lv_has ls 3 [(0, .ref (g.2.2 (3, 5, 0))), (1, .int x.1), (2, .int x.2.1)] → W p l e (rmv 2) s m args below meth c H locs 0 0 (MQ below (XQv shC g t') args s 0 0 (XA shC g)) (F0 m 5 ls [])) (fun k hk x h H locs ls hP hS hl => wb_X6_insertComer_5 N X hk x.1 x.2.1 x.2.2 H locs ls hP hS hl h) N (x1, x2, t) h H locs ls hP hS hl
set_option maxRecDepth 100000 in
set_option maxHeartbeats 4000000 in
theorem c_X6_insertComer (l : Launch) (g : Ly) (N : Nat) (hG : XG shC g) (a0 : Int32) (t : Mm) {t' : Mm} (h : f_X6_insertComer N a0 t = some t') : MI l yX6_insertComer cX6_insertComer 3 none 2 shC g [.ref (g.2.2 (3, 5, 0)), .int a0] t (XQv shC g t') := by
  refine x_met hG (by decide +kernel) (Nat.le_of_ble_eq_true rfl) ?_
  intro p e s m below meth c ls X hP hl
  have hS : va_S (XA shC g) s.heap s.heap [] := va_S.rf
  have hl : lv_has ls 3 [(0, .ref (g.2.2 (3, 5, 0))), (1, .int a0)] := hl
  unfold f_X6_insertComer at h
  generalize ([.ref (g.2.2 (3, 5, 0)), .int a0] : List Value).toArray = args at X ⊢
  refine lv_aload_n X.1.1 X.1.2.1 dX6_insertComer_0 rfl (lv_at hl 0 rfl) ?_
  refine gt_X6_2 X hP (kyO (by decide)) wd_245 dX6_insertComer_1 ?_
  refine lv_istore_n (lv' := [(2, .int (t.1 3 5 0 2)), (0, .ref (g.2.2 (3, 5, 0))), (1, .int a0)]) X.1.1 X.1.2.1 dX6_insertComer_4 rfl hl (by decide) rfl (fun ls hl => ?_)
  exact w_X6_insertComer_5 N X a0 (t.1 3 5 0 2) t _ _ _ hP hS (lv_sub hl [1, 2, 0] rfl) h
def f_X6_orderComers_35 (N : Nat) (k7 : Int32 × Mm → Option (Mm)) (x1 : Int32) (t : Mm) : Option (Mm) := k7 ((x1 + 1), t)
def b_X6_orderComers_7 (N : Nat) (k7 : Int32 × Mm → Option (Mm)) (x1 : Int32) (t : Mm) : Option (Mm) := if (t.1 0 19 0 1) ≤ x1 then (some t) else (if o_inb x1 5 = true then (if (t.1 0 19 6 (x1.toNatClampNeg)) = 0 then (o_bd (f_X6_insertComer N x1 t) fun t_4 => f_X6_orderComers_35 N k7 x1 t_4) else (f_X6_orderComers_35 N k7 x1 t)) else none)
def f_X6_orderComers_7 (N : Nat) (x1 : Int32) (t : Mm) : Option (Mm) := o_lp (fun k x => b_X6_orderComers_7 N k x.1 x.2) N (x1, t)
/-- FordQuestions$Tellings.orderComers()V -/
def f_X6_orderComers (N : Nat) (t : Mm) : Option (Mm) := o_nm (sI t 3 5 0 2 0) fun t_6 => f_X6_orderComers_7 N 0 t_6
theorem hd_X6_orderComers : x_hd yX6_orderComers 0 := by decide +kernel
set_option maxRecDepth 100000 in
set_option maxHeartbeats 4000000 in
theorem w_X6_orderComers_35 {l : Launch} {g : Ly} {p : Program} {e : Env} {s : State} {m : MethodId} {args : Array Value} {below : List Frame} {meth : Method} {c : Code} (N : Nat) (X : XC p m meth c cX6_orderComers 2 s args (.code yX6_orderComers cX6_orderComers 2 none) RX6 none shC g) {t' : Mm} {k7 : Int32 × Mm → Option (Mm)} (hk7 : ∀ x : Int32 × Mm, k7 x = some t' → ∀ (H : Heap) (locs : List Loc) (ls : Array Slot), XP shC g x.2 H → va_S (XA shC g) s.heap H locs → lv_has ls 2 [(0, .ref (g.2.2 (3, 5, 0))), (1, .int x.1)] → W p l e (rmv 3) s m args below meth c H locs 0 0 (MQ below (XQv shC g t') args s 0 0 (XA shC g)) (F0 m 7 ls [])) (x1 : Int32) (t : Mm) (H : Heap) (locs : List Loc) (ls : Array Slot) (hP : XP shC g t H) (hS : va_S (XA shC g) s.heap H locs) (hl : lv_has ls 2 [(0, .ref (g.2.2 (3, 5, 0))), (1, .int x1)]) (h : f_X6_orderComers_35 N k7 x1 t = some t') : W p l e (rmv 3) s m args below meth c H locs 0 0 (MQ below (XQv shC g t') args s 0 0 (XA shC g)) (F0 m 35 ls []) := by
  unfold f_X6_orderComers_35 at h
  refine lv_iinc (v := (x1 + 1)) (lv' := [(1, .int (x1 + 1)), (0, .ref (g.2.2 (3, 5, 0)))]) X.1.1 X.1.2.1 dX6_orderComers_35 hl (k := 1) rfl rfl (by decide) rfl (fun ls hl => ?_)
  refine lv_goto (tgt := 7) X.1.1 X.1.2.1 dX6_orderComers_38 (by decide) ?_
  exact hk7 ((x1 + 1), t) h _ _ _ hP hS (lv_sub hl [1, 0] rfl)
set_option maxRecDepth 100000 in
set_option maxHeartbeats 4000000 in
theorem wb_X6_orderComers_7 {l : Launch} {g : Ly} {p : Program} {e : Env} {s : State} {m : MethodId} {args : Array Value} {below : List Frame} {meth : Method} {c : Code} (N : Nat) (X : XC p m meth c cX6_orderComers 2 s args (.code yX6_orderComers cX6_orderComers 2 none) RX6 none shC g) {t' : Mm} {k7 : Int32 × Mm → Option (Mm)} (hk7 : ∀ x : Int32 × Mm, k7 x = some t' → ∀ (H : Heap) (locs : List Loc) (ls : Array Slot), XP shC g x.2 H → va_S (XA shC g) s.heap H locs → lv_has ls 2 [(0, .ref (g.2.2 (3, 5, 0))), (1, .int x.1)] → W p l e (rmv 3) s m args below meth c H locs 0 0 (MQ below (XQv shC g t') args s 0 0 (XA shC g)) (F0 m 7 ls [])) (x1 : Int32) (t : Mm) (H : Heap) (locs : List Loc) (ls : Array Slot) (hP : XP shC g t H) (hS : va_S (XA shC g) s.heap H locs) (hl : lv_has ls 2 [(0, .ref (g.2.2 (3, 5, 0))), (1, .int x1)]) (h : b_X6_orderComers_7 N k7 x1 t = some t') : W p l e (rmv 3) s m args below meth c H locs 0 0 (MQ below (XQv shC g t') args s 0 0 (XA shC g)) (F0 m 7 ls []) := by
  unfold b_X6_orderComers_7 at h
  refine lv_iload_n X.1.1 X.1.2.1 dX6_orderComers_7 rfl (lv_at hl 1 rfl) ?_
  refine lv_aload_n X.1.1 X.1.2.1 dX6_orderComers_8 rfl (lv_at hl 0 rfl) ?_
  refine gt_X6_0 X hP (kyO (by decide)) wd_243 dX6_orderComers_9 ?_
  refine gtN_X0_1 X hP (kyF (by omega) (by decide)) wd_97 dX6_orderComers_12 ?_
  refine lv_icmp_ge (tgt := 41) X.1.1 X.1.2.1 dX6_orderComers_15 (by decide) (fun c_1 => ?_) (fun c_1 => ?_)
  · have h := o_pos c_1 h
    obtain rfl := o_ret h
    exact x_vret X hP hS dX6_orderComers_41
  · have h := o_neg c_1 h
    refine lv_aload_n X.1.1 X.1.2.1 dX6_orderComers_18 rfl (lv_at hl 0 rfl) ?_
    refine gt_X6_0 X hP (kyO (by decide)) wd_243 dX6_orderComers_19 ?_
    refine gtN_X0_10 X hP (kyF (by omega) (by decide)) wd_126 dX6_orderComers_22 ?_
    refine lv_iload_n X.1.1 X.1.2.1 dX6_orderComers_25 rfl (lv_at hl 1 rfl) ?_
    obtain ⟨g_2, h⟩ := o_gd_inv h
    refine x_iald X hP (kyF (by omega) (by decide)) (fun _ _ => rfl) g_2 dX6_orderComers_26 ?_
    refine lv_if_ne (tgt := 35) X.1.1 X.1.2.1 dX6_orderComers_27 (by decide) (fun c_3 => ?_) (fun c_3 => ?_)
    · have h := o_neg c_3 h
      exact w_X6_orderComers_35 N X hk7 x1 t _ _ _ hP hS (lv_sub hl [0, 1] rfl) h
    · have h := o_pos c_3 h
      refine lv_aload_n X.1.1 X.1.2.1 dX6_orderComers_30 rfl (lv_at hl 0 rfl) ?_
      refine lv_iload_n X.1.1 X.1.2.1 dX6_orderComers_31 rfl (lv_at hl 1 rfl) ?_
      obtain ⟨t_4, hc_5, h⟩ := o_bd_inv h
      refine x_callv (x_runV (As := [.int x1]) (rest := []) X hP hS (c_X6_insertComer l g N X.2.2.2.2.1 x1 t hc_5) ⟨wd_698, wd_695, wd_697, wd_16, wd_60⟩ hd_X6_insertComer ⟨by omega, by decide⟩ (x_recv X hP (ci := 6) rfl (kyO (by decide)) rfl) rfl hl.1 rfl (Nat.le_of_ble_eq_true rfl) dX6_orderComers_32) hS (fun H locs hP hS => ?_)
      exact w_X6_orderComers_35 N X hk7 x1 t_4 _ _ _ hP hS (lv_sub hl [0, 1] rfl) h
set_option maxRecDepth 100000 in
set_option maxHeartbeats 4000000 in
theorem w_X6_orderComers_7 {l : Launch} {g : Ly} {p : Program} {e : Env} {s : State} {m : MethodId} {args : Array Value} {below : List Frame} {meth : Method} {c : Code} (N : Nat) (X : XC p m meth c cX6_orderComers 2 s args (.code yX6_orderComers cX6_orderComers 2 none) RX6 none shC g) {t' : Mm} (x1 : Int32) (t : Mm) (H : Heap) (locs : List Loc) (ls : Array Slot) (hP : XP shC g t H) (hS : va_S (XA shC g) s.heap H locs) (hl : lv_has ls 2 [(0, .ref (g.2.2 (3, 5, 0))), (1, .int x1)]) (h : f_X6_orderComers_7 N x1 t = some t') : W p l e (rmv 3) s m args below meth c H locs 0 0 (MQ below (XQv shC g t') args s 0 0 (XA shC g)) (F0 m 7 ls []) :=
  o_lp_ind (P := fun x : Int32 × Mm => ∀ (H : Heap) (locs : List Loc) (ls : Array Slot), XP shC g x.2 H → va_S (XA shC g) s.heap H locs → lv_has ls 2 [(0, .ref (g.2.2 (3, 5, 0))), (1, .int x.1)] → W p l e (rmv 3) s m args below meth c H locs 0 0 (MQ below (XQv shC g t') args s 0 0 (XA shC g)) (F0 m 7 ls [])) (fun k hk x h H locs ls hP hS hl => wb_X6_orderComers_7 N X hk x.1 x.2 H locs ls hP hS hl h) N (x1, t) h H locs ls hP hS hl
set_option maxRecDepth 100000 in
set_option maxHeartbeats 4000000 in
theorem c_X6_orderComers (l : Launch) (g : Ly) (N : Nat) (hG : XG shC g) (t : Mm) {t' : Mm} (h : f_X6_orderComers N t = some t') : MI l yX6_orderComers cX6_orderComers 2 none 3 shC g [.ref (g.2.2 (3, 5, 0))] t (XQv shC g t') := by
  refine x_met hG (by decide +kernel) (Nat.le_of_ble_eq_true rfl) ?_
  intro p e s m below meth c ls X hP hl
  have hS : va_S (XA shC g) s.heap s.heap [] := va_S.rf
  have hl : lv_has ls 2 [(0, .ref (g.2.2 (3, 5, 0)))] := hl
  unfold f_X6_orderComers at h
  generalize ([.ref (g.2.2 (3, 5, 0))] : List Value).toArray = args at X ⊢
  refine lv_aload_n X.1.1 X.1.2.1 dX6_orderComers_0 rfl (lv_at hl 0 rfl) ?_
  refine lv_iconst (v := 0) X.1.1 X.1.2.1 dX6_orderComers_1 (by decide) ?_
  obtain ⟨t_6, e_7, h⟩ := o_nm_inv h
  refine pt_X6_2 (x := 0) X hP hS (kyO (by decide)) wd_245 dX6_orderComers_2 (fun H locs hP hS => ?_)
  have hP : XP shC g t_6 H := by rw [e_7]; exact hP
  refine lv_iconst (v := 0) X.1.1 X.1.2.1 dX6_orderComers_5 (by decide) ?_
  refine lv_istore_n (lv' := [(1, .int 0), (0, .ref (g.2.2 (3, 5, 0)))]) X.1.1 X.1.2.1 dX6_orderComers_6 rfl hl (by decide) rfl (fun ls hl => ?_)
  exact w_X6_orderComers_7 N X 0 t_6 _ _ _ hP hS (lv_sub hl [1, 0] rfl) h
def f_X6_howManyAreInAt_28 (N : Nat) (k4 : Int32 × Int32 × Int32 × Mm → Option (Int32 × Mm)) (x1 : Int32) (x2 : Int32) (x3 : Int32) (t : Mm) : Option (Int32 × Mm) := k4 (x1, x2, (x3 + 1), t)
def b_X6_howManyAreInAt_4 (N : Nat) (k4 : Int32 × Int32 × Int32 × Mm → Option (Int32 × Mm)) (x1 : Int32) (x2 : Int32) (x3 : Int32) (t : Mm) : Option (Int32 × Mm) := if (t.1 0 19 0 1) ≤ x3 then (some (x2, t)) else (if o_inb x3 5 = true then (if (t.1 3 7 0 (x3.toNatClampNeg)) ≤ x1 then (f_X6_howManyAreInAt_28 N k4 x1 x2 x3 t) else (f_X6_howManyAreInAt_28 N k4 x1 (x2 + 1) x3 t)) else none)
def f_X6_howManyAreInAt_4 (N : Nat) (x1 : Int32) (x2 : Int32) (x3 : Int32) (t : Mm) : Option (Int32 × Mm) := o_lp (fun k x => b_X6_howManyAreInAt_4 N k x.1 x.2.1 x.2.2.1 x.2.2.2) N (x1, x2, x3, t)
/-- FordQuestions$Tellings.howManyAreInAt(I)I -/
def f_X6_howManyAreInAt (N : Nat) (a0 : Int32) (t : Mm) : Option (Int32 × Mm) := f_X6_howManyAreInAt_4 N a0 0 0 t
theorem hd_X6_howManyAreInAt : x_hd yX6_howManyAreInAt 1 := by decide +kernel
set_option maxRecDepth 100000 in
set_option maxHeartbeats 4000000 in
theorem w_X6_howManyAreInAt_28 {l : Launch} {g : Ly} {p : Program} {e : Env} {s : State} {m : MethodId} {args : Array Value} {below : List Frame} {meth : Method} {c : Code} (N : Nat) (X : XC p m meth c cX6_howManyAreInAt 4 s args (.code yX6_howManyAreInAt cX6_howManyAreInAt 4 (some .int)) RX6 (some .int) shC g) {r : Int32} {t' : Mm} {k4 : Int32 × Int32 × Int32 × Mm → Option (Int32 × Mm)} (hk4 : ∀ x : Int32 × Int32 × Int32 × Mm, k4 x = some (r, t') → ∀ (H : Heap) (locs : List Loc) (ls : Array Slot), XP shC g x.2.2.2 H → va_S (XA shC g) s.heap H locs → lv_has ls 4 [(0, .ref (g.2.2 (3, 5, 0))), (1, .int x.1), (2, .int x.2.1), (3, .int x.2.2.1)] → W p l e (rmv 1) s m args below meth c H locs 0 0 (MQ below (XQi shC g r t') args s 0 0 (XA shC g)) (F0 m 4 ls [])) (x1 : Int32) (x2 : Int32) (x3 : Int32) (t : Mm) (H : Heap) (locs : List Loc) (ls : Array Slot) (hP : XP shC g t H) (hS : va_S (XA shC g) s.heap H locs) (hl : lv_has ls 4 [(0, .ref (g.2.2 (3, 5, 0))), (1, .int x1), (2, .int x2), (3, .int x3)]) (h : f_X6_howManyAreInAt_28 N k4 x1 x2 x3 t = some (r, t')) : W p l e (rmv 1) s m args below meth c H locs 0 0 (MQ below (XQi shC g r t') args s 0 0 (XA shC g)) (F0 m 28 ls []) := by
  unfold f_X6_howManyAreInAt_28 at h
  refine lv_iinc (v := (x3 + 1)) (lv' := [(3, .int (x3 + 1)), (0, .ref (g.2.2 (3, 5, 0))), (1, .int x1), (2, .int x2)]) X.1.1 X.1.2.1 dX6_howManyAreInAt_28 hl (k := 3) rfl rfl (by decide) rfl (fun ls hl => ?_)
  refine lv_goto (tgt := 4) X.1.1 X.1.2.1 dX6_howManyAreInAt_31 (by decide) ?_
  exact hk4 (x1, x2, (x3 + 1), t) h _ _ _ hP hS (lv_sub hl [1, 2, 3, 0] rfl)
set_option maxRecDepth 100000 in
set_option maxHeartbeats 4000000 in
theorem wb_X6_howManyAreInAt_4 {l : Launch} {g : Ly} {p : Program} {e : Env} {s : State} {m : MethodId} {args : Array Value} {below : List Frame} {meth : Method} {c : Code} (N : Nat) (X : XC p m meth c cX6_howManyAreInAt 4 s args (.code yX6_howManyAreInAt cX6_howManyAreInAt 4 (some .int)) RX6 (some .int) shC g) {r : Int32} {t' : Mm} {k4 : Int32 × Int32 × Int32 × Mm → Option (Int32 × Mm)} (hk4 : ∀ x : Int32 × Int32 × Int32 × Mm, k4 x = some (r, t') → ∀ (H : Heap) (locs : List Loc) (ls : Array Slot), XP shC g x.2.2.2 H → va_S (XA shC g) s.heap H locs → lv_has ls 4 [(0, .ref (g.2.2 (3, 5, 0))), (1, .int x.1), (2, .int x.2.1), (3, .int x.2.2.1)] → W p l e (rmv 1) s m args below meth c H locs 0 0 (MQ below (XQi shC g r t') args s 0 0 (XA shC g)) (F0 m 4 ls [])) (x1 : Int32) (x2 : Int32) (x3 : Int32) (t : Mm) (H : Heap) (locs : List Loc) (ls : Array Slot) (hP : XP shC g t H) (hS : va_S (XA shC g) s.heap H locs) (hl : lv_has ls 4 [(0, .ref (g.2.2 (3, 5, 0))), (1, .int x1), (2, .int x2), (3, .int x3)]) (h : b_X6_howManyAreInAt_4 N k4 x1 x2 x3 t = some (r, t')) : W p l e (rmv 1) s m args below meth c H locs 0 0 (MQ below (XQi shC g r t') args s 0 0 (XA shC g)) (F0 m 4 ls []) := by
  unfold b_X6_howManyAreInAt_4 at h
  refine lv_iload_n X.1.1 X.1.2.1 dX6_howManyAreInAt_4 rfl (lv_at hl 3 rfl) ?_
  refine lv_aload_n X.1.1 X.1.2.1 dX6_howManyAreInAt_5 rfl (lv_at hl 0 rfl) ?_
  refine gt_X6_0 X hP (kyO (by decide)) wd_243 dX6_howManyAreInAt_6 ?_
  refine gtN_X0_1 X hP (kyF (by omega) (by decide)) wd_97 dX6_howManyAreInAt_9 ?_
  refine lv_icmp_ge (tgt := 34) X.1.1 X.1.2.1 dX6_howManyAreInAt_12 (by decide) (fun c_1 => ?_) (fun c_1 => ?_)
  · have h := o_pos c_1 h
    refine lv_iload_n X.1.1 X.1.2.1 dX6_howManyAreInAt_34 rfl (lv_at hl 2 rfl) ?_
    obtain ⟨rfl, rfl⟩ := o_ret2 h
    exact x_iret X hP hS dX6_howManyAreInAt_35
  · have h := o_neg c_1 h
    refine lv_aload_n X.1.1 X.1.2.1 dX6_howManyAreInAt_15 rfl (lv_at hl 0 rfl) ?_
    refine gt_X6_4 X hP (kyO (by decide)) wd_247 dX6_howManyAreInAt_16 ?_
    refine lv_iload_n X.1.1 X.1.2.1 dX6_howManyAreInAt_19 rfl (lv_at hl 3 rfl) ?_
    obtain ⟨g_2, h⟩ := o_gd_inv h
    refine x_iald X hP (kyO (by decide)) (fun _ _ => rfl) g_2 dX6_howManyAreInAt_20 ?_
    refine lv_iload_n X.1.1 X.1.2.1 dX6_howManyAreInAt_21 rfl (lv_at hl 1 rfl) ?_
    refine lv_icmp_le (tgt := 28) X.1.1 X.1.2.1 dX6_howManyAreInAt_22 (by decide) (fun c_3 => ?_) (fun c_3 => ?_)
    · have h := o_pos c_3 h
      exact w_X6_howManyAreInAt_28 N X hk4 x1 x2 x3 t _ _ _ hP hS (lv_sub hl [0, 1, 2, 3] rfl) h
    · have h := o_neg c_3 h
      refine lv_iinc (v := (x2 + 1)) (lv' := [(2, .int (x2 + 1)), (0, .ref (g.2.2 (3, 5, 0))), (1, .int x1), (3, .int x3)]) X.1.1 X.1.2.1 dX6_howManyAreInAt_25 hl (k := 2) rfl rfl (by decide) rfl (fun ls hl => ?_)
      exact w_X6_howManyAreInAt_28 N X hk4 x1 (x2 + 1) x3 t _ _ _ hP hS (lv_sub hl [1, 2, 0, 3] rfl) h
set_option maxRecDepth 100000 in
set_option maxHeartbeats 4000000 in
theorem w_X6_howManyAreInAt_4 {l : Launch} {g : Ly} {p : Program} {e : Env} {s : State} {m : MethodId} {args : Array Value} {below : List Frame} {meth : Method} {c : Code} (N : Nat) (X : XC p m meth c cX6_howManyAreInAt 4 s args (.code yX6_howManyAreInAt cX6_howManyAreInAt 4 (some .int)) RX6 (some .int) shC g) {r : Int32} {t' : Mm} (x1 : Int32) (x2 : Int32) (x3 : Int32) (t : Mm) (H : Heap) (locs : List Loc) (ls : Array Slot) (hP : XP shC g t H) (hS : va_S (XA shC g) s.heap H locs) (hl : lv_has ls 4 [(0, .ref (g.2.2 (3, 5, 0))), (1, .int x1), (2, .int x2), (3, .int x3)]) (h : f_X6_howManyAreInAt_4 N x1 x2 x3 t = some (r, t')) : W p l e (rmv 1) s m args below meth c H locs 0 0 (MQ below (XQi shC g r t') args s 0 0 (XA shC g)) (F0 m 4 ls []) :=
  o_lp_ind (P := fun x : Int32 × Int32 × Int32 × Mm => ∀ (H : Heap) (locs : List Loc) (ls : Array Slot), XP shC g x.2.2.2 H → va_S (XA shC g) s.heap H locs → lv_has ls 4 [(0, .ref (g.2.2 (3, 5, 0))), (1, .int x.1), (2, .int x.2.1), (3, .int x.2.2.1)] → W p l e (rmv 1) s m args below meth c H locs 0 0 (MQ below (XQi shC g r t') args s 0 0 (XA shC g)) (F0 m 4 ls [])) (fun k hk x h H locs ls hP hS hl => wb_X6_howManyAreInAt_4 N X hk x.1 x.2.1 x.2.2.1 x.2.2.2 H locs ls hP hS hl h) N (x1, x2, x3, t) h H locs ls hP hS hl
set_option maxRecDepth 100000 in
set_option maxHeartbeats 4000000 in
theorem c_X6_howManyAreInAt (l : Launch) (g : Ly) (N : Nat) (hG : XG shC g) (a0 : Int32) (t : Mm) {r : Int32} {t' : Mm} (h : f_X6_howManyAreInAt N a0 t = some (r, t')) : MI l yX6_howManyAreInAt cX6_howManyAreInAt 4 (some .int) 1 shC g [.ref (g.2.2 (3, 5, 0)), .int a0] t (XQi shC g r t') := by
  refine x_met hG (by decide +kernel) (Nat.le_of_ble_eq_true rfl) ?_
  intro p e s m below meth c ls X hP hl
  have hS : va_S (XA shC g) s.heap s.heap [] := va_S.rf
  have hl : lv_has ls 4 [(0, .ref (g.2.2 (3, 5, 0))), (1, .int a0)] := hl
  unfold f_X6_howManyAreInAt at h
  generalize ([.ref (g.2.2 (3, 5, 0)), .int a0] : List Value).toArray = args at X ⊢
  refine lv_iconst (v := 0) X.1.1 X.1.2.1 dX6_howManyAreInAt_0 (by decide) ?_
  refine lv_istore_n (lv' := [(2, .int 0), (0, .ref (g.2.2 (3, 5, 0))), (1, .int a0)]) X.1.1 X.1.2.1 dX6_howManyAreInAt_1 rfl hl (by decide) rfl (fun ls hl => ?_)
  refine lv_iconst (v := 0) X.1.1 X.1.2.1 dX6_howManyAreInAt_2 (by decide) ?_
  refine lv_istore_n (lv' := [(3, .int 0), (2, .int 0), (0, .ref (g.2.2 (3, 5, 0))), (1, .int a0)]) X.1.1 X.1.2.1 dX6_howManyAreInAt_3 rfl hl (by decide) rfl (fun ls hl => ?_)
  exact w_X6_howManyAreInAt_4 N X a0 0 0 t _ _ _ hP hS (lv_sub hl [2, 3, 1, 0] rfl) h
def f_X6_keepIfBetter_24 (x1 : Int32) (x2 : Int32) (t : Mm) : Option (Mm) := o_nm (sI t 3 5 0 5 x1) fun t_1 => o_nm (sI t_1 3 5 0 6 x2) fun t_3 => some t_3
/-- FordQuestions$Tellings.keepIfBetter(II)V -/
def f_X6_keepIfBetter (a0 : Int32) (a1 : Int32) (t : Mm) : Option (Mm) := if a0 < (t.1 3 5 0 5) then (f_X6_keepIfBetter_24 a0 a1 t) else (if a0 = (t.1 3 5 0 5) then (if (t.1 3 5 0 6) ≤ a1 then (some t) else (f_X6_keepIfBetter_24 a0 a1 t)) else (some t))
theorem hd_X6_keepIfBetter : x_hd yX6_keepIfBetter 2 := by decide +kernel
set_option maxRecDepth 100000 in
set_option maxHeartbeats 4000000 in
theorem w_X6_keepIfBetter_24 {l : Launch} {g : Ly} {p : Program} {e : Env} {s : State} {m : MethodId} {args : Array Value} {below : List Frame} {meth : Method} {c : Code} (X : XC p m meth c cX6_keepIfBetter 3 s args (.code yX6_keepIfBetter cX6_keepIfBetter 3 none) RX6 none shC g) {t' : Mm} (x1 : Int32) (x2 : Int32) (t : Mm) (H : Heap) (locs : List Loc) (ls : Array Slot) (hP : XP shC g t H) (hS : va_S (XA shC g) s.heap H locs) (hl : lv_has ls 3 [(0, .ref (g.2.2 (3, 5, 0))), (1, .int x1), (2, .int x2)]) (h : f_X6_keepIfBetter_24 x1 x2 t = some t') : W p l e (rmv 1) s m args below meth c H locs 0 0 (MQ below (XQv shC g t') args s 0 0 (XA shC g)) (F0 m 24 ls []) := by
  unfold f_X6_keepIfBetter_24 at h
  refine lv_aload_n X.1.1 X.1.2.1 dX6_keepIfBetter_24 rfl (lv_at hl 0 rfl) ?_
  refine lv_iload_n X.1.1 X.1.2.1 dX6_keepIfBetter_25 rfl (lv_at hl 1 rfl) ?_
  obtain ⟨t_1, e_2, h⟩ := o_nm_inv h
  refine pt_X6_5 (x := x1) X hP hS (kyO (by decide)) wd_248 dX6_keepIfBetter_26 (fun H locs hP hS => ?_)
  have hP : XP shC g t_1 H := by rw [e_2]; exact hP
  refine lv_aload_n X.1.1 X.1.2.1 dX6_keepIfBetter_29 rfl (lv_at hl 0 rfl) ?_
  refine lv_iload_n X.1.1 X.1.2.1 dX6_keepIfBetter_30 rfl (lv_at hl 2 rfl) ?_
  obtain ⟨t_3, e_4, h⟩ := o_nm_inv h
  refine pt_X6_6 (x := x2) X hP hS (kyO (by decide)) wd_250 dX6_keepIfBetter_31 (fun H locs hP hS => ?_)
  have hP : XP shC g t_3 H := by rw [e_4]; exact hP
  obtain rfl := o_ret h
  exact x_vret X hP hS dX6_keepIfBetter_34
set_option maxRecDepth 100000 in
set_option maxHeartbeats 4000000 in
theorem c_X6_keepIfBetter (l : Launch) (g : Ly) (hG : XG shC g) (a0 : Int32) (a1 : Int32) (t : Mm) {t' : Mm} (h : f_X6_keepIfBetter a0 a1 t = some t') : MI l yX6_keepIfBetter cX6_keepIfBetter 3 none 1 shC g [.ref (g.2.2 (3, 5, 0)), .int a0, .int a1] t (XQv shC g t') := by
  refine x_met hG (by decide +kernel) (Nat.le_of_ble_eq_true rfl) ?_
  intro p e s m below meth c ls X hP hl
  have hS : va_S (XA shC g) s.heap s.heap [] := va_S.rf
  have hl : lv_has ls 3 [(0, .ref (g.2.2 (3, 5, 0))), (1, .int a0), (2, .int a1)] := hl
  unfold f_X6_keepIfBetter at h
  generalize ([.ref (g.2.2 (3, 5, 0)), .int a0, .int a1] : List Value).toArray = args at X ⊢
  refine lv_iload_n X.1.1 X.1.2.1 dX6_keepIfBetter_0 rfl (lv_at hl 1 rfl) ?_
  refine lv_aload_n X.1.1 X.1.2.1 dX6_keepIfBetter_1 rfl (lv_at hl 0 rfl) ?_
  refine gt_X6_5 X hP (kyO (by decide)) wd_248 dX6_keepIfBetter_2 ?_
  refine lv_icmp_lt (tgt := 24) X.1.1 X.1.2.1 dX6_keepIfBetter_5 (by decide) (fun c_5 => ?_) (fun c_5 => ?_)
  · have h := o_pos c_5 h
    exact w_X6_keepIfBetter_24 X a0 a1 t _ _ _ hP hS (lv_sub hl [0, 1, 2] rfl) h
  · have h := o_neg c_5 h
    refine lv_iload_n X.1.1 X.1.2.1 dX6_keepIfBetter_8 rfl (lv_at hl 1 rfl) ?_
    refine lv_aload_n X.1.1 X.1.2.1 dX6_keepIfBetter_9 rfl (lv_at hl 0 rfl) ?_
    refine gt_X6_5 X hP (kyO (by decide)) wd_248 dX6_keepIfBetter_10 ?_
    refine lv_icmp_ne (tgt := 34) X.1.1 X.1.2.1 dX6_keepIfBetter_13 (by decide) (fun c_6 => ?_) (fun c_6 => ?_)
    · have h := o_neg c_6 h
      obtain rfl := o_ret h
      exact x_vret X hP hS dX6_keepIfBetter_34
    · have h := o_pos c_6 h
      refine lv_iload_n X.1.1 X.1.2.1 dX6_keepIfBetter_16 rfl (lv_at hl 2 rfl) ?_
      refine lv_aload_n X.1.1 X.1.2.1 dX6_keepIfBetter_17 rfl (lv_at hl 0 rfl) ?_
      refine gt_X6_6 X hP (kyO (by decide)) wd_250 dX6_keepIfBetter_18 ?_
      refine lv_icmp_ge (tgt := 34) X.1.1 X.1.2.1 dX6_keepIfBetter_21 (by decide) (fun c_7 => ?_) (fun c_7 => ?_)
      · have h := o_pos c_7 h
        obtain rfl := o_ret h
        exact x_vret X hP hS dX6_keepIfBetter_34
      · have h := o_neg c_7 h
        exact w_X6_keepIfBetter_24 X a0 a1 t _ _ _ hP hS (lv_sub hl [0, 1, 2] rfl) h
/-- FordQuestions$Tellings.shiftOf(I)I -/
def f_X6_shiftOf (a0 : Int32) (t : Mm) : Option (Int32 × Mm) := some ((3 * (4 - a0)), t)
theorem hd_X6_shiftOf : x_hd yX6_shiftOf 1 := by decide +kernel
set_option maxRecDepth 100000 in
set_option maxHeartbeats 4000000 in
theorem c_X6_shiftOf (l : Launch) (g : Ly) (hG : XG shC g) (a0 : Int32) (t : Mm) {r : Int32} {t' : Mm} (h : f_X6_shiftOf a0 t = some (r, t')) : MI l yX6_shiftOf cX6_shiftOf 1 (some .int) 1 shC g [.int a0] t (XQi shC g r t') := by
  refine x_met hG (by decide +kernel) (Nat.le_of_ble_eq_true rfl) ?_
  intro p e s m below meth c ls X hP hl
  have hS : va_S (XA shC g) s.heap s.heap [] := va_S.rf
  have hl : lv_has ls 1 [(0, .int a0)] := hl
  unfold f_X6_shiftOf at h
  generalize ([.int a0] : List Value).toArray = args at X ⊢
  refine lv_iconst (v := 3) X.1.1 X.1.2.1 dX6_shiftOf_0 (by decide) ?_
  refine lv_iconst (v := 4) X.1.1 X.1.2.1 dX6_shiftOf_1 (by decide) ?_
  refine lv_iload_n X.1.1 X.1.2.1 dX6_shiftOf_2 rfl (lv_at hl 0 rfl) ?_
  refine lv_isub X.1.1 X.1.2.1 dX6_shiftOf_3 ?_
  refine lv_imul X.1.1 X.1.2.1 dX6_shiftOf_4 ?_
  obtain ⟨rfl, rfl⟩ := o_ret2 h
  exact x_iret X hP hS dX6_shiftOf_5
def f_X6_tell_195 (N : Nat) (kR : Int32 × Int32 × Int32 × Int32 × Mm → Option (Mm)) (k106 : Int32 × Int32 × Int32 × Int32 × Int32 × Int32 × Int32 × Int32 × Mm → Option (Mm)) (x1 : Int32) (x2 : Int32) (x3 : Int32) (x4 : Int32) (x6 : Int32) (x7 : Int32) (x8 : Int32) (x9 : Int32) (t : Mm) : Option (Mm) := k106 (x1, x2, x3, x4, x6, x7, x8, (x9 + 1), t)
def b_X6_tell_106 (N : Nat) (kR : Int32 × Int32 × Int32 × Int32 × Mm → Option (Mm)) (k106 : Int32 × Int32 × Int32 × Int32 × Int32 × Int32 × Int32 × Int32 × Mm → Option (Mm)) (x1 : Int32) (x2 : Int32) (x3 : Int32) (x4 : Int32) (x6 : Int32) (x7 : Int32) (x8 : Int32) (x9 : Int32) (t : Mm) : Option (Mm) := if (t.1 0 19 0 0) ≤ x9 then (some t) else (o_bd (f_X7_isIn x2 x9 t) fun (r_4, t_2) => if r_4 = 0 then (o_bd (f_X0_hoursAmong 19 x8 x6 x9 x7 t_2) fun (r_9, t_7) => if o_inb x6 5 = true then (o_nm (sI t_7 3 7 0 (x6.toNatClampNeg) (x7 + r_9)) fun t_12 => if o_inb x6 5 = true then (o_bd (f_X6_shiftOf x6 t_12) fun (r_17, t_15) => o_bd (kR ((x1 + 1), (x2 ||| (1 <<< (x9 &&& 31))), (if x3 < (t_12.1 3 7 0 (x6.toNatClampNeg)) then (t_12.1 3 7 0 (x6.toNatClampNeg)) else x3), (x4 ||| (x9 <<< (r_17 &&& 31))), t_15)) fun t_19 => if o_inb x6 5 = true then (o_nm (sI t_19 3 7 0 (x6.toNatClampNeg) 0) fun t_22 => f_X6_tell_195 N kR k106 x1 x2 x3 x4 x6 x7 x8 x9 t_22) else none) else none) else none) else (f_X6_tell_195 N kR k106 x1 x2 x3 x4 x6 x7 x8 x9 t_2))
def f_X6_tell_106 (N : Nat) (kR : Int32 × Int32 × Int32 × Int32 × Mm → Option (Mm)) (x1 : Int32) (x2 : Int32) (x3 : Int32) (x4 : Int32) (x6 : Int32) (x7 : Int32) (x8 : Int32) (x9 : Int32) (t : Mm) : Option (Mm) := o_lp (fun k x => b_X6_tell_106 N kR k x.1 x.2.1 x.2.2.1 x.2.2.2.1 x.2.2.2.2.1 x.2.2.2.2.2.1 x.2.2.2.2.2.2.1 x.2.2.2.2.2.2.2.1 x.2.2.2.2.2.2.2.2) N (x1, x2, x3, x4, x6, x7, x8, x9, t)
def f_X6_tell_39 (N : Nat) (kR : Int32 × Int32 × Int32 × Int32 × Mm → Option (Mm)) (x4 : Int32) (x5 : Int32) (t : Mm) : Option (Mm) := o_bd (f_X6_keepIfBetter x5 x4 t) fun t_24 => some t_24
/-- FordQuestions$Tellings.tell(IIII)V -/
def b_X6_tell (N : Nat) (kR : Int32 × Int32 × Int32 × Int32 × Mm → Option (Mm)) (a0 : Int32) (a1 : Int32) (a2 : Int32) (a3 : Int32) (t : Mm) : Option (Mm) := o_nm ((if 101 < (a2 - (t.1 0 19 0 3)) then 101 else (a2 - (t.1 0 19 0 3)))) fun x_26 => if x_26 ≤ (t.1 3 5 0 5) then (if (t.1 3 5 0 2) ≤ a0 then (f_X6_tell_39 N kR a3 x_26 t) else (if a0 < 5 then (if o_inb a0 5 = true then (o_nm ((t.1 3 6 0 (a0.toNatClampNeg))) fun x_32 => o_bd (f_X6_comingOf x_32 t) fun (r_36, t_34) => o_bd (f_X7_isIn (t_34.1 3 5 0 3) x_32 t_34) fun (r_40, t_38) => if r_40 = 0 then (o_bd (kR ((a0 + 1), a1, (if a2 < (r_36 + 1) then (r_36 + 1) else a2), a3, t_38)) fun t_47 => some t_47) else (o_bd (f_X6_howManyAreInAt N r_36 t_38) fun (r_45, t_43) => f_X6_tell_106 N kR a0 a1 a2 a3 x_32 r_36 r_45 0 t_43)) else none) else (f_X6_tell_39 N kR a3 x_26 t))) else (some t)
def f_X6_tell (N : Nat) (a0 : Int32) (a1 : Int32) (a2 : Int32) (a3 : Int32) (t : Mm) : Option (Mm) := o_lp (fun k x => b_X6_tell N k x.1 x.2.1 x.2.2.1 x.2.2.2.1 x.2.2.2.2) 8 (a0, a1, a2, a3, t)
theorem hd_X6_tell : x_hd yX6_tell 4 := by decide +kernel
set_option maxRecDepth 100000 in
set_option maxHeartbeats 4000000 in
theorem w_X6_tell_195 {l : Launch} {g : Ly} {p : Program} {e : Env} {s : State} {m : MethodId} {args : Array Value} {below : List Frame} {meth : Method} {c : Code} (N : Nat) (kR : Int32 × Int32 × Int32 × Int32 × Mm → Option (Mm)) (n : Nat) (hR : ∀ (x : Int32 × Int32 × Int32 × Int32 × Mm) (t' : Mm), kR x = some t' → MI l yX6_tell cX6_tell 10 none (3 + n) shC g [.ref (g.2.2 (3, 5, 0)), .int x.1, .int x.2.1, .int x.2.2.1, .int x.2.2.2.1] x.2.2.2.2 (XQv shC g t')) (X : XC p m meth c cX6_tell 10 s args (.code yX6_tell cX6_tell 10 none) RX6 none shC g) {t' : Mm} {k106 : Int32 × Int32 × Int32 × Int32 × Int32 × Int32 × Int32 × Int32 × Mm → Option (Mm)} (hk106 : ∀ x : Int32 × Int32 × Int32 × Int32 × Int32 × Int32 × Int32 × Int32 × Mm, k106 x = some t' → ∀ (H : Heap) (locs : List Loc) (ls : Array Slot), XP shC g x.2.2.2.2.2.2.2.2 H → va_S (XA shC g) s.heap H locs → lv_has ls 10 [(0, .ref (g.2.2 (3, 5, 0))), (1, .int x.1), (2, .int x.2.1), (3, .int x.2.2.1), (4, .int x.2.2.2.1), (6, .int x.2.2.2.2.1), (7, .int x.2.2.2.2.2.1), (8, .int x.2.2.2.2.2.2.1), (9, .int x.2.2.2.2.2.2.2.1)] → W p l e (rmv (3 + n + 1)) s m args below meth c H locs 0 0 (MQ below (XQv shC g t') args s 0 0 (XA shC g)) (F0 m 106 ls [])) (x1 : Int32) (x2 : Int32) (x3 : Int32) (x4 : Int32) (x6 : Int32) (x7 : Int32) (x8 : Int32) (x9 : Int32) (t : Mm) (H : Heap) (locs : List Loc) (ls : Array Slot) (hP : XP shC g t H) (hS : va_S (XA shC g) s.heap H locs) (hl : lv_has ls 10 [(0, .ref (g.2.2 (3, 5, 0))), (1, .int x1), (2, .int x2), (3, .int x3), (4, .int x4), (6, .int x6), (7, .int x7), (8, .int x8), (9, .int x9)]) (h : f_X6_tell_195 N kR k106 x1 x2 x3 x4 x6 x7 x8 x9 t = some t') : W p l e (rmv (3 + n + 1)) s m args below meth c H locs 0 0 (MQ below (XQv shC g t') args s 0 0 (XA shC g)) (F0 m 195 ls []) := by
  unfold f_X6_tell_195 at h
  refine lv_iinc (v := (x9 + 1)) (lv' := [(9, .int (x9 + 1)), (0, .ref (g.2.2 (3, 5, 0))), (1, .int x1), (2, .int x2), (3, .int x3), (4, .int x4), (6, .int x6), (7, .int x7), (8, .int x8)]) X.1.1 X.1.2.1 dX6_tell_195 hl (k := 8) rfl rfl (by decide) rfl (fun ls hl => ?_)
  refine lv_goto (tgt := 106) X.1.1 X.1.2.1 dX6_tell_198 (by decide) ?_
  exact hk106 (x1, x2, x3, x4, x6, x7, x8, (x9 + 1), t) h _ _ _ hP hS (lv_sub hl [1, 2, 3, 4, 5, 6, 7, 8, 0] rfl)
set_option maxRecDepth 100000 in
set_option maxHeartbeats 4000000 in
theorem wb_X6_tell_106 {l : Launch} {g : Ly} {p : Program} {e : Env} {s : State} {m : MethodId} {args : Array Value} {below : List Frame} {meth : Method} {c : Code} (N : Nat) (kR : Int32 × Int32 × Int32 × Int32 × Mm → Option (Mm)) (n : Nat) (hR : ∀ (x : Int32 × Int32 × Int32 × Int32 × Mm) (t' : Mm), kR x = some t' → MI l yX6_tell cX6_tell 10 none (3 + n) shC g [.ref (g.2.2 (3, 5, 0)), .int x.1, .int x.2.1, .int x.2.2.1, .int x.2.2.2.1] x.2.2.2.2 (XQv shC g t')) (X : XC p m meth c cX6_tell 10 s args (.code yX6_tell cX6_tell 10 none) RX6 none shC g) {t' : Mm} {k106 : Int32 × Int32 × Int32 × Int32 × Int32 × Int32 × Int32 × Int32 × Mm → Option (Mm)} (hk106 : ∀ x : Int32 × Int32 × Int32 × Int32 × Int32 × Int32 × Int32 × Int32 × Mm, k106 x = some t' → ∀ (H : Heap) (locs : List Loc) (ls : Array Slot), XP shC g x.2.2.2.2.2.2.2.2 H → va_S (XA shC g) s.heap H locs → lv_has ls 10 [(0, .ref (g.2.2 (3, 5, 0))), (1, .int x.1), (2, .int x.2.1), (3, .int x.2.2.1), (4, .int x.2.2.2.1), (6, .int x.2.2.2.2.1), (7, .int x.2.2.2.2.2.1), (8, .int x.2.2.2.2.2.2.1), (9, .int x.2.2.2.2.2.2.2.1)] → W p l e (rmv (3 + n + 1)) s m args below meth c H locs 0 0 (MQ below (XQv shC g t') args s 0 0 (XA shC g)) (F0 m 106 ls [])) (x1 : Int32) (x2 : Int32) (x3 : Int32) (x4 : Int32) (x6 : Int32) (x7 : Int32) (x8 : Int32) (x9 : Int32) (t : Mm) (H : Heap) (locs : List Loc) (ls : Array Slot) (hP : XP shC g t H) (hS : va_S (XA shC g) s.heap H locs) (hl : lv_has ls 10 [(0, .ref (g.2.2 (3, 5, 0))), (1, .int x1), (2, .int x2), (3, .int x3), (4, .int x4), (6, .int x6), (7, .int x7), (8, .int x8), (9, .int x9)]) (h : b_X6_tell_106 N kR k106 x1 x2 x3 x4 x6 x7 x8 x9 t = some t') : W p l e (rmv (3 + n + 1)) s m args below meth c H locs 0 0 (MQ below (XQv shC g t') args s 0 0 (XA shC g)) (F0 m 106 ls []) := by
  unfold b_X6_tell_106 at h
  refine lv_iload X.1.1 X.1.2.1 dX6_tell_106 (lv_at hl 8 rfl) ?_
  refine lv_aload_n X.1.1 X.1.2.1 dX6_tell_108 rfl (lv_at hl 0 rfl) ?_
  refine gt_X6_0 X hP (kyO (by decide)) wd_243 dX6_tell_109 ?_
  refine gtN_X0_0 X hP (kyF (by omega) (by decide)) wd_94 dX6_tell_112 ?_
  refine lv_icmp_ge (tgt := 201) X.1.1 X.1.2.1 dX6_tell_115 (by decide) (fun c_1 => ?_) (fun c_1 => ?_)
  · have h := o_pos c_1 h
    obtain rfl := o_ret h
    exact x_vret X hP hS dX6_tell_201
  · have h := o_neg c_1 h
    refine lv_iload_n X.1.1 X.1.2.1 dX6_tell_118 rfl (lv_at hl 2 rfl) ?_
    refine lv_iload X.1.1 X.1.2.1 dX6_tell_119 (lv_at hl 8 rfl) ?_
    obtain ⟨⟨r_4, t_2⟩, hc_3, h⟩ := o_bd_inv h
    refine x_calli (x_runSN (As := [.int x2, .int x9]) (rest := []) X hP hS (c_X7_isIn l g X.2.2.2.2.1 x2 x9 t hc_3) ⟨wd_349, wd_714, wd_348, wd_54⟩ hd_X7_isIn ⟨by omega, by decide⟩ rfl hl.1 rfl (Nat.le_of_ble_eq_true rfl) dX6_tell_121) hS (fun H locs hP hS => ?_)
    refine lv_if_ne (tgt := 195) X.1.1 X.1.2.1 dX6_tell_124 (by decide) (fun c_6 => ?_) (fun c_6 => ?_)
    · have h := o_neg c_6 h
      exact w_X6_tell_195 N kR n hR X hk106 x1 x2 x3 x4 x6 x7 x8 x9 t_2 _ _ _ hP hS (lv_sub hl [0, 1, 2, 3, 4, 5, 6, 7, 8] rfl) h
    · have h := o_pos c_6 h
      refine lv_aload_n X.1.1 X.1.2.1 dX6_tell_127 rfl (lv_at hl 0 rfl) ?_
      refine gt_X6_4 X hP (kyO (by decide)) wd_247 dX6_tell_128 ?_
      refine lv_iload X.1.1 X.1.2.1 dX6_tell_131 (lv_at hl 5 rfl) ?_
      refine lv_iload X.1.1 X.1.2.1 dX6_tell_133 (lv_at hl 6 rfl) ?_
      refine lv_aload_n X.1.1 X.1.2.1 dX6_tell_135 rfl (lv_at hl 0 rfl) ?_
      refine gt_X6_0 X hP (kyO (by decide)) wd_243 dX6_tell_136 ?_
      refine lv_iload X.1.1 X.1.2.1 dX6_tell_139 (lv_at hl 7 rfl) ?_
      refine lv_iload X.1.1 X.1.2.1 dX6_tell_141 (lv_at hl 5 rfl) ?_
      refine lv_iload X.1.1 X.1.2.1 dX6_tell_143 (lv_at hl 8 rfl) ?_
      refine lv_iload X.1.1 X.1.2.1 dX6_tell_145 (lv_at hl 6 rfl) ?_
      obtain ⟨⟨r_9, t_7⟩, hc_8, h⟩ := o_bd_inv h
      refine x_calli (x_runV (As := [.int x8, .int x6, .int x9, .int x7]) (rest := [.int x7, .int x6, .ref (g.2.2 (3, 7, 0))]) X hP hS (c_X0_hoursAmong l g 19 X.2.2.2.2.1 (by omega) x8 x6 x9 x7 t_2 hc_8) ⟨wd_379, wd_719, wd_377, wd_378, wd_56⟩ hd_X0_hoursAmong ⟨by omega, by decide⟩ (x_recv X hP (ci := 0) rfl (kyF (by omega) (by decide)) rfl) rfl hl.1 rfl (Nat.le_of_ble_eq_true rfl) dX6_tell_147) hS (fun H locs hP hS => ?_)
      refine lv_iadd X.1.1 X.1.2.1 dX6_tell_150 ?_
      obtain ⟨g_11, h⟩ := o_gd_inv h
      obtain ⟨t_12, e_13, h⟩ := o_nm_inv h
      refine x_iast X hP hS (kyO (by decide)) (fun _ _ => rfl) g_11 dX6_tell_151 (fun H locs hP hS => ?_)
      have hP : XP shC g t_12 H := by rw [e_13]; exact hP
      refine lv_aload_n X.1.1 X.1.2.1 dX6_tell_152 rfl (lv_at hl 0 rfl) ?_
      refine lv_iload_n X.1.1 X.1.2.1 dX6_tell_153 rfl (lv_at hl 1 rfl) ?_
      refine lv_iconst (v := 1) X.1.1 X.1.2.1 dX6_tell_154 (by decide) ?_
      refine lv_iadd X.1.1 X.1.2.1 dX6_tell_155 ?_
      refine lv_iload_n X.1.1 X.1.2.1 dX6_tell_156 rfl (lv_at hl 2 rfl) ?_
      refine lv_iconst (v := 1) X.1.1 X.1.2.1 dX6_tell_157 (by decide) ?_
      refine lv_iload X.1.1 X.1.2.1 dX6_tell_158 (lv_at hl 8 rfl) ?_
      refine lv_ishl X.1.1 X.1.2.1 dX6_tell_160 ?_
      refine lv_ior X.1.1 X.1.2.1 dX6_tell_161 ?_
      refine lv_iload_n X.1.1 X.1.2.1 dX6_tell_162 rfl (lv_at hl 3 rfl) ?_
      refine lv_aload_n X.1.1 X.1.2.1 dX6_tell_163 rfl (lv_at hl 0 rfl) ?_
      refine gt_X6_4 X hP (kyO (by decide)) wd_247 dX6_tell_164 ?_
      refine lv_iload X.1.1 X.1.2.1 dX6_tell_167 (lv_at hl 5 rfl) ?_
      obtain ⟨g_14, h⟩ := o_gd_inv h
      refine x_iald X hP (kyO (by decide)) (fun _ _ => rfl) g_14 dX6_tell_169 ?_
      refine x_max X ⟨wd_703, wd_384, wd_64, wd_385⟩ hl.1 (by omega) (Nat.le_of_ble_eq_true rfl) dX6_tell_170 ?_
      refine lv_iload X.1.1 X.1.2.1 dX6_tell_173 (lv_at hl 4 rfl) ?_
      refine lv_iload X.1.1 X.1.2.1 dX6_tell_175 (lv_at hl 8 rfl) ?_
      refine lv_iload X.1.1 X.1.2.1 dX6_tell_177 (lv_at hl 5 rfl) ?_
      obtain ⟨⟨r_17, t_15⟩, hc_16, h⟩ := o_bd_inv h
      refine x_calli (x_runS (As := [.int x6]) (rest := [.int x9, .int x4, .int (if x3 < (t_12.1 3 7 0 (x6.toNatClampNeg)) then (t_12.1 3 7 0 (x6.toNatClampNeg)) else x3), .int (x2 ||| (1 <<< (x9 &&& 31))), .int (x1 + 1), .ref (g.2.2 (3, 5, 0))]) X hP hS (c_X6_shiftOf l g X.2.2.2.2.1 x6 t_12 hc_16) ⟨wd_722, wd_720, wd_721, wd_60⟩ hd_X6_shiftOf ⟨by omega, by decide⟩ rfl hl.1 rfl (Nat.le_of_ble_eq_true rfl) dX6_tell_179) hS (fun H locs hP hS => ?_)
      refine lv_ishl X.1.1 X.1.2.1 dX6_tell_182 ?_
      refine lv_ior X.1.1 X.1.2.1 dX6_tell_183 ?_
      obtain ⟨t_19, hc_20, h⟩ := o_bd_inv h
      refine x_callv (x_runV (As := [.int (x1 + 1), .int (x2 ||| (1 <<< (x9 &&& 31))), .int (if x3 < (t_12.1 3 7 0 (x6.toNatClampNeg)) then (t_12.1 3 7 0 (x6.toNatClampNeg)) else x3), .int (x4 ||| (x9 <<< (r_17 &&& 31)))]) (rest := []) X hP hS (hR ((x1 + 1), (x2 ||| (1 <<< (x9 &&& 31))), (if x3 < (t_12.1 3 7 0 (x6.toNatClampNeg)) then (t_12.1 3 7 0 (x6.toNatClampNeg)) else x3), (x4 ||| (x9 <<< (r_17 &&& 31))), t_15) _ hc_20) ⟨wd_708, wd_705, wd_707, wd_18, wd_60⟩ hd_X6_tell ⟨by omega, by decide⟩ (x_recv X hP (ci := 6) rfl (kyO (by decide)) rfl) rfl hl.1 rfl (Nat.le_of_ble_eq_true rfl) dX6_tell_184) hS (fun H locs hP hS => ?_)
      refine lv_aload_n X.1.1 X.1.2.1 dX6_tell_187 rfl (lv_at hl 0 rfl) ?_
      refine gt_X6_4 X hP (kyO (by decide)) wd_247 dX6_tell_188 ?_
      refine lv_iload X.1.1 X.1.2.1 dX6_tell_191 (lv_at hl 5 rfl) ?_
      refine lv_iconst (v := 0) X.1.1 X.1.2.1 dX6_tell_193 (by decide) ?_
      obtain ⟨g_21, h⟩ := o_gd_inv h
      obtain ⟨t_22, e_23, h⟩ := o_nm_inv h
      refine x_iast X hP hS (kyO (by decide)) (fun _ _ => rfl) g_21 dX6_tell_194 (fun H locs hP hS => ?_)
      have hP : XP shC g t_22 H := by rw [e_23]; exact hP
      exact w_X6_tell_195 N kR n hR X hk106 x1 x2 x3 x4 x6 x7 x8 x9 t_22 _ _ _ hP hS (lv_sub hl [0, 1, 2, 3, 4, 5, 6, 7, 8] rfl) h
set_option maxRecDepth 100000 in
set_option maxHeartbeats 4000000 in
theorem w_X6_tell_106 {l : Launch} {g : Ly} {p : Program} {e : Env} {s : State} {m : MethodId} {args : Array Value} {below : List Frame} {meth : Method} {c : Code} (N : Nat) (kR : Int32 × Int32 × Int32 × Int32 × Mm → Option (Mm)) (n : Nat) (hR : ∀ (x : Int32 × Int32 × Int32 × Int32 × Mm) (t' : Mm), kR x = some t' → MI l yX6_tell cX6_tell 10 none (3 + n) shC g [.ref (g.2.2 (3, 5, 0)), .int x.1, .int x.2.1, .int x.2.2.1, .int x.2.2.2.1] x.2.2.2.2 (XQv shC g t')) (X : XC p m meth c cX6_tell 10 s args (.code yX6_tell cX6_tell 10 none) RX6 none shC g) {t' : Mm} (x1 : Int32) (x2 : Int32) (x3 : Int32) (x4 : Int32) (x6 : Int32) (x7 : Int32) (x8 : Int32) (x9 : Int32) (t : Mm) (H : Heap) (locs : List Loc) (ls : Array Slot) (hP : XP shC g t H) (hS : va_S (XA shC g) s.heap H locs) (hl : lv_has ls 10 [(0, .ref (g.2.2 (3, 5, 0))), (1, .int x1), (2, .int x2), (3, .int x3), (4, .int x4), (6, .int x6), (7, .int x7), (8, .int x8), (9, .int x9)]) (h : f_X6_tell_106 N kR x1 x2 x3 x4 x6 x7 x8 x9 t = some t') : W p l e (rmv (3 + n + 1)) s m args below meth c H locs 0 0 (MQ below (XQv shC g t') args s 0 0 (XA shC g)) (F0 m 106 ls []) :=
  o_lp_ind (P := fun x : Int32 × Int32 × Int32 × Int32 × Int32 × Int32 × Int32 × Int32 × Mm => ∀ (H : Heap) (locs : List Loc) (ls : Array Slot), XP shC g x.2.2.2.2.2.2.2.2 H → va_S (XA shC g) s.heap H locs → lv_has ls 10 [(0, .ref (g.2.2 (3, 5, 0))), (1, .int x.1), (2, .int x.2.1), (3, .int x.2.2.1), (4, .int x.2.2.2.1), (6, .int x.2.2.2.2.1), (7, .int x.2.2.2.2.2.1), (8, .int x.2.2.2.2.2.2.1), (9, .int x.2.2.2.2.2.2.2.1)] → W p l e (rmv (3 + n + 1)) s m args below meth c H locs 0 0 (MQ below (XQv shC g t') args s 0 0 (XA shC g)) (F0 m 106 ls [])) (fun k hk x h H locs ls hP hS hl => wb_X6_tell_106 N kR n hR X hk x.1 x.2.1 x.2.2.1 x.2.2.2.1 x.2.2.2.2.1 x.2.2.2.2.2.1 x.2.2.2.2.2.2.1 x.2.2.2.2.2.2.2.1 x.2.2.2.2.2.2.2.2 H locs ls hP hS hl h) N (x1, x2, x3, x4, x6, x7, x8, x9, t) h H locs ls hP hS hl
set_option maxRecDepth 100000 in
set_option maxHeartbeats 4000000 in
theorem w_X6_tell_39 {l : Launch} {g : Ly} {p : Program} {e : Env} {s : State} {m : MethodId} {args : Array Value} {below : List Frame} {meth : Method} {c : Code} (N : Nat) (kR : Int32 × Int32 × Int32 × Int32 × Mm → Option (Mm)) (n : Nat) (hR : ∀ (x : Int32 × Int32 × Int32 × Int32 × Mm) (t' : Mm), kR x = some t' → MI l yX6_tell cX6_tell 10 none (3 + n) shC g [.ref (g.2.2 (3, 5, 0)), .int x.1, .int x.2.1, .int x.2.2.1, .int x.2.2.2.1] x.2.2.2.2 (XQv shC g t')) (X : XC p m meth c cX6_tell 10 s args (.code yX6_tell cX6_tell 10 none) RX6 none shC g) {t' : Mm} (x4 : Int32) (x5 : Int32) (t : Mm) (H : Heap) (locs : List Loc) (ls : Array Slot) (hP : XP shC g t H) (hS : va_S (XA shC g) s.heap H locs) (hl : lv_has ls 10 [(0, .ref (g.2.2 (3, 5, 0))), (4, .int x4), (5, .int x5)]) (h : f_X6_tell_39 N kR x4 x5 t = some t') : W p l e (rmv (3 + n + 1)) s m args below meth c H locs 0 0 (MQ below (XQv shC g t') args s 0 0 (XA shC g)) (F0 m 39 ls []) := by
  unfold f_X6_tell_39 at h
  refine lv_aload_n X.1.1 X.1.2.1 dX6_tell_39 rfl (lv_at hl 0 rfl) ?_
  refine lv_iload X.1.1 X.1.2.1 dX6_tell_40 (lv_at hl 2 rfl) ?_
  refine lv_iload X.1.1 X.1.2.1 dX6_tell_42 (lv_at hl 1 rfl) ?_
  obtain ⟨t_24, hc_25, h⟩ := o_bd_inv h
  refine x_callv (x_runV (As := [.int x5, .int x4]) (rest := []) X hP hS (c_X6_keepIfBetter l g X.2.2.2.2.1 x5 x4 t hc_25) ⟨wd_713, wd_710, wd_712, wd_19, wd_60⟩ hd_X6_keepIfBetter ⟨by omega, by decide⟩ (x_recv X hP (ci := 6) rfl (kyO (by decide)) rfl) rfl hl.1 rfl (Nat.le_of_ble_eq_true rfl) dX6_tell_44) hS (fun H locs hP hS => ?_)
  obtain rfl := o_ret h
  exact x_vret X hP hS dX6_tell_47
set_option maxRecDepth 100000 in
set_option maxHeartbeats 4000000 in
theorem cb_X6_tell (l : Launch) (g : Ly) (N : Nat) (kR : Int32 × Int32 × Int32 × Int32 × Mm → Option (Mm)) (n : Nat) (hR : ∀ (x : Int32 × Int32 × Int32 × Int32 × Mm) (t' : Mm), kR x = some t' → MI l yX6_tell cX6_tell 10 none (3 + n) shC g [.ref (g.2.2 (3, 5, 0)), .int x.1, .int x.2.1, .int x.2.2.1, .int x.2.2.2.1] x.2.2.2.2 (XQv shC g t')) (hG : XG shC g) (a0 : Int32) (a1 : Int32) (a2 : Int32) (a3 : Int32) (t : Mm) {t' : Mm} (h : b_X6_tell N kR a0 a1 a2 a3 t = some t') : MI l yX6_tell cX6_tell 10 none (3 + n + 1) shC g [.ref (g.2.2 (3, 5, 0)), .int a0, .int a1, .int a2, .int a3] t (XQv shC g t') := by
  refine x_met hG (by decide +kernel) (Nat.le_of_ble_eq_true rfl) ?_
  intro p e s m below meth c ls X hP hl
  have hS : va_S (XA shC g) s.heap s.heap [] := va_S.rf
  have hl : lv_has ls 10 [(0, .ref (g.2.2 (3, 5, 0))), (1, .int a0), (2, .int a1), (3, .int a2), (4, .int a3)] := hl
  unfold b_X6_tell at h
  generalize ([.ref (g.2.2 (3, 5, 0)), .int a0, .int a1, .int a2, .int a3] : List Value).toArray = args at X ⊢
  refine lv_iload_n X.1.1 X.1.2.1 dX6_tell_0 rfl (lv_at hl 3 rfl) ?_
  refine lv_aload_n X.1.1 X.1.2.1 dX6_tell_1 rfl (lv_at hl 0 rfl) ?_
  refine gt_X6_0 X hP (kyO (by decide)) wd_243 dX6_tell_2 ?_
  refine gtN_X0_3 X hP (kyF (by omega) (by decide)) wd_106 dX6_tell_5 ?_
  refine lv_isub X.1.1 X.1.2.1 dX6_tell_8 ?_
  refine lv_bipush (v := 101) X.1.1 X.1.2.1 dX6_tell_9 (by decide) ?_
  refine x_min X ⟨wd_709, wd_381, wd_64, wd_382⟩ hl.1 (by omega) (Nat.le_of_ble_eq_true rfl) dX6_tell_11 ?_
  refine lv_topi (fun x_26 e_27 => ?_)
  have h := o_nm_to e_27 h
  refine lv_istore (lv' := [(5, .int x_26), (0, .ref (g.2.2 (3, 5, 0))), (1, .int a0), (2, .int a1), (3, .int a2), (4, .int a3)]) X.1.1 X.1.2.1 dX6_tell_14 hl (by decide) rfl (fun ls hl => ?_)
  refine lv_iload X.1.1 X.1.2.1 dX6_tell_16 (lv_at hl 0 rfl) ?_
  refine lv_aload_n X.1.1 X.1.2.1 dX6_tell_18 rfl (lv_at hl 1 rfl) ?_
  refine gt_X6_5 X hP (kyO (by decide)) wd_248 dX6_tell_19 ?_
  refine lv_icmp_le (tgt := 26) X.1.1 X.1.2.1 dX6_tell_22 (by decide) (fun c_28 => ?_) (fun c_28 => ?_)
  · have h := o_pos c_28 h
    refine lv_iload_n X.1.1 X.1.2.1 dX6_tell_26 rfl (lv_at hl 2 rfl) ?_
    refine lv_aload_n X.1.1 X.1.2.1 dX6_tell_27 rfl (lv_at hl 1 rfl) ?_
    refine gt_X6_2 X hP (kyO (by decide)) wd_245 dX6_tell_28 ?_
    refine lv_icmp_ge (tgt := 39) X.1.1 X.1.2.1 dX6_tell_31 (by decide) (fun c_29 => ?_) (fun c_29 => ?_)
    · have h := o_pos c_29 h
      exact w_X6_tell_39 N kR n hR X a3 x_26 t _ _ _ hP hS (lv_sub hl [1, 5, 0] rfl) h
    · have h := o_neg c_29 h
      refine lv_iload_n X.1.1 X.1.2.1 dX6_tell_34 rfl (lv_at hl 2 rfl) ?_
      refine lv_iconst (v := 5) X.1.1 X.1.2.1 dX6_tell_35 (by decide) ?_
      refine lv_icmp_lt (tgt := 48) X.1.1 X.1.2.1 dX6_tell_36 (by decide) (fun c_30 => ?_) (fun c_30 => ?_)
      · have h := o_pos c_30 h
        refine lv_aload_n X.1.1 X.1.2.1 dX6_tell_48 rfl (lv_at hl 1 rfl) ?_
        refine gt_X6_1 X hP (kyO (by decide)) wd_244 dX6_tell_49 ?_
        refine lv_iload_n X.1.1 X.1.2.1 dX6_tell_52 rfl (lv_at hl 2 rfl) ?_
        obtain ⟨g_31, h⟩ := o_gd_inv h
        refine x_iald X hP (kyO (by decide)) (fun _ _ => rfl) g_31 dX6_tell_53 ?_
        refine lv_topi (fun x_32 e_33 => ?_)
        have h := o_nm_to e_33 h
        refine lv_istore (lv' := [(6, .int x_32), (5, .int x_26), (0, .ref (g.2.2 (3, 5, 0))), (1, .int a0), (2, .int a1), (3, .int a2), (4, .int a3)]) X.1.1 X.1.2.1 dX6_tell_54 hl (by decide) rfl (fun ls hl => ?_)
        refine lv_aload_n X.1.1 X.1.2.1 dX6_tell_56 rfl (lv_at hl 2 rfl) ?_
        refine lv_iload X.1.1 X.1.2.1 dX6_tell_57 (lv_at hl 0 rfl) ?_
        obtain ⟨⟨r_36, t_34⟩, hc_35, h⟩ := o_bd_inv h
        refine x_calli (x_runV (As := [.int x_32]) (rest := []) X hP hS (c_X6_comingOf l g X.2.2.2.2.1 x_32 t hc_35) ⟨wd_702, wd_699, wd_701, wd_17, wd_60⟩ hd_X6_comingOf ⟨by omega, by decide⟩ (x_recv X hP (ci := 6) rfl (kyO (by decide)) rfl) rfl hl.1 rfl (Nat.le_of_ble_eq_true rfl) dX6_tell_59) hS (fun H locs hP hS => ?_)
        refine lv_istore (lv' := [(7, .int r_36), (6, .int x_32), (5, .int x_26), (0, .ref (g.2.2 (3, 5, 0))), (1, .int a0), (2, .int a1), (3, .int a2), (4, .int a3)]) X.1.1 X.1.2.1 dX6_tell_62 hl (by decide) rfl (fun ls hl => ?_)
        refine lv_aload_n X.1.1 X.1.2.1 dX6_tell_64 rfl (lv_at hl 3 rfl) ?_
        refine gt_X6_3 X hP (kyO (by decide)) wd_246 dX6_tell_65 ?_
        refine lv_iload X.1.1 X.1.2.1 dX6_tell_68 (lv_at hl 1 rfl) ?_
        obtain ⟨⟨r_40, t_38⟩, hc_39, h⟩ := o_bd_inv h
        refine x_calli (x_runSN (As := [.int (t_34.1 3 5 0 3), .int x_32]) (rest := []) X hP hS (c_X7_isIn l g X.2.2.2.2.1 (t_34.1 3 5 0 3) x_32 t_34 hc_39) ⟨wd_349, wd_714, wd_348, wd_54⟩ hd_X7_isIn ⟨by omega, by decide⟩ rfl hl.1 rfl (Nat.le_of_ble_eq_true rfl) dX6_tell_70) hS (fun H locs hP hS => ?_)
        refine lv_if_ne (tgt := 95) X.1.1 X.1.2.1 dX6_tell_73 (by decide) (fun c_42 => ?_) (fun c_42 => ?_)
        · have h := o_neg c_42 h
          refine lv_aload_n X.1.1 X.1.2.1 dX6_tell_95 rfl (lv_at hl 3 rfl) ?_
          refine lv_iload X.1.1 X.1.2.1 dX6_tell_96 (lv_at hl 0 rfl) ?_
          obtain ⟨⟨r_45, t_43⟩, hc_44, h⟩ := o_bd_inv h
          refine x_calli (x_runV (As := [.int r_36]) (rest := []) X hP hS (c_X6_howManyAreInAt l g N X.2.2.2.2.1 r_36 t_38 hc_44) ⟨wd_718, wd_715, wd_717, wd_20, wd_60⟩ hd_X6_howManyAreInAt ⟨by omega, by decide⟩ (x_recv X hP (ci := 6) rfl (kyO (by decide)) rfl) rfl hl.1 rfl (Nat.le_of_ble_eq_true rfl) dX6_tell_98) hS (fun H locs hP hS => ?_)
          refine lv_istore (lv' := [(8, .int r_45), (7, .int r_36), (6, .int x_32), (5, .int x_26), (0, .ref (g.2.2 (3, 5, 0))), (1, .int a0), (2, .int a1), (3, .int a2), (4, .int a3)]) X.1.1 X.1.2.1 dX6_tell_101 hl (by decide) rfl (fun ls hl => ?_)
          refine lv_iconst (v := 0) X.1.1 X.1.2.1 dX6_tell_103 (by decide) ?_
          refine lv_istore (lv' := [(9, .int 0), (8, .int r_45), (7, .int r_36), (6, .int x_32), (5, .int x_26), (0, .ref (g.2.2 (3, 5, 0))), (1, .int a0), (2, .int a1), (3, .int a2), (4, .int a3)]) X.1.1 X.1.2.1 dX6_tell_104 hl (by decide) rfl (fun ls hl => ?_)
          exact w_X6_tell_106 N kR n hR X a0 a1 a2 a3 x_32 r_36 r_45 0 t_43 _ _ _ hP hS (lv_sub hl [5, 6, 7, 8, 9, 3, 2, 1, 0] rfl) h
        · have h := o_pos c_42 h
          refine lv_aload_n X.1.1 X.1.2.1 dX6_tell_76 rfl (lv_at hl 3 rfl) ?_
          refine lv_iload_n X.1.1 X.1.2.1 dX6_tell_77 rfl (lv_at hl 4 rfl) ?_
          refine lv_iconst (v := 1) X.1.1 X.1.2.1 dX6_tell_78 (by decide) ?_
          refine lv_iadd X.1.1 X.1.2.1 dX6_tell_79 ?_
          refine lv_iload_n X.1.1 X.1.2.1 dX6_tell_80 rfl (lv_at hl 5 rfl) ?_
          refine lv_iload_n X.1.1 X.1.2.1 dX6_tell_81 rfl (lv_at hl 6 rfl) ?_
          refine lv_iload X.1.1 X.1.2.1 dX6_tell_82 (lv_at hl 0 rfl) ?_
          refine lv_iconst (v := 1) X.1.1 X.1.2.1 dX6_tell_84 (by decide) ?_
          refine lv_iadd X.1.1 X.1.2.1 dX6_tell_85 ?_
          refine x_max X ⟨wd_703, wd_384, wd_64, wd_385⟩ hl.1 (by omega) (Nat.le_of_ble_eq_true rfl) dX6_tell_86 ?_
          refine lv_iload X.1.1 X.1.2.1 dX6_tell_89 (lv_at hl 7 rfl) ?_
          obtain ⟨t_47, hc_48, h⟩ := o_bd_inv h
          refine x_callv (x_runV (As := [.int (a0 + 1), .int a1, .int (if a2 < (r_36 + 1) then (r_36 + 1) else a2), .int a3]) (rest := []) X hP hS (hR ((a0 + 1), a1, (if a2 < (r_36 + 1) then (r_36 + 1) else a2), a3, t_38) _ hc_48) ⟨wd_708, wd_705, wd_707, wd_18, wd_60⟩ hd_X6_tell ⟨by omega, by decide⟩ (x_recv X hP (ci := 6) rfl (kyO (by decide)) rfl) rfl hl.1 rfl (Nat.le_of_ble_eq_true rfl) dX6_tell_91) hS (fun H locs hP hS => ?_)
          obtain rfl := o_ret h
          exact x_vret X hP hS dX6_tell_94
      · have h := o_neg c_30 h
        exact w_X6_tell_39 N kR n hR X a3 x_26 t _ _ _ hP hS (lv_sub hl [1, 5, 0] rfl) h
  · have h := o_neg c_28 h
    obtain rfl := o_ret h
    exact x_vret X hP hS dX6_tell_25
theorem cn_X6_tell (l : Launch) (g : Ly) (N : Nat) (hG : XG shC g) : ∀ (n : Nat) (x : Int32 × Int32 × Int32 × Int32 × Mm) (t' : Mm), o_lp (fun k x => b_X6_tell N k x.1 x.2.1 x.2.2.1 x.2.2.2.1 x.2.2.2.2) n x = some t' → MI l yX6_tell cX6_tell 10 none (3 + n) shC g [.ref (g.2.2 (3, 5, 0)), .int x.1, .int x.2.1, .int x.2.2.1, .int x.2.2.2.1] x.2.2.2.2 (XQv shC g t')
  | 0, _, _, h => by cases h
  | n + 1, x, t', h => cb_X6_tell l g N _ n (cn_X6_tell l g N hG n) hG x.1 x.2.1 x.2.2.1 x.2.2.2.1 x.2.2.2.2 h
theorem c_X6_tell (l : Launch) (g : Ly) (N : Nat) (hG : XG shC g) (a0 : Int32) (a1 : Int32) (a2 : Int32) (a3 : Int32) (t : Mm) {t' : Mm} (h : f_X6_tell N a0 a1 a2 a3 t = some t') : MI l yX6_tell cX6_tell 10 none 11 shC g [.ref (g.2.2 (3, 5, 0)), .int a0, .int a1, .int a2, .int a3] t (XQv shC g t') := cn_X6_tell l g N hG 8 (a0, a1, a2, a3, t) t' h
def f_X6_seekBest_68 (N : Nat) (i0 : Nat) (k35 : Int32 × Int32 × Mm → Option (Mm)) (x2 : Int32) (x3 : Int32) (s1 : Int32) (s2 : Int32) (t : Mm) : Option (Mm) := if o_inb s1 5 = true then (o_nm (sI t 3 7 0 (s1.toNatClampNeg) s2) fun t_2 => if o_inb x3 5 = true then (o_nm ((if x2 < (t_2.1 3 7 0 (x3.toNatClampNeg)) then (t_2.1 3 7 0 (x3.toNatClampNeg)) else x2)) fun x_5 => k35 (x_5, (x3 + 1), t_2)) else none) else none
def b_X6_seekBest_35 (N : Nat) (i0 : Nat) (k35 : Int32 × Int32 × Mm → Option (Mm)) (x2 : Int32) (x3 : Int32) (t : Mm) : Option (Mm) := if (t.1 0 i0 0 1) ≤ x3 then (o_bd (f_X6_tell N 0 (t.1 0 i0 0 2) x2 0 t) fun t_8 => some t_8) else (if o_inb x3 5 = true then (if (t.1 0 i0 6 (x3.toNatClampNeg)) = 1 then (if o_inb x3 5 = true then (f_X6_seekBest_68 N i0 k35 x2 x3 x3 (t.1 0 i0 7 (x3.toNatClampNeg)) t) else none) else (f_X6_seekBest_68 N i0 k35 x2 x3 x3 0 t)) else none)
def f_X6_seekBest_35 (N : Nat) (i0 : Nat) (x2 : Int32) (x3 : Int32) (t : Mm) : Option (Mm) := o_lp (fun k x => b_X6_seekBest_35 N i0 k x.1 x.2.1 x.2.2) N (x2, x3, t)
/-- FordQuestions$Tellings.seekBest(LFordQuestions$Ford;)V -/
def f_X6_seekBest (N : Nat) (i0 : Nat) (t : Mm) : Option (Mm) := o_bd (f_X0_takeFrom 19 i0 t) fun t_13 => o_bd (f_X6_chooseWhoIsAsked N t_13) fun t_15 => o_bd (f_X6_orderComers N t_15) fun t_17 => o_nm (sI t_17 3 5 0 5 102) fun t_19 => o_nm (sI t_19 3 5 0 6 32768) fun t_21 => f_X6_seekBest_35 N i0 (t_21.1 0 i0 0 3) 0 t_21
theorem hd_X6_seekBest : x_hd yX6_seekBest 1 := by decide +kernel
set_option maxRecDepth 100000 in
set_option maxHeartbeats 4000000 in
theorem w_X6_seekBest_68 {l : Launch} {g : Ly} {p : Program} {e : Env} {s : State} {m : MethodId} {args : Array Value} {below : List Frame} {meth : Method} {c : Code} (N : Nat) (i0 : Nat) (hi0 : i0 < 21) (X : XC p m meth c cX6_seekBest 4 s args (.code yX6_seekBest cX6_seekBest 4 none) RX6 none shC g) {t' : Mm} {k35 : Int32 × Int32 × Mm → Option (Mm)} (hk35 : ∀ x : Int32 × Int32 × Mm, k35 x = some t' → ∀ (H : Heap) (locs : List Loc) (ls : Array Slot), XP shC g x.2.2 H → va_S (XA shC g) s.heap H locs → lv_has ls 4 [(0, .ref (g.2.2 (3, 5, 0))), (1, .ref (g.2.2 (0, i0, 0))), (2, .int x.1), (3, .int x.2.1)] → W p l e (rmv 12) s m args below meth c H locs 0 0 (MQ below (XQv shC g t') args s 0 0 (XA shC g)) (F0 m 35 ls [])) (x2 : Int32) (x3 : Int32) (s1 : Int32) (s2 : Int32) (t : Mm) (H : Heap) (locs : List Loc) (ls : Array Slot) (hP : XP shC g t H) (hS : va_S (XA shC g) s.heap H locs) (hl : lv_has ls 4 [(0, .ref (g.2.2 (3, 5, 0))), (1, .ref (g.2.2 (0, i0, 0))), (2, .int x2), (3, .int x3)]) (h : f_X6_seekBest_68 N i0 k35 x2 x3 s1 s2 t = some t') : W p l e (rmv 12) s m args below meth c H locs 0 0 (MQ below (XQv shC g t') args s 0 0 (XA shC g)) (F0 m 68 ls [.int s2, .int s1, .ref (g.2.2 (3, 7, 0))]) := by
  unfold f_X6_seekBest_68 at h
  obtain ⟨g_1, h⟩ := o_gd_inv h
  obtain ⟨t_2, e_3, h⟩ := o_nm_inv h
  refine x_iast X hP hS (kyO (by decide)) (fun _ _ => rfl) g_1 dX6_seekBest_68 (fun H locs hP hS => ?_)
  have hP : XP shC g t_2 H := by rw [e_3]; exact hP
  refine lv_iload_n X.1.1 X.1.2.1 dX6_seekBest_69 rfl (lv_at hl 2 rfl) ?_
  refine lv_aload_n X.1.1 X.1.2.1 dX6_seekBest_70 rfl (lv_at hl 0 rfl) ?_
  refine gt_X6_4 X hP (kyO (by decide)) wd_247 dX6_seekBest_71 ?_
  refine lv_iload_n X.1.1 X.1.2.1 dX6_seekBest_74 rfl (lv_at hl 3 rfl) ?_
  obtain ⟨g_4, h⟩ := o_gd_inv h
  refine x_iald X hP (kyO (by decide)) (fun _ _ => rfl) g_4 dX6_seekBest_75 ?_
  refine x_max X ⟨wd_703, wd_384, wd_64, wd_385⟩ hl.1 (by omega) (Nat.le_of_ble_eq_true rfl) dX6_seekBest_76 ?_
  refine lv_topi (fun x_5 e_6 => ?_)
  have h := o_nm_to e_6 h
  refine lv_istore_n (lv' := [(2, .int x_5), (0, .ref (g.2.2 (3, 5, 0))), (1, .ref (g.2.2 (0, i0, 0))), (3, .int x3)]) X.1.1 X.1.2.1 dX6_seekBest_79 rfl hl (by decide) rfl (fun ls hl => ?_)
  refine lv_iinc (v := (x3 + 1)) (lv' := [(3, .int (x3 + 1)), (2, .int x_5), (0, .ref (g.2.2 (3, 5, 0))), (1, .ref (g.2.2 (0, i0, 0)))]) X.1.1 X.1.2.1 dX6_seekBest_80 hl (k := 3) rfl rfl (by decide) rfl (fun ls hl => ?_)
  refine lv_goto (tgt := 35) X.1.1 X.1.2.1 dX6_seekBest_83 (by decide) ?_
  exact hk35 (x_5, (x3 + 1), t_2) h _ _ _ hP hS (lv_sub hl [2, 3, 1, 0] rfl)
set_option maxRecDepth 100000 in
set_option maxHeartbeats 4000000 in
theorem wb_X6_seekBest_35 {l : Launch} {g : Ly} {p : Program} {e : Env} {s : State} {m : MethodId} {args : Array Value} {below : List Frame} {meth : Method} {c : Code} (N : Nat) (i0 : Nat) (hi0 : i0 < 21) (X : XC p m meth c cX6_seekBest 4 s args (.code yX6_seekBest cX6_seekBest 4 none) RX6 none shC g) {t' : Mm} {k35 : Int32 × Int32 × Mm → Option (Mm)} (hk35 : ∀ x : Int32 × Int32 × Mm, k35 x = some t' → ∀ (H : Heap) (locs : List Loc) (ls : Array Slot), XP shC g x.2.2 H → va_S (XA shC g) s.heap H locs → lv_has ls 4 [(0, .ref (g.2.2 (3, 5, 0))), (1, .ref (g.2.2 (0, i0, 0))), (2, .int x.1), (3, .int x.2.1)] → W p l e (rmv 12) s m args below meth c H locs 0 0 (MQ below (XQv shC g t') args s 0 0 (XA shC g)) (F0 m 35 ls [])) (x2 : Int32) (x3 : Int32) (t : Mm) (H : Heap) (locs : List Loc) (ls : Array Slot) (hP : XP shC g t H) (hS : va_S (XA shC g) s.heap H locs) (hl : lv_has ls 4 [(0, .ref (g.2.2 (3, 5, 0))), (1, .ref (g.2.2 (0, i0, 0))), (2, .int x2), (3, .int x3)]) (h : b_X6_seekBest_35 N i0 k35 x2 x3 t = some t') : W p l e (rmv 12) s m args below meth c H locs 0 0 (MQ below (XQv shC g t') args s 0 0 (XA shC g)) (F0 m 35 ls []) := by
  unfold b_X6_seekBest_35 at h
  refine lv_iload_n X.1.1 X.1.2.1 dX6_seekBest_35 rfl (lv_at hl 3 rfl) ?_
  refine lv_aload_n X.1.1 X.1.2.1 dX6_seekBest_36 rfl (lv_at hl 1 rfl) ?_
  refine gtN_X0_1 X hP (kyF (by omega) (by decide)) wd_97 dX6_seekBest_37 ?_
  refine lv_icmp_ge (tgt := 86) X.1.1 X.1.2.1 dX6_seekBest_40 (by decide) (fun c_7 => ?_) (fun c_7 => ?_)
  · have h := o_pos c_7 h
    refine lv_aload_n X.1.1 X.1.2.1 dX6_seekBest_86 rfl (lv_at hl 0 rfl) ?_
    refine lv_iconst (v := 0) X.1.1 X.1.2.1 dX6_seekBest_87 (by decide) ?_
    refine lv_aload_n X.1.1 X.1.2.1 dX6_seekBest_88 rfl (lv_at hl 1 rfl) ?_
    refine gtN_X0_2 X hP (kyF (by omega) (by decide)) wd_101 dX6_seekBest_89 ?_
    refine lv_iload_n X.1.1 X.1.2.1 dX6_seekBest_92 rfl (lv_at hl 2 rfl) ?_
    refine lv_iconst (v := 0) X.1.1 X.1.2.1 dX6_seekBest_93 (by decide) ?_
    obtain ⟨t_8, hc_9, h⟩ := o_bd_inv h
    refine x_callv (x_runV (As := [.int 0, .int (t.1 0 i0 0 2), .int x2, .int 0]) (rest := []) X hP hS (c_X6_tell l g N X.2.2.2.2.1 0 (t.1 0 i0 0 2) x2 0 t hc_9) ⟨wd_708, wd_705, wd_707, wd_18, wd_60⟩ hd_X6_tell ⟨by omega, by decide⟩ (x_recv X hP (ci := 6) rfl (kyO (by decide)) rfl) rfl hl.1 rfl (Nat.le_of_ble_eq_true rfl) dX6_seekBest_94) hS (fun H locs hP hS => ?_)
    obtain rfl := o_ret h
    exact x_vret X hP hS dX6_seekBest_97
  · have h := o_neg c_7 h
    refine lv_aload_n X.1.1 X.1.2.1 dX6_seekBest_43 rfl (lv_at hl 0 rfl) ?_
    refine gt_X6_4 X hP (kyO (by decide)) wd_247 dX6_seekBest_44 ?_
    refine lv_iload_n X.1.1 X.1.2.1 dX6_seekBest_47 rfl (lv_at hl 3 rfl) ?_
    refine lv_aload_n X.1.1 X.1.2.1 dX6_seekBest_48 rfl (lv_at hl 1 rfl) ?_
    refine gtN_X0_10 X hP (kyF (by omega) (by decide)) wd_126 dX6_seekBest_49 ?_
    refine lv_iload_n X.1.1 X.1.2.1 dX6_seekBest_52 rfl (lv_at hl 3 rfl) ?_
    obtain ⟨g_10, h⟩ := o_gd_inv h
    refine x_iald X hP (kyF (by omega) (by decide)) (fun _ _ => rfl) g_10 dX6_seekBest_53 ?_
    refine lv_iconst (v := 1) X.1.1 X.1.2.1 dX6_seekBest_54 (by decide) ?_
    refine lv_icmp_ne (tgt := 67) X.1.1 X.1.2.1 dX6_seekBest_55 (by decide) (fun c_11 => ?_) (fun c_11 => ?_)
    · have h := o_neg c_11 h
      refine lv_iconst (v := 0) X.1.1 X.1.2.1 dX6_seekBest_67 (by decide) ?_
      exact w_X6_seekBest_68 N i0 (by omega) X hk35 x2 x3 x3 0 t _ _ _ hP hS (lv_sub hl [0, 1, 2, 3] rfl) h
    · have h := o_pos c_11 h
      refine lv_aload_n X.1.1 X.1.2.1 dX6_seekBest_58 rfl (lv_at hl 1 rfl) ?_
      refine gtN_X0_11 X hP (kyF (by omega) (by decide)) wd_130 dX6_seekBest_59 ?_
      refine lv_iload_n X.1.1 X.1.2.1 dX6_seekBest_62 rfl (lv_at hl 3 rfl) ?_
      obtain ⟨g_12, h⟩ := o_gd_inv h
      refine x_iald X hP (kyF (by omega) (by decide)) (fun _ _ => rfl) g_12 dX6_seekBest_63 ?_
      refine lv_goto (tgt := 68) X.1.1 X.1.2.1 dX6_seekBest_64 (by decide) ?_
      exact w_X6_seekBest_68 N i0 (by omega) X hk35 x2 x3 x3 (t.1 0 i0 7 (x3.toNatClampNeg)) t _ _ _ hP hS (lv_sub hl [0, 1, 2, 3] rfl) h
set_option maxRecDepth 100000 in
set_option maxHeartbeats 4000000 in
theorem w_X6_seekBest_35 {l : Launch} {g : Ly} {p : Program} {e : Env} {s : State} {m : MethodId} {args : Array Value} {below : List Frame} {meth : Method} {c : Code} (N : Nat) (i0 : Nat) (hi0 : i0 < 21) (X : XC p m meth c cX6_seekBest 4 s args (.code yX6_seekBest cX6_seekBest 4 none) RX6 none shC g) {t' : Mm} (x2 : Int32) (x3 : Int32) (t : Mm) (H : Heap) (locs : List Loc) (ls : Array Slot) (hP : XP shC g t H) (hS : va_S (XA shC g) s.heap H locs) (hl : lv_has ls 4 [(0, .ref (g.2.2 (3, 5, 0))), (1, .ref (g.2.2 (0, i0, 0))), (2, .int x2), (3, .int x3)]) (h : f_X6_seekBest_35 N i0 x2 x3 t = some t') : W p l e (rmv 12) s m args below meth c H locs 0 0 (MQ below (XQv shC g t') args s 0 0 (XA shC g)) (F0 m 35 ls []) :=
  o_lp_ind (P := fun x : Int32 × Int32 × Mm => ∀ (H : Heap) (locs : List Loc) (ls : Array Slot), XP shC g x.2.2 H → va_S (XA shC g) s.heap H locs → lv_has ls 4 [(0, .ref (g.2.2 (3, 5, 0))), (1, .ref (g.2.2 (0, i0, 0))), (2, .int x.1), (3, .int x.2.1)] → W p l e (rmv 12) s m args below meth c H locs 0 0 (MQ below (XQv shC g t') args s 0 0 (XA shC g)) (F0 m 35 ls [])) (fun k hk x h H locs ls hP hS hl => wb_X6_seekBest_35 N i0 hi0 X hk x.1 x.2.1 x.2.2 H locs ls hP hS hl h) N (x2, x3, t) h H locs ls hP hS hl
set_option maxRecDepth 100000 in
set_option maxHeartbeats 4000000 in
theorem c_X6_seekBest (l : Launch) (g : Ly) (N : Nat) (i0 : Nat) (hG : XG shC g) (hi0 : i0 < 21) (t : Mm) {t' : Mm} (h : f_X6_seekBest N i0 t = some t') : MI l yX6_seekBest cX6_seekBest 4 none 12 shC g [.ref (g.2.2 (3, 5, 0)), .ref (g.2.2 (0, i0, 0))] t (XQv shC g t') := by
  refine x_met hG (by decide +kernel) (Nat.le_of_ble_eq_true rfl) ?_
  intro p e s m below meth c ls X hP hl
  have hS : va_S (XA shC g) s.heap s.heap [] := va_S.rf
  have hl : lv_has ls 4 [(0, .ref (g.2.2 (3, 5, 0))), (1, .ref (g.2.2 (0, i0, 0)))] := hl
  unfold f_X6_seekBest at h
  generalize ([.ref (g.2.2 (3, 5, 0)), .ref (g.2.2 (0, i0, 0))] : List Value).toArray = args at X ⊢
  refine lv_aload_n X.1.1 X.1.2.1 dX6_seekBest_0 rfl (lv_at hl 0 rfl) ?_
  refine gt_X6_0 X hP (kyO (by decide)) wd_243 dX6_seekBest_1 ?_
  refine lv_aload_n X.1.1 X.1.2.1 dX6_seekBest_4 rfl (lv_at hl 1 rfl) ?_
  obtain ⟨t_13, hc_14, h⟩ := o_bd_inv h
  refine x_callv (x_runV (As := [.ref (g.2.2 (0, i0, 0))]) (rest := []) X hP hS (c_X0_takeFrom l g 19 i0 X.2.2.2.2.1 (by omega) (by omega) t hc_14) ⟨wd_543, wd_681, wd_541, wd_542, wd_56⟩ hd_X0_takeFrom ⟨by omega, by decide⟩ (x_recv X hP (ci := 0) rfl (kyF (by omega) (by decide)) rfl) rfl hl.1 rfl (Nat.le_of_ble_eq_true rfl) dX6_seekBest_5) hS (fun H locs hP hS => ?_)
  refine lv_aload_n X.1.1 X.1.2.1 dX6_seekBest_8 rfl (lv_at hl 0 rfl) ?_
  obtain ⟨t_15, hc_16, h⟩ := o_bd_inv h
  refine x_callv (x_runV (As := []) (rest := []) X hP hS (c_X6_chooseWhoIsAsked l g N X.2.2.2.2.1 t_13 hc_16) ⟨wd_685, wd_682, wd_684, wd_13, wd_60⟩ hd_X6_chooseWhoIsAsked ⟨by omega, by decide⟩ (x_recv X hP (ci := 6) rfl (kyO (by decide)) rfl) rfl hl.1 rfl (Nat.le_of_ble_eq_true rfl) dX6_seekBest_9) hS (fun H locs hP hS => ?_)
  refine lv_aload_n X.1.1 X.1.2.1 dX6_seekBest_12 rfl (lv_at hl 0 rfl) ?_
  obtain ⟨t_17, hc_18, h⟩ := o_bd_inv h
  refine x_callv (x_runV (As := []) (rest := []) X hP hS (c_X6_orderComers l g N X.2.2.2.2.1 t_15 hc_18) ⟨wd_694, wd_691, wd_693, wd_15, wd_60⟩ hd_X6_orderComers ⟨by omega, by decide⟩ (x_recv X hP (ci := 6) rfl (kyO (by decide)) rfl) rfl hl.1 rfl (Nat.le_of_ble_eq_true rfl) dX6_seekBest_13) hS (fun H locs hP hS => ?_)
  refine lv_aload_n X.1.1 X.1.2.1 dX6_seekBest_16 rfl (lv_at hl 0 rfl) ?_
  refine lv_bipush (v := 102) X.1.1 X.1.2.1 dX6_seekBest_17 (by decide) ?_
  obtain ⟨t_19, e_20, h⟩ := o_nm_inv h
  refine pt_X6_5 (x := 102) X hP hS (kyO (by decide)) wd_248 dX6_seekBest_19 (fun H locs hP hS => ?_)
  have hP : XP shC g t_19 H := by rw [e_20]; exact hP
  refine lv_aload_n X.1.1 X.1.2.1 dX6_seekBest_22 rfl (lv_at hl 0 rfl) ?_
  refine lv_ldc (v := 32768) X.1.1 X.1.2.1 X.1.2.2.2.1 (X.1.2.2.2.2 _ (List.mem_cons_of_mem _ wd_704)) dX6_seekBest_23 ?_
  obtain ⟨t_21, e_22, h⟩ := o_nm_inv h
  refine pt_X6_6 (x := 32768) X hP hS (kyO (by decide)) wd_250 dX6_seekBest_25 (fun H locs hP hS => ?_)
  have hP : XP shC g t_21 H := by rw [e_22]; exact hP
  refine lv_aload_n X.1.1 X.1.2.1 dX6_seekBest_28 rfl (lv_at hl 1 rfl) ?_
  refine gtN_X0_3 X hP (kyF (by omega) (by decide)) wd_106 dX6_seekBest_29 ?_
  refine lv_istore_n (lv' := [(2, .int (t_21.1 0 i0 0 3)), (0, .ref (g.2.2 (3, 5, 0))), (1, .ref (g.2.2 (0, i0, 0)))]) X.1.1 X.1.2.1 dX6_seekBest_32 rfl hl (by decide) rfl (fun ls hl => ?_)
  refine lv_iconst (v := 0) X.1.1 X.1.2.1 dX6_seekBest_33 (by decide) ?_
  refine lv_istore_n (lv' := [(3, .int 0), (2, .int (t_21.1 0 i0 0 3)), (0, .ref (g.2.2 (3, 5, 0))), (1, .ref (g.2.2 (0, i0, 0)))]) X.1.1 X.1.2.1 dX6_seekBest_34 rfl hl (by decide) rfl (fun ls hl => ?_)
  exact w_X6_seekBest_35 N i0 (by omega) X (t_21.1 0 i0 0 3) 0 t_21 _ _ _ hP hS (lv_sub hl [2, 3, 1, 0] rfl) h
/-- FordQuestions$Tellings.toldTo(I)I -/
def f_X6_toldTo (a0 : Int32) (t : Mm) : Option (Int32 × Mm) := o_bd (f_X7_isIn (t.1 3 5 0 3) a0 t) fun (r_3, t_1) => if r_3 = 0 then (some ((-4), t_1)) else (o_bd (f_X6_shiftOf a0 t_1) fun (r_8, t_6) => some ((((t_1.1 3 5 0 6) >>> (r_8 &&& 31)) &&& 7), t_6))
theorem hd_X6_toldTo : x_hd yX6_toldTo 1 := by decide +kernel
set_option maxRecDepth 100000 in
set_option maxHeartbeats 4000000 in
theorem c_X6_toldTo (l : Launch) (g : Ly) (hG : XG shC g) (a0 : Int32) (t : Mm) {r : Int32} {t' : Mm} (h : f_X6_toldTo a0 t = some (r, t')) : MI l yX6_toldTo cX6_toldTo 2 (some .int) 2 shC g [.ref (g.2.2 (3, 5, 0)), .int a0] t (XQi shC g r t') := by
  refine x_met hG (by decide +kernel) (Nat.le_of_ble_eq_true rfl) ?_
  intro p e s m below meth c ls X hP hl
  have hS : va_S (XA shC g) s.heap s.heap [] := va_S.rf
  have hl : lv_has ls 2 [(0, .ref (g.2.2 (3, 5, 0))), (1, .int a0)] := hl
  unfold f_X6_toldTo at h
  generalize ([.ref (g.2.2 (3, 5, 0)), .int a0] : List Value).toArray = args at X ⊢
  refine lv_aload_n X.1.1 X.1.2.1 dX6_toldTo_0 rfl (lv_at hl 0 rfl) ?_
  refine gt_X6_3 X hP (kyO (by decide)) wd_246 dX6_toldTo_1 ?_
  refine lv_iload_n X.1.1 X.1.2.1 dX6_toldTo_4 rfl (lv_at hl 1 rfl) ?_
  obtain ⟨⟨r_3, t_1⟩, hc_2, h⟩ := o_bd_inv h
  refine x_calli (x_runSN (As := [.int (t.1 3 5 0 3), .int a0]) (rest := []) X hP hS (c_X7_isIn l g X.2.2.2.2.1 (t.1 3 5 0 3) a0 t hc_2) ⟨wd_349, wd_714, wd_348, wd_54⟩ hd_X7_isIn ⟨by omega, by decide⟩ rfl hl.1 rfl (Nat.le_of_ble_eq_true rfl) dX6_toldTo_5) hS (fun H locs hP hS => ?_)
  refine lv_if_eq (tgt := 26) X.1.1 X.1.2.1 dX6_toldTo_8 (by decide) (fun c_5 => ?_) (fun c_5 => ?_)
  · have h := o_pos c_5 h
    refine lv_bipush (v := (-4)) X.1.1 X.1.2.1 dX6_toldTo_26 (by decide) ?_
    obtain ⟨rfl, rfl⟩ := o_ret2 h
    exact x_iret X hP hS dX6_toldTo_28
  · have h := o_neg c_5 h
    refine lv_aload_n X.1.1 X.1.2.1 dX6_toldTo_11 rfl (lv_at hl 0 rfl) ?_
    refine gt_X6_6 X hP (kyO (by decide)) wd_250 dX6_toldTo_12 ?_
    refine lv_iload_n X.1.1 X.1.2.1 dX6_toldTo_15 rfl (lv_at hl 1 rfl) ?_
    obtain ⟨⟨r_8, t_6⟩, hc_7, h⟩ := o_bd_inv h
    refine x_calli (x_runS (As := [.int a0]) (rest := [.int (t_1.1 3 5 0 6)]) X hP hS (c_X6_shiftOf l g X.2.2.2.2.1 a0 t_1 hc_7) ⟨wd_722, wd_720, wd_721, wd_60⟩ hd_X6_shiftOf ⟨by omega, by decide⟩ rfl hl.1 rfl (Nat.le_of_ble_eq_true rfl) dX6_toldTo_16) hS (fun H locs hP hS => ?_)
    refine lv_ishr X.1.1 X.1.2.1 dX6_toldTo_19 ?_
    refine lv_bipush (v := 7) X.1.1 X.1.2.1 dX6_toldTo_20 (by decide) ?_
    refine lv_iand X.1.1 X.1.2.1 dX6_toldTo_22 ?_
    refine lv_goto (tgt := 28) X.1.1 X.1.2.1 dX6_toldTo_23 (by decide) ?_
    obtain ⟨rfl, rfl⟩ := o_ret2 h
    exact x_iret X hP hS dX6_toldTo_28
