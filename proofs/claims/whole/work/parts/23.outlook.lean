/-- FordQuestions$Outlook.startFrom(LFordQuestions$Ford;)V -/
def f_X1_startFrom (i0 : Nat) (t : Mm) : Option (Mm) := o_bd (f_X0_takeFrom 18 i0 t) fun t_1 => some t_1
theorem hd_X1_startFrom : x_hd yX1_startFrom 1 := by decide +kernel
set_option maxRecDepth 100000 in
set_option maxHeartbeats 4000000 in
theorem c_X1_startFrom (l : Launch) (g : Ly) (i0 : Nat) (hG : XG shC g) (hi0 : i0 < 21) (t : Mm) {t' : Mm} (h : f_X1_startFrom i0 t = some t') : MI l yX1_startFrom cX1_startFrom 2 none 2 shC g [.ref (g.2.2 (3, 4, 0)), .ref (g.2.2 (0, i0, 0))] t (XQv shC g t') := by
  refine x_met hG (by decide +kernel) (Nat.le_of_ble_eq_true rfl) ?_
  intro p e s m below meth c ls X hP hl
  have hS : va_S (XA shC g) s.heap s.heap [] := va_S.rf
  have hl : lv_has ls 2 [(0, .ref (g.2.2 (3, 4, 0))), (1, .ref (g.2.2 (0, i0, 0)))] := hl
  unfold f_X1_startFrom at h
  generalize ([.ref (g.2.2 (3, 4, 0)), .ref (g.2.2 (0, i0, 0))] : List Value).toArray = args at X ⊢
  refine lv_aload_n X.1.1 X.1.2.1 dX1_startFrom_0 rfl (lv_at hl 0 rfl) ?_
  refine gt_X1_0 X hP (kyO (by decide)) wd_219 dX1_startFrom_1 ?_
  refine lv_aload_n X.1.1 X.1.2.1 dX1_startFrom_4 rfl (lv_at hl 1 rfl) ?_
  obtain ⟨t_1, hc_2, h⟩ := o_bd_inv h
  refine x_callv (x_runV (As := [.ref (g.2.2 (0, i0, 0))]) (rest := []) X hP hS (c_X0_takeFrom l g 18 i0 X.2.2.2.2.1 (by omega) (by omega) t hc_2) ⟨wd_543, wd_637, wd_541, wd_542, wd_56⟩ hd_X0_takeFrom ⟨by omega, by decide⟩ (x_recv X hP (ci := 0) rfl (kyF (by omega) (by decide)) rfl) rfl hl.1 rfl (Nat.le_of_ble_eq_true rfl) dX1_startFrom_5) hS (fun H locs hP hS => ?_)
  obtain rfl := o_ret h
  exact x_vret X hP hS dX1_startFrom_8
def b_X1_behind_7 (N : Nat) (i0 : Nat) (k7 : Int32 × Int32 × Mm → Option (Mm)) (x2 : Int32) (x3 : Int32) (t : Mm) : Option (Mm) := if x2 ≤ x3 then (some t) else (o_bd (f_X0_passHour N 18 t) fun t_2 => k7 (x2, (x3 + 1), t_2))
def f_X1_behind_7 (N : Nat) (i0 : Nat) (x2 : Int32) (x3 : Int32) (t : Mm) : Option (Mm) := o_lp (fun k x => b_X1_behind_7 N i0 k x.1 x.2.1 x.2.2) N (x2, x3, t)
/-- FordQuestions$Outlook.behind(LFordQuestions$Ford;I)LFordQuestions$Ford; -/
def f_X1_behind (N : Nat) (i0 : Nat) (a1 : Int32) (t : Mm) : Option (Mm) := o_bd (f_X1_startFrom i0 t) fun t_4 => f_X1_behind_7 N i0 a1 0 t_4
theorem hd_X1_behind : x_hd yX1_behind 2 := by decide +kernel
set_option maxRecDepth 100000 in
set_option maxHeartbeats 4000000 in
theorem wb_X1_behind_7 {l : Launch} {g : Ly} {p : Program} {e : Env} {s : State} {m : MethodId} {args : Array Value} {below : List Frame} {meth : Method} {c : Code} (N : Nat) (i0 : Nat) (hi0 : i0 < 21) (X : XC p m meth c cX1_behind 4 s args (.code yX1_behind cX1_behind 4 (some (.object "FordQuestions$Ford"))) RX1 (some (.object "FordQuestions$Ford")) shC g) {t' : Mm} {k7 : Int32 × Int32 × Mm → Option (Mm)} (hk7 : ∀ x : Int32 × Int32 × Mm, k7 x = some t' → ∀ (H : Heap) (locs : List Loc) (ls : Array Slot), XP shC g x.2.2 H → va_S (XA shC g) s.heap H locs → lv_has ls 4 [(0, .ref (g.2.2 (3, 4, 0))), (2, .int x.1), (3, .int x.2.1)] → W p l e (rmv 6) s m args below meth c H locs 0 0 (MQ below (XQr shC g (g.2.2 (0, 18, 0)) t') args s 0 0 (XA shC g)) (F0 m 7 ls [])) (x2 : Int32) (x3 : Int32) (t : Mm) (H : Heap) (locs : List Loc) (ls : Array Slot) (hP : XP shC g t H) (hS : va_S (XA shC g) s.heap H locs) (hl : lv_has ls 4 [(0, .ref (g.2.2 (3, 4, 0))), (2, .int x2), (3, .int x3)]) (h : b_X1_behind_7 N i0 k7 x2 x3 t = some t') : W p l e (rmv 6) s m args below meth c H locs 0 0 (MQ below (XQr shC g (g.2.2 (0, 18, 0)) t') args s 0 0 (XA shC g)) (F0 m 7 ls []) := by
  unfold b_X1_behind_7 at h
  refine lv_iload_n X.1.1 X.1.2.1 dX1_behind_7 rfl (lv_at hl 2 rfl) ?_
  refine lv_iload_n X.1.1 X.1.2.1 dX1_behind_8 rfl (lv_at hl 1 rfl) ?_
  refine lv_icmp_ge (tgt := 25) X.1.1 X.1.2.1 dX1_behind_9 (by decide) (fun c_1 => ?_) (fun c_1 => ?_)
  · have h := o_pos c_1 h
    refine lv_aload_n X.1.1 X.1.2.1 dX1_behind_25 rfl (lv_at hl 0 rfl) ?_
    refine gt_X1_0 X hP (kyO (by decide)) wd_219 dX1_behind_26 ?_
    obtain rfl := o_ret h
    exact x_aret X hP hS dX1_behind_29
  · have h := o_neg c_1 h
    refine lv_aload_n X.1.1 X.1.2.1 dX1_behind_12 rfl (lv_at hl 0 rfl) ?_
    refine gt_X1_0 X hP (kyO (by decide)) wd_219 dX1_behind_13 ?_
    obtain ⟨t_2, hc_3, h⟩ := o_bd_inv h
    refine x_callv (x_runV (As := []) (rest := []) X hP hS (c_X0_passHour l g N 18 X.2.2.2.2.1 (by omega) t hc_3) ⟨wd_581, wd_638, wd_579, wd_580, wd_56⟩ hd_X0_passHour ⟨by omega, by decide⟩ (x_recv X hP (ci := 0) rfl (kyF (by omega) (by decide)) rfl) rfl hl.1 rfl (Nat.le_of_ble_eq_true rfl) dX1_behind_16) hS (fun H locs hP hS => ?_)
    refine lv_iinc (v := (x3 + 1)) (lv' := [(3, .int (x3 + 1)), (0, .ref (g.2.2 (3, 4, 0))), (2, .int x2)]) X.1.1 X.1.2.1 dX1_behind_19 hl (k := 2) rfl rfl (by decide) rfl (fun ls hl => ?_)
    refine lv_goto (tgt := 7) X.1.1 X.1.2.1 dX1_behind_22 (by decide) ?_
    exact hk7 (x2, (x3 + 1), t_2) h _ _ _ hP hS (lv_sub hl [1, 2, 0] rfl)
set_option maxRecDepth 100000 in
set_option maxHeartbeats 4000000 in
theorem w_X1_behind_7 {l : Launch} {g : Ly} {p : Program} {e : Env} {s : State} {m : MethodId} {args : Array Value} {below : List Frame} {meth : Method} {c : Code} (N : Nat) (i0 : Nat) (hi0 : i0 < 21) (X : XC p m meth c cX1_behind 4 s args (.code yX1_behind cX1_behind 4 (some (.object "FordQuestions$Ford"))) RX1 (some (.object "FordQuestions$Ford")) shC g) {t' : Mm} (x2 : Int32) (x3 : Int32) (t : Mm) (H : Heap) (locs : List Loc) (ls : Array Slot) (hP : XP shC g t H) (hS : va_S (XA shC g) s.heap H locs) (hl : lv_has ls 4 [(0, .ref (g.2.2 (3, 4, 0))), (2, .int x2), (3, .int x3)]) (h : f_X1_behind_7 N i0 x2 x3 t = some t') : W p l e (rmv 6) s m args below meth c H locs 0 0 (MQ below (XQr shC g (g.2.2 (0, 18, 0)) t') args s 0 0 (XA shC g)) (F0 m 7 ls []) :=
  o_lp_ind (P := fun x : Int32 × Int32 × Mm => ∀ (H : Heap) (locs : List Loc) (ls : Array Slot), XP shC g x.2.2 H → va_S (XA shC g) s.heap H locs → lv_has ls 4 [(0, .ref (g.2.2 (3, 4, 0))), (2, .int x.1), (3, .int x.2.1)] → W p l e (rmv 6) s m args below meth c H locs 0 0 (MQ below (XQr shC g (g.2.2 (0, 18, 0)) t') args s 0 0 (XA shC g)) (F0 m 7 ls [])) (fun k hk x h H locs ls hP hS hl => wb_X1_behind_7 N i0 hi0 X hk x.1 x.2.1 x.2.2 H locs ls hP hS hl h) N (x2, x3, t) h H locs ls hP hS hl
set_option maxRecDepth 100000 in
set_option maxHeartbeats 4000000 in
theorem c_X1_behind (l : Launch) (g : Ly) (N : Nat) (i0 : Nat) (hG : XG shC g) (hi0 : i0 < 21) (a1 : Int32) (t : Mm) {t' : Mm} (h : f_X1_behind N i0 a1 t = some t') : MI l yX1_behind cX1_behind 4 (some (.object "FordQuestions$Ford")) 6 shC g [.ref (g.2.2 (3, 4, 0)), .ref (g.2.2 (0, i0, 0)), .int a1] t (XQr shC g (g.2.2 (0, 18, 0)) t') := by
  refine x_met hG (by decide +kernel) (Nat.le_of_ble_eq_true rfl) ?_
  intro p e s m below meth c ls X hP hl
  have hS : va_S (XA shC g) s.heap s.heap [] := va_S.rf
  have hl : lv_has ls 4 [(0, .ref (g.2.2 (3, 4, 0))), (1, .ref (g.2.2 (0, i0, 0))), (2, .int a1)] := hl
  unfold f_X1_behind at h
  generalize ([.ref (g.2.2 (3, 4, 0)), .ref (g.2.2 (0, i0, 0)), .int a1] : List Value).toArray = args at X ⊢
  refine lv_aload_n X.1.1 X.1.2.1 dX1_behind_0 rfl (lv_at hl 0 rfl) ?_
  refine lv_aload_n X.1.1 X.1.2.1 dX1_behind_1 rfl (lv_at hl 1 rfl) ?_
  obtain ⟨t_4, hc_5, h⟩ := o_bd_inv h
  refine x_callv (x_runV (As := [.ref (g.2.2 (0, i0, 0))]) (rest := []) X hP hS (c_X1_startFrom l g i0 X.2.2.2.2.1 (by omega) t hc_5) ⟨wd_636, wd_633, wd_634, wd_635, wd_59⟩ hd_X1_startFrom ⟨by omega, by decide⟩ (x_recv X hP (ci := 1) rfl (kyO (by decide)) rfl) rfl hl.1 rfl (Nat.le_of_ble_eq_true rfl) dX1_behind_2) hS (fun H locs hP hS => ?_)
  refine lv_iconst (v := 0) X.1.1 X.1.2.1 dX1_behind_5 (by decide) ?_
  refine lv_istore_n (lv' := [(3, .int 0), (0, .ref (g.2.2 (3, 4, 0))), (1, .ref (g.2.2 (0, i0, 0))), (2, .int a1)]) X.1.1 X.1.2.1 dX1_behind_6 rfl hl (by decide) rfl (fun ls hl => ?_)
  exact w_X1_behind_7 N i0 (by omega) X a1 0 t_4 _ _ _ hP hS (lv_sub hl [1, 3, 0] rfl) h
def b_X1_hoursTillOver_2 (N : Nat) (k2 : Int32 × Int32 × Mm → Option (Int32 × Mm)) (x1 : Int32) (x2 : Int32) (t : Mm) : Option (Int32 × Mm) := if 100 < x2 then (some (101, t)) else (o_bd (f_X0_thoseWho N 18 2 t) fun (r_4, t_2) => if (x1 &&& (r_4 ^^^ (-1))) = 0 then (some (x2, t_2)) else (o_bd (f_X0_passHour N 18 t_2) fun t_7 => k2 (x1, (x2 + 1), t_7)))
def f_X1_hoursTillOver_2 (N : Nat) (x1 : Int32) (x2 : Int32) (t : Mm) : Option (Int32 × Mm) := o_lp (fun k x => b_X1_hoursTillOver_2 N k x.1 x.2.1 x.2.2) N (x1, x2, t)
/-- FordQuestions$Outlook.hoursTillOver(I)I -/
def f_X1_hoursTillOver (N : Nat) (a0 : Int32) (t : Mm) : Option (Int32 × Mm) := f_X1_hoursTillOver_2 N a0 0 t
theorem hd_X1_hoursTillOver : x_hd yX1_hoursTillOver 1 := by decide +kernel
set_option maxRecDepth 100000 in
set_option maxHeartbeats 4000000 in
theorem wb_X1_hoursTillOver_2 {l : Launch} {g : Ly} {p : Program} {e : Env} {s : State} {m : MethodId} {args : Array Value} {below : List Frame} {meth : Method} {c : Code} (N : Nat) (X : XC p m meth c cX1_hoursTillOver 3 s args (.code yX1_hoursTillOver cX1_hoursTillOver 3 (some .int)) RX1 (some .int) shC g) {r : Int32} {t' : Mm} {k2 : Int32 × Int32 × Mm → Option (Int32 × Mm)} (hk2 : ∀ x : Int32 × Int32 × Mm, k2 x = some (r, t') → ∀ (H : Heap) (locs : List Loc) (ls : Array Slot), XP shC g x.2.2 H → va_S (XA shC g) s.heap H locs → lv_has ls 3 [(0, .ref (g.2.2 (3, 4, 0))), (1, .int x.1), (2, .int x.2.1)] → W p l e (rmv 6) s m args below meth c H locs 0 0 (MQ below (XQi shC g r t') args s 0 0 (XA shC g)) (F0 m 2 ls [])) (x1 : Int32) (x2 : Int32) (t : Mm) (H : Heap) (locs : List Loc) (ls : Array Slot) (hP : XP shC g t H) (hS : va_S (XA shC g) s.heap H locs) (hl : lv_has ls 3 [(0, .ref (g.2.2 (3, 4, 0))), (1, .int x1), (2, .int x2)]) (h : b_X1_hoursTillOver_2 N k2 x1 x2 t = some (r, t')) : W p l e (rmv 6) s m args below meth c H locs 0 0 (MQ below (XQi shC g r t') args s 0 0 (XA shC g)) (F0 m 2 ls []) := by
  unfold b_X1_hoursTillOver_2 at h
  refine lv_iload_n X.1.1 X.1.2.1 dX1_hoursTillOver_2 rfl (lv_at hl 2 rfl) ?_
  refine lv_bipush (v := 100) X.1.1 X.1.2.1 dX1_hoursTillOver_3 (by decide) ?_
  refine lv_icmp_gt (tgt := 38) X.1.1 X.1.2.1 dX1_hoursTillOver_5 (by decide) (fun c_1 => ?_) (fun c_1 => ?_)
  · have h := o_pos c_1 h
    refine lv_bipush (v := 101) X.1.1 X.1.2.1 dX1_hoursTillOver_38 (by decide) ?_
    obtain ⟨rfl, rfl⟩ := o_ret2 h
    exact x_iret X hP hS dX1_hoursTillOver_40
  · have h := o_neg c_1 h
    refine lv_iload_n X.1.1 X.1.2.1 dX1_hoursTillOver_8 rfl (lv_at hl 1 rfl) ?_
    refine lv_aload_n X.1.1 X.1.2.1 dX1_hoursTillOver_9 rfl (lv_at hl 0 rfl) ?_
    refine gt_X1_0 X hP (kyO (by decide)) wd_219 dX1_hoursTillOver_10 ?_
    refine lv_iconst (v := 2) X.1.1 X.1.2.1 dX1_hoursTillOver_13 (by decide) ?_
    obtain ⟨⟨r_4, t_2⟩, hc_3, h⟩ := o_bd_inv h
    refine x_calli (x_runV (As := [.int 2]) (rest := [.int x1]) X hP hS (c_X0_thoseWho l g N 18 X.2.2.2.2.1 (by omega) 2 t hc_3) ⟨wd_369, wd_648, wd_367, wd_368, wd_56⟩ hd_X0_thoseWho ⟨by omega, by decide⟩ (x_recv X hP (ci := 0) rfl (kyF (by omega) (by decide)) rfl) rfl hl.1 rfl (Nat.le_of_ble_eq_true rfl) dX1_hoursTillOver_14) hS (fun H locs hP hS => ?_)
    refine lv_iconst (v := (-1)) X.1.1 X.1.2.1 dX1_hoursTillOver_17 (by decide) ?_
    refine lv_ixor X.1.1 X.1.2.1 dX1_hoursTillOver_18 ?_
    refine lv_iand X.1.1 X.1.2.1 dX1_hoursTillOver_19 ?_
    refine lv_if_ne (tgt := 25) X.1.1 X.1.2.1 dX1_hoursTillOver_20 (by decide) (fun c_6 => ?_) (fun c_6 => ?_)
    · have h := o_neg c_6 h
      refine lv_aload_n X.1.1 X.1.2.1 dX1_hoursTillOver_25 rfl (lv_at hl 0 rfl) ?_
      refine gt_X1_0 X hP (kyO (by decide)) wd_219 dX1_hoursTillOver_26 ?_
      obtain ⟨t_7, hc_8, h⟩ := o_bd_inv h
      refine x_callv (x_runV (As := []) (rest := []) X hP hS (c_X0_passHour l g N 18 X.2.2.2.2.1 (by omega) t_2 hc_8) ⟨wd_581, wd_638, wd_579, wd_580, wd_56⟩ hd_X0_passHour ⟨by omega, by decide⟩ (x_recv X hP (ci := 0) rfl (kyF (by omega) (by decide)) rfl) rfl hl.1 rfl (Nat.le_of_ble_eq_true rfl) dX1_hoursTillOver_29) hS (fun H locs hP hS => ?_)
      refine lv_iinc (v := (x2 + 1)) (lv' := [(2, .int (x2 + 1)), (0, .ref (g.2.2 (3, 4, 0))), (1, .int x1)]) X.1.1 X.1.2.1 dX1_hoursTillOver_32 hl (k := 2) rfl rfl (by decide) rfl (fun ls hl => ?_)
      refine lv_goto (tgt := 2) X.1.1 X.1.2.1 dX1_hoursTillOver_35 (by decide) ?_
      exact hk2 (x1, (x2 + 1), t_7) h _ _ _ hP hS (lv_sub hl [1, 2, 0] rfl)
    · have h := o_pos c_6 h
      refine lv_iload_n X.1.1 X.1.2.1 dX1_hoursTillOver_23 rfl (lv_at hl 2 rfl) ?_
      obtain ⟨rfl, rfl⟩ := o_ret2 h
      exact x_iret X hP hS dX1_hoursTillOver_24
set_option maxRecDepth 100000 in
set_option maxHeartbeats 4000000 in
theorem w_X1_hoursTillOver_2 {l : Launch} {g : Ly} {p : Program} {e : Env} {s : State} {m : MethodId} {args : Array Value} {below : List Frame} {meth : Method} {c : Code} (N : Nat) (X : XC p m meth c cX1_hoursTillOver 3 s args (.code yX1_hoursTillOver cX1_hoursTillOver 3 (some .int)) RX1 (some .int) shC g) {r : Int32} {t' : Mm} (x1 : Int32) (x2 : Int32) (t : Mm) (H : Heap) (locs : List Loc) (ls : Array Slot) (hP : XP shC g t H) (hS : va_S (XA shC g) s.heap H locs) (hl : lv_has ls 3 [(0, .ref (g.2.2 (3, 4, 0))), (1, .int x1), (2, .int x2)]) (h : f_X1_hoursTillOver_2 N x1 x2 t = some (r, t')) : W p l e (rmv 6) s m args below meth c H locs 0 0 (MQ below (XQi shC g r t') args s 0 0 (XA shC g)) (F0 m 2 ls []) :=
  o_lp_ind (P := fun x : Int32 × Int32 × Mm => ∀ (H : Heap) (locs : List Loc) (ls : Array Slot), XP shC g x.2.2 H → va_S (XA shC g) s.heap H locs → lv_has ls 3 [(0, .ref (g.2.2 (3, 4, 0))), (1, .int x.1), (2, .int x.2.1)] → W p l e (rmv 6) s m args below meth c H locs 0 0 (MQ below (XQi shC g r t') args s 0 0 (XA shC g)) (F0 m 2 ls [])) (fun k hk x h H locs ls hP hS hl => wb_X1_hoursTillOver_2 N X hk x.1 x.2.1 x.2.2 H locs ls hP hS hl h) N (x1, x2, t) h H locs ls hP hS hl
set_option maxRecDepth 100000 in
set_option maxHeartbeats 4000000 in
theorem c_X1_hoursTillOver (l : Launch) (g : Ly) (N : Nat) (hG : XG shC g) (a0 : Int32) (t : Mm) {r : Int32} {t' : Mm} (h : f_X1_hoursTillOver N a0 t = some (r, t')) : MI l yX1_hoursTillOver cX1_hoursTillOver 3 (some .int) 6 shC g [.ref (g.2.2 (3, 4, 0)), .int a0] t (XQi shC g r t') := by
  refine x_met hG (by decide +kernel) (Nat.le_of_ble_eq_true rfl) ?_
  intro p e s m below meth c ls X hP hl
  have hS : va_S (XA shC g) s.heap s.heap [] := va_S.rf
  have hl : lv_has ls 3 [(0, .ref (g.2.2 (3, 4, 0))), (1, .int a0)] := hl
  unfold f_X1_hoursTillOver at h
  generalize ([.ref (g.2.2 (3, 4, 0)), .int a0] : List Value).toArray = args at X ⊢
  refine lv_iconst (v := 0) X.1.1 X.1.2.1 dX1_hoursTillOver_0 (by decide) ?_
  refine lv_istore_n (lv' := [(2, .int 0), (0, .ref (g.2.2 (3, 4, 0))), (1, .int a0)]) X.1.1 X.1.2.1 dX1_hoursTillOver_1 rfl hl (by decide) rfl (fun ls hl => ?_)
  exact w_X1_hoursTillOver_2 N X a0 0 t _ _ _ hP hS (lv_sub hl [1, 2, 0] rfl) h
/-- FordQuestions$Outlook.howManyIn()I -/
def f_X1_howManyIn (N : Nat) (t : Mm) : Option (Int32 × Mm) := o_bd (f_X0_thoseWho N 18 1 t) fun (r_3, t_1) => o_bd (f_J6_bitCount_0f7a4 r_3 t_1) fun (r_7, t_5) => some (r_7, t_5)
theorem hd_X1_howManyIn : x_hd yX1_howManyIn 0 := by decide +kernel
set_option maxRecDepth 100000 in
set_option maxHeartbeats 4000000 in
theorem c_X1_howManyIn (l : Launch) (g : Ly) (N : Nat) (hG : XG shC g) (t : Mm) {r : Int32} {t' : Mm} (h : f_X1_howManyIn N t = some (r, t')) : MI l yX1_howManyIn cX1_howManyIn 1 (some .int) 2 shC g [.ref (g.2.2 (3, 4, 0))] t (XQi shC g r t') := by
  refine x_met hG (by decide +kernel) (Nat.le_of_ble_eq_true rfl) ?_
  intro p e s m below meth c ls X hP hl
  have hS : va_S (XA shC g) s.heap s.heap [] := va_S.rf
  have hl : lv_has ls 1 [(0, .ref (g.2.2 (3, 4, 0)))] := hl
  unfold f_X1_howManyIn at h
  generalize ([.ref (g.2.2 (3, 4, 0))] : List Value).toArray = args at X ⊢
  refine lv_aload_n X.1.1 X.1.2.1 dX1_howManyIn_0 rfl (lv_at hl 0 rfl) ?_
  refine gt_X1_0 X hP (kyO (by decide)) wd_219 dX1_howManyIn_1 ?_
  refine lv_iconst (v := 1) X.1.1 X.1.2.1 dX1_howManyIn_4 (by decide) ?_
  obtain ⟨⟨r_3, t_1⟩, hc_2, h⟩ := o_bd_inv h
  refine x_calli (x_runV (As := [.int 1]) (rest := []) X hP hS (c_X0_thoseWho l g N 18 X.2.2.2.2.1 (by omega) 1 t hc_2) ⟨wd_369, wd_648, wd_367, wd_368, wd_56⟩ hd_X0_thoseWho ⟨by omega, by decide⟩ (x_recv X hP (ci := 0) rfl (kyF (by omega) (by decide)) rfl) rfl hl.1 rfl (Nat.le_of_ble_eq_true rfl) dX1_howManyIn_5) hS (fun H locs hP hS => ?_)
  obtain ⟨⟨r_7, t_5⟩, hc_6, h⟩ := o_bd_inv h
  refine x_calli (x_runS (As := [.int r_3]) (rest := []) X hP hS (c_J6_bitCount_0f7a4 l g X.2.2.2.2.1 r_3 t_1 hc_6) ⟨wd_372, wd_672, wd_371, wd_63⟩ hd_J6_bitCount_0f7a4 ⟨by omega, by decide⟩ rfl hl.1 rfl (Nat.le_of_ble_eq_true rfl) dX1_howManyIn_8) hS (fun H locs hP hS => ?_)
  obtain ⟨rfl, rfl⟩ := o_ret2 h
  exact x_iret X hP hS dX1_howManyIn_11
def f_X1_seekMost_57 (N : Nat) (i0 : Nat) (k20 : Int32 × Mm → Option (Mm)) (x2 : Int32) (t : Mm) : Option (Mm) := k20 ((x2 + 1), t)
def b_X1_seekMost_20 (N : Nat) (i0 : Nat) (k20 : Int32 × Mm → Option (Mm)) (x2 : Int32) (t : Mm) : Option (Mm) := if 100 < x2 then (some t) else (o_bd (f_X0_passHour N 18 t) fun t_2 => o_bd (f_X1_howManyIn N t_2) fun (r_6, t_4) => if r_6 ≤ (t_4.1 3 4 0 1) then (f_X1_seekMost_57 N i0 k20 x2 t_4) else (o_bd (f_X1_howManyIn N t_4) fun (r_11, t_9) => o_nm (sI t_9 3 4 0 1 r_11) fun t_13 => o_nm (sI t_13 3 4 0 2 x2) fun t_15 => f_X1_seekMost_57 N i0 k20 x2 t_15))
def f_X1_seekMost_20 (N : Nat) (i0 : Nat) (x2 : Int32) (t : Mm) : Option (Mm) := o_lp (fun k x => b_X1_seekMost_20 N i0 k x.1 x.2) N (x2, t)
/-- FordQuestions$Outlook.seekMost(LFordQuestions$Ford;)V -/
def f_X1_seekMost (N : Nat) (i0 : Nat) (t : Mm) : Option (Mm) := o_bd (f_X1_startFrom i0 t) fun t_17 => o_bd (f_X1_howManyIn N t_17) fun (r_21, t_19) => o_nm (sI t_19 3 4 0 1 r_21) fun t_23 => o_nm (sI t_23 3 4 0 2 0) fun t_25 => f_X1_seekMost_20 N i0 1 t_25
theorem hd_X1_seekMost : x_hd yX1_seekMost 1 := by decide +kernel
set_option maxRecDepth 100000 in
set_option maxHeartbeats 4000000 in
theorem w_X1_seekMost_57 {l : Launch} {g : Ly} {p : Program} {e : Env} {s : State} {m : MethodId} {args : Array Value} {below : List Frame} {meth : Method} {c : Code} (N : Nat) (i0 : Nat) (hi0 : i0 < 21) (X : XC p m meth c cX1_seekMost 3 s args (.code yX1_seekMost cX1_seekMost 3 none) RX1 none shC g) {t' : Mm} {k20 : Int32 × Mm → Option (Mm)} (hk20 : ∀ x : Int32 × Mm, k20 x = some t' → ∀ (H : Heap) (locs : List Loc) (ls : Array Slot), XP shC g x.2 H → va_S (XA shC g) s.heap H locs → lv_has ls 3 [(0, .ref (g.2.2 (3, 4, 0))), (2, .int x.1)] → W p l e (rmv 6) s m args below meth c H locs 0 0 (MQ below (XQv shC g t') args s 0 0 (XA shC g)) (F0 m 20 ls [])) (x2 : Int32) (t : Mm) (H : Heap) (locs : List Loc) (ls : Array Slot) (hP : XP shC g t H) (hS : va_S (XA shC g) s.heap H locs) (hl : lv_has ls 3 [(0, .ref (g.2.2 (3, 4, 0))), (2, .int x2)]) (h : f_X1_seekMost_57 N i0 k20 x2 t = some t') : W p l e (rmv 6) s m args below meth c H locs 0 0 (MQ below (XQv shC g t') args s 0 0 (XA shC g)) (F0 m 57 ls []) := by
  unfold f_X1_seekMost_57 at h
  refine lv_iinc (v := (x2 + 1)) (lv' := [(2, .int (x2 + 1)), (0, .ref (g.2.2 (3, 4, 0)))]) X.1.1 X.1.2.1 dX1_seekMost_57 hl (k := 1) rfl rfl (by decide) rfl (fun ls hl => ?_)
  refine lv_goto (tgt := 20) X.1.1 X.1.2.1 dX1_seekMost_60 (by decide) ?_
  exact hk20 ((x2 + 1), t) h _ _ _ hP hS (lv_sub hl [1, 0] rfl)
set_option maxRecDepth 100000 in
set_option maxHeartbeats 4000000 in
theorem wb_X1_seekMost_20 {l : Launch} {g : Ly} {p : Program} {e : Env} {s : State} {m : MethodId} {args : Array Value} {below : List Frame} {meth : Method} {c : Code} (N : Nat) (i0 : Nat) (hi0 : i0 < 21) (X : XC p m meth c cX1_seekMost 3 s args (.code yX1_seekMost cX1_seekMost 3 none) RX1 none shC g) {t' : Mm} {k20 : Int32 × Mm → Option (Mm)} (hk20 : ∀ x : Int32 × Mm, k20 x = some t' → ∀ (H : Heap) (locs : List Loc) (ls : Array Slot), XP shC g x.2 H → va_S (XA shC g) s.heap H locs → lv_has ls 3 [(0, .ref (g.2.2 (3, 4, 0))), (2, .int x.1)] → W p l e (rmv 6) s m args below meth c H locs 0 0 (MQ below (XQv shC g t') args s 0 0 (XA shC g)) (F0 m 20 ls [])) (x2 : Int32) (t : Mm) (H : Heap) (locs : List Loc) (ls : Array Slot) (hP : XP shC g t H) (hS : va_S (XA shC g) s.heap H locs) (hl : lv_has ls 3 [(0, .ref (g.2.2 (3, 4, 0))), (2, .int x2)]) (h : b_X1_seekMost_20 N i0 k20 x2 t = some t') : W p l e (rmv 6) s m args below meth c H locs 0 0 (MQ below (XQv shC g t') args s 0 0 (XA shC g)) (F0 m 20 ls []) := by
  unfold b_X1_seekMost_20 at h
  refine lv_iload_n X.1.1 X.1.2.1 dX1_seekMost_20 rfl (lv_at hl 1 rfl) ?_
  refine lv_bipush (v := 100) X.1.1 X.1.2.1 dX1_seekMost_21 (by decide) ?_
  refine lv_icmp_gt (tgt := 63) X.1.1 X.1.2.1 dX1_seekMost_23 (by decide) (fun c_1 => ?_) (fun c_1 => ?_)
  · have h := o_pos c_1 h
    obtain rfl := o_ret h
    exact x_vret X hP hS dX1_seekMost_63
  · have h := o_neg c_1 h
    refine lv_aload_n X.1.1 X.1.2.1 dX1_seekMost_26 rfl (lv_at hl 0 rfl) ?_
    refine gt_X1_0 X hP (kyO (by decide)) wd_219 dX1_seekMost_27 ?_
    obtain ⟨t_2, hc_3, h⟩ := o_bd_inv h
    refine x_callv (x_runV (As := []) (rest := []) X hP hS (c_X0_passHour l g N 18 X.2.2.2.2.1 (by omega) t hc_3) ⟨wd_581, wd_638, wd_579, wd_580, wd_56⟩ hd_X0_passHour ⟨by omega, by decide⟩ (x_recv X hP (ci := 0) rfl (kyF (by omega) (by decide)) rfl) rfl hl.1 rfl (Nat.le_of_ble_eq_true rfl) dX1_seekMost_30) hS (fun H locs hP hS => ?_)
    refine lv_aload_n X.1.1 X.1.2.1 dX1_seekMost_33 rfl (lv_at hl 0 rfl) ?_
    obtain ⟨⟨r_6, t_4⟩, hc_5, h⟩ := o_bd_inv h
    refine x_calli (x_runV (As := []) (rest := []) X hP hS (c_X1_howManyIn l g N X.2.2.2.2.1 t_2 hc_5) ⟨wd_671, wd_668, wd_670, wd_12, wd_59⟩ hd_X1_howManyIn ⟨by omega, by decide⟩ (x_recv X hP (ci := 1) rfl (kyO (by decide)) rfl) rfl hl.1 rfl (Nat.le_of_ble_eq_true rfl) dX1_seekMost_34) hS (fun H locs hP hS => ?_)
    refine lv_aload_n X.1.1 X.1.2.1 dX1_seekMost_37 rfl (lv_at hl 0 rfl) ?_
    refine gt_X1_1 X hP (kyO (by decide)) wd_220 dX1_seekMost_38 ?_
    refine lv_icmp_le (tgt := 57) X.1.1 X.1.2.1 dX1_seekMost_41 (by decide) (fun c_8 => ?_) (fun c_8 => ?_)
    · have h := o_pos c_8 h
      exact w_X1_seekMost_57 N i0 (by omega) X hk20 x2 t_4 _ _ _ hP hS (lv_sub hl [0, 1] rfl) h
    · have h := o_neg c_8 h
      refine lv_aload_n X.1.1 X.1.2.1 dX1_seekMost_44 rfl (lv_at hl 0 rfl) ?_
      refine lv_aload_n X.1.1 X.1.2.1 dX1_seekMost_45 rfl (lv_at hl 0 rfl) ?_
      obtain ⟨⟨r_11, t_9⟩, hc_10, h⟩ := o_bd_inv h
      refine x_calli (x_runV (As := []) (rest := [.ref (g.2.2 (3, 4, 0))]) X hP hS (c_X1_howManyIn l g N X.2.2.2.2.1 t_4 hc_10) ⟨wd_671, wd_668, wd_670, wd_12, wd_59⟩ hd_X1_howManyIn ⟨by omega, by decide⟩ (x_recv X hP (ci := 1) rfl (kyO (by decide)) rfl) rfl hl.1 rfl (Nat.le_of_ble_eq_true rfl) dX1_seekMost_46) hS (fun H locs hP hS => ?_)
      obtain ⟨t_13, e_14, h⟩ := o_nm_inv h
      refine pt_X1_1 (x := r_11) X hP hS (kyO (by decide)) wd_220 dX1_seekMost_49 (fun H locs hP hS => ?_)
      have hP : XP shC g t_13 H := by rw [e_14]; exact hP
      refine lv_aload_n X.1.1 X.1.2.1 dX1_seekMost_52 rfl (lv_at hl 0 rfl) ?_
      refine lv_iload_n X.1.1 X.1.2.1 dX1_seekMost_53 rfl (lv_at hl 1 rfl) ?_
      obtain ⟨t_15, e_16, h⟩ := o_nm_inv h
      refine pt_X1_2 (x := x2) X hP hS (kyO (by decide)) wd_222 dX1_seekMost_54 (fun H locs hP hS => ?_)
      have hP : XP shC g t_15 H := by rw [e_16]; exact hP
      exact w_X1_seekMost_57 N i0 (by omega) X hk20 x2 t_15 _ _ _ hP hS (lv_sub hl [0, 1] rfl) h
set_option maxRecDepth 100000 in
set_option maxHeartbeats 4000000 in
theorem w_X1_seekMost_20 {l : Launch} {g : Ly} {p : Program} {e : Env} {s : State} {m : MethodId} {args : Array Value} {below : List Frame} {meth : Method} {c : Code} (N : Nat) (i0 : Nat) (hi0 : i0 < 21) (X : XC p m meth c cX1_seekMost 3 s args (.code yX1_seekMost cX1_seekMost 3 none) RX1 none shC g) {t' : Mm} (x2 : Int32) (t : Mm) (H : Heap) (locs : List Loc) (ls : Array Slot) (hP : XP shC g t H) (hS : va_S (XA shC g) s.heap H locs) (hl : lv_has ls 3 [(0, .ref (g.2.2 (3, 4, 0))), (2, .int x2)]) (h : f_X1_seekMost_20 N i0 x2 t = some t') : W p l e (rmv 6) s m args below meth c H locs 0 0 (MQ below (XQv shC g t') args s 0 0 (XA shC g)) (F0 m 20 ls []) :=
  o_lp_ind (P := fun x : Int32 × Mm => ∀ (H : Heap) (locs : List Loc) (ls : Array Slot), XP shC g x.2 H → va_S (XA shC g) s.heap H locs → lv_has ls 3 [(0, .ref (g.2.2 (3, 4, 0))), (2, .int x.1)] → W p l e (rmv 6) s m args below meth c H locs 0 0 (MQ below (XQv shC g t') args s 0 0 (XA shC g)) (F0 m 20 ls [])) (fun k hk x h H locs ls hP hS hl => wb_X1_seekMost_20 N i0 hi0 X hk x.1 x.2 H locs ls hP hS hl h) N (x2, t) h H locs ls hP hS hl
set_option maxRecDepth 100000 in
set_option maxHeartbeats 4000000 in
theorem c_X1_seekMost (l : Launch) (g : Ly) (N : Nat) (i0 : Nat) (hG : XG shC g) (hi0 : i0 < 21) (t : Mm) {t' : Mm} (h : f_X1_seekMost N i0 t = some t') : MI l yX1_seekMost cX1_seekMost 3 none 6 shC g [.ref (g.2.2 (3, 4, 0)), .ref (g.2.2 (0, i0, 0))] t (XQv shC g t') := by
  refine x_met hG (by decide +kernel) (Nat.le_of_ble_eq_true rfl) ?_
  intro p e s m below meth c ls X hP hl
  have hS : va_S (XA shC g) s.heap s.heap [] := va_S.rf
  have hl : lv_has ls 3 [(0, .ref (g.2.2 (3, 4, 0))), (1, .ref (g.2.2 (0, i0, 0)))] := hl
  unfold f_X1_seekMost at h
  generalize ([.ref (g.2.2 (3, 4, 0)), .ref (g.2.2 (0, i0, 0))] : List Value).toArray = args at X ⊢
  refine lv_aload_n X.1.1 X.1.2.1 dX1_seekMost_0 rfl (lv_at hl 0 rfl) ?_
  refine lv_aload_n X.1.1 X.1.2.1 dX1_seekMost_1 rfl (lv_at hl 1 rfl) ?_
  obtain ⟨t_17, hc_18, h⟩ := o_bd_inv h
  refine x_callv (x_runV (As := [.ref (g.2.2 (0, i0, 0))]) (rest := []) X hP hS (c_X1_startFrom l g i0 X.2.2.2.2.1 (by omega) t hc_18) ⟨wd_636, wd_633, wd_634, wd_635, wd_59⟩ hd_X1_startFrom ⟨by omega, by decide⟩ (x_recv X hP (ci := 1) rfl (kyO (by decide)) rfl) rfl hl.1 rfl (Nat.le_of_ble_eq_true rfl) dX1_seekMost_2) hS (fun H locs hP hS => ?_)
  refine lv_aload_n X.1.1 X.1.2.1 dX1_seekMost_5 rfl (lv_at hl 0 rfl) ?_
  refine lv_aload_n X.1.1 X.1.2.1 dX1_seekMost_6 rfl (lv_at hl 0 rfl) ?_
  obtain ⟨⟨r_21, t_19⟩, hc_20, h⟩ := o_bd_inv h
  refine x_calli (x_runV (As := []) (rest := [.ref (g.2.2 (3, 4, 0))]) X hP hS (c_X1_howManyIn l g N X.2.2.2.2.1 t_17 hc_20) ⟨wd_671, wd_668, wd_670, wd_12, wd_59⟩ hd_X1_howManyIn ⟨by omega, by decide⟩ (x_recv X hP (ci := 1) rfl (kyO (by decide)) rfl) rfl hl.1 rfl (Nat.le_of_ble_eq_true rfl) dX1_seekMost_7) hS (fun H locs hP hS => ?_)
  obtain ⟨t_23, e_24, h⟩ := o_nm_inv h
  refine pt_X1_1 (x := r_21) X hP hS (kyO (by decide)) wd_220 dX1_seekMost_10 (fun H locs hP hS => ?_)
  have hP : XP shC g t_23 H := by rw [e_24]; exact hP
  refine lv_aload_n X.1.1 X.1.2.1 dX1_seekMost_13 rfl (lv_at hl 0 rfl) ?_
  refine lv_iconst (v := 0) X.1.1 X.1.2.1 dX1_seekMost_14 (by decide) ?_
  obtain ⟨t_25, e_26, h⟩ := o_nm_inv h
  refine pt_X1_2 (x := 0) X hP hS (kyO (by decide)) wd_222 dX1_seekMost_15 (fun H locs hP hS => ?_)
  have hP : XP shC g t_25 H := by rw [e_26]; exact hP
  refine lv_iconst (v := 1) X.1.1 X.1.2.1 dX1_seekMost_18 (by decide) ?_
  refine lv_istore_n (lv' := [(2, .int 1), (0, .ref (g.2.2 (3, 4, 0))), (1, .ref (g.2.2 (0, i0, 0)))]) X.1.1 X.1.2.1 dX1_seekMost_19 rfl hl (by decide) rfl (fun ls hl => ?_)
  exact w_X1_seekMost_20 N i0 (by omega) X 1 t_25 _ _ _ hP hS (lv_sub hl [1, 0] rfl) h
def f_X1_keepIfSooner_17 (x1 : Int32) (x2 : Int32) (t : Mm) : Option (Mm) := o_nm (sI t 3 4 0 1 x1) fun t_1 => o_nm (sI t_1 3 4 0 2 x2) fun t_3 => some t_3
/-- FordQuestions$Outlook.keepIfSooner(II)V -/
def f_X1_keepIfSooner (a0 : Int32) (a1 : Int32) (t : Mm) : Option (Mm) := if (t.1 3 4 0 1) = (-4) then (f_X1_keepIfSooner_17 a0 a1 t) else (if (t.1 3 4 0 2) ≤ a1 then (some t) else (f_X1_keepIfSooner_17 a0 a1 t))
theorem hd_X1_keepIfSooner : x_hd yX1_keepIfSooner 2 := by decide +kernel
set_option maxRecDepth 100000 in
set_option maxHeartbeats 4000000 in
theorem w_X1_keepIfSooner_17 {l : Launch} {g : Ly} {p : Program} {e : Env} {s : State} {m : MethodId} {args : Array Value} {below : List Frame} {meth : Method} {c : Code} (X : XC p m meth c cX1_keepIfSooner 3 s args (.code yX1_keepIfSooner cX1_keepIfSooner 3 none) RX1 none shC g) {t' : Mm} (x1 : Int32) (x2 : Int32) (t : Mm) (H : Heap) (locs : List Loc) (ls : Array Slot) (hP : XP shC g t H) (hS : va_S (XA shC g) s.heap H locs) (hl : lv_has ls 3 [(0, .ref (g.2.2 (3, 4, 0))), (1, .int x1), (2, .int x2)]) (h : f_X1_keepIfSooner_17 x1 x2 t = some t') : W p l e (rmv 1) s m args below meth c H locs 0 0 (MQ below (XQv shC g t') args s 0 0 (XA shC g)) (F0 m 17 ls []) := by
  unfold f_X1_keepIfSooner_17 at h
  refine lv_aload_n X.1.1 X.1.2.1 dX1_keepIfSooner_17 rfl (lv_at hl 0 rfl) ?_
  refine lv_iload_n X.1.1 X.1.2.1 dX1_keepIfSooner_18 rfl (lv_at hl 1 rfl) ?_
  obtain ⟨t_1, e_2, h⟩ := o_nm_inv h
  refine pt_X1_1 (x := x1) X hP hS (kyO (by decide)) wd_220 dX1_keepIfSooner_19 (fun H locs hP hS => ?_)
  have hP : XP shC g t_1 H := by rw [e_2]; exact hP
  refine lv_aload_n X.1.1 X.1.2.1 dX1_keepIfSooner_22 rfl (lv_at hl 0 rfl) ?_
  refine lv_iload_n X.1.1 X.1.2.1 dX1_keepIfSooner_23 rfl (lv_at hl 2 rfl) ?_
  obtain ⟨t_3, e_4, h⟩ := o_nm_inv h
  refine pt_X1_2 (x := x2) X hP hS (kyO (by decide)) wd_222 dX1_keepIfSooner_24 (fun H locs hP hS => ?_)
  have hP : XP shC g t_3 H := by rw [e_4]; exact hP
  obtain rfl := o_ret h
  exact x_vret X hP hS dX1_keepIfSooner_27
set_option maxRecDepth 100000 in
set_option maxHeartbeats 4000000 in
theorem c_X1_keepIfSooner (l : Launch) (g : Ly) (hG : XG shC g) (a0 : Int32) (a1 : Int32) (t : Mm) {t' : Mm} (h : f_X1_keepIfSooner a0 a1 t = some t') : MI l yX1_keepIfSooner cX1_keepIfSooner 3 none 1 shC g [.ref (g.2.2 (3, 4, 0)), .int a0, .int a1] t (XQv shC g t') := by
  refine x_met hG (by decide +kernel) (Nat.le_of_ble_eq_true rfl) ?_
  intro p e s m below meth c ls X hP hl
  have hS : va_S (XA shC g) s.heap s.heap [] := va_S.rf
  have hl : lv_has ls 3 [(0, .ref (g.2.2 (3, 4, 0))), (1, .int a0), (2, .int a1)] := hl
  unfold f_X1_keepIfSooner at h
  generalize ([.ref (g.2.2 (3, 4, 0)), .int a0, .int a1] : List Value).toArray = args at X ⊢
  refine lv_aload_n X.1.1 X.1.2.1 dX1_keepIfSooner_0 rfl (lv_at hl 0 rfl) ?_
  refine gt_X1_1 X hP (kyO (by decide)) wd_220 dX1_keepIfSooner_1 ?_
  refine lv_bipush (v := (-4)) X.1.1 X.1.2.1 dX1_keepIfSooner_4 (by decide) ?_
  refine lv_icmp_eq (tgt := 17) X.1.1 X.1.2.1 dX1_keepIfSooner_6 (by decide) (fun c_5 => ?_) (fun c_5 => ?_)
  · have h := o_pos c_5 h
    exact w_X1_keepIfSooner_17 X a0 a1 t _ _ _ hP hS (lv_sub hl [0, 1, 2] rfl) h
  · have h := o_neg c_5 h
    refine lv_iload_n X.1.1 X.1.2.1 dX1_keepIfSooner_9 rfl (lv_at hl 2 rfl) ?_
    refine lv_aload_n X.1.1 X.1.2.1 dX1_keepIfSooner_10 rfl (lv_at hl 0 rfl) ?_
    refine gt_X1_2 X hP (kyO (by decide)) wd_222 dX1_keepIfSooner_11 ?_
    refine lv_icmp_ge (tgt := 27) X.1.1 X.1.2.1 dX1_keepIfSooner_14 (by decide) (fun c_6 => ?_) (fun c_6 => ?_)
    · have h := o_pos c_6 h
      obtain rfl := o_ret h
      exact x_vret X hP hS dX1_keepIfSooner_27
    · have h := o_neg c_6 h
      exact w_X1_keepIfSooner_17 X a0 a1 t _ _ _ hP hS (lv_sub hl [0, 1, 2] rfl) h
def f_X1_seekTeaching_84 (N : Nat) (i0 : Nat) (k8 : Int32 × Mm → Option (Mm)) (k18 : Int32 × Int32 × Mm → Option (Mm)) (x2 : Int32) (x3 : Int32) (t : Mm) : Option (Mm) := k18 (x2, (x3 + 1), t)
def b_X1_seekTeaching_18 (N : Nat) (i0 : Nat) (k8 : Int32 × Mm → Option (Mm)) (k18 : Int32 × Int32 × Mm → Option (Mm)) (x2 : Int32) (x3 : Int32) (t : Mm) : Option (Mm) := if 8 ≤ x3 then (k8 ((x2 + 1), t)) else (if o_inb x2 5 = true then (if (t.1 0 i0 6 (x2.toNatClampNeg)) = 0 then (if o_inb x2 5 = true then (o_bd (f_X7_isIn (t.1 0 i0 4 (x2.toNatClampNeg)) x3 t) fun (r_7, t_5) => if r_7 = 0 then (o_bd (f_X1_startFrom i0 t_5) fun t_10 => if o_inb x2 5 = true then (if o_inb x2 5 = true then (o_nm (sI t_10 0 18 4 (x2.toNatClampNeg) ((t_10.1 0 18 4 (x2.toNatClampNeg)) ||| (1 <<< (x3 &&& 31)))) fun t_14 => o_bd (f_X0_everyone i0 t_14) fun (r_18, t_16) => o_bd (f_X1_hoursTillOver N r_18 t_16) fun (r_22, t_20) => o_bd (f_X1_keepIfSooner ((10 * x2) + x3) r_22 t_20) fun t_24 => f_X1_seekTeaching_84 N i0 k8 k18 x2 x3 t_24) else none) else none) else (f_X1_seekTeaching_84 N i0 k8 k18 x2 x3 t_5)) else none) else (f_X1_seekTeaching_84 N i0 k8 k18 x2 x3 t)) else none)
def f_X1_seekTeaching_18 (N : Nat) (i0 : Nat) (k8 : Int32 × Mm → Option (Mm)) (x2 : Int32) (x3 : Int32) (t : Mm) : Option (Mm) := o_lp (fun k x => b_X1_seekTeaching_18 N i0 k8 k x.1 x.2.1 x.2.2) N (x2, x3, t)
def b_X1_seekTeaching_8 (N : Nat) (i0 : Nat) (k8 : Int32 × Mm → Option (Mm)) (x2 : Int32) (t : Mm) : Option (Mm) := if (t.1 0 i0 0 1) ≤ x2 then (some t) else (f_X1_seekTeaching_18 N i0 k8 x2 0 t)
def f_X1_seekTeaching_8 (N : Nat) (i0 : Nat) (x2 : Int32) (t : Mm) : Option (Mm) := o_lp (fun k x => b_X1_seekTeaching_8 N i0 k x.1 x.2) N (x2, t)
/-- FordQuestions$Outlook.seekTeaching(LFordQuestions$Ford;)V -/
def f_X1_seekTeaching (N : Nat) (i0 : Nat) (t : Mm) : Option (Mm) := o_nm (sI t 3 4 0 1 (-4)) fun t_27 => f_X1_seekTeaching_8 N i0 0 t_27
theorem hd_X1_seekTeaching : x_hd yX1_seekTeaching 1 := by decide +kernel
set_option maxRecDepth 100000 in
set_option maxHeartbeats 4000000 in
theorem w_X1_seekTeaching_84 {l : Launch} {g : Ly} {p : Program} {e : Env} {s : State} {m : MethodId} {args : Array Value} {below : List Frame} {meth : Method} {c : Code} (N : Nat) (i0 : Nat) (hi0 : i0 < 21) (X : XC p m meth c cX1_seekTeaching 4 s args (.code yX1_seekTeaching cX1_seekTeaching 4 none) RX1 none shC g) {t' : Mm} {k8 : Int32 × Mm → Option (Mm)} (hk8 : ∀ x : Int32 × Mm, k8 x = some t' → ∀ (H : Heap) (locs : List Loc) (ls : Array Slot), XP shC g x.2 H → va_S (XA shC g) s.heap H locs → lv_has ls 4 [(0, .ref (g.2.2 (3, 4, 0))), (1, .ref (g.2.2 (0, i0, 0))), (2, .int x.1)] → W p l e (rmv 7) s m args below meth c H locs 0 0 (MQ below (XQv shC g t') args s 0 0 (XA shC g)) (F0 m 8 ls [])) {k18 : Int32 × Int32 × Mm → Option (Mm)} (hk18 : ∀ x : Int32 × Int32 × Mm, k18 x = some t' → ∀ (H : Heap) (locs : List Loc) (ls : Array Slot), XP shC g x.2.2 H → va_S (XA shC g) s.heap H locs → lv_has ls 4 [(0, .ref (g.2.2 (3, 4, 0))), (1, .ref (g.2.2 (0, i0, 0))), (2, .int x.1), (3, .int x.2.1)] → W p l e (rmv 7) s m args below meth c H locs 0 0 (MQ below (XQv shC g t') args s 0 0 (XA shC g)) (F0 m 18 ls [])) (x2 : Int32) (x3 : Int32) (t : Mm) (H : Heap) (locs : List Loc) (ls : Array Slot) (hP : XP shC g t H) (hS : va_S (XA shC g) s.heap H locs) (hl : lv_has ls 4 [(0, .ref (g.2.2 (3, 4, 0))), (1, .ref (g.2.2 (0, i0, 0))), (2, .int x2), (3, .int x3)]) (h : f_X1_seekTeaching_84 N i0 k8 k18 x2 x3 t = some t') : W p l e (rmv 7) s m args below meth c H locs 0 0 (MQ below (XQv shC g t') args s 0 0 (XA shC g)) (F0 m 84 ls []) := by
  unfold f_X1_seekTeaching_84 at h
  refine lv_iinc (v := (x3 + 1)) (lv' := [(3, .int (x3 + 1)), (0, .ref (g.2.2 (3, 4, 0))), (1, .ref (g.2.2 (0, i0, 0))), (2, .int x2)]) X.1.1 X.1.2.1 dX1_seekTeaching_84 hl (k := 3) rfl rfl (by decide) rfl (fun ls hl => ?_)
  refine lv_goto (tgt := 18) X.1.1 X.1.2.1 dX1_seekTeaching_87 (by decide) ?_
  exact hk18 (x2, (x3 + 1), t) h _ _ _ hP hS (lv_sub hl [1, 2, 3, 0] rfl)
set_option maxRecDepth 100000 in
set_option maxHeartbeats 4000000 in
theorem wb_X1_seekTeaching_18 {l : Launch} {g : Ly} {p : Program} {e : Env} {s : State} {m : MethodId} {args : Array Value} {below : List Frame} {meth : Method} {c : Code} (N : Nat) (i0 : Nat) (hi0 : i0 < 21) (X : XC p m meth c cX1_seekTeaching 4 s args (.code yX1_seekTeaching cX1_seekTeaching 4 none) RX1 none shC g) {t' : Mm} {k8 : Int32 × Mm → Option (Mm)} (hk8 : ∀ x : Int32 × Mm, k8 x = some t' → ∀ (H : Heap) (locs : List Loc) (ls : Array Slot), XP shC g x.2 H → va_S (XA shC g) s.heap H locs → lv_has ls 4 [(0, .ref (g.2.2 (3, 4, 0))), (1, .ref (g.2.2 (0, i0, 0))), (2, .int x.1)] → W p l e (rmv 7) s m args below meth c H locs 0 0 (MQ below (XQv shC g t') args s 0 0 (XA shC g)) (F0 m 8 ls [])) {k18 : Int32 × Int32 × Mm → Option (Mm)} (hk18 : ∀ x : Int32 × Int32 × Mm, k18 x = some t' → ∀ (H : Heap) (locs : List Loc) (ls : Array Slot), XP shC g x.2.2 H → va_S (XA shC g) s.heap H locs → lv_has ls 4 [(0, .ref (g.2.2 (3, 4, 0))), (1, .ref (g.2.2 (0, i0, 0))), (2, .int x.1), (3, .int x.2.1)] → W p l e (rmv 7) s m args below meth c H locs 0 0 (MQ below (XQv shC g t') args s 0 0 (XA shC g)) (F0 m 18 ls [])) (x2 : Int32) (x3 : Int32) (t : Mm) (H : Heap) (locs : List Loc) (ls : Array Slot) (hP : XP shC g t H) (hS : va_S (XA shC g) s.heap H locs) (hl : lv_has ls 4 [(0, .ref (g.2.2 (3, 4, 0))), (1, .ref (g.2.2 (0, i0, 0))), (2, .int x2), (3, .int x3)]) (h : b_X1_seekTeaching_18 N i0 k8 k18 x2 x3 t = some t') : W p l e (rmv 7) s m args below meth c H locs 0 0 (MQ below (XQv shC g t') args s 0 0 (XA shC g)) (F0 m 18 ls []) := by
  unfold b_X1_seekTeaching_18 at h
  refine lv_iload_n X.1.1 X.1.2.1 dX1_seekTeaching_18 rfl (lv_at hl 3 rfl) ?_
  refine lv_bipush (v := 8) X.1.1 X.1.2.1 dX1_seekTeaching_19 (by decide) ?_
  refine lv_icmp_ge (tgt := 90) X.1.1 X.1.2.1 dX1_seekTeaching_21 (by decide) (fun c_1 => ?_) (fun c_1 => ?_)
  · have h := o_pos c_1 h
    refine lv_iinc (v := (x2 + 1)) (lv' := [(2, .int (x2 + 1)), (0, .ref (g.2.2 (3, 4, 0))), (1, .ref (g.2.2 (0, i0, 0))), (3, .int x3)]) X.1.1 X.1.2.1 dX1_seekTeaching_90 hl (k := 2) rfl rfl (by decide) rfl (fun ls hl => ?_)
    refine lv_goto (tgt := 8) X.1.1 X.1.2.1 dX1_seekTeaching_93 (by decide) ?_
    exact hk8 ((x2 + 1), t) h _ _ _ hP hS (lv_sub hl [1, 2, 0] rfl)
  · have h := o_neg c_1 h
    refine lv_aload_n X.1.1 X.1.2.1 dX1_seekTeaching_24 rfl (lv_at hl 1 rfl) ?_
    refine gtN_X0_10 X hP (kyF (by omega) (by decide)) wd_128 dX1_seekTeaching_25 ?_
    refine lv_iload_n X.1.1 X.1.2.1 dX1_seekTeaching_28 rfl (lv_at hl 2 rfl) ?_
    obtain ⟨g_2, h⟩ := o_gd_inv h
    refine x_iald X hP (kyF (by omega) (by decide)) (fun _ _ => rfl) g_2 dX1_seekTeaching_29 ?_
    refine lv_if_ne (tgt := 84) X.1.1 X.1.2.1 dX1_seekTeaching_30 (by decide) (fun c_3 => ?_) (fun c_3 => ?_)
    · have h := o_neg c_3 h
      exact w_X1_seekTeaching_84 N i0 (by omega) X hk8 hk18 x2 x3 t _ _ _ hP hS (lv_sub hl [0, 1, 2, 3] rfl) h
    · have h := o_pos c_3 h
      refine lv_aload_n X.1.1 X.1.2.1 dX1_seekTeaching_33 rfl (lv_at hl 1 rfl) ?_
      refine gtN_X0_8 X hP (kyF (by omega) (by decide)) wd_120 dX1_seekTeaching_34 ?_
      refine lv_iload_n X.1.1 X.1.2.1 dX1_seekTeaching_37 rfl (lv_at hl 2 rfl) ?_
      obtain ⟨g_4, h⟩ := o_gd_inv h
      refine x_iald X hP (kyF (by omega) (by decide)) (fun _ _ => rfl) g_4 dX1_seekTeaching_38 ?_
      refine lv_iload_n X.1.1 X.1.2.1 dX1_seekTeaching_39 rfl (lv_at hl 3 rfl) ?_
      obtain ⟨⟨r_7, t_5⟩, hc_6, h⟩ := o_bd_inv h
      refine x_calli (x_runSN (As := [.int (t.1 0 i0 4 (x2.toNatClampNeg)), .int x3]) (rest := []) X hP hS (c_X7_isIn l g X.2.2.2.2.1 (t.1 0 i0 4 (x2.toNatClampNeg)) x3 t hc_6) ⟨wd_349, wd_735, wd_348, wd_54⟩ hd_X7_isIn ⟨by omega, by decide⟩ rfl hl.1 rfl (Nat.le_of_ble_eq_true rfl) dX1_seekTeaching_40) hS (fun H locs hP hS => ?_)
      refine lv_if_ne (tgt := 84) X.1.1 X.1.2.1 dX1_seekTeaching_43 (by decide) (fun c_9 => ?_) (fun c_9 => ?_)
      · have h := o_neg c_9 h
        exact w_X1_seekTeaching_84 N i0 (by omega) X hk8 hk18 x2 x3 t_5 _ _ _ hP hS (lv_sub hl [0, 1, 2, 3] rfl) h
      · have h := o_pos c_9 h
        refine lv_aload_n X.1.1 X.1.2.1 dX1_seekTeaching_46 rfl (lv_at hl 0 rfl) ?_
        refine lv_aload_n X.1.1 X.1.2.1 dX1_seekTeaching_47 rfl (lv_at hl 1 rfl) ?_
        obtain ⟨t_10, hc_11, h⟩ := o_bd_inv h
        refine x_callv (x_runV (As := [.ref (g.2.2 (0, i0, 0))]) (rest := []) X hP hS (c_X1_startFrom l g i0 X.2.2.2.2.1 (by omega) t_5 hc_11) ⟨wd_636, wd_633, wd_634, wd_635, wd_59⟩ hd_X1_startFrom ⟨by omega, by decide⟩ (x_recv X hP (ci := 1) rfl (kyO (by decide)) rfl) rfl hl.1 rfl (Nat.le_of_ble_eq_true rfl) dX1_seekTeaching_48) hS (fun H locs hP hS => ?_)
        refine lv_aload_n X.1.1 X.1.2.1 dX1_seekTeaching_51 rfl (lv_at hl 0 rfl) ?_
        refine gt_X1_0 X hP (kyO (by decide)) wd_219 dX1_seekTeaching_52 ?_
        refine gtN_X0_8 X hP (kyF (by omega) (by decide)) wd_120 dX1_seekTeaching_55 ?_
        refine lv_iload_n X.1.1 X.1.2.1 dX1_seekTeaching_58 rfl (lv_at hl 2 rfl) ?_
        refine lv_dup2_11 X.1.1 X.1.2.1 dX1_seekTeaching_59 rfl rfl ?_
        obtain ⟨g_12, h⟩ := o_gd_inv h
        refine x_iald X hP (kyF (by omega) (by decide)) (fun _ _ => rfl) g_12 dX1_seekTeaching_60 ?_
        refine lv_iconst (v := 1) X.1.1 X.1.2.1 dX1_seekTeaching_61 (by decide) ?_
        refine lv_iload_n X.1.1 X.1.2.1 dX1_seekTeaching_62 rfl (lv_at hl 3 rfl) ?_
        refine lv_ishl X.1.1 X.1.2.1 dX1_seekTeaching_63 ?_
        refine lv_ior X.1.1 X.1.2.1 dX1_seekTeaching_64 ?_
        obtain ⟨g_13, h⟩ := o_gd_inv h
        obtain ⟨t_14, e_15, h⟩ := o_nm_inv h
        refine x_iast X hP hS (kyF (by omega) (by decide)) (fun _ _ => rfl) g_13 dX1_seekTeaching_65 (fun H locs hP hS => ?_)
        have hP : XP shC g t_14 H := by rw [e_15]; exact hP
        refine lv_aload_n X.1.1 X.1.2.1 dX1_seekTeaching_66 rfl (lv_at hl 0 rfl) ?_
        refine lv_bipush (v := 10) X.1.1 X.1.2.1 dX1_seekTeaching_67 (by decide) ?_
        refine lv_iload_n X.1.1 X.1.2.1 dX1_seekTeaching_69 rfl (lv_at hl 2 rfl) ?_
        refine lv_imul X.1.1 X.1.2.1 dX1_seekTeaching_70 ?_
        refine lv_iload_n X.1.1 X.1.2.1 dX1_seekTeaching_71 rfl (lv_at hl 3 rfl) ?_
        refine lv_iadd X.1.1 X.1.2.1 dX1_seekTeaching_72 ?_
        refine lv_aload_n X.1.1 X.1.2.1 dX1_seekTeaching_73 rfl (lv_at hl 0 rfl) ?_
        refine lv_aload_n X.1.1 X.1.2.1 dX1_seekTeaching_74 rfl (lv_at hl 1 rfl) ?_
        obtain ⟨⟨r_18, t_16⟩, hc_17, h⟩ := o_bd_inv h
        refine x_calli (x_runV (As := []) (rest := [.ref (g.2.2 (3, 4, 0)), .int ((10 * x2) + x3), .ref (g.2.2 (3, 4, 0))]) X hP hS (c_X0_everyone l g i0 X.2.2.2.2.1 (by omega) t_14 hc_17) ⟨wd_659, wd_736, wd_657, wd_658, wd_56⟩ hd_X0_everyone ⟨by omega, by decide⟩ (x_recv X hP (ci := 0) rfl (kyF (by omega) (by decide)) rfl) rfl hl.1 rfl (Nat.le_of_ble_eq_true rfl) dX1_seekTeaching_75) hS (fun H locs hP hS => ?_)
        obtain ⟨⟨r_22, t_20⟩, hc_21, h⟩ := o_bd_inv h
        refine x_calli (x_runV (As := [.int r_18]) (rest := [.int ((10 * x2) + x3), .ref (g.2.2 (3, 4, 0))]) X hP hS (c_X1_hoursTillOver l g N X.2.2.2.2.1 r_18 t_16 hc_21) ⟨wd_647, wd_737, wd_645, wd_646, wd_59⟩ hd_X1_hoursTillOver ⟨by omega, by decide⟩ (x_recv X hP (ci := 1) rfl (kyO (by decide)) rfl) rfl hl.1 rfl (Nat.le_of_ble_eq_true rfl) dX1_seekTeaching_78) hS (fun H locs hP hS => ?_)
        obtain ⟨t_24, hc_25, h⟩ := o_bd_inv h
        refine x_callv (x_runV (As := [.int ((10 * x2) + x3), .int r_22]) (rest := []) X hP hS (c_X1_keepIfSooner l g X.2.2.2.2.1 ((10 * x2) + x3) r_22 t_20 hc_25) ⟨wd_741, wd_738, wd_740, wd_21, wd_59⟩ hd_X1_keepIfSooner ⟨by omega, by decide⟩ (x_recv X hP (ci := 1) rfl (kyO (by decide)) rfl) rfl hl.1 rfl (Nat.le_of_ble_eq_true rfl) dX1_seekTeaching_81) hS (fun H locs hP hS => ?_)
        exact w_X1_seekTeaching_84 N i0 (by omega) X hk8 hk18 x2 x3 t_24 _ _ _ hP hS (lv_sub hl [0, 1, 2, 3] rfl) h
set_option maxRecDepth 100000 in
set_option maxHeartbeats 4000000 in
theorem w_X1_seekTeaching_18 {l : Launch} {g : Ly} {p : Program} {e : Env} {s : State} {m : MethodId} {args : Array Value} {below : List Frame} {meth : Method} {c : Code} (N : Nat) (i0 : Nat) (hi0 : i0 < 21) (X : XC p m meth c cX1_seekTeaching 4 s args (.code yX1_seekTeaching cX1_seekTeaching 4 none) RX1 none shC g) {t' : Mm} {k8 : Int32 × Mm → Option (Mm)} (hk8 : ∀ x : Int32 × Mm, k8 x = some t' → ∀ (H : Heap) (locs : List Loc) (ls : Array Slot), XP shC g x.2 H → va_S (XA shC g) s.heap H locs → lv_has ls 4 [(0, .ref (g.2.2 (3, 4, 0))), (1, .ref (g.2.2 (0, i0, 0))), (2, .int x.1)] → W p l e (rmv 7) s m args below meth c H locs 0 0 (MQ below (XQv shC g t') args s 0 0 (XA shC g)) (F0 m 8 ls [])) (x2 : Int32) (x3 : Int32) (t : Mm) (H : Heap) (locs : List Loc) (ls : Array Slot) (hP : XP shC g t H) (hS : va_S (XA shC g) s.heap H locs) (hl : lv_has ls 4 [(0, .ref (g.2.2 (3, 4, 0))), (1, .ref (g.2.2 (0, i0, 0))), (2, .int x2), (3, .int x3)]) (h : f_X1_seekTeaching_18 N i0 k8 x2 x3 t = some t') : W p l e (rmv 7) s m args below meth c H locs 0 0 (MQ below (XQv shC g t') args s 0 0 (XA shC g)) (F0 m 18 ls []) :=
  o_lp_ind (P := fun x : Int32 × Int32 × Mm => ∀ (H : Heap) (locs : List Loc) (ls : Array Slot), XP shC g x.2.2 H → va_S (XA shC g) s.heap H locs → lv_has ls 4 [(0, .ref (g.2.2 (3, 4, 0))), (1, .ref (g.2.2 (0, i0, 0))), (2, .int x.1), (3, .int x.2.1)] → W p l e (rmv 7) s m args below meth c H locs 0 0 (MQ below (XQv shC g t') args s 0 0 (XA shC g)) (F0 m 18 ls [])) (fun k hk x h H locs ls hP hS hl => wb_X1_seekTeaching_18 N i0 hi0 X hk8 hk x.1 x.2.1 x.2.2 H locs ls hP hS hl h) N (x2, x3, t) h H locs ls hP hS hl
set_option maxRecDepth 100000 in
set_option maxHeartbeats 4000000 in
theorem wb_X1_seekTeaching_8 {l : Launch} {g : Ly} {p : Program} {e : Env} {s : State} {m : MethodId} {args : Array Value} {below : List Frame} {meth : Method} {c : Code} (N : Nat) (i0 : Nat) (hi0 : i0 < 21) (X : XC p m meth c cX1_seekTeaching 4 s args (.code yX1_seekTeaching cX1_seekTeaching 4 none) RX1 none shC g) {t' : Mm} {k8 : Int32 × Mm → Option (Mm)} (hk8 : ∀ x : Int32 × Mm, k8 x = some t' → ∀ (H : Heap) (locs : List Loc) (ls : Array Slot), XP shC g x.2 H → va_S (XA shC g) s.heap H locs → lv_has ls 4 [(0, .ref (g.2.2 (3, 4, 0))), (1, .ref (g.2.2 (0, i0, 0))), (2, .int x.1)] → W p l e (rmv 7) s m args below meth c H locs 0 0 (MQ below (XQv shC g t') args s 0 0 (XA shC g)) (F0 m 8 ls [])) (x2 : Int32) (t : Mm) (H : Heap) (locs : List Loc) (ls : Array Slot) (hP : XP shC g t H) (hS : va_S (XA shC g) s.heap H locs) (hl : lv_has ls 4 [(0, .ref (g.2.2 (3, 4, 0))), (1, .ref (g.2.2 (0, i0, 0))), (2, .int x2)]) (h : b_X1_seekTeaching_8 N i0 k8 x2 t = some t') : W p l e (rmv 7) s m args below meth c H locs 0 0 (MQ below (XQv shC g t') args s 0 0 (XA shC g)) (F0 m 8 ls []) := by
  unfold b_X1_seekTeaching_8 at h
  refine lv_iload_n X.1.1 X.1.2.1 dX1_seekTeaching_8 rfl (lv_at hl 2 rfl) ?_
  refine lv_aload_n X.1.1 X.1.2.1 dX1_seekTeaching_9 rfl (lv_at hl 1 rfl) ?_
  refine gtN_X0_1 X hP (kyF (by omega) (by decide)) wd_99 dX1_seekTeaching_10 ?_
  refine lv_icmp_ge (tgt := 96) X.1.1 X.1.2.1 dX1_seekTeaching_13 (by decide) (fun c_26 => ?_) (fun c_26 => ?_)
  · have h := o_pos c_26 h
    obtain rfl := o_ret h
    exact x_vret X hP hS dX1_seekTeaching_96
  · have h := o_neg c_26 h
    refine lv_iconst (v := 0) X.1.1 X.1.2.1 dX1_seekTeaching_16 (by decide) ?_
    refine lv_istore_n (lv' := [(3, .int 0), (0, .ref (g.2.2 (3, 4, 0))), (1, .ref (g.2.2 (0, i0, 0))), (2, .int x2)]) X.1.1 X.1.2.1 dX1_seekTeaching_17 rfl hl (by decide) rfl (fun ls hl => ?_)
    exact w_X1_seekTeaching_18 N i0 (by omega) X hk8 x2 0 t _ _ _ hP hS (lv_sub hl [1, 2, 3, 0] rfl) h
set_option maxRecDepth 100000 in
set_option maxHeartbeats 4000000 in
theorem w_X1_seekTeaching_8 {l : Launch} {g : Ly} {p : Program} {e : Env} {s : State} {m : MethodId} {args : Array Value} {below : List Frame} {meth : Method} {c : Code} (N : Nat) (i0 : Nat) (hi0 : i0 < 21) (X : XC p m meth c cX1_seekTeaching 4 s args (.code yX1_seekTeaching cX1_seekTeaching 4 none) RX1 none shC g) {t' : Mm} (x2 : Int32) (t : Mm) (H : Heap) (locs : List Loc) (ls : Array Slot) (hP : XP shC g t H) (hS : va_S (XA shC g) s.heap H locs) (hl : lv_has ls 4 [(0, .ref (g.2.2 (3, 4, 0))), (1, .ref (g.2.2 (0, i0, 0))), (2, .int x2)]) (h : f_X1_seekTeaching_8 N i0 x2 t = some t') : W p l e (rmv 7) s m args below meth c H locs 0 0 (MQ below (XQv shC g t') args s 0 0 (XA shC g)) (F0 m 8 ls []) :=
  o_lp_ind (P := fun x : Int32 × Mm => ∀ (H : Heap) (locs : List Loc) (ls : Array Slot), XP shC g x.2 H → va_S (XA shC g) s.heap H locs → lv_has ls 4 [(0, .ref (g.2.2 (3, 4, 0))), (1, .ref (g.2.2 (0, i0, 0))), (2, .int x.1)] → W p l e (rmv 7) s m args below meth c H locs 0 0 (MQ below (XQv shC g t') args s 0 0 (XA shC g)) (F0 m 8 ls [])) (fun k hk x h H locs ls hP hS hl => wb_X1_seekTeaching_8 N i0 hi0 X hk x.1 x.2 H locs ls hP hS hl h) N (x2, t) h H locs ls hP hS hl
set_option maxRecDepth 100000 in
set_option maxHeartbeats 4000000 in
theorem c_X1_seekTeaching (l : Launch) (g : Ly) (N : Nat) (i0 : Nat) (hG : XG shC g) (hi0 : i0 < 21) (t : Mm) {t' : Mm} (h : f_X1_seekTeaching N i0 t = some t') : MI l yX1_seekTeaching cX1_seekTeaching 4 none 7 shC g [.ref (g.2.2 (3, 4, 0)), .ref (g.2.2 (0, i0, 0))] t (XQv shC g t') := by
  refine x_met hG (by decide +kernel) (Nat.le_of_ble_eq_true rfl) ?_
  intro p e s m below meth c ls X hP hl
  have hS : va_S (XA shC g) s.heap s.heap [] := va_S.rf
  have hl : lv_has ls 4 [(0, .ref (g.2.2 (3, 4, 0))), (1, .ref (g.2.2 (0, i0, 0)))] := hl
  unfold f_X1_seekTeaching at h
  generalize ([.ref (g.2.2 (3, 4, 0)), .ref (g.2.2 (0, i0, 0))] : List Value).toArray = args at X ⊢
  refine lv_aload_n X.1.1 X.1.2.1 dX1_seekTeaching_0 rfl (lv_at hl 0 rfl) ?_
  refine lv_bipush (v := (-4)) X.1.1 X.1.2.1 dX1_seekTeaching_1 (by decide) ?_
  obtain ⟨t_27, e_28, h⟩ := o_nm_inv h
  refine pt_X1_1 (x := (-4)) X hP hS (kyO (by decide)) wd_220 dX1_seekTeaching_3 (fun H locs hP hS => ?_)
  have hP : XP shC g t_27 H := by rw [e_28]; exact hP
  refine lv_iconst (v := 0) X.1.1 X.1.2.1 dX1_seekTeaching_6 (by decide) ?_
  refine lv_istore_n (lv' := [(2, .int 0), (0, .ref (g.2.2 (3, 4, 0))), (1, .ref (g.2.2 (0, i0, 0)))]) X.1.1 X.1.2.1 dX1_seekTeaching_7 rfl hl (by decide) rfl (fun ls hl => ?_)
  exact w_X1_seekTeaching_8 N i0 (by omega) X 0 t_27 _ _ _ hP hS (lv_sub hl [1, 2, 0] rfl) h
def f_X1_seekSpare_57 (N : Nat) (i0 : Nat) (k8 : Int32 × Mm → Option (Mm)) (x2 : Int32) (t : Mm) : Option (Mm) := k8 ((x2 + 1), t)
def b_X1_seekSpare_8 (N : Nat) (i0 : Nat) (k8 : Int32 × Mm → Option (Mm)) (x2 : Int32) (t : Mm) : Option (Mm) := if (t.1 0 i0 0 0) ≤ x2 then (some t) else (o_bd (f_X0_isAsked i0 x2 t) fun (r_4, t_2) => if r_4 = 0 then (o_bd (f_X1_startFrom i0 t_2) fun t_7 => o_nm (sI t_7 0 18 0 2 ((t_7.1 0 18 0 2) ||| (1 <<< (x2 &&& 31)))) fun t_9 => o_bd (f_X0_everyone i0 t_9) fun (r_13, t_11) => o_bd (f_X1_hoursTillOver N r_13 t_11) fun (r_17, t_15) => o_bd (f_X1_keepIfSooner x2 r_17 t_15) fun t_19 => f_X1_seekSpare_57 N i0 k8 x2 t_19) else (f_X1_seekSpare_57 N i0 k8 x2 t_2))
def f_X1_seekSpare_8 (N : Nat) (i0 : Nat) (x2 : Int32) (t : Mm) : Option (Mm) := o_lp (fun k x => b_X1_seekSpare_8 N i0 k x.1 x.2) N (x2, t)
/-- FordQuestions$Outlook.seekSpare(LFordQuestions$Ford;)V -/
def f_X1_seekSpare (N : Nat) (i0 : Nat) (t : Mm) : Option (Mm) := o_nm (sI t 3 4 0 1 (-4)) fun t_21 => f_X1_seekSpare_8 N i0 0 t_21
theorem hd_X1_seekSpare : x_hd yX1_seekSpare 1 := by decide +kernel
set_option maxRecDepth 100000 in
set_option maxHeartbeats 4000000 in
theorem w_X1_seekSpare_57 {l : Launch} {g : Ly} {p : Program} {e : Env} {s : State} {m : MethodId} {args : Array Value} {below : List Frame} {meth : Method} {c : Code} (N : Nat) (i0 : Nat) (hi0 : i0 < 21) (X : XC p m meth c cX1_seekSpare 3 s args (.code yX1_seekSpare cX1_seekSpare 3 none) RX1 none shC g) {t' : Mm} {k8 : Int32 × Mm → Option (Mm)} (hk8 : ∀ x : Int32 × Mm, k8 x = some t' → ∀ (H : Heap) (locs : List Loc) (ls : Array Slot), XP shC g x.2 H → va_S (XA shC g) s.heap H locs → lv_has ls 3 [(0, .ref (g.2.2 (3, 4, 0))), (1, .ref (g.2.2 (0, i0, 0))), (2, .int x.1)] → W p l e (rmv 7) s m args below meth c H locs 0 0 (MQ below (XQv shC g t') args s 0 0 (XA shC g)) (F0 m 8 ls [])) (x2 : Int32) (t : Mm) (H : Heap) (locs : List Loc) (ls : Array Slot) (hP : XP shC g t H) (hS : va_S (XA shC g) s.heap H locs) (hl : lv_has ls 3 [(0, .ref (g.2.2 (3, 4, 0))), (1, .ref (g.2.2 (0, i0, 0))), (2, .int x2)]) (h : f_X1_seekSpare_57 N i0 k8 x2 t = some t') : W p l e (rmv 7) s m args below meth c H locs 0 0 (MQ below (XQv shC g t') args s 0 0 (XA shC g)) (F0 m 57 ls []) := by
  unfold f_X1_seekSpare_57 at h
  refine lv_iinc (v := (x2 + 1)) (lv' := [(2, .int (x2 + 1)), (0, .ref (g.2.2 (3, 4, 0))), (1, .ref (g.2.2 (0, i0, 0)))]) X.1.1 X.1.2.1 dX1_seekSpare_57 hl (k := 2) rfl rfl (by decide) rfl (fun ls hl => ?_)
  refine lv_goto (tgt := 8) X.1.1 X.1.2.1 dX1_seekSpare_60 (by decide) ?_
  exact hk8 ((x2 + 1), t) h _ _ _ hP hS (lv_sub hl [1, 2, 0] rfl)
set_option maxRecDepth 100000 in
set_option maxHeartbeats 4000000 in
theorem wb_X1_seekSpare_8 {l : Launch} {g : Ly} {p : Program} {e : Env} {s : State} {m : MethodId} {args : Array Value} {below : List Frame} {meth : Method} {c : Code} (N : Nat) (i0 : Nat) (hi0 : i0 < 21) (X : XC p m meth c cX1_seekSpare 3 s args (.code yX1_seekSpare cX1_seekSpare 3 none) RX1 none shC g) {t' : Mm} {k8 : Int32 × Mm → Option (Mm)} (hk8 : ∀ x : Int32 × Mm, k8 x = some t' → ∀ (H : Heap) (locs : List Loc) (ls : Array Slot), XP shC g x.2 H → va_S (XA shC g) s.heap H locs → lv_has ls 3 [(0, .ref (g.2.2 (3, 4, 0))), (1, .ref (g.2.2 (0, i0, 0))), (2, .int x.1)] → W p l e (rmv 7) s m args below meth c H locs 0 0 (MQ below (XQv shC g t') args s 0 0 (XA shC g)) (F0 m 8 ls [])) (x2 : Int32) (t : Mm) (H : Heap) (locs : List Loc) (ls : Array Slot) (hP : XP shC g t H) (hS : va_S (XA shC g) s.heap H locs) (hl : lv_has ls 3 [(0, .ref (g.2.2 (3, 4, 0))), (1, .ref (g.2.2 (0, i0, 0))), (2, .int x2)]) (h : b_X1_seekSpare_8 N i0 k8 x2 t = some t') : W p l e (rmv 7) s m args below meth c H locs 0 0 (MQ below (XQv shC g t') args s 0 0 (XA shC g)) (F0 m 8 ls []) := by
  unfold b_X1_seekSpare_8 at h
  refine lv_iload_n X.1.1 X.1.2.1 dX1_seekSpare_8 rfl (lv_at hl 2 rfl) ?_
  refine lv_aload_n X.1.1 X.1.2.1 dX1_seekSpare_9 rfl (lv_at hl 1 rfl) ?_
  refine gtN_X0_0 X hP (kyF (by omega) (by decide)) wd_95 dX1_seekSpare_10 ?_
  refine lv_icmp_ge (tgt := 63) X.1.1 X.1.2.1 dX1_seekSpare_13 (by decide) (fun c_1 => ?_) (fun c_1 => ?_)
  · have h := o_pos c_1 h
    obtain rfl := o_ret h
    exact x_vret X hP hS dX1_seekSpare_63
  · have h := o_neg c_1 h
    refine lv_aload_n X.1.1 X.1.2.1 dX1_seekSpare_16 rfl (lv_at hl 1 rfl) ?_
    refine lv_iload_n X.1.1 X.1.2.1 dX1_seekSpare_17 rfl (lv_at hl 2 rfl) ?_
    obtain ⟨⟨r_4, t_2⟩, hc_3, h⟩ := o_bd_inv h
    refine x_calli (x_runV (As := [.int x2]) (rest := []) X hP hS (c_X0_isAsked l g i0 X.2.2.2.2.1 (by omega) x2 t hc_3) ⟨wd_346, wd_754, wd_344, wd_345, wd_56⟩ hd_X0_isAsked ⟨by omega, by decide⟩ (x_recv X hP (ci := 0) rfl (kyF (by omega) (by decide)) rfl) rfl hl.1 rfl (Nat.le_of_ble_eq_true rfl) dX1_seekSpare_18) hS (fun H locs hP hS => ?_)
    refine lv_if_ne (tgt := 57) X.1.1 X.1.2.1 dX1_seekSpare_21 (by decide) (fun c_6 => ?_) (fun c_6 => ?_)
    · have h := o_neg c_6 h
      exact w_X1_seekSpare_57 N i0 (by omega) X hk8 x2 t_2 _ _ _ hP hS (lv_sub hl [0, 1, 2] rfl) h
    · have h := o_pos c_6 h
      refine lv_aload_n X.1.1 X.1.2.1 dX1_seekSpare_24 rfl (lv_at hl 0 rfl) ?_
      refine lv_aload_n X.1.1 X.1.2.1 dX1_seekSpare_25 rfl (lv_at hl 1 rfl) ?_
      obtain ⟨t_7, hc_8, h⟩ := o_bd_inv h
      refine x_callv (x_runV (As := [.ref (g.2.2 (0, i0, 0))]) (rest := []) X hP hS (c_X1_startFrom l g i0 X.2.2.2.2.1 (by omega) t_2 hc_8) ⟨wd_636, wd_633, wd_634, wd_635, wd_59⟩ hd_X1_startFrom ⟨by omega, by decide⟩ (x_recv X hP (ci := 1) rfl (kyO (by decide)) rfl) rfl hl.1 rfl (Nat.le_of_ble_eq_true rfl) dX1_seekSpare_26) hS (fun H locs hP hS => ?_)
      refine lv_aload_n X.1.1 X.1.2.1 dX1_seekSpare_29 rfl (lv_at hl 0 rfl) ?_
      refine gt_X1_0 X hP (kyO (by decide)) wd_219 dX1_seekSpare_30 ?_
      refine lv_dup X.1.1 X.1.2.1 dX1_seekSpare_33 rfl ?_
      refine gtN_X0_2 X hP (kyF (by omega) (by decide)) wd_103 dX1_seekSpare_34 ?_
      refine lv_iconst (v := 1) X.1.1 X.1.2.1 dX1_seekSpare_37 (by decide) ?_
      refine lv_iload_n X.1.1 X.1.2.1 dX1_seekSpare_38 rfl (lv_at hl 2 rfl) ?_
      refine lv_ishl X.1.1 X.1.2.1 dX1_seekSpare_39 ?_
      refine lv_ior X.1.1 X.1.2.1 dX1_seekSpare_40 ?_
      obtain ⟨t_9, e_10, h⟩ := o_nm_inv h
      refine ptN_X0_2 (x := ((t_7.1 0 18 0 2) ||| (1 <<< (x2 &&& 31)))) X hP hS (kyF (by omega) (by decide)) wd_103 dX1_seekSpare_41 (fun H locs hP hS => ?_)
      have hP : XP shC g t_9 H := by rw [e_10]; exact hP
      refine lv_aload_n X.1.1 X.1.2.1 dX1_seekSpare_44 rfl (lv_at hl 0 rfl) ?_
      refine lv_iload_n X.1.1 X.1.2.1 dX1_seekSpare_45 rfl (lv_at hl 2 rfl) ?_
      refine lv_aload_n X.1.1 X.1.2.1 dX1_seekSpare_46 rfl (lv_at hl 0 rfl) ?_
      refine lv_aload_n X.1.1 X.1.2.1 dX1_seekSpare_47 rfl (lv_at hl 1 rfl) ?_
      obtain ⟨⟨r_13, t_11⟩, hc_12, h⟩ := o_bd_inv h
      refine x_calli (x_runV (As := []) (rest := [.ref (g.2.2 (3, 4, 0)), .int x2, .ref (g.2.2 (3, 4, 0))]) X hP hS (c_X0_everyone l g i0 X.2.2.2.2.1 (by omega) t_9 hc_12) ⟨wd_659, wd_736, wd_657, wd_658, wd_56⟩ hd_X0_everyone ⟨by omega, by decide⟩ (x_recv X hP (ci := 0) rfl (kyF (by omega) (by decide)) rfl) rfl hl.1 rfl (Nat.le_of_ble_eq_true rfl) dX1_seekSpare_48) hS (fun H locs hP hS => ?_)
      obtain ⟨⟨r_17, t_15⟩, hc_16, h⟩ := o_bd_inv h
      refine x_calli (x_runV (As := [.int r_13]) (rest := [.int x2, .ref (g.2.2 (3, 4, 0))]) X hP hS (c_X1_hoursTillOver l g N X.2.2.2.2.1 r_13 t_11 hc_16) ⟨wd_647, wd_737, wd_645, wd_646, wd_59⟩ hd_X1_hoursTillOver ⟨by omega, by decide⟩ (x_recv X hP (ci := 1) rfl (kyO (by decide)) rfl) rfl hl.1 rfl (Nat.le_of_ble_eq_true rfl) dX1_seekSpare_51) hS (fun H locs hP hS => ?_)
      obtain ⟨t_19, hc_20, h⟩ := o_bd_inv h
      refine x_callv (x_runV (As := [.int x2, .int r_17]) (rest := []) X hP hS (c_X1_keepIfSooner l g X.2.2.2.2.1 x2 r_17 t_15 hc_20) ⟨wd_741, wd_738, wd_740, wd_21, wd_59⟩ hd_X1_keepIfSooner ⟨by omega, by decide⟩ (x_recv X hP (ci := 1) rfl (kyO (by decide)) rfl) rfl hl.1 rfl (Nat.le_of_ble_eq_true rfl) dX1_seekSpare_54) hS (fun H locs hP hS => ?_)
      exact w_X1_seekSpare_57 N i0 (by omega) X hk8 x2 t_19 _ _ _ hP hS (lv_sub hl [0, 1, 2] rfl) h
set_option maxRecDepth 100000 in
set_option maxHeartbeats 4000000 in
theorem w_X1_seekSpare_8 {l : Launch} {g : Ly} {p : Program} {e : Env} {s : State} {m : MethodId} {args : Array Value} {below : List Frame} {meth : Method} {c : Code} (N : Nat) (i0 : Nat) (hi0 : i0 < 21) (X : XC p m meth c cX1_seekSpare 3 s args (.code yX1_seekSpare cX1_seekSpare 3 none) RX1 none shC g) {t' : Mm} (x2 : Int32) (t : Mm) (H : Heap) (locs : List Loc) (ls : Array Slot) (hP : XP shC g t H) (hS : va_S (XA shC g) s.heap H locs) (hl : lv_has ls 3 [(0, .ref (g.2.2 (3, 4, 0))), (1, .ref (g.2.2 (0, i0, 0))), (2, .int x2)]) (h : f_X1_seekSpare_8 N i0 x2 t = some t') : W p l e (rmv 7) s m args below meth c H locs 0 0 (MQ below (XQv shC g t') args s 0 0 (XA shC g)) (F0 m 8 ls []) :=
  o_lp_ind (P := fun x : Int32 × Mm => ∀ (H : Heap) (locs : List Loc) (ls : Array Slot), XP shC g x.2 H → va_S (XA shC g) s.heap H locs → lv_has ls 3 [(0, .ref (g.2.2 (3, 4, 0))), (1, .ref (g.2.2 (0, i0, 0))), (2, .int x.1)] → W p l e (rmv 7) s m args below meth c H locs 0 0 (MQ below (XQv shC g t') args s 0 0 (XA shC g)) (F0 m 8 ls [])) (fun k hk x h H locs ls hP hS hl => wb_X1_seekSpare_8 N i0 hi0 X hk x.1 x.2 H locs ls hP hS hl h) N (x2, t) h H locs ls hP hS hl
set_option maxRecDepth 100000 in
set_option maxHeartbeats 4000000 in
theorem c_X1_seekSpare (l : Launch) (g : Ly) (N : Nat) (i0 : Nat) (hG : XG shC g) (hi0 : i0 < 21) (t : Mm) {t' : Mm} (h : f_X1_seekSpare N i0 t = some t') : MI l yX1_seekSpare cX1_seekSpare 3 none 7 shC g [.ref (g.2.2 (3, 4, 0)), .ref (g.2.2 (0, i0, 0))] t (XQv shC g t') := by
  refine x_met hG (by decide +kernel) (Nat.le_of_ble_eq_true rfl) ?_
  intro p e s m below meth c ls X hP hl
  have hS : va_S (XA shC g) s.heap s.heap [] := va_S.rf
  have hl : lv_has ls 3 [(0, .ref (g.2.2 (3, 4, 0))), (1, .ref (g.2.2 (0, i0, 0)))] := hl
  unfold f_X1_seekSpare at h
  generalize ([.ref (g.2.2 (3, 4, 0)), .ref (g.2.2 (0, i0, 0))] : List Value).toArray = args at X ⊢
  refine lv_aload_n X.1.1 X.1.2.1 dX1_seekSpare_0 rfl (lv_at hl 0 rfl) ?_
  refine lv_bipush (v := (-4)) X.1.1 X.1.2.1 dX1_seekSpare_1 (by decide) ?_
  obtain ⟨t_21, e_22, h⟩ := o_nm_inv h
  refine pt_X1_1 (x := (-4)) X hP hS (kyO (by decide)) wd_220 dX1_seekSpare_3 (fun H locs hP hS => ?_)
  have hP : XP shC g t_21 H := by rw [e_22]; exact hP
  refine lv_iconst (v := 0) X.1.1 X.1.2.1 dX1_seekSpare_6 (by decide) ?_
  refine lv_istore_n (lv' := [(2, .int 0), (0, .ref (g.2.2 (3, 4, 0))), (1, .ref (g.2.2 (0, i0, 0)))]) X.1.1 X.1.2.1 dX1_seekSpare_7 rfl hl (by decide) rfl (fun ls hl => ?_)
  exact w_X1_seekSpare_8 N i0 (by omega) X 0 t_21 _ _ _ hP hS (lv_sub hl [1, 2, 0] rfl) h
def f_X1_seekComing_77 (N : Nat) (i0 : Nat) (k27 : Int32 × Int32 × Mm → Option (Mm)) (x2 : Int32) (x3 : Int32) (t : Mm) : Option (Mm) := k27 (x2, (x3 + 1), t)
def b_X1_seekComing_27 (N : Nat) (i0 : Nat) (k27 : Int32 × Int32 × Mm → Option (Mm)) (x2 : Int32) (x3 : Int32) (t : Mm) : Option (Mm) := if 40 < x3 then (some t) else (o_bd (f_X1_startFrom i0 t) fun t_2 => if o_inb x2 5 = true then (o_nm (sI t_2 0 18 5 (x2.toNatClampNeg) x3) fun t_5 => o_bd (f_X1_hoursTillOver N (1 <<< (x2 &&& 31)) t_5) fun (r_9, t_7) => if (t_7.1 3 4 0 2) < r_9 then (f_X1_seekComing_77 N i0 k27 x2 x3 t_7) else (o_nm (sI t_7 3 4 0 1 x3) fun t_12 => o_nm (sI t_12 3 4 0 2 r_9) fun t_14 => f_X1_seekComing_77 N i0 k27 x2 x3 t_14)) else none)
def f_X1_seekComing_27 (N : Nat) (i0 : Nat) (x2 : Int32) (x3 : Int32) (t : Mm) : Option (Mm) := o_lp (fun k x => b_X1_seekComing_27 N i0 k x.1 x.2.1 x.2.2) N (x2, x3, t)
/-- FordQuestions$Outlook.seekComing(LFordQuestions$Ford;I)V -/
def f_X1_seekComing (N : Nat) (i0 : Nat) (a1 : Int32) (t : Mm) : Option (Mm) := o_nm (sI t 3 4 0 1 (-4)) fun t_16 => o_nm (sI t_16 3 4 0 2 100) fun t_18 => if o_inb a1 5 = true then (if (t_18.1 0 i0 6 (a1.toNatClampNeg)) = 0 then (f_X1_seekComing_27 N i0 a1 (t_18.1 0 i0 0 3) t_18) else (some t_18)) else none
theorem hd_X1_seekComing : x_hd yX1_seekComing 2 := by decide +kernel
set_option maxRecDepth 100000 in
set_option maxHeartbeats 4000000 in
theorem w_X1_seekComing_77 {l : Launch} {g : Ly} {p : Program} {e : Env} {s : State} {m : MethodId} {args : Array Value} {below : List Frame} {meth : Method} {c : Code} (N : Nat) (i0 : Nat) (hi0 : i0 < 21) (X : XC p m meth c cX1_seekComing 5 s args (.code yX1_seekComing cX1_seekComing 5 none) RX1 none shC g) {t' : Mm} {k27 : Int32 × Int32 × Mm → Option (Mm)} (hk27 : ∀ x : Int32 × Int32 × Mm, k27 x = some t' → ∀ (H : Heap) (locs : List Loc) (ls : Array Slot), XP shC g x.2.2 H → va_S (XA shC g) s.heap H locs → lv_has ls 5 [(0, .ref (g.2.2 (3, 4, 0))), (1, .ref (g.2.2 (0, i0, 0))), (2, .int x.1), (3, .int x.2.1)] → W p l e (rmv 7) s m args below meth c H locs 0 0 (MQ below (XQv shC g t') args s 0 0 (XA shC g)) (F0 m 27 ls [])) (x2 : Int32) (x3 : Int32) (t : Mm) (H : Heap) (locs : List Loc) (ls : Array Slot) (hP : XP shC g t H) (hS : va_S (XA shC g) s.heap H locs) (hl : lv_has ls 5 [(0, .ref (g.2.2 (3, 4, 0))), (1, .ref (g.2.2 (0, i0, 0))), (2, .int x2), (3, .int x3)]) (h : f_X1_seekComing_77 N i0 k27 x2 x3 t = some t') : W p l e (rmv 7) s m args below meth c H locs 0 0 (MQ below (XQv shC g t') args s 0 0 (XA shC g)) (F0 m 77 ls []) := by
  unfold f_X1_seekComing_77 at h
  refine lv_iinc (v := (x3 + 1)) (lv' := [(3, .int (x3 + 1)), (0, .ref (g.2.2 (3, 4, 0))), (1, .ref (g.2.2 (0, i0, 0))), (2, .int x2)]) X.1.1 X.1.2.1 dX1_seekComing_77 hl (k := 3) rfl rfl (by decide) rfl (fun ls hl => ?_)
  refine lv_goto (tgt := 27) X.1.1 X.1.2.1 dX1_seekComing_80 (by decide) ?_
  exact hk27 (x2, (x3 + 1), t) h _ _ _ hP hS (lv_sub hl [1, 2, 3, 0] rfl)
set_option maxRecDepth 100000 in
set_option maxHeartbeats 4000000 in
theorem wb_X1_seekComing_27 {l : Launch} {g : Ly} {p : Program} {e : Env} {s : State} {m : MethodId} {args : Array Value} {below : List Frame} {meth : Method} {c : Code} (N : Nat) (i0 : Nat) (hi0 : i0 < 21) (X : XC p m meth c cX1_seekComing 5 s args (.code yX1_seekComing cX1_seekComing 5 none) RX1 none shC g) {t' : Mm} {k27 : Int32 × Int32 × Mm → Option (Mm)} (hk27 : ∀ x : Int32 × Int32 × Mm, k27 x = some t' → ∀ (H : Heap) (locs : List Loc) (ls : Array Slot), XP shC g x.2.2 H → va_S (XA shC g) s.heap H locs → lv_has ls 5 [(0, .ref (g.2.2 (3, 4, 0))), (1, .ref (g.2.2 (0, i0, 0))), (2, .int x.1), (3, .int x.2.1)] → W p l e (rmv 7) s m args below meth c H locs 0 0 (MQ below (XQv shC g t') args s 0 0 (XA shC g)) (F0 m 27 ls [])) (x2 : Int32) (x3 : Int32) (t : Mm) (H : Heap) (locs : List Loc) (ls : Array Slot) (hP : XP shC g t H) (hS : va_S (XA shC g) s.heap H locs) (hl : lv_has ls 5 [(0, .ref (g.2.2 (3, 4, 0))), (1, .ref (g.2.2 (0, i0, 0))), (2, .int x2), (3, .int x3)]) (h : b_X1_seekComing_27 N i0 k27 x2 x3 t = some t') : W p l e (rmv 7) s m args below meth c H locs 0 0 (MQ below (XQv shC g t') args s 0 0 (XA shC g)) (F0 m 27 ls []) := by
  unfold b_X1_seekComing_27 at h
  refine lv_iload_n X.1.1 X.1.2.1 dX1_seekComing_27 rfl (lv_at hl 3 rfl) ?_
  refine lv_bipush (v := 40) X.1.1 X.1.2.1 dX1_seekComing_28 (by decide) ?_
  refine lv_icmp_gt (tgt := 83) X.1.1 X.1.2.1 dX1_seekComing_30 (by decide) (fun c_1 => ?_) (fun c_1 => ?_)
  · have h := o_pos c_1 h
    obtain rfl := o_ret h
    exact x_vret X hP hS dX1_seekComing_83
  · have h := o_neg c_1 h
    refine lv_aload_n X.1.1 X.1.2.1 dX1_seekComing_33 rfl (lv_at hl 0 rfl) ?_
    refine lv_aload_n X.1.1 X.1.2.1 dX1_seekComing_34 rfl (lv_at hl 1 rfl) ?_
    obtain ⟨t_2, hc_3, h⟩ := o_bd_inv h
    refine x_callv (x_runV (As := [.ref (g.2.2 (0, i0, 0))]) (rest := []) X hP hS (c_X1_startFrom l g i0 X.2.2.2.2.1 (by omega) t hc_3) ⟨wd_636, wd_633, wd_634, wd_635, wd_59⟩ hd_X1_startFrom ⟨by omega, by decide⟩ (x_recv X hP (ci := 1) rfl (kyO (by decide)) rfl) rfl hl.1 rfl (Nat.le_of_ble_eq_true rfl) dX1_seekComing_35) hS (fun H locs hP hS => ?_)
    refine lv_aload_n X.1.1 X.1.2.1 dX1_seekComing_38 rfl (lv_at hl 0 rfl) ?_
    refine gt_X1_0 X hP (kyO (by decide)) wd_219 dX1_seekComing_39 ?_
    refine gtN_X0_9 X hP (kyF (by omega) (by decide)) wd_124 dX1_seekComing_42 ?_
    refine lv_iload_n X.1.1 X.1.2.1 dX1_seekComing_45 rfl (lv_at hl 2 rfl) ?_
    refine lv_iload_n X.1.1 X.1.2.1 dX1_seekComing_46 rfl (lv_at hl 3 rfl) ?_
    obtain ⟨g_4, h⟩ := o_gd_inv h
    obtain ⟨t_5, e_6, h⟩ := o_nm_inv h
    refine x_iast X hP hS (kyF (by omega) (by decide)) (fun _ _ => rfl) g_4 dX1_seekComing_47 (fun H locs hP hS => ?_)
    have hP : XP shC g t_5 H := by rw [e_6]; exact hP
    refine lv_aload_n X.1.1 X.1.2.1 dX1_seekComing_48 rfl (lv_at hl 0 rfl) ?_
    refine lv_iconst (v := 1) X.1.1 X.1.2.1 dX1_seekComing_49 (by decide) ?_
    refine lv_iload_n X.1.1 X.1.2.1 dX1_seekComing_50 rfl (lv_at hl 2 rfl) ?_
    refine lv_ishl X.1.1 X.1.2.1 dX1_seekComing_51 ?_
    obtain ⟨⟨r_9, t_7⟩, hc_8, h⟩ := o_bd_inv h
    refine x_calli (x_runV (As := [.int (1 <<< (x2 &&& 31))]) (rest := []) X hP hS (c_X1_hoursTillOver l g N X.2.2.2.2.1 (1 <<< (x2 &&& 31)) t_5 hc_8) ⟨wd_647, wd_737, wd_645, wd_646, wd_59⟩ hd_X1_hoursTillOver ⟨by omega, by decide⟩ (x_recv X hP (ci := 1) rfl (kyO (by decide)) rfl) rfl hl.1 rfl (Nat.le_of_ble_eq_true rfl) dX1_seekComing_52) hS (fun H locs hP hS => ?_)
    refine lv_istore (lv' := [(4, .int r_9), (0, .ref (g.2.2 (3, 4, 0))), (1, .ref (g.2.2 (0, i0, 0))), (2, .int x2), (3, .int x3)]) X.1.1 X.1.2.1 dX1_seekComing_55 hl (by decide) rfl (fun ls hl => ?_)
    refine lv_iload X.1.1 X.1.2.1 dX1_seekComing_57 (lv_at hl 0 rfl) ?_
    refine lv_aload_n X.1.1 X.1.2.1 dX1_seekComing_59 rfl (lv_at hl 1 rfl) ?_
    refine gt_X1_2 X hP (kyO (by decide)) wd_222 dX1_seekComing_60 ?_
    refine lv_icmp_gt (tgt := 77) X.1.1 X.1.2.1 dX1_seekComing_63 (by decide) (fun c_11 => ?_) (fun c_11 => ?_)
    · have h := o_pos c_11 h
      exact w_X1_seekComing_77 N i0 (by omega) X hk27 x2 x3 t_7 _ _ _ hP hS (lv_sub hl [1, 2, 3, 4] rfl) h
    · have h := o_neg c_11 h
      refine lv_aload_n X.1.1 X.1.2.1 dX1_seekComing_66 rfl (lv_at hl 1 rfl) ?_
      refine lv_iload_n X.1.1 X.1.2.1 dX1_seekComing_67 rfl (lv_at hl 4 rfl) ?_
      obtain ⟨t_12, e_13, h⟩ := o_nm_inv h
      refine pt_X1_1 (x := x3) X hP hS (kyO (by decide)) wd_220 dX1_seekComing_68 (fun H locs hP hS => ?_)
      have hP : XP shC g t_12 H := by rw [e_13]; exact hP
      refine lv_aload_n X.1.1 X.1.2.1 dX1_seekComing_71 rfl (lv_at hl 1 rfl) ?_
      refine lv_iload X.1.1 X.1.2.1 dX1_seekComing_72 (lv_at hl 0 rfl) ?_
      obtain ⟨t_14, e_15, h⟩ := o_nm_inv h
      refine pt_X1_2 (x := r_9) X hP hS (kyO (by decide)) wd_222 dX1_seekComing_74 (fun H locs hP hS => ?_)
      have hP : XP shC g t_14 H := by rw [e_15]; exact hP
      exact w_X1_seekComing_77 N i0 (by omega) X hk27 x2 x3 t_14 _ _ _ hP hS (lv_sub hl [1, 2, 3, 4] rfl) h
set_option maxRecDepth 100000 in
set_option maxHeartbeats 4000000 in
theorem w_X1_seekComing_27 {l : Launch} {g : Ly} {p : Program} {e : Env} {s : State} {m : MethodId} {args : Array Value} {below : List Frame} {meth : Method} {c : Code} (N : Nat) (i0 : Nat) (hi0 : i0 < 21) (X : XC p m meth c cX1_seekComing 5 s args (.code yX1_seekComing cX1_seekComing 5 none) RX1 none shC g) {t' : Mm} (x2 : Int32) (x3 : Int32) (t : Mm) (H : Heap) (locs : List Loc) (ls : Array Slot) (hP : XP shC g t H) (hS : va_S (XA shC g) s.heap H locs) (hl : lv_has ls 5 [(0, .ref (g.2.2 (3, 4, 0))), (1, .ref (g.2.2 (0, i0, 0))), (2, .int x2), (3, .int x3)]) (h : f_X1_seekComing_27 N i0 x2 x3 t = some t') : W p l e (rmv 7) s m args below meth c H locs 0 0 (MQ below (XQv shC g t') args s 0 0 (XA shC g)) (F0 m 27 ls []) :=
  o_lp_ind (P := fun x : Int32 × Int32 × Mm => ∀ (H : Heap) (locs : List Loc) (ls : Array Slot), XP shC g x.2.2 H → va_S (XA shC g) s.heap H locs → lv_has ls 5 [(0, .ref (g.2.2 (3, 4, 0))), (1, .ref (g.2.2 (0, i0, 0))), (2, .int x.1), (3, .int x.2.1)] → W p l e (rmv 7) s m args below meth c H locs 0 0 (MQ below (XQv shC g t') args s 0 0 (XA shC g)) (F0 m 27 ls [])) (fun k hk x h H locs ls hP hS hl => wb_X1_seekComing_27 N i0 hi0 X hk x.1 x.2.1 x.2.2 H locs ls hP hS hl h) N (x2, x3, t) h H locs ls hP hS hl
set_option maxRecDepth 100000 in
set_option maxHeartbeats 4000000 in
theorem c_X1_seekComing (l : Launch) (g : Ly) (N : Nat) (i0 : Nat) (hG : XG shC g) (hi0 : i0 < 21) (a1 : Int32) (t : Mm) {t' : Mm} (h : f_X1_seekComing N i0 a1 t = some t') : MI l yX1_seekComing cX1_seekComing 5 none 7 shC g [.ref (g.2.2 (3, 4, 0)), .ref (g.2.2 (0, i0, 0)), .int a1] t (XQv shC g t') := by
  refine x_met hG (by decide +kernel) (Nat.le_of_ble_eq_true rfl) ?_
  intro p e s m below meth c ls X hP hl
  have hS : va_S (XA shC g) s.heap s.heap [] := va_S.rf
  have hl : lv_has ls 5 [(0, .ref (g.2.2 (3, 4, 0))), (1, .ref (g.2.2 (0, i0, 0))), (2, .int a1)] := hl
  unfold f_X1_seekComing at h
  generalize ([.ref (g.2.2 (3, 4, 0)), .ref (g.2.2 (0, i0, 0)), .int a1] : List Value).toArray = args at X ⊢
  refine lv_aload_n X.1.1 X.1.2.1 dX1_seekComing_0 rfl (lv_at hl 0 rfl) ?_
  refine lv_bipush (v := (-4)) X.1.1 X.1.2.1 dX1_seekComing_1 (by decide) ?_
  obtain ⟨t_16, e_17, h⟩ := o_nm_inv h
  refine pt_X1_1 (x := (-4)) X hP hS (kyO (by decide)) wd_220 dX1_seekComing_3 (fun H locs hP hS => ?_)
  have hP : XP shC g t_16 H := by rw [e_17]; exact hP
  refine lv_aload_n X.1.1 X.1.2.1 dX1_seekComing_6 rfl (lv_at hl 0 rfl) ?_
  refine lv_bipush (v := 100) X.1.1 X.1.2.1 dX1_seekComing_7 (by decide) ?_
  obtain ⟨t_18, e_19, h⟩ := o_nm_inv h
  refine pt_X1_2 (x := 100) X hP hS (kyO (by decide)) wd_222 dX1_seekComing_9 (fun H locs hP hS => ?_)
  have hP : XP shC g t_18 H := by rw [e_19]; exact hP
  refine lv_aload_n X.1.1 X.1.2.1 dX1_seekComing_12 rfl (lv_at hl 1 rfl) ?_
  refine gtN_X0_10 X hP (kyF (by omega) (by decide)) wd_128 dX1_seekComing_13 ?_
  refine lv_iload_n X.1.1 X.1.2.1 dX1_seekComing_16 rfl (lv_at hl 2 rfl) ?_
  obtain ⟨g_20, h⟩ := o_gd_inv h
  refine x_iald X hP (kyF (by omega) (by decide)) (fun _ _ => rfl) g_20 dX1_seekComing_17 ?_
  refine lv_if_eq (tgt := 22) X.1.1 X.1.2.1 dX1_seekComing_18 (by decide) (fun c_21 => ?_) (fun c_21 => ?_)
  · have h := o_pos c_21 h
    refine lv_aload_n X.1.1 X.1.2.1 dX1_seekComing_22 rfl (lv_at hl 1 rfl) ?_
    refine gtN_X0_3 X hP (kyF (by omega) (by decide)) wd_108 dX1_seekComing_23 ?_
    refine lv_istore_n (lv' := [(3, .int (t_18.1 0 i0 0 3)), (0, .ref (g.2.2 (3, 4, 0))), (1, .ref (g.2.2 (0, i0, 0))), (2, .int a1)]) X.1.1 X.1.2.1 dX1_seekComing_26 rfl hl (by decide) rfl (fun ls hl => ?_)
    exact w_X1_seekComing_27 N i0 (by omega) X a1 (t_18.1 0 i0 0 3) t_18 _ _ _ hP hS (lv_sub hl [1, 2, 3, 0] rfl) h
  · have h := o_neg c_21 h
    obtain rfl := o_ret h
    exact x_vret X hP hS dX1_seekComing_21
def b_X1_fits_3 (N : Nat) (i0 : Nat) (k3 : Int32 × Int32 × Int32 × Mm → Option (Int32 × Mm)) (x2 : Int32) (x3 : Int32) (x4 : Int32) (t : Mm) : Option (Int32 × Mm) := if x3 ≤ x4 then (some (1, t)) else (o_bd (f_X0_passHour N 18 t) fun t_2 => if o_inb (x2 + x4) 24 = true then (o_bd (f_X1_howManyIn N t_2) fun (r_7, t_5) => if (lg_cmp (t_2.2 i0 ((x2 + x4).toNatClampNeg)) (r_7.toInt64)) = 0 then (k3 (x2, x3, (x4 + 1), t_5)) else (some (0, t_5))) else none)
def f_X1_fits_3 (N : Nat) (i0 : Nat) (x2 : Int32) (x3 : Int32) (x4 : Int32) (t : Mm) : Option (Int32 × Mm) := o_lp (fun k x => b_X1_fits_3 N i0 k x.1 x.2.1 x.2.2.1 x.2.2.2) N (x2, x3, x4, t)
/-- FordQuestions$Outlook.fits(LFordQuestions$Sheet;II)Z -/
def f_X1_fits (N : Nat) (i0 : Nat) (a1 : Int32) (a2 : Int32) (t : Mm) : Option (Int32 × Mm) := f_X1_fits_3 N i0 a1 a2 0 t
theorem hd_X1_fits : x_hd yX1_fits 3 := by decide +kernel
set_option maxRecDepth 100000 in
set_option maxHeartbeats 4000000 in
theorem wb_X1_fits_3 {l : Launch} {g : Ly} {p : Program} {e : Env} {s : State} {m : MethodId} {args : Array Value} {below : List Frame} {meth : Method} {c : Code} (N : Nat) (i0 : Nat) (hi0 : i0 < 4) (X : XC p m meth c cX1_fits 5 s args (.code yX1_fits cX1_fits 5 (some .boolean)) RX1 (some .boolean) shC g) {r : Int32} {t' : Mm} {k3 : Int32 × Int32 × Int32 × Mm → Option (Int32 × Mm)} (hk3 : ∀ x : Int32 × Int32 × Int32 × Mm, k3 x = some (r, t') → ∀ (H : Heap) (locs : List Loc) (ls : Array Slot), XP shC g x.2.2.2 H → va_S (XA shC g) s.heap H locs → lv_has ls 5 [(0, .ref (g.2.2 (3, 4, 0))), (1, .ref (g.2.2 (2, i0, 0))), (2, .int x.1), (3, .int x.2.1), (4, .int x.2.2.1)] → W p l e (rmv 6) s m args below meth c H locs 0 0 (MQ below (XQi shC g r t') args s 0 0 (XA shC g)) (F0 m 3 ls [])) (x2 : Int32) (x3 : Int32) (x4 : Int32) (t : Mm) (H : Heap) (locs : List Loc) (ls : Array Slot) (hP : XP shC g t H) (hS : va_S (XA shC g) s.heap H locs) (hl : lv_has ls 5 [(0, .ref (g.2.2 (3, 4, 0))), (1, .ref (g.2.2 (2, i0, 0))), (2, .int x2), (3, .int x3), (4, .int x4)]) (h : b_X1_fits_3 N i0 k3 x2 x3 x4 t = some (r, t')) : W p l e (rmv 6) s m args below meth c H locs 0 0 (MQ below (XQi shC g r t') args s 0 0 (XA shC g)) (F0 m 3 ls []) := by
  unfold b_X1_fits_3 at h
  refine lv_iload X.1.1 X.1.2.1 dX1_fits_3 (lv_at hl 4 rfl) ?_
  refine lv_iload_n X.1.1 X.1.2.1 dX1_fits_5 rfl (lv_at hl 3 rfl) ?_
  refine lv_icmp_ge (tgt := 42) X.1.1 X.1.2.1 dX1_fits_6 (by decide) (fun c_1 => ?_) (fun c_1 => ?_)
  · have h := o_pos c_1 h
    refine lv_iconst (v := 1) X.1.1 X.1.2.1 dX1_fits_42 (by decide) ?_
    obtain ⟨rfl, rfl⟩ := o_ret2 h
    exact x_zret rfl X hP hS dX1_fits_43
  · have h := o_neg c_1 h
    refine lv_aload_n X.1.1 X.1.2.1 dX1_fits_9 rfl (lv_at hl 0 rfl) ?_
    refine gt_X1_0 X hP (kyO (by decide)) wd_219 dX1_fits_10 ?_
    obtain ⟨t_2, hc_3, h⟩ := o_bd_inv h
    refine x_callv (x_runV (As := []) (rest := []) X hP hS (c_X0_passHour l g N 18 X.2.2.2.2.1 (by omega) t hc_3) ⟨wd_581, wd_638, wd_579, wd_580, wd_56⟩ hd_X0_passHour ⟨by omega, by decide⟩ (x_recv X hP (ci := 0) rfl (kyF (by omega) (by decide)) rfl) rfl hl.1 rfl (Nat.le_of_ble_eq_true rfl) dX1_fits_13) hS (fun H locs hP hS => ?_)
    refine lv_aload_n X.1.1 X.1.2.1 dX1_fits_16 rfl (lv_at hl 1 rfl) ?_
    refine gtN_X3_2 X hP (kyH (by omega) (by decide)) wd_277 dX1_fits_17 ?_
    refine lv_iload_n X.1.1 X.1.2.1 dX1_fits_20 rfl (lv_at hl 2 rfl) ?_
    refine lv_iload X.1.1 X.1.2.1 dX1_fits_21 (lv_at hl 4 rfl) ?_
    refine lv_iadd X.1.1 X.1.2.1 dX1_fits_23 ?_
    obtain ⟨g_4, h⟩ := o_gd_inv h
    refine x_lald X hP (kyH (by omega) (by decide)) (fun _ _ => rfl) g_4 dX1_fits_24 ?_
    refine lv_aload_n X.1.1 X.1.2.1 dX1_fits_25 rfl (lv_at hl 0 rfl) ?_
    obtain ⟨⟨r_7, t_5⟩, hc_6, h⟩ := o_bd_inv h
    refine x_calli (x_runV (As := []) (rest := [.long (t_2.2 i0 ((x2 + x4).toNatClampNeg))]) X hP hS (c_X1_howManyIn l g N X.2.2.2.2.1 t_2 hc_6) ⟨wd_671, wd_668, wd_670, wd_12, wd_59⟩ hd_X1_howManyIn ⟨by omega, by decide⟩ (x_recv X hP (ci := 1) rfl (kyO (by decide)) rfl) rfl hl.1 rfl (Nat.le_of_ble_eq_true rfl) dX1_fits_26) hS (fun H locs hP hS => ?_)
    refine lv_i2l (v := (r_7.toInt64)) X.1.1 X.1.2.1 dX1_fits_29 rfl ?_
    refine W.lcmp X.1.1 X.1.2.1 dX1_fits_30 ?_
    refine lv_if_eq (tgt := 36) X.1.1 X.1.2.1 dX1_fits_31 (by decide) (fun c_9 => ?_) (fun c_9 => ?_)
    · have h := o_pos c_9 h
      refine lv_iinc (v := (x4 + 1)) (lv' := [(4, .int (x4 + 1)), (0, .ref (g.2.2 (3, 4, 0))), (1, .ref (g.2.2 (2, i0, 0))), (2, .int x2), (3, .int x3)]) X.1.1 X.1.2.1 dX1_fits_36 hl (k := 4) rfl rfl (by decide) rfl (fun ls hl => ?_)
      refine lv_goto (tgt := 3) X.1.1 X.1.2.1 dX1_fits_39 (by decide) ?_
      exact hk3 (x2, x3, (x4 + 1), t_5) h _ _ _ hP hS (lv_sub hl [1, 2, 3, 4, 0] rfl)
    · have h := o_neg c_9 h
      refine lv_iconst (v := 0) X.1.1 X.1.2.1 dX1_fits_34 (by decide) ?_
      obtain ⟨rfl, rfl⟩ := o_ret2 h
      exact x_zret rfl X hP hS dX1_fits_35
set_option maxRecDepth 100000 in
set_option maxHeartbeats 4000000 in
theorem w_X1_fits_3 {l : Launch} {g : Ly} {p : Program} {e : Env} {s : State} {m : MethodId} {args : Array Value} {below : List Frame} {meth : Method} {c : Code} (N : Nat) (i0 : Nat) (hi0 : i0 < 4) (X : XC p m meth c cX1_fits 5 s args (.code yX1_fits cX1_fits 5 (some .boolean)) RX1 (some .boolean) shC g) {r : Int32} {t' : Mm} (x2 : Int32) (x3 : Int32) (x4 : Int32) (t : Mm) (H : Heap) (locs : List Loc) (ls : Array Slot) (hP : XP shC g t H) (hS : va_S (XA shC g) s.heap H locs) (hl : lv_has ls 5 [(0, .ref (g.2.2 (3, 4, 0))), (1, .ref (g.2.2 (2, i0, 0))), (2, .int x2), (3, .int x3), (4, .int x4)]) (h : f_X1_fits_3 N i0 x2 x3 x4 t = some (r, t')) : W p l e (rmv 6) s m args below meth c H locs 0 0 (MQ below (XQi shC g r t') args s 0 0 (XA shC g)) (F0 m 3 ls []) :=
  o_lp_ind (P := fun x : Int32 × Int32 × Int32 × Mm => ∀ (H : Heap) (locs : List Loc) (ls : Array Slot), XP shC g x.2.2.2 H → va_S (XA shC g) s.heap H locs → lv_has ls 5 [(0, .ref (g.2.2 (3, 4, 0))), (1, .ref (g.2.2 (2, i0, 0))), (2, .int x.1), (3, .int x.2.1), (4, .int x.2.2.1)] → W p l e (rmv 6) s m args below meth c H locs 0 0 (MQ below (XQi shC g r t') args s 0 0 (XA shC g)) (F0 m 3 ls [])) (fun k hk x h H locs ls hP hS hl => wb_X1_fits_3 N i0 hi0 X hk x.1 x.2.1 x.2.2.1 x.2.2.2 H locs ls hP hS hl h) N (x2, x3, x4, t) h H locs ls hP hS hl
set_option maxRecDepth 100000 in
set_option maxHeartbeats 4000000 in
theorem c_X1_fits (l : Launch) (g : Ly) (N : Nat) (i0 : Nat) (hG : XG shC g) (hi0 : i0 < 4) (a1 : Int32) (a2 : Int32) (t : Mm) {r : Int32} {t' : Mm} (h : f_X1_fits N i0 a1 a2 t = some (r, t')) : MI l yX1_fits cX1_fits 5 (some .boolean) 6 shC g [.ref (g.2.2 (3, 4, 0)), .ref (g.2.2 (2, i0, 0)), .int a1, .int a2] t (XQi shC g r t') := by
  refine x_met hG (by decide +kernel) (Nat.le_of_ble_eq_true rfl) ?_
  intro p e s m below meth c ls X hP hl
  have hS : va_S (XA shC g) s.heap s.heap [] := va_S.rf
  have hl : lv_has ls 5 [(0, .ref (g.2.2 (3, 4, 0))), (1, .ref (g.2.2 (2, i0, 0))), (2, .int a1), (3, .int a2)] := hl
  unfold f_X1_fits at h
  generalize ([.ref (g.2.2 (3, 4, 0)), .ref (g.2.2 (2, i0, 0)), .int a1, .int a2] : List Value).toArray = args at X ⊢
  refine lv_iconst (v := 0) X.1.1 X.1.2.1 dX1_fits_0 (by decide) ?_
  refine lv_istore (lv' := [(4, .int 0), (0, .ref (g.2.2 (3, 4, 0))), (1, .ref (g.2.2 (2, i0, 0))), (2, .int a1), (3, .int a2)]) X.1.1 X.1.2.1 dX1_fits_1 hl (by decide) rfl (fun ls hl => ?_)
  exact w_X1_fits_3 N i0 (by omega) X a1 a2 0 t _ _ _ hP hS (lv_sub hl [1, 2, 3, 4, 0] rfl) h
def f_X1_kindsThatFit_49 (N : Nat) (i0 : Nat) (i2 : Nat) (k6 : Int32 × Int32 × Int32 × Int32 × Int32 × Mm → Option (Int32 × Mm)) (x2 : Int32) (x4 : Int32) (x5 : Int32) (x6 : Int32) (x7 : Int32) (t : Mm) : Option (Int32 × Mm) := k6 (x2, x4, x5, x6, (x7 + 1), t)
def b_X1_kindsThatFit_6 (N : Nat) (i0 : Nat) (i2 : Nat) (k6 : Int32 × Int32 × Int32 × Int32 × Int32 × Mm → Option (Int32 × Mm)) (x2 : Int32) (x4 : Int32) (x5 : Int32) (x6 : Int32) (x7 : Int32) (t : Mm) : Option (Int32 × Mm) := if 5 ≤ x7 then (some (x6, t)) else (o_bd (f_X1_startFrom i0 t) fun t_2 => if o_inb x2 5 = true then (o_nm (sI t_2 0 18 3 (x2.toNatClampNeg) x7) fun t_5 => o_bd (f_X1_fits N i2 x4 x5 t_5) fun (r_9, t_7) => if r_9 = 0 then (f_X1_kindsThatFit_49 N i0 i2 k6 x2 x4 x5 x6 x7 t_7) else (o_nm ((x6 ||| (1 <<< (x7 &&& 31)))) fun x_12 => f_X1_kindsThatFit_49 N i0 i2 k6 x2 x4 x5 x_12 x7 t_7)) else none)
def f_X1_kindsThatFit_6 (N : Nat) (i0 : Nat) (i2 : Nat) (x2 : Int32) (x4 : Int32) (x5 : Int32) (x6 : Int32) (x7 : Int32) (t : Mm) : Option (Int32 × Mm) := o_lp (fun k x => b_X1_kindsThatFit_6 N i0 i2 k x.1 x.2.1 x.2.2.1 x.2.2.2.1 x.2.2.2.2.1 x.2.2.2.2.2) N (x2, x4, x5, x6, x7, t)
/-- FordQuestions$Outlook.kindsThatFit(LFordQuestions$Ford;ILFordQuestions$Sheet;II)I -/
def f_X1_kindsThatFit (N : Nat) (i0 : Nat) (i2 : Nat) (a1 : Int32) (a3 : Int32) (a4 : Int32) (t : Mm) : Option (Int32 × Mm) := f_X1_kindsThatFit_6 N i0 i2 a1 a3 a4 0 0 t
theorem hd_X1_kindsThatFit : x_hd yX1_kindsThatFit 5 := by decide +kernel
set_option maxRecDepth 100000 in
set_option maxHeartbeats 4000000 in
theorem w_X1_kindsThatFit_49 {l : Launch} {g : Ly} {p : Program} {e : Env} {s : State} {m : MethodId} {args : Array Value} {below : List Frame} {meth : Method} {c : Code} (N : Nat) (i0 : Nat) (i2 : Nat) (hi0 : i0 < 21) (hi2 : i2 < 4) (X : XC p m meth c cX1_kindsThatFit 8 s args (.code yX1_kindsThatFit cX1_kindsThatFit 8 (some .int)) RX1 (some .int) shC g) {r : Int32} {t' : Mm} {k6 : Int32 × Int32 × Int32 × Int32 × Int32 × Mm → Option (Int32 × Mm)} (hk6 : ∀ x : Int32 × Int32 × Int32 × Int32 × Int32 × Mm, k6 x = some (r, t') → ∀ (H : Heap) (locs : List Loc) (ls : Array Slot), XP shC g x.2.2.2.2.2 H → va_S (XA shC g) s.heap H locs → lv_has ls 8 [(0, .ref (g.2.2 (3, 4, 0))), (1, .ref (g.2.2 (0, i0, 0))), (2, .int x.1), (3, .ref (g.2.2 (2, i2, 0))), (4, .int x.2.1), (5, .int x.2.2.1), (6, .int x.2.2.2.1), (7, .int x.2.2.2.2.1)] → W p l e (rmv 7) s m args below meth c H locs 0 0 (MQ below (XQi shC g r t') args s 0 0 (XA shC g)) (F0 m 6 ls [])) (x2 : Int32) (x4 : Int32) (x5 : Int32) (x6 : Int32) (x7 : Int32) (t : Mm) (H : Heap) (locs : List Loc) (ls : Array Slot) (hP : XP shC g t H) (hS : va_S (XA shC g) s.heap H locs) (hl : lv_has ls 8 [(0, .ref (g.2.2 (3, 4, 0))), (1, .ref (g.2.2 (0, i0, 0))), (2, .int x2), (3, .ref (g.2.2 (2, i2, 0))), (4, .int x4), (5, .int x5), (6, .int x6), (7, .int x7)]) (h : f_X1_kindsThatFit_49 N i0 i2 k6 x2 x4 x5 x6 x7 t = some (r, t')) : W p l e (rmv 7) s m args below meth c H locs 0 0 (MQ below (XQi shC g r t') args s 0 0 (XA shC g)) (F0 m 49 ls []) := by
  unfold f_X1_kindsThatFit_49 at h
  refine lv_iinc (v := (x7 + 1)) (lv' := [(7, .int (x7 + 1)), (0, .ref (g.2.2 (3, 4, 0))), (1, .ref (g.2.2 (0, i0, 0))), (2, .int x2), (3, .ref (g.2.2 (2, i2, 0))), (4, .int x4), (5, .int x5), (6, .int x6)]) X.1.1 X.1.2.1 dX1_kindsThatFit_49 hl (k := 7) rfl rfl (by decide) rfl (fun ls hl => ?_)
  refine lv_goto (tgt := 6) X.1.1 X.1.2.1 dX1_kindsThatFit_52 (by decide) ?_
  exact hk6 (x2, x4, x5, x6, (x7 + 1), t) h _ _ _ hP hS (lv_sub hl [1, 2, 3, 4, 5, 6, 7, 0] rfl)
set_option maxRecDepth 100000 in
set_option maxHeartbeats 4000000 in
theorem wb_X1_kindsThatFit_6 {l : Launch} {g : Ly} {p : Program} {e : Env} {s : State} {m : MethodId} {args : Array Value} {below : List Frame} {meth : Method} {c : Code} (N : Nat) (i0 : Nat) (i2 : Nat) (hi0 : i0 < 21) (hi2 : i2 < 4) (X : XC p m meth c cX1_kindsThatFit 8 s args (.code yX1_kindsThatFit cX1_kindsThatFit 8 (some .int)) RX1 (some .int) shC g) {r : Int32} {t' : Mm} {k6 : Int32 × Int32 × Int32 × Int32 × Int32 × Mm → Option (Int32 × Mm)} (hk6 : ∀ x : Int32 × Int32 × Int32 × Int32 × Int32 × Mm, k6 x = some (r, t') → ∀ (H : Heap) (locs : List Loc) (ls : Array Slot), XP shC g x.2.2.2.2.2 H → va_S (XA shC g) s.heap H locs → lv_has ls 8 [(0, .ref (g.2.2 (3, 4, 0))), (1, .ref (g.2.2 (0, i0, 0))), (2, .int x.1), (3, .ref (g.2.2 (2, i2, 0))), (4, .int x.2.1), (5, .int x.2.2.1), (6, .int x.2.2.2.1), (7, .int x.2.2.2.2.1)] → W p l e (rmv 7) s m args below meth c H locs 0 0 (MQ below (XQi shC g r t') args s 0 0 (XA shC g)) (F0 m 6 ls [])) (x2 : Int32) (x4 : Int32) (x5 : Int32) (x6 : Int32) (x7 : Int32) (t : Mm) (H : Heap) (locs : List Loc) (ls : Array Slot) (hP : XP shC g t H) (hS : va_S (XA shC g) s.heap H locs) (hl : lv_has ls 8 [(0, .ref (g.2.2 (3, 4, 0))), (1, .ref (g.2.2 (0, i0, 0))), (2, .int x2), (3, .ref (g.2.2 (2, i2, 0))), (4, .int x4), (5, .int x5), (6, .int x6), (7, .int x7)]) (h : b_X1_kindsThatFit_6 N i0 i2 k6 x2 x4 x5 x6 x7 t = some (r, t')) : W p l e (rmv 7) s m args below meth c H locs 0 0 (MQ below (XQi shC g r t') args s 0 0 (XA shC g)) (F0 m 6 ls []) := by
  unfold b_X1_kindsThatFit_6 at h
  refine lv_iload X.1.1 X.1.2.1 dX1_kindsThatFit_6 (lv_at hl 7 rfl) ?_
  refine lv_iconst (v := 5) X.1.1 X.1.2.1 dX1_kindsThatFit_8 (by decide) ?_
  refine lv_icmp_ge (tgt := 55) X.1.1 X.1.2.1 dX1_kindsThatFit_9 (by decide) (fun c_1 => ?_) (fun c_1 => ?_)
  · have h := o_pos c_1 h
    refine lv_iload X.1.1 X.1.2.1 dX1_kindsThatFit_55 (lv_at hl 6 rfl) ?_
    obtain ⟨rfl, rfl⟩ := o_ret2 h
    exact x_iret X hP hS dX1_kindsThatFit_57
  · have h := o_neg c_1 h
    refine lv_aload_n X.1.1 X.1.2.1 dX1_kindsThatFit_12 rfl (lv_at hl 0 rfl) ?_
    refine lv_aload_n X.1.1 X.1.2.1 dX1_kindsThatFit_13 rfl (lv_at hl 1 rfl) ?_
    obtain ⟨t_2, hc_3, h⟩ := o_bd_inv h
    refine x_callv (x_runV (As := [.ref (g.2.2 (0, i0, 0))]) (rest := []) X hP hS (c_X1_startFrom l g i0 X.2.2.2.2.1 (by omega) t hc_3) ⟨wd_636, wd_633, wd_634, wd_635, wd_59⟩ hd_X1_startFrom ⟨by omega, by decide⟩ (x_recv X hP (ci := 1) rfl (kyO (by decide)) rfl) rfl hl.1 rfl (Nat.le_of_ble_eq_true rfl) dX1_kindsThatFit_14) hS (fun H locs hP hS => ?_)
    refine lv_aload_n X.1.1 X.1.2.1 dX1_kindsThatFit_17 rfl (lv_at hl 0 rfl) ?_
    refine gt_X1_0 X hP (kyO (by decide)) wd_219 dX1_kindsThatFit_18 ?_
    refine gtN_X0_7 X hP (kyF (by omega) (by decide)) wd_117 dX1_kindsThatFit_21 ?_
    refine lv_iload_n X.1.1 X.1.2.1 dX1_kindsThatFit_24 rfl (lv_at hl 2 rfl) ?_
    refine lv_iload X.1.1 X.1.2.1 dX1_kindsThatFit_25 (lv_at hl 7 rfl) ?_
    obtain ⟨g_4, h⟩ := o_gd_inv h
    obtain ⟨t_5, e_6, h⟩ := o_nm_inv h
    refine x_iast X hP hS (kyF (by omega) (by decide)) (fun _ _ => rfl) g_4 dX1_kindsThatFit_27 (fun H locs hP hS => ?_)
    have hP : XP shC g t_5 H := by rw [e_6]; exact hP
    refine lv_aload_n X.1.1 X.1.2.1 dX1_kindsThatFit_28 rfl (lv_at hl 0 rfl) ?_
    refine lv_aload_n X.1.1 X.1.2.1 dX1_kindsThatFit_29 rfl (lv_at hl 3 rfl) ?_
    refine lv_iload X.1.1 X.1.2.1 dX1_kindsThatFit_30 (lv_at hl 4 rfl) ?_
    refine lv_iload X.1.1 X.1.2.1 dX1_kindsThatFit_32 (lv_at hl 5 rfl) ?_
    obtain ⟨⟨r_9, t_7⟩, hc_8, h⟩ := o_bd_inv h
    refine x_calli (x_runV (As := [.ref (g.2.2 (2, i2, 0)), .int x4, .int x5]) (rest := []) X hP hS (c_X1_fits l g N i2 X.2.2.2.2.1 (by omega) x4 x5 t_5 hc_8) ⟨wd_822, wd_819, wd_821, wd_23, wd_59⟩ hd_X1_fits ⟨by omega, by decide⟩ (x_recv X hP (ci := 1) rfl (kyO (by decide)) rfl) rfl hl.1 rfl (Nat.le_of_ble_eq_true rfl) dX1_kindsThatFit_34) hS (fun H locs hP hS => ?_)
    refine lv_if_eq (tgt := 49) X.1.1 X.1.2.1 dX1_kindsThatFit_37 (by decide) (fun c_11 => ?_) (fun c_11 => ?_)
    · have h := o_pos c_11 h
      exact w_X1_kindsThatFit_49 N i0 i2 (by omega) (by omega) X hk6 x2 x4 x5 x6 x7 t_7 _ _ _ hP hS (lv_sub hl [0, 1, 2, 3, 4, 5, 6, 7] rfl) h
    · have h := o_neg c_11 h
      refine lv_iload X.1.1 X.1.2.1 dX1_kindsThatFit_40 (lv_at hl 6 rfl) ?_
      refine lv_iconst (v := 1) X.1.1 X.1.2.1 dX1_kindsThatFit_42 (by decide) ?_
      refine lv_iload X.1.1 X.1.2.1 dX1_kindsThatFit_43 (lv_at hl 7 rfl) ?_
      refine lv_ishl X.1.1 X.1.2.1 dX1_kindsThatFit_45 ?_
      refine lv_ior X.1.1 X.1.2.1 dX1_kindsThatFit_46 ?_
      refine lv_topi (fun x_12 e_13 => ?_)
      have h := o_nm_to e_13 h
      refine lv_istore (lv' := [(6, .int x_12), (0, .ref (g.2.2 (3, 4, 0))), (1, .ref (g.2.2 (0, i0, 0))), (2, .int x2), (3, .ref (g.2.2 (2, i2, 0))), (4, .int x4), (5, .int x5), (7, .int x7)]) X.1.1 X.1.2.1 dX1_kindsThatFit_47 hl (by decide) rfl (fun ls hl => ?_)
      exact w_X1_kindsThatFit_49 N i0 i2 (by omega) (by omega) X hk6 x2 x4 x5 x_12 x7 t_7 _ _ _ hP hS (lv_sub hl [1, 2, 3, 4, 5, 6, 0, 7] rfl) h
set_option maxRecDepth 100000 in
set_option maxHeartbeats 4000000 in
theorem w_X1_kindsThatFit_6 {l : Launch} {g : Ly} {p : Program} {e : Env} {s : State} {m : MethodId} {args : Array Value} {below : List Frame} {meth : Method} {c : Code} (N : Nat) (i0 : Nat) (i2 : Nat) (hi0 : i0 < 21) (hi2 : i2 < 4) (X : XC p m meth c cX1_kindsThatFit 8 s args (.code yX1_kindsThatFit cX1_kindsThatFit 8 (some .int)) RX1 (some .int) shC g) {r : Int32} {t' : Mm} (x2 : Int32) (x4 : Int32) (x5 : Int32) (x6 : Int32) (x7 : Int32) (t : Mm) (H : Heap) (locs : List Loc) (ls : Array Slot) (hP : XP shC g t H) (hS : va_S (XA shC g) s.heap H locs) (hl : lv_has ls 8 [(0, .ref (g.2.2 (3, 4, 0))), (1, .ref (g.2.2 (0, i0, 0))), (2, .int x2), (3, .ref (g.2.2 (2, i2, 0))), (4, .int x4), (5, .int x5), (6, .int x6), (7, .int x7)]) (h : f_X1_kindsThatFit_6 N i0 i2 x2 x4 x5 x6 x7 t = some (r, t')) : W p l e (rmv 7) s m args below meth c H locs 0 0 (MQ below (XQi shC g r t') args s 0 0 (XA shC g)) (F0 m 6 ls []) :=
  o_lp_ind (P := fun x : Int32 × Int32 × Int32 × Int32 × Int32 × Mm => ∀ (H : Heap) (locs : List Loc) (ls : Array Slot), XP shC g x.2.2.2.2.2 H → va_S (XA shC g) s.heap H locs → lv_has ls 8 [(0, .ref (g.2.2 (3, 4, 0))), (1, .ref (g.2.2 (0, i0, 0))), (2, .int x.1), (3, .ref (g.2.2 (2, i2, 0))), (4, .int x.2.1), (5, .int x.2.2.1), (6, .int x.2.2.2.1), (7, .int x.2.2.2.2.1)] → W p l e (rmv 7) s m args below meth c H locs 0 0 (MQ below (XQi shC g r t') args s 0 0 (XA shC g)) (F0 m 6 ls [])) (fun k hk x h H locs ls hP hS hl => wb_X1_kindsThatFit_6 N i0 i2 hi0 hi2 X hk x.1 x.2.1 x.2.2.1 x.2.2.2.1 x.2.2.2.2.1 x.2.2.2.2.2 H locs ls hP hS hl h) N (x2, x4, x5, x6, x7, t) h H locs ls hP hS hl
set_option maxRecDepth 100000 in
set_option maxHeartbeats 4000000 in
theorem c_X1_kindsThatFit (l : Launch) (g : Ly) (N : Nat) (i0 : Nat) (i2 : Nat) (hG : XG shC g) (hi0 : i0 < 21) (hi2 : i2 < 4) (a1 : Int32) (a3 : Int32) (a4 : Int32) (t : Mm) {r : Int32} {t' : Mm} (h : f_X1_kindsThatFit N i0 i2 a1 a3 a4 t = some (r, t')) : MI l yX1_kindsThatFit cX1_kindsThatFit 8 (some .int) 7 shC g [.ref (g.2.2 (3, 4, 0)), .ref (g.2.2 (0, i0, 0)), .int a1, .ref (g.2.2 (2, i2, 0)), .int a3, .int a4] t (XQi shC g r t') := by
  refine x_met hG (by decide +kernel) (Nat.le_of_ble_eq_true rfl) ?_
  intro p e s m below meth c ls X hP hl
  have hS : va_S (XA shC g) s.heap s.heap [] := va_S.rf
  have hl : lv_has ls 8 [(0, .ref (g.2.2 (3, 4, 0))), (1, .ref (g.2.2 (0, i0, 0))), (2, .int a1), (3, .ref (g.2.2 (2, i2, 0))), (4, .int a3), (5, .int a4)] := hl
  unfold f_X1_kindsThatFit at h
  generalize ([.ref (g.2.2 (3, 4, 0)), .ref (g.2.2 (0, i0, 0)), .int a1, .ref (g.2.2 (2, i2, 0)), .int a3, .int a4] : List Value).toArray = args at X ⊢
  refine lv_iconst (v := 0) X.1.1 X.1.2.1 dX1_kindsThatFit_0 (by decide) ?_
  refine lv_istore (lv' := [(6, .int 0), (0, .ref (g.2.2 (3, 4, 0))), (1, .ref (g.2.2 (0, i0, 0))), (2, .int a1), (3, .ref (g.2.2 (2, i2, 0))), (4, .int a3), (5, .int a4)]) X.1.1 X.1.2.1 dX1_kindsThatFit_1 hl (by decide) rfl (fun ls hl => ?_)
  refine lv_iconst (v := 0) X.1.1 X.1.2.1 dX1_kindsThatFit_3 (by decide) ?_
  refine lv_istore (lv' := [(7, .int 0), (6, .int 0), (0, .ref (g.2.2 (3, 4, 0))), (1, .ref (g.2.2 (0, i0, 0))), (2, .int a1), (3, .ref (g.2.2 (2, i2, 0))), (4, .int a3), (5, .int a4)]) X.1.1 X.1.2.1 dX1_kindsThatFit_4 hl (by decide) rfl (fun ls hl => ?_)
  exact w_X1_kindsThatFit_6 N i0 i2 (by omega) (by omega) X a1 a3 a4 0 0 t _ _ _ hP hS (lv_sub hl [2, 3, 4, 5, 6, 7, 1, 0] rfl) h
def f_X1_seekKnowledge_82 (N : Nat) (i0 : Nat) (i2 : Nat) (k14 : Int32 × Int32 × Int32 × Int32 × Mm → Option (Mm)) (x2 : Int32) (x4 : Int32) (x5 : Int32) (x6 : Int32) (t : Mm) : Option (Mm) := k14 (x2, x4, x5, (x6 + 1), t)
def f_X1_seekKnowledge_69 (N : Nat) (i0 : Nat) (i2 : Nat) (k14 : Int32 × Int32 × Int32 × Int32 × Mm → Option (Mm)) (x2 : Int32) (x4 : Int32) (x5 : Int32) (x6 : Int32) (s1 : Int32) (t : Mm) : Option (Mm) := o_nm (sI t 3 4 0 1 s1) fun t_1 => o_nm (sI t_1 3 4 0 3 ((t_1.1 3 4 0 3) + 1)) fun t_3 => f_X1_seekKnowledge_82 N i0 i2 k14 x2 x4 x5 x6 t_3
def b_X1_seekKnowledge_14 (N : Nat) (i0 : Nat) (i2 : Nat) (k14 : Int32 × Int32 × Int32 × Int32 × Mm → Option (Mm)) (x2 : Int32) (x4 : Int32) (x5 : Int32) (x6 : Int32) (t : Mm) : Option (Mm) := if 255 < x6 then (some t) else (o_bd (f_X1_startFrom i0 t) fun t_6 => if o_inb x2 5 = true then (o_nm (sI t_6 0 18 4 (x2.toNatClampNeg) x6) fun t_9 => o_bd (f_X1_fits N i2 x4 x5 t_9) fun (r_13, t_11) => if r_13 = 0 then (f_X1_seekKnowledge_82 N i0 i2 k14 x2 x4 x5 x6 t_11) else (if (t_11.1 3 4 0 1) = (-4) then (f_X1_seekKnowledge_69 N i0 i2 k14 x2 x4 x5 x6 x6 t_11) else (f_X1_seekKnowledge_69 N i0 i2 k14 x2 x4 x5 x6 (t_11.1 3 4 0 1) t_11))) else none)
def f_X1_seekKnowledge_14 (N : Nat) (i0 : Nat) (i2 : Nat) (x2 : Int32) (x4 : Int32) (x5 : Int32) (x6 : Int32) (t : Mm) : Option (Mm) := o_lp (fun k x => b_X1_seekKnowledge_14 N i0 i2 k x.1 x.2.1 x.2.2.1 x.2.2.2.1 x.2.2.2.2) N (x2, x4, x5, x6, t)
/-- FordQuestions$Outlook.seekKnowledge(LFordQuestions$Ford;ILFordQuestions$Sheet;II)V -/
def f_X1_seekKnowledge (N : Nat) (i0 : Nat) (i2 : Nat) (a1 : Int32) (a3 : Int32) (a4 : Int32) (t : Mm) : Option (Mm) := o_nm (sI t 3 4 0 1 (-4)) fun t_17 => o_nm (sI t_17 3 4 0 3 0) fun t_19 => f_X1_seekKnowledge_14 N i0 i2 a1 a3 a4 0 t_19
theorem hd_X1_seekKnowledge : x_hd yX1_seekKnowledge 5 := by decide +kernel
set_option maxRecDepth 100000 in
set_option maxHeartbeats 4000000 in
theorem w_X1_seekKnowledge_82 {l : Launch} {g : Ly} {p : Program} {e : Env} {s : State} {m : MethodId} {args : Array Value} {below : List Frame} {meth : Method} {c : Code} (N : Nat) (i0 : Nat) (i2 : Nat) (hi0 : i0 < 21) (hi2 : i2 < 4) (X : XC p m meth c cX1_seekKnowledge 7 s args (.code yX1_seekKnowledge cX1_seekKnowledge 7 none) RX1 none shC g) {t' : Mm} {k14 : Int32 × Int32 × Int32 × Int32 × Mm → Option (Mm)} (hk14 : ∀ x : Int32 × Int32 × Int32 × Int32 × Mm, k14 x = some t' → ∀ (H : Heap) (locs : List Loc) (ls : Array Slot), XP shC g x.2.2.2.2 H → va_S (XA shC g) s.heap H locs → lv_has ls 7 [(0, .ref (g.2.2 (3, 4, 0))), (1, .ref (g.2.2 (0, i0, 0))), (2, .int x.1), (3, .ref (g.2.2 (2, i2, 0))), (4, .int x.2.1), (5, .int x.2.2.1), (6, .int x.2.2.2.1)] → W p l e (rmv 7) s m args below meth c H locs 0 0 (MQ below (XQv shC g t') args s 0 0 (XA shC g)) (F0 m 14 ls [])) (x2 : Int32) (x4 : Int32) (x5 : Int32) (x6 : Int32) (t : Mm) (H : Heap) (locs : List Loc) (ls : Array Slot) (hP : XP shC g t H) (hS : va_S (XA shC g) s.heap H locs) (hl : lv_has ls 7 [(0, .ref (g.2.2 (3, 4, 0))), (1, .ref (g.2.2 (0, i0, 0))), (2, .int x2), (3, .ref (g.2.2 (2, i2, 0))), (4, .int x4), (5, .int x5), (6, .int x6)]) (h : f_X1_seekKnowledge_82 N i0 i2 k14 x2 x4 x5 x6 t = some t') : W p l e (rmv 7) s m args below meth c H locs 0 0 (MQ below (XQv shC g t') args s 0 0 (XA shC g)) (F0 m 82 ls []) := by
  unfold f_X1_seekKnowledge_82 at h
  refine lv_iinc (v := (x6 + 1)) (lv' := [(6, .int (x6 + 1)), (0, .ref (g.2.2 (3, 4, 0))), (1, .ref (g.2.2 (0, i0, 0))), (2, .int x2), (3, .ref (g.2.2 (2, i2, 0))), (4, .int x4), (5, .int x5)]) X.1.1 X.1.2.1 dX1_seekKnowledge_82 hl (k := 6) rfl rfl (by decide) rfl (fun ls hl => ?_)
  refine lv_goto (tgt := 14) X.1.1 X.1.2.1 dX1_seekKnowledge_85 (by decide) ?_
  exact hk14 (x2, x4, x5, (x6 + 1), t) h _ _ _ hP hS (lv_sub hl [1, 2, 3, 4, 5, 6, 0] rfl)
set_option maxRecDepth 100000 in
set_option maxHeartbeats 4000000 in
theorem w_X1_seekKnowledge_69 {l : Launch} {g : Ly} {p : Program} {e : Env} {s : State} {m : MethodId} {args : Array Value} {below : List Frame} {meth : Method} {c : Code} (N : Nat) (i0 : Nat) (i2 : Nat) (hi0 : i0 < 21) (hi2 : i2 < 4) (X : XC p m meth c cX1_seekKnowledge 7 s args (.code yX1_seekKnowledge cX1_seekKnowledge 7 none) RX1 none shC g) {t' : Mm} {k14 : Int32 × Int32 × Int32 × Int32 × Mm → Option (Mm)} (hk14 : ∀ x : Int32 × Int32 × Int32 × Int32 × Mm, k14 x = some t' → ∀ (H : Heap) (locs : List Loc) (ls : Array Slot), XP shC g x.2.2.2.2 H → va_S (XA shC g) s.heap H locs → lv_has ls 7 [(0, .ref (g.2.2 (3, 4, 0))), (1, .ref (g.2.2 (0, i0, 0))), (2, .int x.1), (3, .ref (g.2.2 (2, i2, 0))), (4, .int x.2.1), (5, .int x.2.2.1), (6, .int x.2.2.2.1)] → W p l e (rmv 7) s m args below meth c H locs 0 0 (MQ below (XQv shC g t') args s 0 0 (XA shC g)) (F0 m 14 ls [])) (x2 : Int32) (x4 : Int32) (x5 : Int32) (x6 : Int32) (s1 : Int32) (t : Mm) (H : Heap) (locs : List Loc) (ls : Array Slot) (hP : XP shC g t H) (hS : va_S (XA shC g) s.heap H locs) (hl : lv_has ls 7 [(0, .ref (g.2.2 (3, 4, 0))), (1, .ref (g.2.2 (0, i0, 0))), (2, .int x2), (3, .ref (g.2.2 (2, i2, 0))), (4, .int x4), (5, .int x5), (6, .int x6)]) (h : f_X1_seekKnowledge_69 N i0 i2 k14 x2 x4 x5 x6 s1 t = some t') : W p l e (rmv 7) s m args below meth c H locs 0 0 (MQ below (XQv shC g t') args s 0 0 (XA shC g)) (F0 m 69 ls [.int s1, .ref (g.2.2 (3, 4, 0))]) := by
  unfold f_X1_seekKnowledge_69 at h
  obtain ⟨t_1, e_2, h⟩ := o_nm_inv h
  refine pt_X1_1 (x := s1) X hP hS (kyO (by decide)) wd_220 dX1_seekKnowledge_69 (fun H locs hP hS => ?_)
  have hP : XP shC g t_1 H := by rw [e_2]; exact hP
  refine lv_aload_n X.1.1 X.1.2.1 dX1_seekKnowledge_72 rfl (lv_at hl 0 rfl) ?_
  refine lv_dup X.1.1 X.1.2.1 dX1_seekKnowledge_73 rfl ?_
  refine gt_X1_3 X hP (kyO (by decide)) wd_224 dX1_seekKnowledge_74 ?_
  refine lv_iconst (v := 1) X.1.1 X.1.2.1 dX1_seekKnowledge_77 (by decide) ?_
  refine lv_iadd X.1.1 X.1.2.1 dX1_seekKnowledge_78 ?_
  obtain ⟨t_3, e_4, h⟩ := o_nm_inv h
  refine pt_X1_3 (x := ((t_1.1 3 4 0 3) + 1)) X hP hS (kyO (by decide)) wd_224 dX1_seekKnowledge_79 (fun H locs hP hS => ?_)
  have hP : XP shC g t_3 H := by rw [e_4]; exact hP
  exact w_X1_seekKnowledge_82 N i0 i2 (by omega) (by omega) X hk14 x2 x4 x5 x6 t_3 _ _ _ hP hS (lv_sub hl [0, 1, 2, 3, 4, 5, 6] rfl) h
set_option maxRecDepth 100000 in
set_option maxHeartbeats 4000000 in
theorem wb_X1_seekKnowledge_14 {l : Launch} {g : Ly} {p : Program} {e : Env} {s : State} {m : MethodId} {args : Array Value} {below : List Frame} {meth : Method} {c : Code} (N : Nat) (i0 : Nat) (i2 : Nat) (hi0 : i0 < 21) (hi2 : i2 < 4) (X : XC p m meth c cX1_seekKnowledge 7 s args (.code yX1_seekKnowledge cX1_seekKnowledge 7 none) RX1 none shC g) {t' : Mm} {k14 : Int32 × Int32 × Int32 × Int32 × Mm → Option (Mm)} (hk14 : ∀ x : Int32 × Int32 × Int32 × Int32 × Mm, k14 x = some t' → ∀ (H : Heap) (locs : List Loc) (ls : Array Slot), XP shC g x.2.2.2.2 H → va_S (XA shC g) s.heap H locs → lv_has ls 7 [(0, .ref (g.2.2 (3, 4, 0))), (1, .ref (g.2.2 (0, i0, 0))), (2, .int x.1), (3, .ref (g.2.2 (2, i2, 0))), (4, .int x.2.1), (5, .int x.2.2.1), (6, .int x.2.2.2.1)] → W p l e (rmv 7) s m args below meth c H locs 0 0 (MQ below (XQv shC g t') args s 0 0 (XA shC g)) (F0 m 14 ls [])) (x2 : Int32) (x4 : Int32) (x5 : Int32) (x6 : Int32) (t : Mm) (H : Heap) (locs : List Loc) (ls : Array Slot) (hP : XP shC g t H) (hS : va_S (XA shC g) s.heap H locs) (hl : lv_has ls 7 [(0, .ref (g.2.2 (3, 4, 0))), (1, .ref (g.2.2 (0, i0, 0))), (2, .int x2), (3, .ref (g.2.2 (2, i2, 0))), (4, .int x4), (5, .int x5), (6, .int x6)]) (h : b_X1_seekKnowledge_14 N i0 i2 k14 x2 x4 x5 x6 t = some t') : W p l e (rmv 7) s m args below meth c H locs 0 0 (MQ below (XQv shC g t') args s 0 0 (XA shC g)) (F0 m 14 ls []) := by
  unfold b_X1_seekKnowledge_14 at h
  refine lv_iload X.1.1 X.1.2.1 dX1_seekKnowledge_14 (lv_at hl 6 rfl) ?_
  refine lv_sipush (v := 255) X.1.1 X.1.2.1 dX1_seekKnowledge_16 (by decide) ?_
  refine lv_icmp_gt (tgt := 88) X.1.1 X.1.2.1 dX1_seekKnowledge_19 (by decide) (fun c_5 => ?_) (fun c_5 => ?_)
  · have h := o_pos c_5 h
    obtain rfl := o_ret h
    exact x_vret X hP hS dX1_seekKnowledge_88
  · have h := o_neg c_5 h
    refine lv_aload_n X.1.1 X.1.2.1 dX1_seekKnowledge_22 rfl (lv_at hl 0 rfl) ?_
    refine lv_aload_n X.1.1 X.1.2.1 dX1_seekKnowledge_23 rfl (lv_at hl 1 rfl) ?_
    obtain ⟨t_6, hc_7, h⟩ := o_bd_inv h
    refine x_callv (x_runV (As := [.ref (g.2.2 (0, i0, 0))]) (rest := []) X hP hS (c_X1_startFrom l g i0 X.2.2.2.2.1 (by omega) t hc_7) ⟨wd_636, wd_633, wd_634, wd_635, wd_59⟩ hd_X1_startFrom ⟨by omega, by decide⟩ (x_recv X hP (ci := 1) rfl (kyO (by decide)) rfl) rfl hl.1 rfl (Nat.le_of_ble_eq_true rfl) dX1_seekKnowledge_24) hS (fun H locs hP hS => ?_)
    refine lv_aload_n X.1.1 X.1.2.1 dX1_seekKnowledge_27 rfl (lv_at hl 0 rfl) ?_
    refine gt_X1_0 X hP (kyO (by decide)) wd_219 dX1_seekKnowledge_28 ?_
    refine gtN_X0_8 X hP (kyF (by omega) (by decide)) wd_120 dX1_seekKnowledge_31 ?_
    refine lv_iload_n X.1.1 X.1.2.1 dX1_seekKnowledge_34 rfl (lv_at hl 2 rfl) ?_
    refine lv_iload X.1.1 X.1.2.1 dX1_seekKnowledge_35 (lv_at hl 6 rfl) ?_
    obtain ⟨g_8, h⟩ := o_gd_inv h
    obtain ⟨t_9, e_10, h⟩ := o_nm_inv h
    refine x_iast X hP hS (kyF (by omega) (by decide)) (fun _ _ => rfl) g_8 dX1_seekKnowledge_37 (fun H locs hP hS => ?_)
    have hP : XP shC g t_9 H := by rw [e_10]; exact hP
    refine lv_aload_n X.1.1 X.1.2.1 dX1_seekKnowledge_38 rfl (lv_at hl 0 rfl) ?_
    refine lv_aload_n X.1.1 X.1.2.1 dX1_seekKnowledge_39 rfl (lv_at hl 3 rfl) ?_
    refine lv_iload X.1.1 X.1.2.1 dX1_seekKnowledge_40 (lv_at hl 4 rfl) ?_
    refine lv_iload X.1.1 X.1.2.1 dX1_seekKnowledge_42 (lv_at hl 5 rfl) ?_
    obtain ⟨⟨r_13, t_11⟩, hc_12, h⟩ := o_bd_inv h
    refine x_calli (x_runV (As := [.ref (g.2.2 (2, i2, 0)), .int x4, .int x5]) (rest := []) X hP hS (c_X1_fits l g N i2 X.2.2.2.2.1 (by omega) x4 x5 t_9 hc_12) ⟨wd_822, wd_819, wd_821, wd_23, wd_59⟩ hd_X1_fits ⟨by omega, by decide⟩ (x_recv X hP (ci := 1) rfl (kyO (by decide)) rfl) rfl hl.1 rfl (Nat.le_of_ble_eq_true rfl) dX1_seekKnowledge_44) hS (fun H locs hP hS => ?_)
    refine lv_if_eq (tgt := 82) X.1.1 X.1.2.1 dX1_seekKnowledge_47 (by decide) (fun c_15 => ?_) (fun c_15 => ?_)
    · have h := o_pos c_15 h
      exact w_X1_seekKnowledge_82 N i0 i2 (by omega) (by omega) X hk14 x2 x4 x5 x6 t_11 _ _ _ hP hS (lv_sub hl [0, 1, 2, 3, 4, 5, 6] rfl) h
    · have h := o_neg c_15 h
      refine lv_aload_n X.1.1 X.1.2.1 dX1_seekKnowledge_50 rfl (lv_at hl 0 rfl) ?_
      refine lv_aload_n X.1.1 X.1.2.1 dX1_seekKnowledge_51 rfl (lv_at hl 0 rfl) ?_
      refine gt_X1_1 X hP (kyO (by decide)) wd_220 dX1_seekKnowledge_52 ?_
      refine lv_bipush (v := (-4)) X.1.1 X.1.2.1 dX1_seekKnowledge_55 (by decide) ?_
      refine lv_icmp_ne (tgt := 65) X.1.1 X.1.2.1 dX1_seekKnowledge_57 (by decide) (fun c_16 => ?_) (fun c_16 => ?_)
      · have h := o_neg c_16 h
        refine lv_aload_n X.1.1 X.1.2.1 dX1_seekKnowledge_65 rfl (lv_at hl 0 rfl) ?_
        refine gt_X1_1 X hP (kyO (by decide)) wd_220 dX1_seekKnowledge_66 ?_
        exact w_X1_seekKnowledge_69 N i0 i2 (by omega) (by omega) X hk14 x2 x4 x5 x6 (t_11.1 3 4 0 1) t_11 _ _ _ hP hS (lv_sub hl [0, 1, 2, 3, 4, 5, 6] rfl) h
      · have h := o_pos c_16 h
        refine lv_iload X.1.1 X.1.2.1 dX1_seekKnowledge_60 (lv_at hl 6 rfl) ?_
        refine lv_goto (tgt := 69) X.1.1 X.1.2.1 dX1_seekKnowledge_62 (by decide) ?_
        exact w_X1_seekKnowledge_69 N i0 i2 (by omega) (by omega) X hk14 x2 x4 x5 x6 x6 t_11 _ _ _ hP hS (lv_sub hl [0, 1, 2, 3, 4, 5, 6] rfl) h
set_option maxRecDepth 100000 in
set_option maxHeartbeats 4000000 in
theorem w_X1_seekKnowledge_14 {l : Launch} {g : Ly} {p : Program} {e : Env} {s : State} {m : MethodId} {args : Array Value} {below : List Frame} {meth : Method} {c : Code} (N : Nat) (i0 : Nat) (i2 : Nat) (hi0 : i0 < 21) (hi2 : i2 < 4) (X : XC p m meth c cX1_seekKnowledge 7 s args (.code yX1_seekKnowledge cX1_seekKnowledge 7 none) RX1 none shC g) {t' : Mm} (x2 : Int32) (x4 : Int32) (x5 : Int32) (x6 : Int32) (t : Mm) (H : Heap) (locs : List Loc) (ls : Array Slot) (hP : XP shC g t H) (hS : va_S (XA shC g) s.heap H locs) (hl : lv_has ls 7 [(0, .ref (g.2.2 (3, 4, 0))), (1, .ref (g.2.2 (0, i0, 0))), (2, .int x2), (3, .ref (g.2.2 (2, i2, 0))), (4, .int x4), (5, .int x5), (6, .int x6)]) (h : f_X1_seekKnowledge_14 N i0 i2 x2 x4 x5 x6 t = some t') : W p l e (rmv 7) s m args below meth c H locs 0 0 (MQ below (XQv shC g t') args s 0 0 (XA shC g)) (F0 m 14 ls []) :=
  o_lp_ind (P := fun x : Int32 × Int32 × Int32 × Int32 × Mm => ∀ (H : Heap) (locs : List Loc) (ls : Array Slot), XP shC g x.2.2.2.2 H → va_S (XA shC g) s.heap H locs → lv_has ls 7 [(0, .ref (g.2.2 (3, 4, 0))), (1, .ref (g.2.2 (0, i0, 0))), (2, .int x.1), (3, .ref (g.2.2 (2, i2, 0))), (4, .int x.2.1), (5, .int x.2.2.1), (6, .int x.2.2.2.1)] → W p l e (rmv 7) s m args below meth c H locs 0 0 (MQ below (XQv shC g t') args s 0 0 (XA shC g)) (F0 m 14 ls [])) (fun k hk x h H locs ls hP hS hl => wb_X1_seekKnowledge_14 N i0 i2 hi0 hi2 X hk x.1 x.2.1 x.2.2.1 x.2.2.2.1 x.2.2.2.2 H locs ls hP hS hl h) N (x2, x4, x5, x6, t) h H locs ls hP hS hl
set_option maxRecDepth 100000 in
set_option maxHeartbeats 4000000 in
theorem c_X1_seekKnowledge (l : Launch) (g : Ly) (N : Nat) (i0 : Nat) (i2 : Nat) (hG : XG shC g) (hi0 : i0 < 21) (hi2 : i2 < 4) (a1 : Int32) (a3 : Int32) (a4 : Int32) (t : Mm) {t' : Mm} (h : f_X1_seekKnowledge N i0 i2 a1 a3 a4 t = some t') : MI l yX1_seekKnowledge cX1_seekKnowledge 7 none 7 shC g [.ref (g.2.2 (3, 4, 0)), .ref (g.2.2 (0, i0, 0)), .int a1, .ref (g.2.2 (2, i2, 0)), .int a3, .int a4] t (XQv shC g t') := by
  refine x_met hG (by decide +kernel) (Nat.le_of_ble_eq_true rfl) ?_
  intro p e s m below meth c ls X hP hl
  have hS : va_S (XA shC g) s.heap s.heap [] := va_S.rf
  have hl : lv_has ls 7 [(0, .ref (g.2.2 (3, 4, 0))), (1, .ref (g.2.2 (0, i0, 0))), (2, .int a1), (3, .ref (g.2.2 (2, i2, 0))), (4, .int a3), (5, .int a4)] := hl
  unfold f_X1_seekKnowledge at h
  generalize ([.ref (g.2.2 (3, 4, 0)), .ref (g.2.2 (0, i0, 0)), .int a1, .ref (g.2.2 (2, i2, 0)), .int a3, .int a4] : List Value).toArray = args at X ⊢
  refine lv_aload_n X.1.1 X.1.2.1 dX1_seekKnowledge_0 rfl (lv_at hl 0 rfl) ?_
  refine lv_bipush (v := (-4)) X.1.1 X.1.2.1 dX1_seekKnowledge_1 (by decide) ?_
  obtain ⟨t_17, e_18, h⟩ := o_nm_inv h
  refine pt_X1_1 (x := (-4)) X hP hS (kyO (by decide)) wd_220 dX1_seekKnowledge_3 (fun H locs hP hS => ?_)
  have hP : XP shC g t_17 H := by rw [e_18]; exact hP
  refine lv_aload_n X.1.1 X.1.2.1 dX1_seekKnowledge_6 rfl (lv_at hl 0 rfl) ?_
  refine lv_iconst (v := 0) X.1.1 X.1.2.1 dX1_seekKnowledge_7 (by decide) ?_
  obtain ⟨t_19, e_20, h⟩ := o_nm_inv h
  refine pt_X1_3 (x := 0) X hP hS (kyO (by decide)) wd_224 dX1_seekKnowledge_8 (fun H locs hP hS => ?_)
  have hP : XP shC g t_19 H := by rw [e_20]; exact hP
  refine lv_iconst (v := 0) X.1.1 X.1.2.1 dX1_seekKnowledge_11 (by decide) ?_
  refine lv_istore (lv' := [(6, .int 0), (0, .ref (g.2.2 (3, 4, 0))), (1, .ref (g.2.2 (0, i0, 0))), (2, .int a1), (3, .ref (g.2.2 (2, i2, 0))), (4, .int a3), (5, .int a4)]) X.1.1 X.1.2.1 dX1_seekKnowledge_12 hl (by decide) rfl (fun ls hl => ?_)
  exact w_X1_seekKnowledge_14 N i0 i2 (by omega) (by omega) X a1 a3 a4 0 t_19 _ _ _ hP hS (lv_sub hl [1, 2, 3, 4, 5, 6, 0] rfl) h
def b_X1_writeFilm_8 (N : Nat) (i0 : Nat) (i1 : Nat) (k8 : Int32 × Int32 × Int32 × Mm → Option (Mm)) (x3 : Int32) (x4 : Int32) (x5 : Int32) (t : Mm) : Option (Mm) := if x4 ≤ x5 then (some t) else (o_bd (f_X0_passHour N 18 t) fun t_2 => o_bd (f_X1_howManyIn N t_2) fun (r_6, t_4) => o_bd (f_X3_write i1 (x3 + x5) (r_6.toInt64) t_4) fun t_8 => k8 (x3, x4, (x5 + 1), t_8))
def f_X1_writeFilm_8 (N : Nat) (i0 : Nat) (i1 : Nat) (x3 : Int32) (x4 : Int32) (x5 : Int32) (t : Mm) : Option (Mm) := o_lp (fun k x => b_X1_writeFilm_8 N i0 i1 k x.1 x.2.1 x.2.2.1 x.2.2.2) N (x3, x4, x5, t)
/-- FordQuestions$Outlook.writeFilm(LFordQuestions$Ford;LFordQuestions$Sheet;II)V -/
def f_X1_writeFilm (N : Nat) (i0 : Nat) (i1 : Nat) (a2 : Int32) (a3 : Int32) (t : Mm) : Option (Mm) := o_bd (f_X1_startFrom i0 t) fun t_10 => f_X1_writeFilm_8 N i0 i1 a2 a3 0 t_10
theorem hd_X1_writeFilm : x_hd yX1_writeFilm 4 := by decide +kernel
set_option maxRecDepth 100000 in
set_option maxHeartbeats 4000000 in
theorem wb_X1_writeFilm_8 {l : Launch} {g : Ly} {p : Program} {e : Env} {s : State} {m : MethodId} {args : Array Value} {below : List Frame} {meth : Method} {c : Code} (N : Nat) (i0 : Nat) (i1 : Nat) (hi0 : i0 < 21) (hi1 : i1 < 4) (X : XC p m meth c cX1_writeFilm 6 s args (.code yX1_writeFilm cX1_writeFilm 6 none) RX1 none shC g) {t' : Mm} {k8 : Int32 × Int32 × Int32 × Mm → Option (Mm)} (hk8 : ∀ x : Int32 × Int32 × Int32 × Mm, k8 x = some t' → ∀ (H : Heap) (locs : List Loc) (ls : Array Slot), XP shC g x.2.2.2 H → va_S (XA shC g) s.heap H locs → lv_has ls 6 [(0, .ref (g.2.2 (3, 4, 0))), (2, .ref (g.2.2 (2, i1, 0))), (3, .int x.1), (4, .int x.2.1), (5, .int x.2.2.1)] → W p l e (rmv 6) s m args below meth c H locs 0 0 (MQ below (XQv shC g t') args s 0 0 (XA shC g)) (F0 m 8 ls [])) (x3 : Int32) (x4 : Int32) (x5 : Int32) (t : Mm) (H : Heap) (locs : List Loc) (ls : Array Slot) (hP : XP shC g t H) (hS : va_S (XA shC g) s.heap H locs) (hl : lv_has ls 6 [(0, .ref (g.2.2 (3, 4, 0))), (2, .ref (g.2.2 (2, i1, 0))), (3, .int x3), (4, .int x4), (5, .int x5)]) (h : b_X1_writeFilm_8 N i0 i1 k8 x3 x4 x5 t = some t') : W p l e (rmv 6) s m args below meth c H locs 0 0 (MQ below (XQv shC g t') args s 0 0 (XA shC g)) (F0 m 8 ls []) := by
  unfold b_X1_writeFilm_8 at h
  refine lv_iload X.1.1 X.1.2.1 dX1_writeFilm_8 (lv_at hl 4 rfl) ?_
  refine lv_iload X.1.1 X.1.2.1 dX1_writeFilm_10 (lv_at hl 3 rfl) ?_
  refine lv_icmp_ge (tgt := 41) X.1.1 X.1.2.1 dX1_writeFilm_12 (by decide) (fun c_1 => ?_) (fun c_1 => ?_)
  · have h := o_pos c_1 h
    obtain rfl := o_ret h
    exact x_vret X hP hS dX1_writeFilm_41
  · have h := o_neg c_1 h
    refine lv_aload_n X.1.1 X.1.2.1 dX1_writeFilm_15 rfl (lv_at hl 0 rfl) ?_
    refine gt_X1_0 X hP (kyO (by decide)) wd_219 dX1_writeFilm_16 ?_
    obtain ⟨t_2, hc_3, h⟩ := o_bd_inv h
    refine x_callv (x_runV (As := []) (rest := []) X hP hS (c_X0_passHour l g N 18 X.2.2.2.2.1 (by omega) t hc_3) ⟨wd_581, wd_638, wd_579, wd_580, wd_56⟩ hd_X0_passHour ⟨by omega, by decide⟩ (x_recv X hP (ci := 0) rfl (kyF (by omega) (by decide)) rfl) rfl hl.1 rfl (Nat.le_of_ble_eq_true rfl) dX1_writeFilm_19) hS (fun H locs hP hS => ?_)
    refine lv_aload_n X.1.1 X.1.2.1 dX1_writeFilm_22 rfl (lv_at hl 1 rfl) ?_
    refine lv_iload_n X.1.1 X.1.2.1 dX1_writeFilm_23 rfl (lv_at hl 2 rfl) ?_
    refine lv_iload X.1.1 X.1.2.1 dX1_writeFilm_24 (lv_at hl 4 rfl) ?_
    refine lv_iadd X.1.1 X.1.2.1 dX1_writeFilm_26 ?_
    refine lv_aload_n X.1.1 X.1.2.1 dX1_writeFilm_27 rfl (lv_at hl 0 rfl) ?_
    obtain ⟨⟨r_6, t_4⟩, hc_5, h⟩ := o_bd_inv h
    refine x_calli (x_runV (As := []) (rest := [.int (x3 + x5), .ref (g.2.2 (2, i1, 0))]) X hP hS (c_X1_howManyIn l g N X.2.2.2.2.1 t_2 hc_5) ⟨wd_671, wd_668, wd_670, wd_12, wd_59⟩ hd_X1_howManyIn ⟨by omega, by decide⟩ (x_recv X hP (ci := 1) rfl (kyO (by decide)) rfl) rfl hl.1 rfl (Nat.le_of_ble_eq_true rfl) dX1_writeFilm_28) hS (fun H locs hP hS => ?_)
    refine lv_i2l (v := (r_6.toInt64)) X.1.1 X.1.2.1 dX1_writeFilm_31 rfl ?_
    obtain ⟨t_8, hc_9, h⟩ := o_bd_inv h
    refine x_callv (x_runV (As := [.int (x3 + x5), .long (r_6.toInt64)]) (rest := []) X hP hS (c_X3_write l g i1 X.2.2.2.2.1 (by omega) (x3 + x5) (r_6.toInt64) t_4 hc_9) ⟨wd_838, wd_835, wd_836, wd_837, wd_61⟩ hd_X3_write ⟨by omega, by decide⟩ (x_recv X hP (ci := 3) rfl (kyH (by omega) (by decide)) rfl) rfl hl.1 rfl (Nat.le_of_ble_eq_true rfl) dX1_writeFilm_32) hS (fun H locs hP hS => ?_)
    refine lv_iinc (v := (x5 + 1)) (lv' := [(5, .int (x5 + 1)), (0, .ref (g.2.2 (3, 4, 0))), (2, .ref (g.2.2 (2, i1, 0))), (3, .int x3), (4, .int x4)]) X.1.1 X.1.2.1 dX1_writeFilm_35 hl (k := 4) rfl rfl (by decide) rfl (fun ls hl => ?_)
    refine lv_goto (tgt := 8) X.1.1 X.1.2.1 dX1_writeFilm_38 (by decide) ?_
    exact hk8 (x3, x4, (x5 + 1), t_8) h _ _ _ hP hS (lv_sub hl [1, 2, 3, 4, 0] rfl)
set_option maxRecDepth 100000 in
set_option maxHeartbeats 4000000 in
theorem w_X1_writeFilm_8 {l : Launch} {g : Ly} {p : Program} {e : Env} {s : State} {m : MethodId} {args : Array Value} {below : List Frame} {meth : Method} {c : Code} (N : Nat) (i0 : Nat) (i1 : Nat) (hi0 : i0 < 21) (hi1 : i1 < 4) (X : XC p m meth c cX1_writeFilm 6 s args (.code yX1_writeFilm cX1_writeFilm 6 none) RX1 none shC g) {t' : Mm} (x3 : Int32) (x4 : Int32) (x5 : Int32) (t : Mm) (H : Heap) (locs : List Loc) (ls : Array Slot) (hP : XP shC g t H) (hS : va_S (XA shC g) s.heap H locs) (hl : lv_has ls 6 [(0, .ref (g.2.2 (3, 4, 0))), (2, .ref (g.2.2 (2, i1, 0))), (3, .int x3), (4, .int x4), (5, .int x5)]) (h : f_X1_writeFilm_8 N i0 i1 x3 x4 x5 t = some t') : W p l e (rmv 6) s m args below meth c H locs 0 0 (MQ below (XQv shC g t') args s 0 0 (XA shC g)) (F0 m 8 ls []) :=
  o_lp_ind (P := fun x : Int32 × Int32 × Int32 × Mm => ∀ (H : Heap) (locs : List Loc) (ls : Array Slot), XP shC g x.2.2.2 H → va_S (XA shC g) s.heap H locs → lv_has ls 6 [(0, .ref (g.2.2 (3, 4, 0))), (2, .ref (g.2.2 (2, i1, 0))), (3, .int x.1), (4, .int x.2.1), (5, .int x.2.2.1)] → W p l e (rmv 6) s m args below meth c H locs 0 0 (MQ below (XQv shC g t') args s 0 0 (XA shC g)) (F0 m 8 ls [])) (fun k hk x h H locs ls hP hS hl => wb_X1_writeFilm_8 N i0 i1 hi0 hi1 X hk x.1 x.2.1 x.2.2.1 x.2.2.2 H locs ls hP hS hl h) N (x3, x4, x5, t) h H locs ls hP hS hl
set_option maxRecDepth 100000 in
set_option maxHeartbeats 4000000 in
theorem c_X1_writeFilm (l : Launch) (g : Ly) (N : Nat) (i0 : Nat) (i1 : Nat) (hG : XG shC g) (hi0 : i0 < 21) (hi1 : i1 < 4) (a2 : Int32) (a3 : Int32) (t : Mm) {t' : Mm} (h : f_X1_writeFilm N i0 i1 a2 a3 t = some t') : MI l yX1_writeFilm cX1_writeFilm 6 none 6 shC g [.ref (g.2.2 (3, 4, 0)), .ref (g.2.2 (0, i0, 0)), .ref (g.2.2 (2, i1, 0)), .int a2, .int a3] t (XQv shC g t') := by
  refine x_met hG (by decide +kernel) (Nat.le_of_ble_eq_true rfl) ?_
  intro p e s m below meth c ls X hP hl
  have hS : va_S (XA shC g) s.heap s.heap [] := va_S.rf
  have hl : lv_has ls 6 [(0, .ref (g.2.2 (3, 4, 0))), (1, .ref (g.2.2 (0, i0, 0))), (2, .ref (g.2.2 (2, i1, 0))), (3, .int a2), (4, .int a3)] := hl
  unfold f_X1_writeFilm at h
  generalize ([.ref (g.2.2 (3, 4, 0)), .ref (g.2.2 (0, i0, 0)), .ref (g.2.2 (2, i1, 0)), .int a2, .int a3] : List Value).toArray = args at X ⊢
  refine lv_aload_n X.1.1 X.1.2.1 dX1_writeFilm_0 rfl (lv_at hl 0 rfl) ?_
  refine lv_aload_n X.1.1 X.1.2.1 dX1_writeFilm_1 rfl (lv_at hl 1 rfl) ?_
  obtain ⟨t_10, hc_11, h⟩ := o_bd_inv h
  refine x_callv (x_runV (As := [.ref (g.2.2 (0, i0, 0))]) (rest := []) X hP hS (c_X1_startFrom l g i0 X.2.2.2.2.1 (by omega) t hc_11) ⟨wd_636, wd_633, wd_634, wd_635, wd_59⟩ hd_X1_startFrom ⟨by omega, by decide⟩ (x_recv X hP (ci := 1) rfl (kyO (by decide)) rfl) rfl hl.1 rfl (Nat.le_of_ble_eq_true rfl) dX1_writeFilm_2) hS (fun H locs hP hS => ?_)
  refine lv_iconst (v := 0) X.1.1 X.1.2.1 dX1_writeFilm_5 (by decide) ?_
  refine lv_istore (lv' := [(5, .int 0), (0, .ref (g.2.2 (3, 4, 0))), (1, .ref (g.2.2 (0, i0, 0))), (2, .ref (g.2.2 (2, i1, 0))), (3, .int a2), (4, .int a3)]) X.1.1 X.1.2.1 dX1_writeFilm_6 hl (by decide) rfl (fun ls hl => ?_)
  exact w_X1_writeFilm_8 N i0 i1 (by omega) (by omega) X a2 a3 0 t_10 _ _ _ hP hS (lv_sub hl [1, 3, 4, 5, 0] rfl) h
