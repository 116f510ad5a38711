/-- FordQuestions$Sheet.holds(II)Z -/
def f_X3_holds (j : Nat) (a0 : Int32) (a1 : Int32) (t : Mm) : Option (Int32 × Mm) := if a0 < 0 then (some (0, t)) else (if a1 < 0 then (some (0, t)) else (if ((t.1 2 j 0 1) - a1) < a0 then (some (0, t)) else (some (1, t))))
theorem hd_X3_holds : x_hd yX3_holds 2 := by decide +kernel
set_option maxRecDepth 100000 in
set_option maxHeartbeats 4000000 in
theorem c_X3_holds (l : Launch) (g : Ly) (j : Nat) (hG : XG shC g) (hj : j < 4) (a0 : Int32) (a1 : Int32) (t : Mm) {r : Int32} {t' : Mm} (h : f_X3_holds j a0 a1 t = some (r, t')) : MI l yX3_holds cX3_holds 3 (some .boolean) 1 shC g [.ref (g.2.2 (2, j, 0)), .int a0, .int a1] t (XQi shC g r t') := by
  refine x_met hG (by decide +kernel) (Nat.le_of_ble_eq_true rfl) ?_
  intro p e s m below meth c ls X hP hl
  have hS : va_S (XA shC g) s.heap s.heap [] := va_S.rf
  have hl : lv_has ls 3 [(0, .ref (g.2.2 (2, j, 0))), (1, .int a0), (2, .int a1)] := hl
  unfold f_X3_holds at h
  generalize ([.ref (g.2.2 (2, j, 0)), .int a0, .int a1] : List Value).toArray = args at X ⊢
  refine lv_iload_n X.1.1 X.1.2.1 dX3_holds_0 rfl (lv_at hl 1 rfl) ?_
  refine lv_if_lt (tgt := 22) X.1.1 X.1.2.1 dX3_holds_1 (by decide) (fun c_1 => ?_) (fun c_1 => ?_)
  · have h := o_pos c_1 h
    refine lv_iconst (v := 0) X.1.1 X.1.2.1 dX3_holds_22 (by decide) ?_
    obtain ⟨rfl, rfl⟩ := o_ret2 h
    exact x_zret rfl X hP hS dX3_holds_23
  · have h := o_neg c_1 h
    refine lv_iload_n X.1.1 X.1.2.1 dX3_holds_4 rfl (lv_at hl 2 rfl) ?_
    refine lv_if_lt (tgt := 22) X.1.1 X.1.2.1 dX3_holds_5 (by decide) (fun c_2 => ?_) (fun c_2 => ?_)
    · have h := o_pos c_2 h
      refine lv_iconst (v := 0) X.1.1 X.1.2.1 dX3_holds_22 (by decide) ?_
      obtain ⟨rfl, rfl⟩ := o_ret2 h
      exact x_zret rfl X hP hS dX3_holds_23
    · have h := o_neg c_2 h
      refine lv_iload_n X.1.1 X.1.2.1 dX3_holds_8 rfl (lv_at hl 1 rfl) ?_
      refine lv_aload_n X.1.1 X.1.2.1 dX3_holds_9 rfl (lv_at hl 0 rfl) ?_
      refine gt_X3_1 X hP (kyH (by omega) (by decide)) wd_275 dX3_holds_10 ?_
      refine lv_iload_n X.1.1 X.1.2.1 dX3_holds_13 rfl (lv_at hl 2 rfl) ?_
      refine lv_isub X.1.1 X.1.2.1 dX3_holds_14 ?_
      refine lv_icmp_gt (tgt := 22) X.1.1 X.1.2.1 dX3_holds_15 (by decide) (fun c_3 => ?_) (fun c_3 => ?_)
      · have h := o_pos c_3 h
        refine lv_iconst (v := 0) X.1.1 X.1.2.1 dX3_holds_22 (by decide) ?_
        obtain ⟨rfl, rfl⟩ := o_ret2 h
        exact x_zret rfl X hP hS dX3_holds_23
      · have h := o_neg c_3 h
        refine lv_iconst (v := 1) X.1.1 X.1.2.1 dX3_holds_18 (by decide) ?_
        refine lv_goto (tgt := 23) X.1.1 X.1.2.1 dX3_holds_19 (by decide) ?_
        obtain ⟨rfl, rfl⟩ := o_ret2 h
        exact x_zret rfl X hP hS dX3_holds_23
/-- FordQuestions$Sheet.lowestBits(J)J -/
def f_X3_lowestBits (j : Nat) (a0 : Int64) (t : Mm) : Option (Int64 × Mm) := if (t.1 2 j 0 0) = 0 then (some ((((a0.toInt32).toInt8.toInt32).toInt64), t)) else (if (t.1 2 j 0 0) = 1 then (some ((((a0.toInt32).toInt16.toInt32).toInt64), t)) else (if (t.1 2 j 0 0) = 2 then (some (((a0.toInt32).toInt64), t)) else (some (a0, t))))
theorem hd_X3_lowestBits : x_hd yX3_lowestBits 1 := by decide +kernel
set_option maxRecDepth 100000 in
set_option maxHeartbeats 4000000 in
theorem c_X3_lowestBits (l : Launch) (g : Ly) (j : Nat) (hG : XG shC g) (hj : j < 4) (a0 : Int64) (t : Mm) {r : Int64} {t' : Mm} (h : f_X3_lowestBits j a0 t = some (r, t')) : MI l yX3_lowestBits cX3_lowestBits 3 (some .long) 1 shC g [.ref (g.2.2 (2, j, 0)), .long a0] t (XQl shC g r t') := by
  refine x_met hG (by decide +kernel) (Nat.le_of_ble_eq_true rfl) ?_
  intro p e s m below meth c ls X hP hl
  have hS : va_S (XA shC g) s.heap s.heap [] := va_S.rf
  have hl : lv_has ls 3 [(0, .ref (g.2.2 (2, j, 0))), (1, .long a0)] := hl
  unfold f_X3_lowestBits at h
  generalize ([.ref (g.2.2 (2, j, 0)), .long a0] : List Value).toArray = args at X ⊢
  refine lv_aload_n X.1.1 X.1.2.1 dX3_lowestBits_0 rfl (lv_at hl 0 rfl) ?_
  refine gt_X3_0 X hP (kyH (by omega) (by decide)) wd_273 dX3_lowestBits_1 ?_
  by_cases c_1 : (t.1 2 j 0 0) = 0
  · have h := o_pos c_1 h
    refine lv_tableIn (off := 28) (tgt := 32) X.1.1 X.1.2.1 dX3_lowestBits_4 (by rw [c_1]; decide) (by rw [c_1]; decide) (by rw [c_1]; rfl) (by decide) ?_
    refine lv_lload_n X.1.1 X.1.2.1 dX3_lowestBits_32 rfl (lv_at hl 1 rfl) ?_
    refine lv_l2i (v := (a0.toInt32)) X.1.1 X.1.2.1 dX3_lowestBits_33 rfl ?_
    refine lv_i2b (v := ((a0.toInt32).toInt8.toInt32)) X.1.1 X.1.2.1 dX3_lowestBits_34 rfl ?_
    refine lv_i2l (v := (((a0.toInt32).toInt8.toInt32).toInt64)) X.1.1 X.1.2.1 dX3_lowestBits_35 rfl ?_
    obtain ⟨rfl, rfl⟩ := o_ret2 h
    exact x_lret X hP hS dX3_lowestBits_36
  · have h := o_neg c_1 h
    by_cases c_2 : (t.1 2 j 0 0) = 1
    · have h := o_pos c_2 h
      refine lv_tableIn (off := 33) (tgt := 37) X.1.1 X.1.2.1 dX3_lowestBits_4 (by rw [c_2]; decide) (by rw [c_2]; decide) (by rw [c_2]; rfl) (by decide) ?_
      refine lv_lload_n X.1.1 X.1.2.1 dX3_lowestBits_37 rfl (lv_at hl 1 rfl) ?_
      refine lv_l2i (v := (a0.toInt32)) X.1.1 X.1.2.1 dX3_lowestBits_38 rfl ?_
      refine lv_i2s (v := ((a0.toInt32).toInt16.toInt32)) X.1.1 X.1.2.1 dX3_lowestBits_39 rfl ?_
      refine lv_i2l (v := (((a0.toInt32).toInt16.toInt32).toInt64)) X.1.1 X.1.2.1 dX3_lowestBits_40 rfl ?_
      obtain ⟨rfl, rfl⟩ := o_ret2 h
      exact x_lret X hP hS dX3_lowestBits_41
    · have h := o_neg c_2 h
      by_cases c_3 : (t.1 2 j 0 0) = 2
      · have h := o_pos c_3 h
        refine lv_tableIn (off := 38) (tgt := 42) X.1.1 X.1.2.1 dX3_lowestBits_4 (by rw [c_3]; decide) (by rw [c_3]; decide) (by rw [c_3]; rfl) (by decide) ?_
        refine lv_lload_n X.1.1 X.1.2.1 dX3_lowestBits_42 rfl (lv_at hl 1 rfl) ?_
        refine lv_l2i (v := (a0.toInt32)) X.1.1 X.1.2.1 dX3_lowestBits_43 rfl ?_
        refine lv_i2l (v := ((a0.toInt32).toInt64)) X.1.1 X.1.2.1 dX3_lowestBits_44 rfl ?_
        obtain ⟨rfl, rfl⟩ := o_ret2 h
        exact x_lret X hP hS dX3_lowestBits_45
      · have h := o_neg c_3 h
        have qc_1 := x_ne (n := 0) c_1 (by decide)
        have qc_2 := x_ne (n := 1) c_2 (by decide)
        have qc_3 := x_ne (n := 2) c_3 (by decide)
        refine lv_tableOut (tgt := 46) X.1.1 X.1.2.1 dX3_lowestBits_4 (by omega) (by decide) ?_
        refine lv_lload_n X.1.1 X.1.2.1 dX3_lowestBits_46 rfl (lv_at hl 1 rfl) ?_
        obtain ⟨rfl, rfl⟩ := o_ret2 h
        exact x_lret X hP hS dX3_lowestBits_47
/-- FordQuestions$Sheet.write(IJ)V -/
def f_X3_write (j : Nat) (a0 : Int32) (a1 : Int64) (t : Mm) : Option (Mm) := o_bd (f_X3_holds j a0 1 t) fun (r_3, t_1) => if r_3 = 0 then (some t_1) else (o_bd (f_X3_lowestBits j a1 t_1) fun (r_8, t_6) => if o_inb a0 24 = true then (o_nm (sJ t_6 j (a0.toNatClampNeg) r_8) fun t_11 => some t_11) else none)
theorem hd_X3_write : x_hd yX3_write 2 := by decide +kernel
set_option maxRecDepth 100000 in
set_option maxHeartbeats 4000000 in
theorem c_X3_write (l : Launch) (g : Ly) (j : Nat) (hG : XG shC g) (hj : j < 4) (a0 : Int32) (a1 : Int64) (t : Mm) {t' : Mm} (h : f_X3_write j a0 a1 t = some t') : MI l yX3_write cX3_write 4 none 2 shC g [.ref (g.2.2 (2, j, 0)), .int a0, .long a1] t (XQv shC g t') := by
  refine x_met hG (by decide +kernel) (Nat.le_of_ble_eq_true rfl) ?_
  intro p e s m below meth c ls X hP hl
  have hS : va_S (XA shC g) s.heap s.heap [] := va_S.rf
  have hl : lv_has ls 4 [(0, .ref (g.2.2 (2, j, 0))), (1, .int a0), (2, .long a1)] := hl
  unfold f_X3_write at h
  generalize ([.ref (g.2.2 (2, j, 0)), .int a0, .long a1] : List Value).toArray = args at X ⊢
  refine lv_aload_n X.1.1 X.1.2.1 dX3_write_0 rfl (lv_at hl 0 rfl) ?_
  refine lv_iload_n X.1.1 X.1.2.1 dX3_write_1 rfl (lv_at hl 1 rfl) ?_
  refine lv_iconst (v := 1) X.1.1 X.1.2.1 dX3_write_2 (by decide) ?_
  obtain ⟨⟨r_3, t_1⟩, hc_2, h⟩ := o_bd_inv h
  refine x_calli (x_runV (As := [.int a0, .int 1]) (rest := []) X hP hS (c_X3_holds l g j X.2.2.2.2.1 (by omega) a0 1 t hc_2) ⟨wd_814, wd_811, wd_812, wd_813, wd_61⟩ hd_X3_holds ⟨by omega, by decide⟩ (x_recv X hP (ci := 3) rfl (kyH (by omega) (by decide)) rfl) rfl hl.1 rfl (Nat.le_of_ble_eq_true rfl) dX3_write_3) hS (fun H locs hP hS => ?_)
  refine lv_if_eq (tgt := 20) X.1.1 X.1.2.1 dX3_write_6 (by decide) (fun c_5 => ?_) (fun c_5 => ?_)
  · have h := o_pos c_5 h
    obtain rfl := o_ret h
    exact x_vret X hP hS dX3_write_20
  · have h := o_neg c_5 h
    refine lv_aload_n X.1.1 X.1.2.1 dX3_write_9 rfl (lv_at hl 0 rfl) ?_
    refine gt_X3_2 X hP (kyH (by omega) (by decide)) wd_276 dX3_write_10 ?_
    refine lv_iload_n X.1.1 X.1.2.1 dX3_write_13 rfl (lv_at hl 1 rfl) ?_
    refine lv_aload_n X.1.1 X.1.2.1 dX3_write_14 rfl (lv_at hl 0 rfl) ?_
    refine lv_lload_n X.1.1 X.1.2.1 dX3_write_15 rfl (lv_at hl 2 rfl) ?_
    obtain ⟨⟨r_8, t_6⟩, hc_7, h⟩ := o_bd_inv h
    refine x_calll (x_runV (As := [.long a1]) (rest := [.int a0, .ref (g.2.2 (2, j, 1))]) X hP hS (c_X3_lowestBits l g j X.2.2.2.2.1 (by omega) a1 t_1 hc_7) ⟨wd_842, wd_839, wd_841, wd_24, wd_61⟩ hd_X3_lowestBits ⟨by omega, by decide⟩ (x_recv X hP (ci := 3) rfl (kyH (by omega) (by decide)) rfl) rfl hl.1 rfl (Nat.le_of_ble_eq_true rfl) dX3_write_16) hS (fun H locs hP hS => ?_)
    obtain ⟨g_10, h⟩ := o_gd_inv h
    obtain ⟨t_11, e_12, h⟩ := o_nm_inv h
    refine x_last X hP hS (kyH (by omega) (by decide)) (fun _ _ => rfl) hLC g_10 dX3_write_19 (fun H locs hP hS => ?_)
    have hP : XP shC g t_11 H := by rw [e_12]; exact hP
    obtain rfl := o_ret h
    exact x_vret X hP hS dX3_write_20
/-- FordQuestions$Sheet.isMissing()Z -/
def f_X3_isMissing (j : Nat) (t : Mm) : Option (Int32 × Mm) := if (t.1 2 j 0 1) = (-1) then (some (1, t)) else (some (0, t))
theorem hd_X3_isMissing : x_hd yX3_isMissing 0 := by decide +kernel
set_option maxRecDepth 100000 in
set_option maxHeartbeats 4000000 in
theorem c_X3_isMissing (l : Launch) (g : Ly) (j : Nat) (hG : XG shC g) (hj : j < 4) (t : Mm) {r : Int32} {t' : Mm} (h : f_X3_isMissing j t = some (r, t')) : MI l yX3_isMissing cX3_isMissing 1 (some .boolean) 1 shC g [.ref (g.2.2 (2, j, 0))] t (XQi shC g r t') := by
  refine x_met hG (by decide +kernel) (Nat.le_of_ble_eq_true rfl) ?_
  intro p e s m below meth c ls X hP hl
  have hS : va_S (XA shC g) s.heap s.heap [] := va_S.rf
  have hl : lv_has ls 1 [(0, .ref (g.2.2 (2, j, 0)))] := hl
  unfold f_X3_isMissing at h
  generalize ([.ref (g.2.2 (2, j, 0))] : List Value).toArray = args at X ⊢
  refine lv_aload_n X.1.1 X.1.2.1 dX3_isMissing_0 rfl (lv_at hl 0 rfl) ?_
  refine gt_X3_1 X hP (kyH (by omega) (by decide)) wd_275 dX3_isMissing_1 ?_
  refine lv_iconst (v := (-1)) X.1.1 X.1.2.1 dX3_isMissing_4 (by decide) ?_
  refine lv_icmp_ne (tgt := 12) X.1.1 X.1.2.1 dX3_isMissing_5 (by decide) (fun c_1 => ?_) (fun c_1 => ?_)
  · have h := o_neg c_1 h
    refine lv_iconst (v := 0) X.1.1 X.1.2.1 dX3_isMissing_12 (by decide) ?_
    obtain ⟨rfl, rfl⟩ := o_ret2 h
    exact x_zret rfl X hP hS dX3_isMissing_13
  · have h := o_pos c_1 h
    refine lv_iconst (v := 1) X.1.1 X.1.2.1 dX3_isMissing_8 (by decide) ?_
    refine lv_goto (tgt := 13) X.1.1 X.1.2.1 dX3_isMissing_9 (by decide) ?_
    obtain ⟨rfl, rfl⟩ := o_ret2 h
    exact x_zret rfl X hP hS dX3_isMissing_13
def b_J7_fill_d0a16_6 (N : Nat) (i0 : Nat) (k6 : Int64 × Int32 × Int32 × Mm → Option (Mm)) (x1 : Int64) (x3 : Int32) (x4 : Int32) (t : Mm) : Option (Mm) := if x4 ≤ x3 then (some t) else (if o_inb x3 24 = true then (o_nm (sJ t i0 (x3.toNatClampNeg) x1) fun t_3 => k6 (x1, (x3 + 1), x4, t_3)) else none)
def f_J7_fill_d0a16_6 (N : Nat) (i0 : Nat) (x1 : Int64) (x3 : Int32) (x4 : Int32) (t : Mm) : Option (Mm) := o_lp (fun k x => b_J7_fill_d0a16_6 N i0 k x.1 x.2.1 x.2.2.1 x.2.2.2) N (x1, x3, x4, t)
/-- java/util/Arrays.fill([JJ)V -/
def f_J7_fill_d0a16 (N : Nat) (i0 : Nat) (a1 : Int64) (t : Mm) : Option (Mm) := f_J7_fill_d0a16_6 N i0 a1 0 24 t
theorem hd_J7_fill_d0a16 : x_hd yJ7_fill_d0a16 2 := by decide +kernel
set_option maxRecDepth 100000 in
set_option maxHeartbeats 4000000 in
theorem wb_J7_fill_d0a16_6 {l : Launch} {g : Ly} {p : Program} {e : Env} {s : State} {m : MethodId} {args : Array Value} {below : List Frame} {meth : Method} {c : Code} (N : Nat) (i0 : Nat) (hi0 : i0 < 4) (X : XC p m meth c cJ7_fill_d0a16 5 s args (.code yJ7_fill_d0a16 cJ7_fill_d0a16 5 none) RJ7 none shC g) {t' : Mm} {k6 : Int64 × Int32 × Int32 × Mm → Option (Mm)} (hk6 : ∀ x : Int64 × Int32 × Int32 × Mm, k6 x = some t' → ∀ (H : Heap) (locs : List Loc) (ls : Array Slot), XP shC g x.2.2.2 H → va_S (XA shC g) s.heap H locs → lv_has ls 5 [(0, .ref (g.2.2 (2, i0, 1))), (1, .long x.1), (3, .int x.2.1), (4, .int x.2.2.1)] → W p l e (rmv 1) s m args below meth c H locs 0 0 (MQ below (XQv shC g t') args s 0 0 (XA shC g)) (F0 m 6 ls [])) (x1 : Int64) (x3 : Int32) (x4 : Int32) (t : Mm) (H : Heap) (locs : List Loc) (ls : Array Slot) (hP : XP shC g t H) (hS : va_S (XA shC g) s.heap H locs) (hl : lv_has ls 5 [(0, .ref (g.2.2 (2, i0, 1))), (1, .long x1), (3, .int x3), (4, .int x4)]) (h : b_J7_fill_d0a16_6 N i0 k6 x1 x3 x4 t = some t') : W p l e (rmv 1) s m args below meth c H locs 0 0 (MQ below (XQv shC g t') args s 0 0 (XA shC g)) (F0 m 6 ls []) := by
  unfold b_J7_fill_d0a16_6 at h
  refine lv_iload_n X.1.1 X.1.2.1 dJ7_fill_d0a16_6 rfl (lv_at hl 2 rfl) ?_
  refine lv_iload X.1.1 X.1.2.1 dJ7_fill_d0a16_7 (lv_at hl 3 rfl) ?_
  refine lv_icmp_ge (tgt := 22) X.1.1 X.1.2.1 dJ7_fill_d0a16_9 (by decide) (fun c_1 => ?_) (fun c_1 => ?_)
  · have h := o_pos c_1 h
    obtain rfl := o_ret h
    exact x_vret X hP hS dJ7_fill_d0a16_22
  · have h := o_neg c_1 h
    refine lv_aload_n X.1.1 X.1.2.1 dJ7_fill_d0a16_12 rfl (lv_at hl 0 rfl) ?_
    refine lv_iload_n X.1.1 X.1.2.1 dJ7_fill_d0a16_13 rfl (lv_at hl 2 rfl) ?_
    refine lv_lload_n X.1.1 X.1.2.1 dJ7_fill_d0a16_14 rfl (lv_at hl 1 rfl) ?_
    obtain ⟨g_2, h⟩ := o_gd_inv h
    obtain ⟨t_3, e_4, h⟩ := o_nm_inv h
    refine x_last X hP hS (kyH (by omega) (by decide)) (fun _ _ => rfl) hLC g_2 dJ7_fill_d0a16_15 (fun H locs hP hS => ?_)
    have hP : XP shC g t_3 H := by rw [e_4]; exact hP
    refine lv_iinc (v := (x3 + 1)) (lv' := [(3, .int (x3 + 1)), (0, .ref (g.2.2 (2, i0, 1))), (1, .long x1), (4, .int x4)]) X.1.1 X.1.2.1 dJ7_fill_d0a16_16 hl (k := 2) rfl rfl (by decide) rfl (fun ls hl => ?_)
    refine lv_goto (tgt := 6) X.1.1 X.1.2.1 dJ7_fill_d0a16_19 (by decide) ?_
    exact hk6 (x1, (x3 + 1), x4, t_3) h _ _ _ hP hS (lv_sub hl [1, 2, 0, 3] rfl)
set_option maxRecDepth 100000 in
set_option maxHeartbeats 4000000 in
theorem w_J7_fill_d0a16_6 {l : Launch} {g : Ly} {p : Program} {e : Env} {s : State} {m : MethodId} {args : Array Value} {below : List Frame} {meth : Method} {c : Code} (N : Nat) (i0 : Nat) (hi0 : i0 < 4) (X : XC p m meth c cJ7_fill_d0a16 5 s args (.code yJ7_fill_d0a16 cJ7_fill_d0a16 5 none) RJ7 none shC g) {t' : Mm} (x1 : Int64) (x3 : Int32) (x4 : Int32) (t : Mm) (H : Heap) (locs : List Loc) (ls : Array Slot) (hP : XP shC g t H) (hS : va_S (XA shC g) s.heap H locs) (hl : lv_has ls 5 [(0, .ref (g.2.2 (2, i0, 1))), (1, .long x1), (3, .int x3), (4, .int x4)]) (h : f_J7_fill_d0a16_6 N i0 x1 x3 x4 t = some t') : W p l e (rmv 1) s m args below meth c H locs 0 0 (MQ below (XQv shC g t') args s 0 0 (XA shC g)) (F0 m 6 ls []) :=
  o_lp_ind (P := fun x : Int64 × Int32 × Int32 × Mm => ∀ (H : Heap) (locs : List Loc) (ls : Array Slot), XP shC g x.2.2.2 H → va_S (XA shC g) s.heap H locs → lv_has ls 5 [(0, .ref (g.2.2 (2, i0, 1))), (1, .long x.1), (3, .int x.2.1), (4, .int x.2.2.1)] → W p l e (rmv 1) s m args below meth c H locs 0 0 (MQ below (XQv shC g t') args s 0 0 (XA shC g)) (F0 m 6 ls [])) (fun k hk x h H locs ls hP hS hl => wb_J7_fill_d0a16_6 N i0 hi0 X hk x.1 x.2.1 x.2.2.1 x.2.2.2 H locs ls hP hS hl h) N (x1, x3, x4, t) h H locs ls hP hS hl
set_option maxRecDepth 100000 in
set_option maxHeartbeats 4000000 in
theorem c_J7_fill_d0a16 (l : Launch) (g : Ly) (N : Nat) (i0 : Nat) (hG : XG shC g) (hi0 : i0 < 4) (a1 : Int64) (t : Mm) {t' : Mm} (h : f_J7_fill_d0a16 N i0 a1 t = some t') : MI l yJ7_fill_d0a16 cJ7_fill_d0a16 5 none 1 shC g [.ref (g.2.2 (2, i0, 1)), .long a1] t (XQv shC g t') := by
  refine x_met hG (by decide +kernel) (Nat.le_of_ble_eq_true rfl) ?_
  intro p e s m below meth c ls X hP hl
  have hS : va_S (XA shC g) s.heap s.heap [] := va_S.rf
  have hl : lv_has ls 5 [(0, .ref (g.2.2 (2, i0, 1))), (1, .long a1)] := hl
  unfold f_J7_fill_d0a16 at h
  generalize ([.ref (g.2.2 (2, i0, 1)), .long a1] : List Value).toArray = args at X ⊢
  refine lv_iconst (v := 0) X.1.1 X.1.2.1 dJ7_fill_d0a16_0 (by decide) ?_
  refine lv_istore_n (lv' := [(3, .int 0), (0, .ref (g.2.2 (2, i0, 1))), (1, .long a1)]) X.1.1 X.1.2.1 dJ7_fill_d0a16_1 rfl hl (by decide) rfl (fun ls hl => ?_)
  refine lv_aload_n X.1.1 X.1.2.1 dJ7_fill_d0a16_2 rfl (lv_at hl 1 rfl) ?_
  refine x_alenJ (n := 24) X hP (kyH (by omega) (by decide)) (fun _ _ => rfl) dJ7_fill_d0a16_3 ?_
  refine lv_istore (lv' := [(4, .int 24), (3, .int 0), (0, .ref (g.2.2 (2, i0, 1))), (1, .long a1)]) X.1.1 X.1.2.1 dJ7_fill_d0a16_4 hl (by decide) rfl (fun ls hl => ?_)
  exact w_J7_fill_d0a16_6 N i0 (by omega) X a1 0 24 t _ _ _ hP hS (lv_sub hl [2, 3, 1, 0] rfl) h
/-- FordQuestions$Sheet.begin(II)V -/
def f_X3_begin (N : Nat) (j : Nat) (a0 : Int32) (a1 : Int32) (t : Mm) : Option (Mm) := o_nm (sI t 2 j 0 0 a0) fun t_1 => o_nm (sI t_1 2 j 0 1 a1) fun t_3 => o_bd (f_J7_fill_d0a16 N j 0 t_3) fun t_5 => some t_5
theorem hd_X3_begin : x_hd yX3_begin 2 := by decide +kernel
set_option maxRecDepth 100000 in
set_option maxHeartbeats 4000000 in
theorem c_X3_begin (l : Launch) (g : Ly) (N : Nat) (j : Nat) (hG : XG shC g) (hj : j < 4) (a0 : Int32) (a1 : Int32) (t : Mm) {t' : Mm} (h : f_X3_begin N j a0 a1 t = some t') : MI l yX3_begin cX3_begin 3 none 2 shC g [.ref (g.2.2 (2, j, 0)), .int a0, .int a1] t (XQv shC g t') := by
  refine x_met hG (by decide +kernel) (Nat.le_of_ble_eq_true rfl) ?_
  intro p e s m below meth c ls X hP hl
  have hS : va_S (XA shC g) s.heap s.heap [] := va_S.rf
  have hl : lv_has ls 3 [(0, .ref (g.2.2 (2, j, 0))), (1, .int a0), (2, .int a1)] := hl
  unfold f_X3_begin at h
  generalize ([.ref (g.2.2 (2, j, 0)), .int a0, .int a1] : List Value).toArray = args at X ⊢
  refine lv_aload_n X.1.1 X.1.2.1 dX3_begin_0 rfl (lv_at hl 0 rfl) ?_
  refine lv_iload_n X.1.1 X.1.2.1 dX3_begin_1 rfl (lv_at hl 1 rfl) ?_
  obtain ⟨t_1, e_2, h⟩ := o_nm_inv h
  refine pt_X3_0 (x := a0) X hP hS (kyH (by omega) (by decide)) wd_273 dX3_begin_2 (fun H locs hP hS => ?_)
  have hP : XP shC g t_1 H := by rw [e_2]; exact hP
  refine lv_aload_n X.1.1 X.1.2.1 dX3_begin_5 rfl (lv_at hl 0 rfl) ?_
  refine lv_iload_n X.1.1 X.1.2.1 dX3_begin_6 rfl (lv_at hl 2 rfl) ?_
  obtain ⟨t_3, e_4, h⟩ := o_nm_inv h
  refine pt_X3_1 (x := a1) X hP hS (kyH (by omega) (by decide)) wd_275 dX3_begin_7 (fun H locs hP hS => ?_)
  have hP : XP shC g t_3 H := by rw [e_4]; exact hP
  refine lv_aload_n X.1.1 X.1.2.1 dX3_begin_10 rfl (lv_at hl 0 rfl) ?_
  refine gt_X3_2 X hP (kyH (by omega) (by decide)) wd_276 dX3_begin_11 ?_
  refine lv_lconst (v := 0) X.1.1 X.1.2.1 dX3_begin_14 (by decide) ?_
  obtain ⟨t_5, hc_6, h⟩ := o_bd_inv h
  refine x_callv (x_runS (As := [.ref (g.2.2 (2, j, 1)), .long 0]) (rest := []) X hP hS (c_J7_fill_d0a16 l g N j X.2.2.2.2.1 (by omega) 0 t_3 hc_6) ⟨wd_853, wd_851, wd_852, wd_71⟩ hd_J7_fill_d0a16 ⟨by omega, by decide⟩ rfl hl.1 rfl (Nat.le_of_ble_eq_true rfl) dX3_begin_15) hS (fun H locs hP hS => ?_)
  obtain rfl := o_ret h
  exact x_vret X hP hS dX3_begin_18
/-- FordQuestions$Sheet.end()I -/
def f_X3_end (j : Nat) (t : Mm) : Option (Int32 × Mm) := o_nm (sI t 2 j 0 1 (-1)) fun t_1 => some ((t.1 2 j 0 1), t_1)
theorem hd_X3_end : x_hd yX3_end 0 := by decide +kernel
set_option maxRecDepth 100000 in
set_option maxHeartbeats 4000000 in
theorem c_X3_end (l : Launch) (g : Ly) (j : Nat) (hG : XG shC g) (hj : j < 4) (t : Mm) {r : Int32} {t' : Mm} (h : f_X3_end j t = some (r, t')) : MI l yX3_end cX3_end 2 (some .int) 1 shC g [.ref (g.2.2 (2, j, 0))] t (XQi shC g r t') := by
  refine x_met hG (by decide +kernel) (Nat.le_of_ble_eq_true rfl) ?_
  intro p e s m below meth c ls X hP hl
  have hS : va_S (XA shC g) s.heap s.heap [] := va_S.rf
  have hl : lv_has ls 2 [(0, .ref (g.2.2 (2, j, 0)))] := hl
  unfold f_X3_end at h
  generalize ([.ref (g.2.2 (2, j, 0))] : List Value).toArray = args at X ⊢
  refine lv_aload_n X.1.1 X.1.2.1 dX3_end_0 rfl (lv_at hl 0 rfl) ?_
  refine gt_X3_1 X hP (kyH (by omega) (by decide)) wd_275 dX3_end_1 ?_
  refine lv_istore_n (lv' := [(1, .int (t.1 2 j 0 1)), (0, .ref (g.2.2 (2, j, 0)))]) X.1.1 X.1.2.1 dX3_end_4 rfl hl (by decide) rfl (fun ls hl => ?_)
  refine lv_aload_n X.1.1 X.1.2.1 dX3_end_5 rfl (lv_at hl 1 rfl) ?_
  refine lv_iconst (v := (-1)) X.1.1 X.1.2.1 dX3_end_6 (by decide) ?_
  obtain ⟨t_1, e_2, h⟩ := o_nm_inv h
  refine pt_X3_1 (x := (-1)) X hP hS (kyH (by omega) (by decide)) wd_275 dX3_end_7 (fun H locs hP hS => ?_)
  have hP : XP shC g t_1 H := by rw [e_2]; exact hP
  refine lv_iload_n X.1.1 X.1.2.1 dX3_end_10 rfl (lv_at hl 0 rfl) ?_
  obtain ⟨rfl, rfl⟩ := o_ret2 h
  exact x_iret X hP hS dX3_end_11
/-- FordQuestions$Sheet.refusal(III)I -/
def f_X3_refusal (j : Nat) (a0 : Int32) (a1 : Int32) (a2 : Int32) (t : Mm) : Option (Int32 × Mm) := o_bd (f_X3_isMissing j t) fun (r_3, t_1) => if r_3 = 0 then (if a0 = (t_1.1 2 j 0 0) then (o_bd (f_X3_holds j a1 a2 t_1) fun (r_9, t_7) => if r_9 = 0 then (some ((-13), t_7)) else (some (0, t_7))) else (some ((-12), t_1))) else (some ((-11), t_1))
theorem hd_X3_refusal : x_hd yX3_refusal 3 := by decide +kernel
set_option maxRecDepth 100000 in
set_option maxHeartbeats 4000000 in
theorem c_X3_refusal (l : Launch) (g : Ly) (j : Nat) (hG : XG shC g) (hj : j < 4) (a0 : Int32) (a1 : Int32) (a2 : Int32) (t : Mm) {r : Int32} {t' : Mm} (h : f_X3_refusal j a0 a1 a2 t = some (r, t')) : MI l yX3_refusal cX3_refusal 4 (some .int) 2 shC g [.ref (g.2.2 (2, j, 0)), .int a0, .int a1, .int a2] t (XQi shC g r t') := by
  refine x_met hG (by decide +kernel) (Nat.le_of_ble_eq_true rfl) ?_
  intro p e s m below meth c ls X hP hl
  have hS : va_S (XA shC g) s.heap s.heap [] := va_S.rf
  have hl : lv_has ls 4 [(0, .ref (g.2.2 (2, j, 0))), (1, .int a0), (2, .int a1), (3, .int a2)] := hl
  unfold f_X3_refusal at h
  generalize ([.ref (g.2.2 (2, j, 0)), .int a0, .int a1, .int a2] : List Value).toArray = args at X ⊢
  refine lv_aload_n X.1.1 X.1.2.1 dX3_refusal_0 rfl (lv_at hl 0 rfl) ?_
  obtain ⟨⟨r_3, t_1⟩, hc_2, h⟩ := o_bd_inv h
  refine x_calli (x_runV (As := []) (rest := []) X hP hS (c_X3_isMissing l g j X.2.2.2.2.1 (by omega) t hc_2) ⟨wd_810, wd_807, wd_808, wd_809, wd_61⟩ hd_X3_isMissing ⟨by omega, by decide⟩ (x_recv X hP (ci := 3) rfl (kyH (by omega) (by decide)) rfl) rfl hl.1 rfl (Nat.le_of_ble_eq_true rfl) dX3_refusal_1) hS (fun H locs hP hS => ?_)
  refine lv_if_eq (tgt := 10) X.1.1 X.1.2.1 dX3_refusal_4 (by decide) (fun c_5 => ?_) (fun c_5 => ?_)
  · have h := o_pos c_5 h
    refine lv_iload_n X.1.1 X.1.2.1 dX3_refusal_10 rfl (lv_at hl 1 rfl) ?_
    refine lv_aload_n X.1.1 X.1.2.1 dX3_refusal_11 rfl (lv_at hl 0 rfl) ?_
    refine gt_X3_0 X hP (kyH (by omega) (by decide)) wd_273 dX3_refusal_12 ?_
    refine lv_icmp_eq (tgt := 21) X.1.1 X.1.2.1 dX3_refusal_15 (by decide) (fun c_6 => ?_) (fun c_6 => ?_)
    · have h := o_pos c_6 h
      refine lv_aload_n X.1.1 X.1.2.1 dX3_refusal_21 rfl (lv_at hl 0 rfl) ?_
      refine lv_iload_n X.1.1 X.1.2.1 dX3_refusal_22 rfl (lv_at hl 2 rfl) ?_
      refine lv_iload_n X.1.1 X.1.2.1 dX3_refusal_23 rfl (lv_at hl 3 rfl) ?_
      obtain ⟨⟨r_9, t_7⟩, hc_8, h⟩ := o_bd_inv h
      refine x_calli (x_runV (As := [.int a1, .int a2]) (rest := []) X hP hS (c_X3_holds l g j X.2.2.2.2.1 (by omega) a1 a2 t_1 hc_8) ⟨wd_814, wd_811, wd_812, wd_813, wd_61⟩ hd_X3_holds ⟨by omega, by decide⟩ (x_recv X hP (ci := 3) rfl (kyH (by omega) (by decide)) rfl) rfl hl.1 rfl (Nat.le_of_ble_eq_true rfl) dX3_refusal_24) hS (fun H locs hP hS => ?_)
      refine lv_if_eq (tgt := 34) X.1.1 X.1.2.1 dX3_refusal_27 (by decide) (fun c_11 => ?_) (fun c_11 => ?_)
      · have h := o_pos c_11 h
        refine lv_bipush (v := (-13)) X.1.1 X.1.2.1 dX3_refusal_34 (by decide) ?_
        obtain ⟨rfl, rfl⟩ := o_ret2 h
        exact x_iret X hP hS dX3_refusal_36
      · have h := o_neg c_11 h
        refine lv_iconst (v := 0) X.1.1 X.1.2.1 dX3_refusal_30 (by decide) ?_
        refine lv_goto (tgt := 36) X.1.1 X.1.2.1 dX3_refusal_31 (by decide) ?_
        obtain ⟨rfl, rfl⟩ := o_ret2 h
        exact x_iret X hP hS dX3_refusal_36
    · have h := o_neg c_6 h
      refine lv_bipush (v := (-12)) X.1.1 X.1.2.1 dX3_refusal_18 (by decide) ?_
      obtain ⟨rfl, rfl⟩ := o_ret2 h
      exact x_iret X hP hS dX3_refusal_20
  · have h := o_neg c_5 h
    refine lv_bipush (v := (-11)) X.1.1 X.1.2.1 dX3_refusal_7 (by decide) ?_
    obtain ⟨rfl, rfl⟩ := o_ret2 h
    exact x_iret X hP hS dX3_refusal_9
/-- FordQuestions$Story.remember()V -/
def f_X4_remember (w : Nat) (t : Mm) : Option (Mm) := if o_inb (t.1 1 w 0 2) 8 = true then (o_bd (f_X0_takeFrom (9 * w + 1 + (t.1 1 w 0 2).toNatClampNeg) (9 * w) t) fun t_2 => o_nm (sI t_2 1 w 0 2 (((t_2.1 1 w 0 2) + 1) - ((t_2.1 1 w 0 2) + 1) / 8 * 8)) fun t_4 => o_nm (sI t_4 1 w 0 3 (if 8 < ((t_4.1 1 w 0 3) + 1) then 8 else ((t_4.1 1 w 0 3) + 1))) fun t_6 => some t_6) else none
theorem hd_X4_remember : x_hd yX4_remember 0 := by decide +kernel
set_option maxRecDepth 100000 in
set_option maxHeartbeats 4000000 in
theorem c_X4_remember (l : Launch) (g : Ly) (w : Nat) (hG : XG shC g) (hw : w < 2) (t : Mm) {t' : Mm} (h : f_X4_remember w t = some t') : MI l yX4_remember cX4_remember 1 none 2 shC g [.ref (g.2.2 (1, w, 0))] t (XQv shC g t') := by
  refine x_met hG (by decide +kernel) (Nat.le_of_ble_eq_true rfl) ?_
  intro p e s m below meth c ls X hP hl
  have hS : va_S (XA shC g) s.heap s.heap [] := va_S.rf
  have hl : lv_has ls 1 [(0, .ref (g.2.2 (1, w, 0)))] := hl
  unfold f_X4_remember at h
  generalize ([.ref (g.2.2 (1, w, 0))] : List Value).toArray = args at X ⊢
  refine lv_aload_n X.1.1 X.1.2.1 dX4_remember_0 rfl (lv_at hl 0 rfl) ?_
  refine gt_X4_1 X hP (kyS (by omega) (by decide)) wd_161 dX4_remember_1 ?_
  refine lv_aload_n X.1.1 X.1.2.1 dX4_remember_4 rfl (lv_at hl 0 rfl) ?_
  refine gt_X4_2 X hP (kyS (by omega) (by decide)) wd_162 dX4_remember_5 ?_
  obtain ⟨g_1, h⟩ := o_gd_inv h
  have := o_inb_lt g_1
  refine x_aald (ti := 3) X hP (kyS (by omega) (by decide)) rfl rfl g_1 rfl dX4_remember_8 ?_
  refine lv_aload_n X.1.1 X.1.2.1 dX4_remember_9 rfl (lv_at hl 0 rfl) ?_
  refine gt_X4_0 X hP (kyS (by omega) (by decide)) wd_159 dX4_remember_10 ?_
  obtain ⟨t_2, hc_3, h⟩ := o_bd_inv h
  refine x_callv (x_runV (As := [.ref (g.2.2 (0, (9 * w), 0))]) (rest := []) X hP hS (c_X0_takeFrom l g (9 * w + 1 + (t.1 1 w 0 2).toNatClampNeg) (9 * w) X.2.2.2.2.1 (by omega) (by omega) t hc_3) ⟨wd_543, wd_565, wd_541, wd_542, wd_56⟩ hd_X0_takeFrom ⟨by omega, by decide⟩ (x_recv X hP (ci := 0) rfl (kyF (by omega) (by decide)) rfl) rfl hl.1 rfl (Nat.le_of_ble_eq_true rfl) dX4_remember_13) hS (fun H locs hP hS => ?_)
  refine lv_aload_n X.1.1 X.1.2.1 dX4_remember_16 rfl (lv_at hl 0 rfl) ?_
  refine lv_aload_n X.1.1 X.1.2.1 dX4_remember_17 rfl (lv_at hl 0 rfl) ?_
  refine gt_X4_2 X hP (kyS (by omega) (by decide)) wd_162 dX4_remember_18 ?_
  refine lv_iconst (v := 1) X.1.1 X.1.2.1 dX4_remember_21 (by decide) ?_
  refine lv_iadd X.1.1 X.1.2.1 dX4_remember_22 ?_
  refine lv_bipush (v := 8) X.1.1 X.1.2.1 dX4_remember_23 (by decide) ?_
  refine lv_irem X.1.1 X.1.2.1 dX4_remember_25 (by decide) ?_
  obtain ⟨t_4, e_5, h⟩ := o_nm_inv h
  refine pt_X4_2 (x := (((t_2.1 1 w 0 2) + 1) - ((t_2.1 1 w 0 2) + 1) / 8 * 8)) X hP hS (kyS (by omega) (by decide)) wd_162 dX4_remember_26 (fun H locs hP hS => ?_)
  have hP : XP shC g t_4 H := by rw [e_5]; exact hP
  refine lv_aload_n X.1.1 X.1.2.1 dX4_remember_29 rfl (lv_at hl 0 rfl) ?_
  refine lv_aload_n X.1.1 X.1.2.1 dX4_remember_30 rfl (lv_at hl 0 rfl) ?_
  refine gt_X4_3 X hP (kyS (by omega) (by decide)) wd_163 dX4_remember_31 ?_
  refine lv_iconst (v := 1) X.1.1 X.1.2.1 dX4_remember_34 (by decide) ?_
  refine lv_iadd X.1.1 X.1.2.1 dX4_remember_35 ?_
  refine lv_bipush (v := 8) X.1.1 X.1.2.1 dX4_remember_36 (by decide) ?_
  refine x_min X ⟨wd_566, wd_381, wd_64, wd_382⟩ hl.1 (by omega) (Nat.le_of_ble_eq_true rfl) dX4_remember_38 ?_
  obtain ⟨t_6, e_7, h⟩ := o_nm_inv h
  refine pt_X4_3 (x := (if 8 < ((t_4.1 1 w 0 3) + 1) then 8 else ((t_4.1 1 w 0 3) + 1))) X hP hS (kyS (by omega) (by decide)) wd_163 dX4_remember_41 (fun H locs hP hS => ?_)
  have hP : XP shC g t_6 H := by rw [e_7]; exact hP
  obtain rfl := o_ret h
  exact x_vret X hP hS dX4_remember_44
/-- FordQuestions$Story.forgetPast()V -/
def f_X4_forgetPast (w : Nat) (t : Mm) : Option (Mm) := o_nm (sI t 1 w 0 3 0) fun t_1 => some t_1
theorem hd_X4_forgetPast : x_hd yX4_forgetPast 0 := by decide +kernel
set_option maxRecDepth 100000 in
set_option maxHeartbeats 4000000 in
theorem c_X4_forgetPast (l : Launch) (g : Ly) (w : Nat) (hG : XG shC g) (hw : w < 2) (t : Mm) {t' : Mm} (h : f_X4_forgetPast w t = some t') : MI l yX4_forgetPast cX4_forgetPast 1 none 1 shC g [.ref (g.2.2 (1, w, 0))] t (XQv shC g t') := by
  refine x_met hG (by decide +kernel) (Nat.le_of_ble_eq_true rfl) ?_
  intro p e s m below meth c ls X hP hl
  have hS : va_S (XA shC g) s.heap s.heap [] := va_S.rf
  have hl : lv_has ls 1 [(0, .ref (g.2.2 (1, w, 0)))] := hl
  unfold f_X4_forgetPast at h
  generalize ([.ref (g.2.2 (1, w, 0))] : List Value).toArray = args at X ⊢
  refine lv_aload_n X.1.1 X.1.2.1 dX4_forgetPast_0 rfl (lv_at hl 0 rfl) ?_
  refine lv_iconst (v := 0) X.1.1 X.1.2.1 dX4_forgetPast_1 (by decide) ?_
  obtain ⟨t_1, e_2, h⟩ := o_nm_inv h
  refine pt_X4_3 (x := 0) X hP hS (kyS (by omega) (by decide)) wd_163 dX4_forgetPast_2 (fun H locs hP hS => ?_)
  have hP : XP shC g t_1 H := by rw [e_2]; exact hP
  obtain rfl := o_ret h
  exact x_vret X hP hS dX4_forgetPast_5
/-- FordQuestions$Story.goBack()Z -/
def f_X4_goBack (w : Nat) (t : Mm) : Option (Int32 × Mm) := if (t.1 1 w 0 3) = 0 then (some (0, t)) else (o_nm (sI t 1 w 0 2 ((((t.1 1 w 0 2) + 8) - 1) - (((t.1 1 w 0 2) + 8) - 1) / 8 * 8)) fun t_2 => o_nm (sI t_2 1 w 0 3 ((t_2.1 1 w 0 3) - 1)) fun t_4 => if o_inb (t_4.1 1 w 0 2) 8 = true then (o_bd (f_X0_takeFrom (9 * w) (9 * w + 1 + (t_4.1 1 w 0 2).toNatClampNeg) t_4) fun t_7 => some (1, t_7)) else none)
theorem hd_X4_goBack : x_hd yX4_goBack 0 := by decide +kernel
set_option maxRecDepth 100000 in
set_option maxHeartbeats 4000000 in
theorem c_X4_goBack (l : Launch) (g : Ly) (w : Nat) (hG : XG shC g) (hw : w < 2) (t : Mm) {r : Int32} {t' : Mm} (h : f_X4_goBack w t = some (r, t')) : MI l yX4_goBack cX4_goBack 1 (some .boolean) 2 shC g [.ref (g.2.2 (1, w, 0))] t (XQi shC g r t') := by
  refine x_met hG (by decide +kernel) (Nat.le_of_ble_eq_true rfl) ?_
  intro p e s m below meth c ls X hP hl
  have hS : va_S (XA shC g) s.heap s.heap [] := va_S.rf
  have hl : lv_has ls 1 [(0, .ref (g.2.2 (1, w, 0)))] := hl
  unfold f_X4_goBack at h
  generalize ([.ref (g.2.2 (1, w, 0))] : List Value).toArray = args at X ⊢
  refine lv_aload_n X.1.1 X.1.2.1 dX4_goBack_0 rfl (lv_at hl 0 rfl) ?_
  refine gt_X4_3 X hP (kyS (by omega) (by decide)) wd_163 dX4_goBack_1 ?_
  refine lv_if_ne (tgt := 9) X.1.1 X.1.2.1 dX4_goBack_4 (by decide) (fun c_1 => ?_) (fun c_1 => ?_)
  · have h := o_neg c_1 h
    refine lv_aload_n X.1.1 X.1.2.1 dX4_goBack_9 rfl (lv_at hl 0 rfl) ?_
    refine lv_aload_n X.1.1 X.1.2.1 dX4_goBack_10 rfl (lv_at hl 0 rfl) ?_
    refine gt_X4_2 X hP (kyS (by omega) (by decide)) wd_162 dX4_goBack_11 ?_
    refine lv_bipush (v := 8) X.1.1 X.1.2.1 dX4_goBack_14 (by decide) ?_
    refine lv_iadd X.1.1 X.1.2.1 dX4_goBack_16 ?_
    refine lv_iconst (v := 1) X.1.1 X.1.2.1 dX4_goBack_17 (by decide) ?_
    refine lv_isub X.1.1 X.1.2.1 dX4_goBack_18 ?_
    refine lv_bipush (v := 8) X.1.1 X.1.2.1 dX4_goBack_19 (by decide) ?_
    refine lv_irem X.1.1 X.1.2.1 dX4_goBack_21 (by decide) ?_
    obtain ⟨t_2, e_3, h⟩ := o_nm_inv h
    refine pt_X4_2 (x := ((((t.1 1 w 0 2) + 8) - 1) - (((t.1 1 w 0 2) + 8) - 1) / 8 * 8)) X hP hS (kyS (by omega) (by decide)) wd_162 dX4_goBack_22 (fun H locs hP hS => ?_)
    have hP : XP shC g t_2 H := by rw [e_3]; exact hP
    refine lv_aload_n X.1.1 X.1.2.1 dX4_goBack_25 rfl (lv_at hl 0 rfl) ?_
    refine lv_dup X.1.1 X.1.2.1 dX4_goBack_26 rfl ?_
    refine gt_X4_3 X hP (kyS (by omega) (by decide)) wd_163 dX4_goBack_27 ?_
    refine lv_iconst (v := 1) X.1.1 X.1.2.1 dX4_goBack_30 (by decide) ?_
    refine lv_isub X.1.1 X.1.2.1 dX4_goBack_31 ?_
    obtain ⟨t_4, e_5, h⟩ := o_nm_inv h
    refine pt_X4_3 (x := ((t_2.1 1 w 0 3) - 1)) X hP hS (kyS (by omega) (by decide)) wd_163 dX4_goBack_32 (fun H locs hP hS => ?_)
    have hP : XP shC g t_4 H := by rw [e_5]; exact hP
    refine lv_aload_n X.1.1 X.1.2.1 dX4_goBack_35 rfl (lv_at hl 0 rfl) ?_
    refine gt_X4_0 X hP (kyS (by omega) (by decide)) wd_159 dX4_goBack_36 ?_
    refine lv_aload_n X.1.1 X.1.2.1 dX4_goBack_39 rfl (lv_at hl 0 rfl) ?_
    refine gt_X4_1 X hP (kyS (by omega) (by decide)) wd_161 dX4_goBack_40 ?_
    refine lv_aload_n X.1.1 X.1.2.1 dX4_goBack_43 rfl (lv_at hl 0 rfl) ?_
    refine gt_X4_2 X hP (kyS (by omega) (by decide)) wd_162 dX4_goBack_44 ?_
    obtain ⟨g_6, h⟩ := o_gd_inv h
    have := o_inb_lt g_6
    refine x_aald (ti := 3) X hP (kyS (by omega) (by decide)) rfl rfl g_6 rfl dX4_goBack_47 ?_
    obtain ⟨t_7, hc_8, h⟩ := o_bd_inv h
    refine x_callv (x_runV (As := [.ref (g.2.2 (0, (9 * w + 1 + (t_4.1 1 w 0 2).toNatClampNeg), 0))]) (rest := []) X hP hS (c_X0_takeFrom l g (9 * w) (9 * w + 1 + (t_4.1 1 w 0 2).toNatClampNeg) X.2.2.2.2.1 (by omega) (by omega) t_4 hc_8) ⟨wd_543, wd_565, wd_541, wd_542, wd_56⟩ hd_X0_takeFrom ⟨by omega, by decide⟩ (x_recv X hP (ci := 0) rfl (kyF (by omega) (by decide)) rfl) rfl hl.1 rfl (Nat.le_of_ble_eq_true rfl) dX4_goBack_48) hS (fun H locs hP hS => ?_)
    refine lv_iconst (v := 1) X.1.1 X.1.2.1 dX4_goBack_51 (by decide) ?_
    obtain ⟨rfl, rfl⟩ := o_ret2 h
    exact x_zret rfl X hP hS dX4_goBack_52
  · have h := o_pos c_1 h
    refine lv_iconst (v := 0) X.1.1 X.1.2.1 dX4_goBack_7 (by decide) ?_
    obtain ⟨rfl, rfl⟩ := o_ret2 h
    exact x_zret rfl X hP hS dX4_goBack_8
def b_X4_takeFrom_13 (N : Nat) (w : Nat) (i0 : Nat) (k13 : Int32 × Mm → Option (Mm)) (x2 : Int32) (t : Mm) : Option (Mm) := if 8 ≤ x2 then (o_nm (sI t 1 w 0 2 (t.1 1 i0 0 2)) fun t_2 => o_nm (sI t_2 1 w 0 3 (t_2.1 1 i0 0 3)) fun t_4 => some t_4) else (if o_inb x2 8 = true then (if o_inb x2 8 = true then (o_bd (f_X0_takeFrom (9 * w + 1 + x2.toNatClampNeg) (9 * i0 + 1 + x2.toNatClampNeg) t) fun t_8 => k13 ((x2 + 1), t_8)) else none) else none)
def f_X4_takeFrom_13 (N : Nat) (w : Nat) (i0 : Nat) (x2 : Int32) (t : Mm) : Option (Mm) := o_lp (fun k x => b_X4_takeFrom_13 N w i0 k x.1 x.2) N (x2, t)
/-- FordQuestions$Story.takeFrom(LFordQuestions$Story;)V -/
def f_X4_takeFrom (N : Nat) (w : Nat) (i0 : Nat) (t : Mm) : Option (Mm) := o_bd (f_X0_takeFrom (9 * w) (9 * i0) t) fun t_10 => f_X4_takeFrom_13 N w i0 0 t_10
theorem hd_X4_takeFrom : x_hd yX4_takeFrom 1 := by decide +kernel
set_option maxRecDepth 100000 in
set_option maxHeartbeats 4000000 in
theorem wb_X4_takeFrom_13 {l : Launch} {g : Ly} {p : Program} {e : Env} {s : State} {m : MethodId} {args : Array Value} {below : List Frame} {meth : Method} {c : Code} (N : Nat) (w : Nat) (i0 : Nat) (hw : w < 2) (hi0 : i0 < 2) (X : XC p m meth c cX4_takeFrom 3 s args (.code yX4_takeFrom cX4_takeFrom 3 none) RX4 none shC g) {t' : Mm} {k13 : Int32 × Mm → Option (Mm)} (hk13 : ∀ x : Int32 × Mm, k13 x = some t' → ∀ (H : Heap) (locs : List Loc) (ls : Array Slot), XP shC g x.2 H → va_S (XA shC g) s.heap H locs → lv_has ls 3 [(0, .ref (g.2.2 (1, w, 0))), (1, .ref (g.2.2 (1, i0, 0))), (2, .int x.1)] → W p l e (rmv 2) s m args below meth c H locs 0 0 (MQ below (XQv shC g t') args s 0 0 (XA shC g)) (F0 m 13 ls [])) (x2 : Int32) (t : Mm) (H : Heap) (locs : List Loc) (ls : Array Slot) (hP : XP shC g t H) (hS : va_S (XA shC g) s.heap H locs) (hl : lv_has ls 3 [(0, .ref (g.2.2 (1, w, 0))), (1, .ref (g.2.2 (1, i0, 0))), (2, .int x2)]) (h : b_X4_takeFrom_13 N w i0 k13 x2 t = some t') : W p l e (rmv 2) s m args below meth c H locs 0 0 (MQ below (XQv shC g t') args s 0 0 (XA shC g)) (F0 m 13 ls []) := by
  unfold b_X4_takeFrom_13 at h
  refine lv_iload_n X.1.1 X.1.2.1 dX4_takeFrom_13 rfl (lv_at hl 2 rfl) ?_
  refine lv_bipush (v := 8) X.1.1 X.1.2.1 dX4_takeFrom_14 (by decide) ?_
  refine lv_icmp_ge (tgt := 40) X.1.1 X.1.2.1 dX4_takeFrom_16 (by decide) (fun c_1 => ?_) (fun c_1 => ?_)
  · have h := o_pos c_1 h
    refine lv_aload_n X.1.1 X.1.2.1 dX4_takeFrom_40 rfl (lv_at hl 0 rfl) ?_
    refine lv_aload_n X.1.1 X.1.2.1 dX4_takeFrom_41 rfl (lv_at hl 1 rfl) ?_
    refine gt_X4_2 X hP (kyS (by omega) (by decide)) wd_162 dX4_takeFrom_42 ?_
    obtain ⟨t_2, e_3, h⟩ := o_nm_inv h
    refine pt_X4_2 (x := (t.1 1 i0 0 2)) X hP hS (kyS (by omega) (by decide)) wd_162 dX4_takeFrom_45 (fun H locs hP hS => ?_)
    have hP : XP shC g t_2 H := by rw [e_3]; exact hP
    refine lv_aload_n X.1.1 X.1.2.1 dX4_takeFrom_48 rfl (lv_at hl 0 rfl) ?_
    refine lv_aload_n X.1.1 X.1.2.1 dX4_takeFrom_49 rfl (lv_at hl 1 rfl) ?_
    refine gt_X4_3 X hP (kyS (by omega) (by decide)) wd_163 dX4_takeFrom_50 ?_
    obtain ⟨t_4, e_5, h⟩ := o_nm_inv h
    refine pt_X4_3 (x := (t_2.1 1 i0 0 3)) X hP hS (kyS (by omega) (by decide)) wd_163 dX4_takeFrom_53 (fun H locs hP hS => ?_)
    have hP : XP shC g t_4 H := by rw [e_5]; exact hP
    obtain rfl := o_ret h
    exact x_vret X hP hS dX4_takeFrom_56
  · have h := o_neg c_1 h
    refine lv_aload_n X.1.1 X.1.2.1 dX4_takeFrom_19 rfl (lv_at hl 0 rfl) ?_
    refine gt_X4_1 X hP (kyS (by omega) (by decide)) wd_161 dX4_takeFrom_20 ?_
    refine lv_iload_n X.1.1 X.1.2.1 dX4_takeFrom_23 rfl (lv_at hl 2 rfl) ?_
    obtain ⟨g_6, h⟩ := o_gd_inv h
    have := o_inb_lt g_6
    refine x_aald (ti := 3) X hP (kyS (by omega) (by decide)) rfl rfl g_6 rfl dX4_takeFrom_24 ?_
    refine lv_aload_n X.1.1 X.1.2.1 dX4_takeFrom_25 rfl (lv_at hl 1 rfl) ?_
    refine gt_X4_1 X hP (kyS (by omega) (by decide)) wd_161 dX4_takeFrom_26 ?_
    refine lv_iload_n X.1.1 X.1.2.1 dX4_takeFrom_29 rfl (lv_at hl 2 rfl) ?_
    obtain ⟨g_7, h⟩ := o_gd_inv h
    have := o_inb_lt g_7
    refine x_aald (ti := 3) X hP (kyS (by omega) (by decide)) rfl rfl g_7 rfl dX4_takeFrom_30 ?_
    obtain ⟨t_8, hc_9, h⟩ := o_bd_inv h
    refine x_callv (x_runV (As := [.ref (g.2.2 (0, (9 * i0 + 1 + x2.toNatClampNeg), 0))]) (rest := []) X hP hS (c_X0_takeFrom l g (9 * w + 1 + x2.toNatClampNeg) (9 * i0 + 1 + x2.toNatClampNeg) X.2.2.2.2.1 (by omega) (by omega) t hc_9) ⟨wd_543, wd_565, wd_541, wd_542, wd_56⟩ hd_X0_takeFrom ⟨by omega, by decide⟩ (x_recv X hP (ci := 0) rfl (kyF (by omega) (by decide)) rfl) rfl hl.1 rfl (Nat.le_of_ble_eq_true rfl) dX4_takeFrom_31) hS (fun H locs hP hS => ?_)
    refine lv_iinc (v := (x2 + 1)) (lv' := [(2, .int (x2 + 1)), (0, .ref (g.2.2 (1, w, 0))), (1, .ref (g.2.2 (1, i0, 0)))]) X.1.1 X.1.2.1 dX4_takeFrom_34 hl (k := 2) rfl rfl (by decide) rfl (fun ls hl => ?_)
    refine lv_goto (tgt := 13) X.1.1 X.1.2.1 dX4_takeFrom_37 (by decide) ?_
    exact hk13 ((x2 + 1), t_8) h _ _ _ hP hS (lv_sub hl [1, 2, 0] rfl)
set_option maxRecDepth 100000 in
set_option maxHeartbeats 4000000 in
theorem w_X4_takeFrom_13 {l : Launch} {g : Ly} {p : Program} {e : Env} {s : State} {m : MethodId} {args : Array Value} {below : List Frame} {meth : Method} {c : Code} (N : Nat) (w : Nat) (i0 : Nat) (hw : w < 2) (hi0 : i0 < 2) (X : XC p m meth c cX4_takeFrom 3 s args (.code yX4_takeFrom cX4_takeFrom 3 none) RX4 none shC g) {t' : Mm} (x2 : Int32) (t : Mm) (H : Heap) (locs : List Loc) (ls : Array Slot) (hP : XP shC g t H) (hS : va_S (XA shC g) s.heap H locs) (hl : lv_has ls 3 [(0, .ref (g.2.2 (1, w, 0))), (1, .ref (g.2.2 (1, i0, 0))), (2, .int x2)]) (h : f_X4_takeFrom_13 N w i0 x2 t = some t') : W p l e (rmv 2) s m args below meth c H locs 0 0 (MQ below (XQv shC g t') args s 0 0 (XA shC g)) (F0 m 13 ls []) :=
  o_lp_ind (P := fun x : Int32 × Mm => ∀ (H : Heap) (locs : List Loc) (ls : Array Slot), XP shC g x.2 H → va_S (XA shC g) s.heap H locs → lv_has ls 3 [(0, .ref (g.2.2 (1, w, 0))), (1, .ref (g.2.2 (1, i0, 0))), (2, .int x.1)] → W p l e (rmv 2) s m args below meth c H locs 0 0 (MQ below (XQv shC g t') args s 0 0 (XA shC g)) (F0 m 13 ls [])) (fun k hk x h H locs ls hP hS hl => wb_X4_takeFrom_13 N w i0 hw hi0 X hk x.1 x.2 H locs ls hP hS hl h) N (x2, t) h H locs ls hP hS hl
set_option maxRecDepth 100000 in
set_option maxHeartbeats 4000000 in
theorem c_X4_takeFrom (l : Launch) (g : Ly) (N : Nat) (w : Nat) (i0 : Nat) (hG : XG shC g) (hw : w < 2) (hi0 : i0 < 2) (t : Mm) {t' : Mm} (h : f_X4_takeFrom N w i0 t = some t') : MI l yX4_takeFrom cX4_takeFrom 3 none 2 shC g [.ref (g.2.2 (1, w, 0)), .ref (g.2.2 (1, i0, 0))] t (XQv shC g t') := by
  refine x_met hG (by decide +kernel) (Nat.le_of_ble_eq_true rfl) ?_
  intro p e s m below meth c ls X hP hl
  have hS : va_S (XA shC g) s.heap s.heap [] := va_S.rf
  have hl : lv_has ls 3 [(0, .ref (g.2.2 (1, w, 0))), (1, .ref (g.2.2 (1, i0, 0)))] := hl
  unfold f_X4_takeFrom at h
  generalize ([.ref (g.2.2 (1, w, 0)), .ref (g.2.2 (1, i0, 0))] : List Value).toArray = args at X ⊢
  refine lv_aload_n X.1.1 X.1.2.1 dX4_takeFrom_0 rfl (lv_at hl 0 rfl) ?_
  refine gt_X4_0 X hP (kyS (by omega) (by decide)) wd_159 dX4_takeFrom_1 ?_
  refine lv_aload_n X.1.1 X.1.2.1 dX4_takeFrom_4 rfl (lv_at hl 1 rfl) ?_
  refine gt_X4_0 X hP (kyS (by omega) (by decide)) wd_159 dX4_takeFrom_5 ?_
  obtain ⟨t_10, hc_11, h⟩ := o_bd_inv h
  refine x_callv (x_runV (As := [.ref (g.2.2 (0, (9 * i0), 0))]) (rest := []) X hP hS (c_X0_takeFrom l g (9 * w) (9 * i0) X.2.2.2.2.1 (by omega) (by omega) t hc_11) ⟨wd_543, wd_565, wd_541, wd_542, wd_56⟩ hd_X0_takeFrom ⟨by omega, by decide⟩ (x_recv X hP (ci := 0) rfl (kyF (by omega) (by decide)) rfl) rfl hl.1 rfl (Nat.le_of_ble_eq_true rfl) dX4_takeFrom_8) hS (fun H locs hP hS => ?_)
  refine lv_iconst (v := 0) X.1.1 X.1.2.1 dX4_takeFrom_11 (by decide) ?_
  refine lv_istore_n (lv' := [(2, .int 0), (0, .ref (g.2.2 (1, w, 0))), (1, .ref (g.2.2 (1, i0, 0)))]) X.1.1 X.1.2.1 dX4_takeFrom_12 rfl hl (by decide) rfl (fun ls hl => ?_)
  exact w_X4_takeFrom_13 N w i0 (by omega) (by omega) X 0 t_10 _ _ _ hP hS (lv_sub hl [1, 2, 0] rfl) h
def f_X5_append_30 (t : Mm) : Option (Int32 × Mm) := some ((t.1 3 1 0 1), t)
/-- FordQuestions$Tape.append(I)I -/
def f_X5_append (a0 : Int32) (t : Mm) : Option (Int32 × Mm) := if 90 ≤ (t.1 3 1 0 1) then (f_X5_append_30 t) else (if o_inb (t.1 3 1 0 1) 90 = true then (o_nm (sI t 3 2 0 ((t.1 3 1 0 1).toNatClampNeg) (vp_nar .char ((a0.toUInt32 % 65536).toInt32))) fun t_3 => o_nm (sI t_3 3 1 0 1 ((t_3.1 3 1 0 1) + 1)) fun t_5 => f_X5_append_30 t_5) else none)
theorem hd_X5_append : x_hd yX5_append 1 := by decide +kernel
set_option maxRecDepth 100000 in
set_option maxHeartbeats 4000000 in
theorem w_X5_append_30 {l : Launch} {g : Ly} {p : Program} {e : Env} {s : State} {m : MethodId} {args : Array Value} {below : List Frame} {meth : Method} {c : Code} (X : XC p m meth c cX5_append 2 s args (.code yX5_append cX5_append 2 (some .int)) RX5 (some .int) shC g) {r : Int32} {t' : Mm} (t : Mm) (H : Heap) (locs : List Loc) (ls : Array Slot) (hP : XP shC g t H) (hS : va_S (XA shC g) s.heap H locs) (hl : lv_has ls 2 [(0, .ref (g.2.2 (3, 1, 0)))]) (h : f_X5_append_30 t = some (r, t')) : W p l e (rmv 1) s m args below meth c H locs 0 0 (MQ below (XQi shC g r t') args s 0 0 (XA shC g)) (F0 m 30 ls []) := by
  unfold f_X5_append_30 at h
  refine lv_aload_n X.1.1 X.1.2.1 dX5_append_30 rfl (lv_at hl 0 rfl) ?_
  refine gt_X5_1 X hP (kyO (by decide)) wd_182 dX5_append_31 ?_
  obtain ⟨rfl, rfl⟩ := o_ret2 h
  exact x_iret X hP hS dX5_append_34
set_option maxRecDepth 100000 in
set_option maxHeartbeats 4000000 in
theorem c_X5_append (l : Launch) (g : Ly) (hG : XG shC g) (a0 : Int32) (t : Mm) {r : Int32} {t' : Mm} (h : f_X5_append a0 t = some (r, t')) : MI l yX5_append cX5_append 2 (some .int) 1 shC g [.ref (g.2.2 (3, 1, 0)), .int a0] t (XQi shC g r t') := by
  refine x_met hG (by decide +kernel) (Nat.le_of_ble_eq_true rfl) ?_
  intro p e s m below meth c ls X hP hl
  have hS : va_S (XA shC g) s.heap s.heap [] := va_S.rf
  have hl : lv_has ls 2 [(0, .ref (g.2.2 (3, 1, 0))), (1, .int a0)] := hl
  unfold f_X5_append at h
  generalize ([.ref (g.2.2 (3, 1, 0)), .int a0] : List Value).toArray = args at X ⊢
  refine lv_aload_n X.1.1 X.1.2.1 dX5_append_0 rfl (lv_at hl 0 rfl) ?_
  refine gt_X5_1 X hP (kyO (by decide)) wd_182 dX5_append_1 ?_
  refine lv_bipush (v := 90) X.1.1 X.1.2.1 dX5_append_4 (by decide) ?_
  refine lv_icmp_ge (tgt := 30) X.1.1 X.1.2.1 dX5_append_6 (by decide) (fun c_1 => ?_) (fun c_1 => ?_)
  · have h := o_pos c_1 h
    exact w_X5_append_30 X t _ _ _ hP hS (lv_sub hl [0] rfl) h
  · have h := o_neg c_1 h
    refine lv_aload_n X.1.1 X.1.2.1 dX5_append_9 rfl (lv_at hl 0 rfl) ?_
    refine gt_X5_0 X hP (kyO (by decide)) wd_180 dX5_append_10 ?_
    refine lv_aload_n X.1.1 X.1.2.1 dX5_append_13 rfl (lv_at hl 0 rfl) ?_
    refine gt_X5_1 X hP (kyO (by decide)) wd_182 dX5_append_14 ?_
    refine lv_iload_n X.1.1 X.1.2.1 dX5_append_17 rfl (lv_at hl 1 rfl) ?_
    refine lv_i2c (v := ((a0.toUInt32 % 65536).toInt32)) X.1.1 X.1.2.1 dX5_append_18 rfl ?_
    obtain ⟨g_2, h⟩ := o_gd_inv h
    obtain ⟨t_3, e_4, h⟩ := o_nm_inv h
    refine x_cast X hP hS (kyO (by decide)) (fun _ _ => rfl) g_2 dX5_append_19 (fun H locs hP hS => ?_)
    have hP : XP shC g t_3 H := by rw [e_4]; exact hP
    refine lv_aload_n X.1.1 X.1.2.1 dX5_append_20 rfl (lv_at hl 0 rfl) ?_
    refine lv_dup X.1.1 X.1.2.1 dX5_append_21 rfl ?_
    refine gt_X5_1 X hP (kyO (by decide)) wd_182 dX5_append_22 ?_
    refine lv_iconst (v := 1) X.1.1 X.1.2.1 dX5_append_25 (by decide) ?_
    refine lv_iadd X.1.1 X.1.2.1 dX5_append_26 ?_
    obtain ⟨t_5, e_6, h⟩ := o_nm_inv h
    refine pt_X5_1 (x := ((t_3.1 3 1 0 1) + 1)) X hP hS (kyO (by decide)) wd_182 dX5_append_27 (fun H locs hP hS => ?_)
    have hP : XP shC g t_5 H := by rw [e_6]; exact hP
    exact w_X5_append_30 X t_5 _ _ _ hP hS (lv_sub hl [0] rfl) h
