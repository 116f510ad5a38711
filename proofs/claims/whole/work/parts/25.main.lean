def f_X7_isOutside_10 (t : Mm) : Option (Int32 × Mm) := some (1, t)
/-- FordQuestions.isOutside(III)Z -/
def f_X7_isOutside (a0 : Int32) (a1 : Int32) (a2 : Int32) (t : Mm) : Option (Int32 × Mm) := if a0 < a1 then (f_X7_isOutside_10 t) else (if a0 ≤ a2 then (some (0, t)) else (f_X7_isOutside_10 t))
theorem hd_X7_isOutside : x_hd yX7_isOutside 3 := by decide +kernel
set_option maxRecDepth 100000 in
set_option maxHeartbeats 4000000 in
theorem w_X7_isOutside_10 {l : Launch} {g : Ly} {p : Program} {e : Env} {s : State} {m : MethodId} {args : Array Value} {below : List Frame} {meth : Method} {c : Code} (X : XC p m meth c cX7_isOutside 3 s args (.code yX7_isOutside cX7_isOutside 3 (some .boolean)) RX7 (some .boolean) shC g) {r : Int32} {t' : Mm} (t : Mm) (H : Heap) (locs : List Loc) (ls : Array Slot) (hP : XP shC g t H) (hS : va_S (XA shC g) s.heap H locs) (hl : lv_has ls 3 []) (h : f_X7_isOutside_10 t = some (r, t')) : W p l e (rmv 1) s m args below meth c H locs 0 0 (MQ below (XQi shC g r t') args s 0 0 (XA shC g)) (F0 m 10 ls []) := by
  unfold f_X7_isOutside_10 at h
  refine lv_iconst (v := 1) X.1.1 X.1.2.1 dX7_isOutside_10 (by decide) ?_
  refine lv_goto (tgt := 15) X.1.1 X.1.2.1 dX7_isOutside_11 (by decide) ?_
  obtain ⟨rfl, rfl⟩ := o_ret2 h
  exact x_zret rfl X hP hS dX7_isOutside_15
set_option maxRecDepth 100000 in
set_option maxHeartbeats 4000000 in
theorem c_X7_isOutside (l : Launch) (g : Ly) (hG : XG shC g) (a0 : Int32) (a1 : Int32) (a2 : Int32) (t : Mm) {r : Int32} {t' : Mm} (h : f_X7_isOutside a0 a1 a2 t = some (r, t')) : MI l yX7_isOutside cX7_isOutside 3 (some .boolean) 1 shC g [.int a0, .int a1, .int a2] t (XQi shC g r t') := by
  refine x_met hG (by decide +kernel) (Nat.le_of_ble_eq_true rfl) ?_
  intro p e s m below meth c ls X hP hl
  have hS : va_S (XA shC g) s.heap s.heap [] := va_S.rf
  have hl : lv_has ls 3 [(0, .int a0), (1, .int a1), (2, .int a2)] := hl
  unfold f_X7_isOutside at h
  generalize ([.int a0, .int a1, .int a2] : List Value).toArray = args at X ⊢
  refine lv_iload_n X.1.1 X.1.2.1 dX7_isOutside_0 rfl (lv_at hl 0 rfl) ?_
  refine lv_iload_n X.1.1 X.1.2.1 dX7_isOutside_1 rfl (lv_at hl 1 rfl) ?_
  refine lv_icmp_lt (tgt := 10) X.1.1 X.1.2.1 dX7_isOutside_2 (by decide) (fun c_1 => ?_) (fun c_1 => ?_)
  · have h := o_pos c_1 h
    exact w_X7_isOutside_10 X t _ _ _ hP hS (lv_sub hl [] rfl) h
  · have h := o_neg c_1 h
    refine lv_iload_n X.1.1 X.1.2.1 dX7_isOutside_5 rfl (lv_at hl 0 rfl) ?_
    refine lv_iload_n X.1.1 X.1.2.1 dX7_isOutside_6 rfl (lv_at hl 2 rfl) ?_
    refine lv_icmp_le (tgt := 14) X.1.1 X.1.2.1 dX7_isOutside_7 (by decide) (fun c_2 => ?_) (fun c_2 => ?_)
    · have h := o_pos c_2 h
      refine lv_iconst (v := 0) X.1.1 X.1.2.1 dX7_isOutside_14 (by decide) ?_
      obtain ⟨rfl, rfl⟩ := o_ret2 h
      exact x_zret rfl X hP hS dX7_isOutside_15
    · have h := o_neg c_2 h
      exact w_X7_isOutside_10 X t _ _ _ hP hS (lv_sub hl [] rfl) h
/-- FordQuestions.question(II)I -/
def f_X7_question (a0 : Int32) (a1 : Int32) (t : Mm) : Option (Int32 × Mm) := o_bd (f_X7_isOutside a0 0 7 t) fun (r_3, t_1) => if r_3 = 0 then (o_bd (f_X7_isOutside a1 1 9 t_1) fun (r_8, t_6) => if r_8 = 0 then (if (t_6.1 0 (9 * 0) 0 0) < 8 then (o_bd (f_X4_forgetPast 0 t_6) fun t_12 => o_bd (f_X0_addQuestion (9 * 0) a0 a1 t_12) fun (r_16, t_14) => some (r_16, t_14)) else (some ((-3), t_6))) else (some ((-1), t_6))) else (some ((-1), t_1))
theorem hd_X7_question : x_hd yX7_question 2 := by decide +kernel
set_option maxRecDepth 100000 in
set_option maxHeartbeats 4000000 in
theorem c_X7_question (l : Launch) (g : Ly) (hG : XG shC g) (a0 : Int32) (a1 : Int32) (t : Mm) {r : Int32} {t' : Mm} (h : f_X7_question a0 a1 t = some (r, t')) : MI l yX7_question cX7_question 3 (some .int) 2 shC g [.ref (g.2.2 (3, 0, 0)), .int a0, .int a1] t (XQi shC g r t') := by
  refine x_met hG (by decide +kernel) (Nat.le_of_ble_eq_true rfl) ?_
  intro p e s m below meth c ls X hP hl
  have hS : va_S (XA shC g) s.heap s.heap [] := va_S.rf
  have hl : lv_has ls 3 [(0, .ref (g.2.2 (3, 0, 0))), (1, .int a0), (2, .int a1)] := hl
  unfold f_X7_question at h
  generalize ([.ref (g.2.2 (3, 0, 0)), .int a0, .int a1] : List Value).toArray = args at X ⊢
  refine lv_iload_n X.1.1 X.1.2.1 dX7_question_0 rfl (lv_at hl 1 rfl) ?_
  refine lv_iconst (v := 0) X.1.1 X.1.2.1 dX7_question_1 (by decide) ?_
  refine lv_bipush (v := 7) X.1.1 X.1.2.1 dX7_question_2 (by decide) ?_
  obtain ⟨⟨r_3, t_1⟩, hc_2, h⟩ := o_bd_inv h
  refine x_calli (x_runS (As := [.int a0, .int 0, .int 7]) (rest := []) X hP hS (c_X7_isOutside l g X.2.2.2.2.1 a0 0 7 t hc_2) ⟨wd_318, wd_316, wd_317, wd_54⟩ hd_X7_isOutside ⟨by omega, by decide⟩ rfl hl.1 rfl (Nat.le_of_ble_eq_true rfl) dX7_question_4) hS (fun H locs hP hS => ?_)
  refine lv_if_ne (tgt := 20) X.1.1 X.1.2.1 dX7_question_7 (by decide) (fun c_5 => ?_) (fun c_5 => ?_)
  · have h := o_neg c_5 h
    refine lv_iconst (v := (-1)) X.1.1 X.1.2.1 dX7_question_20 (by decide) ?_
    obtain ⟨rfl, rfl⟩ := o_ret2 h
    exact x_iret X hP hS dX7_question_21
  · have h := o_pos c_5 h
    refine lv_iload_n X.1.1 X.1.2.1 dX7_question_10 rfl (lv_at hl 2 rfl) ?_
    refine lv_iconst (v := 1) X.1.1 X.1.2.1 dX7_question_11 (by decide) ?_
    refine lv_bipush (v := 9) X.1.1 X.1.2.1 dX7_question_12 (by decide) ?_
    obtain ⟨⟨r_8, t_6⟩, hc_7, h⟩ := o_bd_inv h
    refine x_calli (x_runS (As := [.int a1, .int 1, .int 9]) (rest := []) X hP hS (c_X7_isOutside l g X.2.2.2.2.1 a1 1 9 t_1 hc_7) ⟨wd_318, wd_316, wd_317, wd_54⟩ hd_X7_isOutside ⟨by omega, by decide⟩ rfl hl.1 rfl (Nat.le_of_ble_eq_true rfl) dX7_question_14) hS (fun H locs hP hS => ?_)
    refine lv_if_eq (tgt := 22) X.1.1 X.1.2.1 dX7_question_17 (by decide) (fun c_10 => ?_) (fun c_10 => ?_)
    · have h := o_pos c_10 h
      refine lv_aload_n X.1.1 X.1.2.1 dX7_question_22 rfl (lv_at hl 0 rfl) ?_
      refine gt_X7_0 X hP (kyO (by decide)) wd_287 dX7_question_23 ?_
      refine gtN_X4_0 X hP (kyS (by omega) (by decide)) wd_160 dX7_question_26 ?_
      refine gtN_X0_0 X hP (kyF (by omega) (by decide)) wd_93 dX7_question_29 ?_
      refine lv_bipush (v := 8) X.1.1 X.1.2.1 dX7_question_32 (by decide) ?_
      refine lv_icmp_lt (tgt := 40) X.1.1 X.1.2.1 dX7_question_34 (by decide) (fun c_11 => ?_) (fun c_11 => ?_)
      · have h := o_pos c_11 h
        refine lv_aload_n X.1.1 X.1.2.1 dX7_question_40 rfl (lv_at hl 0 rfl) ?_
        refine gt_X7_0 X hP (kyO (by decide)) wd_287 dX7_question_41 ?_
        obtain ⟨t_12, hc_13, h⟩ := o_bd_inv h
        refine x_callv (x_runV (As := []) (rest := []) X hP hS (c_X4_forgetPast l g 0 X.2.2.2.2.1 (by omega) t_6 hc_13) ⟨wd_322, wd_319, wd_320, wd_321, wd_55⟩ hd_X4_forgetPast ⟨by omega, by decide⟩ (x_recv X hP (ci := 4) rfl (kyS (by omega) (by decide)) rfl) rfl hl.1 rfl (Nat.le_of_ble_eq_true rfl) dX7_question_44) hS (fun H locs hP hS => ?_)
        refine lv_aload_n X.1.1 X.1.2.1 dX7_question_47 rfl (lv_at hl 0 rfl) ?_
        refine gt_X7_0 X hP (kyO (by decide)) wd_287 dX7_question_48 ?_
        refine gtN_X4_0 X hP (kyS (by omega) (by decide)) wd_160 dX7_question_51 ?_
        refine lv_iload_n X.1.1 X.1.2.1 dX7_question_54 rfl (lv_at hl 1 rfl) ?_
        refine lv_iload_n X.1.1 X.1.2.1 dX7_question_55 rfl (lv_at hl 2 rfl) ?_
        obtain ⟨⟨r_16, t_14⟩, hc_15, h⟩ := o_bd_inv h
        refine x_calli (x_runV (As := [.int a0, .int a1]) (rest := []) X hP hS (c_X0_addQuestion l g (9 * 0) X.2.2.2.2.1 (by omega) a0 a1 t_12 hc_15) ⟨wd_326, wd_323, wd_324, wd_325, wd_56⟩ hd_X0_addQuestion ⟨by omega, by decide⟩ (x_recv X hP (ci := 0) rfl (kyF (by omega) (by decide)) rfl) rfl hl.1 rfl (Nat.le_of_ble_eq_true rfl) dX7_question_56) hS (fun H locs hP hS => ?_)
        obtain ⟨rfl, rfl⟩ := o_ret2 h
        exact x_iret X hP hS dX7_question_59
      · have h := o_neg c_11 h
        refine lv_bipush (v := (-3)) X.1.1 X.1.2.1 dX7_question_37 (by decide) ?_
        obtain ⟨rfl, rfl⟩ := o_ret2 h
        exact x_iret X hP hS dX7_question_39
    · have h := o_neg c_10 h
      refine lv_iconst (v := (-1)) X.1.1 X.1.2.1 dX7_question_20 (by decide) ?_
      obtain ⟨rfl, rfl⟩ := o_ret2 h
      exact x_iret X hP hS dX7_question_21
/-- FordQuestions.crosser(III)I -/
def f_X7_crosser (a0 : Int32) (a1 : Int32) (a2 : Int32) (t : Mm) : Option (Int32 × Mm) := o_bd (f_X7_isOutside a0 0 4 t) fun (r_3, t_1) => if r_3 = 0 then (o_bd (f_X7_isOutside a1 0 255 t_1) fun (r_8, t_6) => if r_8 = 0 then (o_bd (f_X7_isOutside a2 0 40 t_6) fun (r_13, t_11) => if r_13 = 0 then (if (t_11.1 0 (9 * 0) 0 1) < 5 then (o_bd (f_X4_forgetPast 0 t_11) fun t_17 => o_bd (f_X0_addCrosser (9 * 0) a0 a1 a2 t_17) fun (r_21, t_19) => some (r_21, t_19)) else (some ((-3), t_11))) else (some ((-1), t_11))) else (some ((-1), t_6))) else (some ((-1), t_1))
theorem hd_X7_crosser : x_hd yX7_crosser 3 := by decide +kernel
set_option maxRecDepth 100000 in
set_option maxHeartbeats 4000000 in
theorem c_X7_crosser (l : Launch) (g : Ly) (hG : XG shC g) (a0 : Int32) (a1 : Int32) (a2 : Int32) (t : Mm) {r : Int32} {t' : Mm} (h : f_X7_crosser a0 a1 a2 t = some (r, t')) : MI l yX7_crosser cX7_crosser 4 (some .int) 2 shC g [.ref (g.2.2 (3, 0, 0)), .int a0, .int a1, .int a2] t (XQi shC g r t') := by
  refine x_met hG (by decide +kernel) (Nat.le_of_ble_eq_true rfl) ?_
  intro p e s m below meth c ls X hP hl
  have hS : va_S (XA shC g) s.heap s.heap [] := va_S.rf
  have hl : lv_has ls 4 [(0, .ref (g.2.2 (3, 0, 0))), (1, .int a0), (2, .int a1), (3, .int a2)] := hl
  unfold f_X7_crosser at h
  generalize ([.ref (g.2.2 (3, 0, 0)), .int a0, .int a1, .int a2] : List Value).toArray = args at X ⊢
  refine lv_iload_n X.1.1 X.1.2.1 dX7_crosser_0 rfl (lv_at hl 1 rfl) ?_
  refine lv_iconst (v := 0) X.1.1 X.1.2.1 dX7_crosser_1 (by decide) ?_
  refine lv_iconst (v := 4) X.1.1 X.1.2.1 dX7_crosser_2 (by decide) ?_
  obtain ⟨⟨r_3, t_1⟩, hc_2, h⟩ := o_bd_inv h
  refine x_calli (x_runS (As := [.int a0, .int 0, .int 4]) (rest := []) X hP hS (c_X7_isOutside l g X.2.2.2.2.1 a0 0 4 t hc_2) ⟨wd_318, wd_316, wd_317, wd_54⟩ hd_X7_isOutside ⟨by omega, by decide⟩ rfl hl.1 rfl (Nat.le_of_ble_eq_true rfl) dX7_crosser_3) hS (fun H locs hP hS => ?_)
  refine lv_if_ne (tgt := 30) X.1.1 X.1.2.1 dX7_crosser_6 (by decide) (fun c_5 => ?_) (fun c_5 => ?_)
  · have h := o_neg c_5 h
    refine lv_iconst (v := (-1)) X.1.1 X.1.2.1 dX7_crosser_30 (by decide) ?_
    obtain ⟨rfl, rfl⟩ := o_ret2 h
    exact x_iret X hP hS dX7_crosser_31
  · have h := o_pos c_5 h
    refine lv_iload_n X.1.1 X.1.2.1 dX7_crosser_9 rfl (lv_at hl 2 rfl) ?_
    refine lv_iconst (v := 0) X.1.1 X.1.2.1 dX7_crosser_10 (by decide) ?_
    refine lv_sipush (v := 255) X.1.1 X.1.2.1 dX7_crosser_11 (by decide) ?_
    obtain ⟨⟨r_8, t_6⟩, hc_7, h⟩ := o_bd_inv h
    refine x_calli (x_runS (As := [.int a1, .int 0, .int 255]) (rest := []) X hP hS (c_X7_isOutside l g X.2.2.2.2.1 a1 0 255 t_1 hc_7) ⟨wd_318, wd_316, wd_317, wd_54⟩ hd_X7_isOutside ⟨by omega, by decide⟩ rfl hl.1 rfl (Nat.le_of_ble_eq_true rfl) dX7_crosser_14) hS (fun H locs hP hS => ?_)
    refine lv_if_ne (tgt := 30) X.1.1 X.1.2.1 dX7_crosser_17 (by decide) (fun c_10 => ?_) (fun c_10 => ?_)
    · have h := o_neg c_10 h
      refine lv_iconst (v := (-1)) X.1.1 X.1.2.1 dX7_crosser_30 (by decide) ?_
      obtain ⟨rfl, rfl⟩ := o_ret2 h
      exact x_iret X hP hS dX7_crosser_31
    · have h := o_pos c_10 h
      refine lv_iload_n X.1.1 X.1.2.1 dX7_crosser_20 rfl (lv_at hl 3 rfl) ?_
      refine lv_iconst (v := 0) X.1.1 X.1.2.1 dX7_crosser_21 (by decide) ?_
      refine lv_bipush (v := 40) X.1.1 X.1.2.1 dX7_crosser_22 (by decide) ?_
      obtain ⟨⟨r_13, t_11⟩, hc_12, h⟩ := o_bd_inv h
      refine x_calli (x_runS (As := [.int a2, .int 0, .int 40]) (rest := []) X hP hS (c_X7_isOutside l g X.2.2.2.2.1 a2 0 40 t_6 hc_12) ⟨wd_318, wd_316, wd_317, wd_54⟩ hd_X7_isOutside ⟨by omega, by decide⟩ rfl hl.1 rfl (Nat.le_of_ble_eq_true rfl) dX7_crosser_24) hS (fun H locs hP hS => ?_)
      refine lv_if_eq (tgt := 32) X.1.1 X.1.2.1 dX7_crosser_27 (by decide) (fun c_15 => ?_) (fun c_15 => ?_)
      · have h := o_pos c_15 h
        refine lv_aload_n X.1.1 X.1.2.1 dX7_crosser_32 rfl (lv_at hl 0 rfl) ?_
        refine gt_X7_0 X hP (kyO (by decide)) wd_287 dX7_crosser_33 ?_
        refine gtN_X4_0 X hP (kyS (by omega) (by decide)) wd_160 dX7_crosser_36 ?_
        refine gtN_X0_1 X hP (kyF (by omega) (by decide)) wd_98 dX7_crosser_39 ?_
        refine lv_iconst (v := 5) X.1.1 X.1.2.1 dX7_crosser_42 (by decide) ?_
        refine lv_icmp_lt (tgt := 49) X.1.1 X.1.2.1 dX7_crosser_43 (by decide) (fun c_16 => ?_) (fun c_16 => ?_)
        · have h := o_pos c_16 h
          refine lv_aload_n X.1.1 X.1.2.1 dX7_crosser_49 rfl (lv_at hl 0 rfl) ?_
          refine gt_X7_0 X hP (kyO (by decide)) wd_287 dX7_crosser_50 ?_
          obtain ⟨t_17, hc_18, h⟩ := o_bd_inv h
          refine x_callv (x_runV (As := []) (rest := []) X hP hS (c_X4_forgetPast l g 0 X.2.2.2.2.1 (by omega) t_11 hc_18) ⟨wd_322, wd_319, wd_320, wd_321, wd_55⟩ hd_X4_forgetPast ⟨by omega, by decide⟩ (x_recv X hP (ci := 4) rfl (kyS (by omega) (by decide)) rfl) rfl hl.1 rfl (Nat.le_of_ble_eq_true rfl) dX7_crosser_53) hS (fun H locs hP hS => ?_)
          refine lv_aload_n X.1.1 X.1.2.1 dX7_crosser_56 rfl (lv_at hl 0 rfl) ?_
          refine gt_X7_0 X hP (kyO (by decide)) wd_287 dX7_crosser_57 ?_
          refine gtN_X4_0 X hP (kyS (by omega) (by decide)) wd_160 dX7_crosser_60 ?_
          refine lv_iload_n X.1.1 X.1.2.1 dX7_crosser_63 rfl (lv_at hl 1 rfl) ?_
          refine lv_iload_n X.1.1 X.1.2.1 dX7_crosser_64 rfl (lv_at hl 2 rfl) ?_
          refine lv_iload_n X.1.1 X.1.2.1 dX7_crosser_65 rfl (lv_at hl 3 rfl) ?_
          obtain ⟨⟨r_21, t_19⟩, hc_20, h⟩ := o_bd_inv h
          refine x_calli (x_runV (As := [.int a0, .int a1, .int a2]) (rest := []) X hP hS (c_X0_addCrosser l g (9 * 0) X.2.2.2.2.1 (by omega) a0 a1 a2 t_17 hc_20) ⟨wd_334, wd_331, wd_332, wd_333, wd_56⟩ hd_X0_addCrosser ⟨by omega, by decide⟩ (x_recv X hP (ci := 0) rfl (kyF (by omega) (by decide)) rfl) rfl hl.1 rfl (Nat.le_of_ble_eq_true rfl) dX7_crosser_66) hS (fun H locs hP hS => ?_)
          obtain ⟨rfl, rfl⟩ := o_ret2 h
          exact x_iret X hP hS dX7_crosser_69
        · have h := o_neg c_16 h
          refine lv_bipush (v := (-3)) X.1.1 X.1.2.1 dX7_crosser_46 (by decide) ?_
          obtain ⟨rfl, rfl⟩ := o_ret2 h
          exact x_iret X hP hS dX7_crosser_48
      · have h := o_neg c_15 h
        refine lv_iconst (v := (-1)) X.1.1 X.1.2.1 dX7_crosser_30 (by decide) ?_
        obtain ⟨rfl, rfl⟩ := o_ret2 h
        exact x_iret X hP hS dX7_crosser_31
/-- FordQuestions.of(II)I -/
def f_X7_of (a0 : Int32) (a1 : Int32) (t : Mm) : Option (Int32 × Mm) := o_bd (f_X0_hasQuestion (9 * 0) a0 t) fun (r_3, t_1) => if r_3 = 0 then (some ((-1), t_1)) else (if a1 = 0 then (if o_inb a0 8 = true then (some ((t_1.1 0 (9 * 0) 1 (a0.toNatClampNeg)), t_1)) else none) else (if a1 = 1 then (if o_inb a0 8 = true then (some ((t_1.1 0 (9 * 0) 2 (a0.toNatClampNeg)), t_1)) else none) else (if a1 = 2 then (o_bd (f_X0_isAsked (9 * 0) a0 t_1) fun (r_13, t_11) => if r_13 = 0 then (some (0, t_11)) else (some (1, t_11))) else (some ((-1), t_1)))))
theorem hd_X7_of : x_hd yX7_of 2 := by decide +kernel
set_option maxRecDepth 100000 in
set_option maxHeartbeats 4000000 in
theorem c_X7_of (l : Launch) (g : Ly) (hG : XG shC g) (a0 : Int32) (a1 : Int32) (t : Mm) {r : Int32} {t' : Mm} (h : f_X7_of a0 a1 t = some (r, t')) : MI l yX7_of cX7_of 4 (some .int) 3 shC g [.ref (g.2.2 (3, 0, 0)), .int a0, .int a1] t (XQi shC g r t') := by
  refine x_met hG (by decide +kernel) (Nat.le_of_ble_eq_true rfl) ?_
  intro p e s m below meth c ls X hP hl
  have hS : va_S (XA shC g) s.heap s.heap [] := va_S.rf
  have hl : lv_has ls 4 [(0, .ref (g.2.2 (3, 0, 0))), (1, .int a0), (2, .int a1)] := hl
  unfold f_X7_of at h
  generalize ([.ref (g.2.2 (3, 0, 0)), .int a0, .int a1] : List Value).toArray = args at X ⊢
  refine lv_aload_n X.1.1 X.1.2.1 dX7_of_0 rfl (lv_at hl 0 rfl) ?_
  refine gt_X7_0 X hP (kyO (by decide)) wd_287 dX7_of_1 ?_
  refine gtN_X4_0 X hP (kyS (by omega) (by decide)) wd_160 dX7_of_4 ?_
  refine lv_astore_n (lv' := [(3, .ref (g.2.2 (0, (9 * 0), 0))), (0, .ref (g.2.2 (3, 0, 0))), (1, .int a0), (2, .int a1)]) X.1.1 X.1.2.1 dX7_of_7 rfl hl (by decide) rfl (fun ls hl => ?_)
  refine lv_aload_n X.1.1 X.1.2.1 dX7_of_8 rfl (lv_at hl 0 rfl) ?_
  refine lv_iload_n X.1.1 X.1.2.1 dX7_of_9 rfl (lv_at hl 2 rfl) ?_
  obtain ⟨⟨r_3, t_1⟩, hc_2, h⟩ := o_bd_inv h
  refine x_calli (x_runV (As := [.int a0]) (rest := []) X hP hS (c_X0_hasQuestion l g (9 * 0) X.2.2.2.2.1 (by omega) a0 t hc_2) ⟨wd_342, wd_339, wd_340, wd_341, wd_56⟩ hd_X0_hasQuestion ⟨by omega, by decide⟩ (x_recv X hP (ci := 0) rfl (kyF (by omega) (by decide)) rfl) rfl hl.1 rfl (Nat.le_of_ble_eq_true rfl) dX7_of_10) hS (fun H locs hP hS => ?_)
  refine lv_if_ne (tgt := 18) X.1.1 X.1.2.1 dX7_of_13 (by decide) (fun c_5 => ?_) (fun c_5 => ?_)
  · have h := o_neg c_5 h
    refine lv_iload_n X.1.1 X.1.2.1 dX7_of_18 rfl (lv_at hl 3 rfl) ?_
    by_cases c_6 : a1 = 0
    · have h := o_pos c_6 h
      refine lv_tableIn (off := 25) (tgt := 44) X.1.1 X.1.2.1 dX7_of_19 (by rw [c_6]; decide) (by rw [c_6]; decide) (by rw [c_6]; rfl) (by decide) ?_
      refine lv_aload_n X.1.1 X.1.2.1 dX7_of_44 rfl (lv_at hl 0 rfl) ?_
      refine gtN_X0_5 X hP (kyF (by omega) (by decide)) wd_112 dX7_of_45 ?_
      refine lv_iload_n X.1.1 X.1.2.1 dX7_of_48 rfl (lv_at hl 2 rfl) ?_
      obtain ⟨g_7, h⟩ := o_gd_inv h
      refine x_iald X hP (kyF (by omega) (by decide)) (fun _ _ => rfl) g_7 dX7_of_49 ?_
      obtain ⟨rfl, rfl⟩ := o_ret2 h
      exact x_iret X hP hS dX7_of_50
    · have h := o_neg c_6 h
      by_cases c_8 : a1 = 1
      · have h := o_pos c_8 h
        refine lv_tableIn (off := 32) (tgt := 51) X.1.1 X.1.2.1 dX7_of_19 (by rw [c_8]; decide) (by rw [c_8]; decide) (by rw [c_8]; rfl) (by decide) ?_
        refine lv_aload_n X.1.1 X.1.2.1 dX7_of_51 rfl (lv_at hl 0 rfl) ?_
        refine gtN_X0_6 X hP (kyF (by omega) (by decide)) wd_114 dX7_of_52 ?_
        refine lv_iload_n X.1.1 X.1.2.1 dX7_of_55 rfl (lv_at hl 2 rfl) ?_
        obtain ⟨g_9, h⟩ := o_gd_inv h
        refine x_iald X hP (kyF (by omega) (by decide)) (fun _ _ => rfl) g_9 dX7_of_56 ?_
        obtain ⟨rfl, rfl⟩ := o_ret2 h
        exact x_iret X hP hS dX7_of_57
      · have h := o_neg c_8 h
        by_cases c_10 : a1 = 2
        · have h := o_pos c_10 h
          refine lv_tableIn (off := 39) (tgt := 58) X.1.1 X.1.2.1 dX7_of_19 (by rw [c_10]; decide) (by rw [c_10]; decide) (by rw [c_10]; rfl) (by decide) ?_
          refine lv_aload_n X.1.1 X.1.2.1 dX7_of_58 rfl (lv_at hl 0 rfl) ?_
          refine lv_iload_n X.1.1 X.1.2.1 dX7_of_59 rfl (lv_at hl 2 rfl) ?_
          obtain ⟨⟨r_13, t_11⟩, hc_12, h⟩ := o_bd_inv h
          refine x_calli (x_runV (As := [.int a0]) (rest := []) X hP hS (c_X0_isAsked l g (9 * 0) X.2.2.2.2.1 (by omega) a0 t_1 hc_12) ⟨wd_346, wd_343, wd_344, wd_345, wd_56⟩ hd_X0_isAsked ⟨by omega, by decide⟩ (x_recv X hP (ci := 0) rfl (kyF (by omega) (by decide)) rfl) rfl hl.1 rfl (Nat.le_of_ble_eq_true rfl) dX7_of_60) hS (fun H locs hP hS => ?_)
          refine lv_if_eq (tgt := 70) X.1.1 X.1.2.1 dX7_of_63 (by decide) (fun c_15 => ?_) (fun c_15 => ?_)
          · have h := o_pos c_15 h
            refine lv_iconst (v := 0) X.1.1 X.1.2.1 dX7_of_70 (by decide) ?_
            obtain ⟨rfl, rfl⟩ := o_ret2 h
            exact x_iret X hP hS dX7_of_71
          · have h := o_neg c_15 h
            refine lv_iconst (v := 1) X.1.1 X.1.2.1 dX7_of_66 (by decide) ?_
            refine lv_goto (tgt := 71) X.1.1 X.1.2.1 dX7_of_67 (by decide) ?_
            obtain ⟨rfl, rfl⟩ := o_ret2 h
            exact x_iret X hP hS dX7_of_71
        · have h := o_neg c_10 h
          have qc_6 := x_ne (n := 0) c_6 (by decide)
          have qc_8 := x_ne (n := 1) c_8 (by decide)
          have qc_10 := x_ne (n := 2) c_10 (by decide)
          refine lv_tableOut (tgt := 72) X.1.1 X.1.2.1 dX7_of_19 (by omega) (by decide) ?_
          refine lv_iconst (v := (-1)) X.1.1 X.1.2.1 dX7_of_72 (by decide) ?_
          obtain ⟨rfl, rfl⟩ := o_ret2 h
          exact x_iret X hP hS dX7_of_73
  · have h := o_pos c_5 h
    refine lv_iconst (v := (-1)) X.1.1 X.1.2.1 dX7_of_16 (by decide) ?_
    obtain ⟨rfl, rfl⟩ := o_ret2 h
    exact x_iret X hP hS dX7_of_17
/-- FordQuestions.at(II)I -/
def f_X7_at (a0 : Int32) (a1 : Int32) (t : Mm) : Option (Int32 × Mm) := o_bd (f_X0_hasCrosser (9 * 0) a0 t) fun (r_3, t_1) => if r_3 = 0 then (some ((-1), t_1)) else (if a1 = 0 then (if o_inb a0 5 = true then (some ((t_1.1 0 (9 * 0) 3 (a0.toNatClampNeg)), t_1)) else none) else (if a1 = 1 then (if o_inb a0 5 = true then (some ((t_1.1 0 (9 * 0) 4 (a0.toNatClampNeg)), t_1)) else none) else (if a1 = 2 then (if o_inb a0 5 = true then (some ((t_1.1 0 (9 * 0) 5 (a0.toNatClampNeg)), t_1)) else none) else (if a1 = 3 then (if o_inb a0 5 = true then (some ((t_1.1 0 (9 * 0) 6 (a0.toNatClampNeg)), t_1)) else none) else (if a1 = 4 then (if o_inb a0 5 = true then (if (t_1.1 0 (9 * 0) 6 (a0.toNatClampNeg)) = 1 then (if o_inb a0 5 = true then (some ((t_1.1 0 (9 * 0) 7 (a0.toNatClampNeg)), t_1)) else none) else (some ((-4), t_1))) else none) else (some ((-1), t_1)))))))
theorem hd_X7_at : x_hd yX7_at 2 := by decide +kernel
set_option maxRecDepth 100000 in
set_option maxHeartbeats 4000000 in
theorem c_X7_at (l : Launch) (g : Ly) (hG : XG shC g) (a0 : Int32) (a1 : Int32) (t : Mm) {r : Int32} {t' : Mm} (h : f_X7_at a0 a1 t = some (r, t')) : MI l yX7_at cX7_at 4 (some .int) 2 shC g [.ref (g.2.2 (3, 0, 0)), .int a0, .int a1] t (XQi shC g r t') := by
  refine x_met hG (by decide +kernel) (Nat.le_of_ble_eq_true rfl) ?_
  intro p e s m below meth c ls X hP hl
  have hS : va_S (XA shC g) s.heap s.heap [] := va_S.rf
  have hl : lv_has ls 4 [(0, .ref (g.2.2 (3, 0, 0))), (1, .int a0), (2, .int a1)] := hl
  unfold f_X7_at at h
  generalize ([.ref (g.2.2 (3, 0, 0)), .int a0, .int a1] : List Value).toArray = args at X ⊢
  refine lv_aload_n X.1.1 X.1.2.1 dX7_at_0 rfl (lv_at hl 0 rfl) ?_
  refine gt_X7_0 X hP (kyO (by decide)) wd_287 dX7_at_1 ?_
  refine gtN_X4_0 X hP (kyS (by omega) (by decide)) wd_160 dX7_at_4 ?_
  refine lv_astore_n (lv' := [(3, .ref (g.2.2 (0, (9 * 0), 0))), (0, .ref (g.2.2 (3, 0, 0))), (1, .int a0), (2, .int a1)]) X.1.1 X.1.2.1 dX7_at_7 rfl hl (by decide) rfl (fun ls hl => ?_)
  refine lv_aload_n X.1.1 X.1.2.1 dX7_at_8 rfl (lv_at hl 0 rfl) ?_
  refine lv_iload_n X.1.1 X.1.2.1 dX7_at_9 rfl (lv_at hl 2 rfl) ?_
  obtain ⟨⟨r_3, t_1⟩, hc_2, h⟩ := o_bd_inv h
  refine x_calli (x_runV (As := [.int a0]) (rest := []) X hP hS (c_X0_hasCrosser l g (9 * 0) X.2.2.2.2.1 (by omega) a0 t hc_2) ⟨wd_357, wd_354, wd_355, wd_356, wd_56⟩ hd_X0_hasCrosser ⟨by omega, by decide⟩ (x_recv X hP (ci := 0) rfl (kyF (by omega) (by decide)) rfl) rfl hl.1 rfl (Nat.le_of_ble_eq_true rfl) dX7_at_10) hS (fun H locs hP hS => ?_)
  refine lv_if_ne (tgt := 18) X.1.1 X.1.2.1 dX7_at_13 (by decide) (fun c_5 => ?_) (fun c_5 => ?_)
  · have h := o_neg c_5 h
    refine lv_iload_n X.1.1 X.1.2.1 dX7_at_18 rfl (lv_at hl 3 rfl) ?_
    by_cases c_6 : a1 = 0
    · have h := o_pos c_6 h
      refine lv_tableIn (off := 33) (tgt := 52) X.1.1 X.1.2.1 dX7_at_19 (by rw [c_6]; decide) (by rw [c_6]; decide) (by rw [c_6]; rfl) (by decide) ?_
      refine lv_aload_n X.1.1 X.1.2.1 dX7_at_52 rfl (lv_at hl 0 rfl) ?_
      refine gtN_X0_7 X hP (kyF (by omega) (by decide)) wd_116 dX7_at_53 ?_
      refine lv_iload_n X.1.1 X.1.2.1 dX7_at_56 rfl (lv_at hl 2 rfl) ?_
      obtain ⟨g_7, h⟩ := o_gd_inv h
      refine x_iald X hP (kyF (by omega) (by decide)) (fun _ _ => rfl) g_7 dX7_at_57 ?_
      obtain ⟨rfl, rfl⟩ := o_ret2 h
      exact x_iret X hP hS dX7_at_58
    · have h := o_neg c_6 h
      by_cases c_8 : a1 = 1
      · have h := o_pos c_8 h
        refine lv_tableIn (off := 40) (tgt := 59) X.1.1 X.1.2.1 dX7_at_19 (by rw [c_8]; decide) (by rw [c_8]; decide) (by rw [c_8]; rfl) (by decide) ?_
        refine lv_aload_n X.1.1 X.1.2.1 dX7_at_59 rfl (lv_at hl 0 rfl) ?_
        refine gtN_X0_8 X hP (kyF (by omega) (by decide)) wd_119 dX7_at_60 ?_
        refine lv_iload_n X.1.1 X.1.2.1 dX7_at_63 rfl (lv_at hl 2 rfl) ?_
        obtain ⟨g_9, h⟩ := o_gd_inv h
        refine x_iald X hP (kyF (by omega) (by decide)) (fun _ _ => rfl) g_9 dX7_at_64 ?_
        obtain ⟨rfl, rfl⟩ := o_ret2 h
        exact x_iret X hP hS dX7_at_65
      · have h := o_neg c_8 h
        by_cases c_10 : a1 = 2
        · have h := o_pos c_10 h
          refine lv_tableIn (off := 47) (tgt := 66) X.1.1 X.1.2.1 dX7_at_19 (by rw [c_10]; decide) (by rw [c_10]; decide) (by rw [c_10]; rfl) (by decide) ?_
          refine lv_aload_n X.1.1 X.1.2.1 dX7_at_66 rfl (lv_at hl 0 rfl) ?_
          refine gtN_X0_9 X hP (kyF (by omega) (by decide)) wd_122 dX7_at_67 ?_
          refine lv_iload_n X.1.1 X.1.2.1 dX7_at_70 rfl (lv_at hl 2 rfl) ?_
          obtain ⟨g_11, h⟩ := o_gd_inv h
          refine x_iald X hP (kyF (by omega) (by decide)) (fun _ _ => rfl) g_11 dX7_at_71 ?_
          obtain ⟨rfl, rfl⟩ := o_ret2 h
          exact x_iret X hP hS dX7_at_72
        · have h := o_neg c_10 h
          by_cases c_12 : a1 = 3
          · have h := o_pos c_12 h
            refine lv_tableIn (off := 54) (tgt := 73) X.1.1 X.1.2.1 dX7_at_19 (by rw [c_12]; decide) (by rw [c_12]; decide) (by rw [c_12]; rfl) (by decide) ?_
            refine lv_aload_n X.1.1 X.1.2.1 dX7_at_73 rfl (lv_at hl 0 rfl) ?_
            refine gtN_X0_10 X hP (kyF (by omega) (by decide)) wd_127 dX7_at_74 ?_
            refine lv_iload_n X.1.1 X.1.2.1 dX7_at_77 rfl (lv_at hl 2 rfl) ?_
            obtain ⟨g_13, h⟩ := o_gd_inv h
            refine x_iald X hP (kyF (by omega) (by decide)) (fun _ _ => rfl) g_13 dX7_at_78 ?_
            obtain ⟨rfl, rfl⟩ := o_ret2 h
            exact x_iret X hP hS dX7_at_79
          · have h := o_neg c_12 h
            by_cases c_14 : a1 = 4
            · have h := o_pos c_14 h
              refine lv_tableIn (off := 61) (tgt := 80) X.1.1 X.1.2.1 dX7_at_19 (by rw [c_14]; decide) (by rw [c_14]; decide) (by rw [c_14]; rfl) (by decide) ?_
              refine lv_aload_n X.1.1 X.1.2.1 dX7_at_80 rfl (lv_at hl 0 rfl) ?_
              refine gtN_X0_10 X hP (kyF (by omega) (by decide)) wd_127 dX7_at_81 ?_
              refine lv_iload_n X.1.1 X.1.2.1 dX7_at_84 rfl (lv_at hl 2 rfl) ?_
              obtain ⟨g_15, h⟩ := o_gd_inv h
              refine x_iald X hP (kyF (by omega) (by decide)) (fun _ _ => rfl) g_15 dX7_at_85 ?_
              refine lv_iconst (v := 1) X.1.1 X.1.2.1 dX7_at_86 (by decide) ?_
              refine lv_icmp_ne (tgt := 99) X.1.1 X.1.2.1 dX7_at_87 (by decide) (fun c_16 => ?_) (fun c_16 => ?_)
              · have h := o_neg c_16 h
                refine lv_bipush (v := (-4)) X.1.1 X.1.2.1 dX7_at_99 (by decide) ?_
                obtain ⟨rfl, rfl⟩ := o_ret2 h
                exact x_iret X hP hS dX7_at_101
              · have h := o_pos c_16 h
                refine lv_aload_n X.1.1 X.1.2.1 dX7_at_90 rfl (lv_at hl 0 rfl) ?_
                refine gtN_X0_11 X hP (kyF (by omega) (by decide)) wd_131 dX7_at_91 ?_
                refine lv_iload_n X.1.1 X.1.2.1 dX7_at_94 rfl (lv_at hl 2 rfl) ?_
                obtain ⟨g_17, h⟩ := o_gd_inv h
                refine x_iald X hP (kyF (by omega) (by decide)) (fun _ _ => rfl) g_17 dX7_at_95 ?_
                refine lv_goto (tgt := 101) X.1.1 X.1.2.1 dX7_at_96 (by decide) ?_
                obtain ⟨rfl, rfl⟩ := o_ret2 h
                exact x_iret X hP hS dX7_at_101
            · have h := o_neg c_14 h
              have qc_6 := x_ne (n := 0) c_6 (by decide)
              have qc_8 := x_ne (n := 1) c_8 (by decide)
              have qc_10 := x_ne (n := 2) c_10 (by decide)
              have qc_12 := x_ne (n := 3) c_12 (by decide)
              have qc_14 := x_ne (n := 4) c_14 (by decide)
              refine lv_tableOut (tgt := 102) X.1.1 X.1.2.1 dX7_at_19 (by omega) (by decide) ?_
              refine lv_iconst (v := (-1)) X.1.1 X.1.2.1 dX7_at_102 (by decide) ?_
              obtain ⟨rfl, rfl⟩ := o_ret2 h
              exact x_iret X hP hS dX7_at_103
  · have h := o_pos c_5 h
    refine lv_iconst (v := (-1)) X.1.1 X.1.2.1 dX7_at_16 (by decide) ?_
    obtain ⟨rfl, rfl⟩ := o_ret2 h
    exact x_iret X hP hS dX7_at_17
/-- FordQuestions.takes(II)I -/
def f_X7_takes (N : Nat) (a0 : Int32) (a1 : Int32) (t : Mm) : Option (Int32 × Mm) := o_bd (f_X0_hasCrosser (9 * 0) a0 t) fun (r_3, t_1) => if r_3 = 0 then (some ((-1), t_1)) else (o_bd (f_X0_hasQuestion (9 * 0) a1 t_1) fun (r_8, t_6) => if r_8 = 0 then (some ((-1), t_6)) else (o_bd (f_X0_hoursFor N (9 * 0) a0 a1 t_6) fun (r_13, t_11) => some (r_13, t_11)))
theorem hd_X7_takes : x_hd yX7_takes 2 := by decide +kernel
set_option maxRecDepth 100000 in
set_option maxHeartbeats 4000000 in
theorem c_X7_takes (l : Launch) (g : Ly) (N : Nat) (hG : XG shC g) (a0 : Int32) (a1 : Int32) (t : Mm) {r : Int32} {t' : Mm} (h : f_X7_takes N a0 a1 t = some (r, t')) : MI l yX7_takes cX7_takes 4 (some .int) 4 shC g [.ref (g.2.2 (3, 0, 0)), .int a0, .int a1] t (XQi shC g r t') := by
  refine x_met hG (by decide +kernel) (Nat.le_of_ble_eq_true rfl) ?_
  intro p e s m below meth c ls X hP hl
  have hS : va_S (XA shC g) s.heap s.heap [] := va_S.rf
  have hl : lv_has ls 4 [(0, .ref (g.2.2 (3, 0, 0))), (1, .int a0), (2, .int a1)] := hl
  unfold f_X7_takes at h
  generalize ([.ref (g.2.2 (3, 0, 0)), .int a0, .int a1] : List Value).toArray = args at X ⊢
  refine lv_aload_n X.1.1 X.1.2.1 dX7_takes_0 rfl (lv_at hl 0 rfl) ?_
  refine gt_X7_0 X hP (kyO (by decide)) wd_287 dX7_takes_1 ?_
  refine gtN_X4_0 X hP (kyS (by omega) (by decide)) wd_160 dX7_takes_4 ?_
  refine lv_astore_n (lv' := [(3, .ref (g.2.2 (0, (9 * 0), 0))), (0, .ref (g.2.2 (3, 0, 0))), (1, .int a0), (2, .int a1)]) X.1.1 X.1.2.1 dX7_takes_7 rfl hl (by decide) rfl (fun ls hl => ?_)
  refine lv_aload_n X.1.1 X.1.2.1 dX7_takes_8 rfl (lv_at hl 0 rfl) ?_
  refine lv_iload_n X.1.1 X.1.2.1 dX7_takes_9 rfl (lv_at hl 2 rfl) ?_
  obtain ⟨⟨r_3, t_1⟩, hc_2, h⟩ := o_bd_inv h
  refine x_calli (x_runV (As := [.int a0]) (rest := []) X hP hS (c_X0_hasCrosser l g (9 * 0) X.2.2.2.2.1 (by omega) a0 t hc_2) ⟨wd_357, wd_354, wd_355, wd_356, wd_56⟩ hd_X0_hasCrosser ⟨by omega, by decide⟩ (x_recv X hP (ci := 0) rfl (kyF (by omega) (by decide)) rfl) rfl hl.1 rfl (Nat.le_of_ble_eq_true rfl) dX7_takes_10) hS (fun H locs hP hS => ?_)
  refine lv_if_eq (tgt := 24) X.1.1 X.1.2.1 dX7_takes_13 (by decide) (fun c_5 => ?_) (fun c_5 => ?_)
  · have h := o_pos c_5 h
    refine lv_iconst (v := (-1)) X.1.1 X.1.2.1 dX7_takes_24 (by decide) ?_
    obtain ⟨rfl, rfl⟩ := o_ret2 h
    exact x_iret X hP hS dX7_takes_25
  · have h := o_neg c_5 h
    refine lv_aload_n X.1.1 X.1.2.1 dX7_takes_16 rfl (lv_at hl 0 rfl) ?_
    refine lv_iload_n X.1.1 X.1.2.1 dX7_takes_17 rfl (lv_at hl 3 rfl) ?_
    obtain ⟨⟨r_8, t_6⟩, hc_7, h⟩ := o_bd_inv h
    refine x_calli (x_runV (As := [.int a1]) (rest := []) X hP hS (c_X0_hasQuestion l g (9 * 0) X.2.2.2.2.1 (by omega) a1 t_1 hc_7) ⟨wd_342, wd_339, wd_340, wd_341, wd_56⟩ hd_X0_hasQuestion ⟨by omega, by decide⟩ (x_recv X hP (ci := 0) rfl (kyF (by omega) (by decide)) rfl) rfl hl.1 rfl (Nat.le_of_ble_eq_true rfl) dX7_takes_18) hS (fun H locs hP hS => ?_)
    refine lv_if_ne (tgt := 26) X.1.1 X.1.2.1 dX7_takes_21 (by decide) (fun c_10 => ?_) (fun c_10 => ?_)
    · have h := o_neg c_10 h
      refine lv_aload_n X.1.1 X.1.2.1 dX7_takes_26 rfl (lv_at hl 0 rfl) ?_
      refine lv_iload_n X.1.1 X.1.2.1 dX7_takes_27 rfl (lv_at hl 2 rfl) ?_
      refine lv_iload_n X.1.1 X.1.2.1 dX7_takes_28 rfl (lv_at hl 3 rfl) ?_
      obtain ⟨⟨r_13, t_11⟩, hc_12, h⟩ := o_bd_inv h
      refine x_calli (x_runV (As := [.int a0, .int a1]) (rest := []) X hP hS (c_X0_hoursFor l g N (9 * 0) X.2.2.2.2.1 (by omega) a0 a1 t_6 hc_12) ⟨wd_365, wd_362, wd_363, wd_364, wd_56⟩ hd_X0_hoursFor ⟨by omega, by decide⟩ (x_recv X hP (ci := 0) rfl (kyF (by omega) (by decide)) rfl) rfl hl.1 rfl (Nat.le_of_ble_eq_true rfl) dX7_takes_29) hS (fun H locs hP hS => ?_)
      obtain ⟨rfl, rfl⟩ := o_ret2 h
      exact x_iret X hP hS dX7_takes_32
    · have h := o_pos c_10 h
      refine lv_iconst (v := (-1)) X.1.1 X.1.2.1 dX7_takes_24 (by decide) ?_
      obtain ⟨rfl, rfl⟩ := o_ret2 h
      exact x_iret X hP hS dX7_takes_25
/-- FordQuestions.type(I)I -/
def f_X7_type (a0 : Int32) (t : Mm) : Option (Int32 × Mm) := o_bd (f_X7_isOutside a0 32 126 t) fun (r_3, t_1) => if r_3 = 0 then (if (t_1.1 3 1 0 1) < 90 then (o_bd (f_X5_append a0 t_1) fun (r_9, t_7) => some (r_9, t_7)) else (some ((-3), t_1))) else (some ((-1), t_1))
theorem hd_X7_type : x_hd yX7_type 1 := by decide +kernel
set_option maxRecDepth 100000 in
set_option maxHeartbeats 4000000 in
theorem c_X7_type (l : Launch) (g : Ly) (hG : XG shC g) (a0 : Int32) (t : Mm) {r : Int32} {t' : Mm} (h : f_X7_type a0 t = some (r, t')) : MI l yX7_type cX7_type 2 (some .int) 2 shC g [.ref (g.2.2 (3, 0, 0)), .int a0] t (XQi shC g r t') := by
  refine x_met hG (by decide +kernel) (Nat.le_of_ble_eq_true rfl) ?_
  intro p e s m below meth c ls X hP hl
  have hS : va_S (XA shC g) s.heap s.heap [] := va_S.rf
  have hl : lv_has ls 2 [(0, .ref (g.2.2 (3, 0, 0))), (1, .int a0)] := hl
  unfold f_X7_type at h
  generalize ([.ref (g.2.2 (3, 0, 0)), .int a0] : List Value).toArray = args at X ⊢
  refine lv_iload_n X.1.1 X.1.2.1 dX7_type_0 rfl (lv_at hl 1 rfl) ?_
  refine lv_bipush (v := 32) X.1.1 X.1.2.1 dX7_type_1 (by decide) ?_
  refine lv_bipush (v := 126) X.1.1 X.1.2.1 dX7_type_3 (by decide) ?_
  obtain ⟨⟨r_3, t_1⟩, hc_2, h⟩ := o_bd_inv h
  refine x_calli (x_runS (As := [.int a0, .int 32, .int 126]) (rest := []) X hP hS (c_X7_isOutside l g X.2.2.2.2.1 a0 32 126 t hc_2) ⟨wd_318, wd_316, wd_317, wd_54⟩ hd_X7_isOutside ⟨by omega, by decide⟩ rfl hl.1 rfl (Nat.le_of_ble_eq_true rfl) dX7_type_5) hS (fun H locs hP hS => ?_)
  refine lv_if_eq (tgt := 13) X.1.1 X.1.2.1 dX7_type_8 (by decide) (fun c_5 => ?_) (fun c_5 => ?_)
  · have h := o_pos c_5 h
    refine lv_aload_n X.1.1 X.1.2.1 dX7_type_13 rfl (lv_at hl 0 rfl) ?_
    refine gt_X7_3 X hP (kyO (by decide)) wd_290 dX7_type_14 ?_
    refine gtN_X5_1 X hP (kyO (by decide)) wd_183 dX7_type_17 ?_
    refine lv_bipush (v := 90) X.1.1 X.1.2.1 dX7_type_20 (by decide) ?_
    refine lv_icmp_lt (tgt := 28) X.1.1 X.1.2.1 dX7_type_22 (by decide) (fun c_6 => ?_) (fun c_6 => ?_)
    · have h := o_pos c_6 h
      refine lv_aload_n X.1.1 X.1.2.1 dX7_type_28 rfl (lv_at hl 0 rfl) ?_
      refine gt_X7_3 X hP (kyO (by decide)) wd_290 dX7_type_29 ?_
      refine lv_iload_n X.1.1 X.1.2.1 dX7_type_32 rfl (lv_at hl 1 rfl) ?_
      obtain ⟨⟨r_9, t_7⟩, hc_8, h⟩ := o_bd_inv h
      refine x_calli (x_runV (As := [.int a0]) (rest := []) X hP hS (c_X5_append l g X.2.2.2.2.1 a0 t_1 hc_8) ⟨wd_393, wd_390, wd_391, wd_392, wd_57⟩ hd_X5_append ⟨by omega, by decide⟩ (x_recv X hP (ci := 5) rfl (kyO (by decide)) rfl) rfl hl.1 rfl (Nat.le_of_ble_eq_true rfl) dX7_type_33) hS (fun H locs hP hS => ?_)
      obtain ⟨rfl, rfl⟩ := o_ret2 h
      exact x_iret X hP hS dX7_type_36
    · have h := o_neg c_6 h
      refine lv_bipush (v := (-3)) X.1.1 X.1.2.1 dX7_type_25 (by decide) ?_
      obtain ⟨rfl, rfl⟩ := o_ret2 h
      exact x_iret X hP hS dX7_type_27
  · have h := o_neg c_5 h
    refine lv_iconst (v := (-1)) X.1.1 X.1.2.1 dX7_type_11 (by decide) ?_
    obtain ⟨rfl, rfl⟩ := o_ret2 h
    exact x_iret X hP hS dX7_type_12
/-- FordQuestions.ford()I -/
def f_X7_ford (N : Nat) (t : Mm) : Option (Int32 × Mm) := o_bd (f_X2_readFord N t) fun (r_3, t_1) => o_nm (sI t_1 3 1 0 1 0) fun t_5 => if r_3 = 0 then (some (((-20) - (t_5.1 3 3 0 2)), t_5)) else (o_bd (f_X4_forgetPast 0 t_5) fun t_8 => o_bd (f_X0_becomeNew (9 * 0) 20 t_8) fun t_10 => some ((t_10.1 0 (9 * 0) 0 0), t_10))
theorem hd_X7_ford : x_hd yX7_ford 0 := by decide +kernel
set_option maxRecDepth 100000 in
set_option maxHeartbeats 4000000 in
theorem c_X7_ford (l : Launch) (g : Ly) (N : Nat) (hG : XG shC g) (t : Mm) {r : Int32} {t' : Mm} (h : f_X7_ford N t = some (r, t')) : MI l yX7_ford cX7_ford 2 (some .int) 9 shC g [.ref (g.2.2 (3, 0, 0))] t (XQi shC g r t') := by
  refine x_met hG (by decide +kernel) (Nat.le_of_ble_eq_true rfl) ?_
  intro p e s m below meth c ls X hP hl
  have hS : va_S (XA shC g) s.heap s.heap [] := va_S.rf
  have hl : lv_has ls 2 [(0, .ref (g.2.2 (3, 0, 0)))] := hl
  unfold f_X7_ford at h
  generalize ([.ref (g.2.2 (3, 0, 0))] : List Value).toArray = args at X ⊢
  refine lv_aload_n X.1.1 X.1.2.1 dX7_ford_0 rfl (lv_at hl 0 rfl) ?_
  refine gt_X7_4 X hP (kyO (by decide)) wd_291 dX7_ford_1 ?_
  obtain ⟨⟨r_3, t_1⟩, hc_2, h⟩ := o_bd_inv h
  refine x_calli (x_runV (As := []) (rest := []) X hP hS (c_X2_readFord l g N X.2.2.2.2.1 t hc_2) ⟨wd_401, wd_398, wd_399, wd_400, wd_58⟩ hd_X2_readFord ⟨by omega, by decide⟩ (x_recv X hP (ci := 2) rfl (kyO (by decide)) rfl) rfl hl.1 rfl (Nat.le_of_ble_eq_true rfl) dX7_ford_4) hS (fun H locs hP hS => ?_)
  refine lv_istore_n (lv' := [(1, .int r_3), (0, .ref (g.2.2 (3, 0, 0)))]) X.1.1 X.1.2.1 dX7_ford_7 rfl hl (by decide) rfl (fun ls hl => ?_)
  refine lv_aload_n X.1.1 X.1.2.1 dX7_ford_8 rfl (lv_at hl 1 rfl) ?_
  refine gt_X7_3 X hP (kyO (by decide)) wd_290 dX7_ford_9 ?_
  refine lv_iconst (v := 0) X.1.1 X.1.2.1 dX7_ford_12 (by decide) ?_
  obtain ⟨t_5, e_6, h⟩ := o_nm_inv h
  refine ptN_X5_1 (x := 0) X hP hS (kyO (by decide)) wd_183 dX7_ford_13 (fun H locs hP hS => ?_)
  have hP : XP shC g t_5 H := by rw [e_6]; exact hP
  refine lv_iload_n X.1.1 X.1.2.1 dX7_ford_16 rfl (lv_at hl 0 rfl) ?_
  refine lv_if_ne (tgt := 31) X.1.1 X.1.2.1 dX7_ford_17 (by decide) (fun c_7 => ?_) (fun c_7 => ?_)
  · have h := o_neg c_7 h
    refine lv_aload_n X.1.1 X.1.2.1 dX7_ford_31 rfl (lv_at hl 1 rfl) ?_
    refine gt_X7_0 X hP (kyO (by decide)) wd_287 dX7_ford_32 ?_
    obtain ⟨t_8, hc_9, h⟩ := o_bd_inv h
    refine x_callv (x_runV (As := []) (rest := []) X hP hS (c_X4_forgetPast l g 0 X.2.2.2.2.1 (by omega) t_5 hc_9) ⟨wd_322, wd_319, wd_320, wd_321, wd_55⟩ hd_X4_forgetPast ⟨by omega, by decide⟩ (x_recv X hP (ci := 4) rfl (kyS (by omega) (by decide)) rfl) rfl hl.1 rfl (Nat.le_of_ble_eq_true rfl) dX7_ford_35) hS (fun H locs hP hS => ?_)
    refine lv_aload_n X.1.1 X.1.2.1 dX7_ford_38 rfl (lv_at hl 1 rfl) ?_
    refine gt_X7_0 X hP (kyO (by decide)) wd_287 dX7_ford_39 ?_
    refine gtN_X4_0 X hP (kyS (by omega) (by decide)) wd_160 dX7_ford_42 ?_
    refine lv_aload_n X.1.1 X.1.2.1 dX7_ford_45 rfl (lv_at hl 1 rfl) ?_
    refine gt_X7_4 X hP (kyO (by decide)) wd_291 dX7_ford_46 ?_
    refine gtN_X2_1 X hP (kyO (by decide)) wd_201 dX7_ford_49 ?_
    obtain ⟨t_10, hc_11, h⟩ := o_bd_inv h
    refine x_callv (x_runV (As := [.ref (g.2.2 (0, 20, 0))]) (rest := []) X hP hS (c_X0_becomeNew l g (9 * 0) 20 X.2.2.2.2.1 (by omega) (by omega) t_8 hc_11) ⟨wd_539, wd_536, wd_537, wd_538, wd_56⟩ hd_X0_becomeNew ⟨by omega, by decide⟩ (x_recv X hP (ci := 0) rfl (kyF (by omega) (by decide)) rfl) rfl hl.1 rfl (Nat.le_of_ble_eq_true rfl) dX7_ford_52) hS (fun H locs hP hS => ?_)
    refine lv_aload_n X.1.1 X.1.2.1 dX7_ford_55 rfl (lv_at hl 1 rfl) ?_
    refine gt_X7_0 X hP (kyO (by decide)) wd_287 dX7_ford_56 ?_
    refine gtN_X4_0 X hP (kyS (by omega) (by decide)) wd_160 dX7_ford_59 ?_
    refine gtN_X0_0 X hP (kyF (by omega) (by decide)) wd_93 dX7_ford_62 ?_
    obtain ⟨rfl, rfl⟩ := o_ret2 h
    exact x_iret X hP hS dX7_ford_65
  · have h := o_pos c_7 h
    refine lv_bipush (v := (-20)) X.1.1 X.1.2.1 dX7_ford_20 (by decide) ?_
    refine lv_aload_n X.1.1 X.1.2.1 dX7_ford_22 rfl (lv_at hl 1 rfl) ?_
    refine gt_X7_4 X hP (kyO (by decide)) wd_291 dX7_ford_23 ?_
    refine gtN_X2_2 X hP (kyO (by decide)) wd_203 dX7_ford_26 ?_
    refine lv_isub X.1.1 X.1.2.1 dX7_ford_29 ?_
    obtain ⟨rfl, rfl⟩ := o_ret2 h
    exact x_iret X hP hS dX7_ford_30
/-- FordQuestions.count(I)I -/
def f_X7_count (N : Nat) (a0 : Int32) (t : Mm) : Option (Int32 × Mm) := if a0 = 0 then (some ((t.1 0 (9 * 0) 0 0), t)) else (if a0 = 1 then (some ((t.1 0 (9 * 0) 0 1), t)) else (if a0 = 2 then (some ((t.1 0 (9 * 0) 0 3), t)) else (if a0 = 3 then (some ((t.1 0 (9 * 0) 0 2), t)) else (if a0 = 4 then (o_bd (f_X0_thoseWho N (9 * 0) 0 t) fun (r_8, t_6) => some (r_8, t_6)) else (if a0 = 5 then (o_bd (f_X0_thoseWho N (9 * 0) 1 t) fun (r_13, t_11) => some (r_13, t_11)) else (if a0 = 6 then (o_bd (f_X0_thoseWho N (9 * 0) 2 t) fun (r_18, t_16) => some (r_18, t_16)) else (if a0 = 7 then (some ((t.1 1 0 0 3), t)) else (some ((-1), t)))))))))
theorem hd_X7_count : x_hd yX7_count 1 := by decide +kernel
set_option maxRecDepth 100000 in
set_option maxHeartbeats 4000000 in
theorem c_X7_count (l : Launch) (g : Ly) (N : Nat) (hG : XG shC g) (a0 : Int32) (t : Mm) {r : Int32} {t' : Mm} (h : f_X7_count N a0 t = some (r, t')) : MI l yX7_count cX7_count 3 (some .int) 2 shC g [.ref (g.2.2 (3, 0, 0)), .int a0] t (XQi shC g r t') := by
  refine x_met hG (by decide +kernel) (Nat.le_of_ble_eq_true rfl) ?_
  intro p e s m below meth c ls X hP hl
  have hS : va_S (XA shC g) s.heap s.heap [] := va_S.rf
  have hl : lv_has ls 3 [(0, .ref (g.2.2 (3, 0, 0))), (1, .int a0)] := hl
  unfold f_X7_count at h
  generalize ([.ref (g.2.2 (3, 0, 0)), .int a0] : List Value).toArray = args at X ⊢
  refine lv_aload_n X.1.1 X.1.2.1 dX7_count_0 rfl (lv_at hl 0 rfl) ?_
  refine gt_X7_0 X hP (kyO (by decide)) wd_287 dX7_count_1 ?_
  refine gtN_X4_0 X hP (kyS (by omega) (by decide)) wd_160 dX7_count_4 ?_
  refine lv_astore_n (lv' := [(2, .ref (g.2.2 (0, (9 * 0), 0))), (0, .ref (g.2.2 (3, 0, 0))), (1, .int a0)]) X.1.1 X.1.2.1 dX7_count_7 rfl hl (by decide) rfl (fun ls hl => ?_)
  refine lv_iload_n X.1.1 X.1.2.1 dX7_count_8 rfl (lv_at hl 2 rfl) ?_
  by_cases c_1 : a0 = 0
  · have h := o_pos c_1 h
    refine lv_tableIn (off := 47) (tgt := 56) X.1.1 X.1.2.1 dX7_count_9 (by rw [c_1]; decide) (by rw [c_1]; decide) (by rw [c_1]; rfl) (by decide) ?_
    refine lv_aload_n X.1.1 X.1.2.1 dX7_count_56 rfl (lv_at hl 0 rfl) ?_
    refine gtN_X0_0 X hP (kyF (by omega) (by decide)) wd_93 dX7_count_57 ?_
    obtain ⟨rfl, rfl⟩ := o_ret2 h
    exact x_iret X hP hS dX7_count_60
  · have h := o_neg c_1 h
    by_cases c_2 : a0 = 1
    · have h := o_pos c_2 h
      refine lv_tableIn (off := 52) (tgt := 61) X.1.1 X.1.2.1 dX7_count_9 (by rw [c_2]; decide) (by rw [c_2]; decide) (by rw [c_2]; rfl) (by decide) ?_
      refine lv_aload_n X.1.1 X.1.2.1 dX7_count_61 rfl (lv_at hl 0 rfl) ?_
      refine gtN_X0_1 X hP (kyF (by omega) (by decide)) wd_98 dX7_count_62 ?_
      obtain ⟨rfl, rfl⟩ := o_ret2 h
      exact x_iret X hP hS dX7_count_65
    · have h := o_neg c_2 h
      by_cases c_3 : a0 = 2
      · have h := o_pos c_3 h
        refine lv_tableIn (off := 57) (tgt := 66) X.1.1 X.1.2.1 dX7_count_9 (by rw [c_3]; decide) (by rw [c_3]; decide) (by rw [c_3]; rfl) (by decide) ?_
        refine lv_aload_n X.1.1 X.1.2.1 dX7_count_66 rfl (lv_at hl 0 rfl) ?_
        refine gtN_X0_3 X hP (kyF (by omega) (by decide)) wd_107 dX7_count_67 ?_
        obtain ⟨rfl, rfl⟩ := o_ret2 h
        exact x_iret X hP hS dX7_count_70
      · have h := o_neg c_3 h
        by_cases c_4 : a0 = 3
        · have h := o_pos c_4 h
          refine lv_tableIn (off := 62) (tgt := 71) X.1.1 X.1.2.1 dX7_count_9 (by rw [c_4]; decide) (by rw [c_4]; decide) (by rw [c_4]; rfl) (by decide) ?_
          refine lv_aload_n X.1.1 X.1.2.1 dX7_count_71 rfl (lv_at hl 0 rfl) ?_
          refine gtN_X0_2 X hP (kyF (by omega) (by decide)) wd_104 dX7_count_72 ?_
          obtain ⟨rfl, rfl⟩ := o_ret2 h
          exact x_iret X hP hS dX7_count_75
        · have h := o_neg c_4 h
          by_cases c_5 : a0 = 4
          · have h := o_pos c_5 h
            refine lv_tableIn (off := 67) (tgt := 76) X.1.1 X.1.2.1 dX7_count_9 (by rw [c_5]; decide) (by rw [c_5]; decide) (by rw [c_5]; rfl) (by decide) ?_
            refine lv_aload_n X.1.1 X.1.2.1 dX7_count_76 rfl (lv_at hl 0 rfl) ?_
            refine lv_iconst (v := 0) X.1.1 X.1.2.1 dX7_count_77 (by decide) ?_
            obtain ⟨⟨r_8, t_6⟩, hc_7, h⟩ := o_bd_inv h
            refine x_calli (x_runV (As := [.int 0]) (rest := []) X hP hS (c_X0_thoseWho l g N (9 * 0) X.2.2.2.2.1 (by omega) 0 t hc_7) ⟨wd_369, wd_552, wd_367, wd_368, wd_56⟩ hd_X0_thoseWho ⟨by omega, by decide⟩ (x_recv X hP (ci := 0) rfl (kyF (by omega) (by decide)) rfl) rfl hl.1 rfl (Nat.le_of_ble_eq_true rfl) dX7_count_78) hS (fun H locs hP hS => ?_)
            obtain ⟨rfl, rfl⟩ := o_ret2 h
            exact x_iret X hP hS dX7_count_81
          · have h := o_neg c_5 h
            by_cases c_10 : a0 = 5
            · have h := o_pos c_10 h
              refine lv_tableIn (off := 73) (tgt := 82) X.1.1 X.1.2.1 dX7_count_9 (by rw [c_10]; decide) (by rw [c_10]; decide) (by rw [c_10]; rfl) (by decide) ?_
              refine lv_aload_n X.1.1 X.1.2.1 dX7_count_82 rfl (lv_at hl 0 rfl) ?_
              refine lv_iconst (v := 1) X.1.1 X.1.2.1 dX7_count_83 (by decide) ?_
              obtain ⟨⟨r_13, t_11⟩, hc_12, h⟩ := o_bd_inv h
              refine x_calli (x_runV (As := [.int 1]) (rest := []) X hP hS (c_X0_thoseWho l g N (9 * 0) X.2.2.2.2.1 (by omega) 1 t hc_12) ⟨wd_369, wd_552, wd_367, wd_368, wd_56⟩ hd_X0_thoseWho ⟨by omega, by decide⟩ (x_recv X hP (ci := 0) rfl (kyF (by omega) (by decide)) rfl) rfl hl.1 rfl (Nat.le_of_ble_eq_true rfl) dX7_count_84) hS (fun H locs hP hS => ?_)
              obtain ⟨rfl, rfl⟩ := o_ret2 h
              exact x_iret X hP hS dX7_count_87
            · have h := o_neg c_10 h
              by_cases c_15 : a0 = 6
              · have h := o_pos c_15 h
                refine lv_tableIn (off := 79) (tgt := 88) X.1.1 X.1.2.1 dX7_count_9 (by rw [c_15]; decide) (by rw [c_15]; decide) (by rw [c_15]; rfl) (by decide) ?_
                refine lv_aload_n X.1.1 X.1.2.1 dX7_count_88 rfl (lv_at hl 0 rfl) ?_
                refine lv_iconst (v := 2) X.1.1 X.1.2.1 dX7_count_89 (by decide) ?_
                obtain ⟨⟨r_18, t_16⟩, hc_17, h⟩ := o_bd_inv h
                refine x_calli (x_runV (As := [.int 2]) (rest := []) X hP hS (c_X0_thoseWho l g N (9 * 0) X.2.2.2.2.1 (by omega) 2 t hc_17) ⟨wd_369, wd_552, wd_367, wd_368, wd_56⟩ hd_X0_thoseWho ⟨by omega, by decide⟩ (x_recv X hP (ci := 0) rfl (kyF (by omega) (by decide)) rfl) rfl hl.1 rfl (Nat.le_of_ble_eq_true rfl) dX7_count_90) hS (fun H locs hP hS => ?_)
                obtain ⟨rfl, rfl⟩ := o_ret2 h
                exact x_iret X hP hS dX7_count_93
              · have h := o_neg c_15 h
                by_cases c_20 : a0 = 7
                · have h := o_pos c_20 h
                  refine lv_tableIn (off := 85) (tgt := 94) X.1.1 X.1.2.1 dX7_count_9 (by rw [c_20]; decide) (by rw [c_20]; decide) (by rw [c_20]; rfl) (by decide) ?_
                  refine lv_aload_n X.1.1 X.1.2.1 dX7_count_94 rfl (lv_at hl 1 rfl) ?_
                  refine gt_X7_0 X hP (kyO (by decide)) wd_287 dX7_count_95 ?_
                  refine gtN_X4_3 X hP (kyS (by omega) (by decide)) wd_164 dX7_count_98 ?_
                  obtain ⟨rfl, rfl⟩ := o_ret2 h
                  exact x_iret X hP hS dX7_count_101
                · have h := o_neg c_20 h
                  have qc_1 := x_ne (n := 0) c_1 (by decide)
                  have qc_2 := x_ne (n := 1) c_2 (by decide)
                  have qc_3 := x_ne (n := 2) c_3 (by decide)
                  have qc_4 := x_ne (n := 3) c_4 (by decide)
                  have qc_5 := x_ne (n := 4) c_5 (by decide)
                  have qc_10 := x_ne (n := 5) c_10 (by decide)
                  have qc_15 := x_ne (n := 6) c_15 (by decide)
                  have qc_20 := x_ne (n := 7) c_20 (by decide)
                  refine lv_tableOut (tgt := 102) X.1.1 X.1.2.1 dX7_count_9 (by omega) (by decide) ?_
                  refine lv_iconst (v := (-1)) X.1.1 X.1.2.1 dX7_count_102 (by decide) ?_
                  obtain ⟨rfl, rfl⟩ := o_ret2 h
                  exact x_iret X hP hS dX7_count_103
def f_X7_pass_61 (N : Nat) (k35 : Int32 × Int32 × Int32 × Mm → Option (Int32 × Mm)) (x1 : Int32) (x2 : Int32) (x3 : Int32) (t : Mm) : Option (Int32 × Mm) := o_bd (f_X0_passHour N (9 * 0) t) fun t_1 => k35 (x1, x2, (x3 + 1), t_1)
def b_X7_pass_35 (N : Nat) (k35 : Int32 × Int32 × Int32 × Mm → Option (Int32 × Mm)) (x1 : Int32) (x2 : Int32) (x3 : Int32) (t : Mm) : Option (Int32 × Mm) := if x1 ≤ x3 then (o_bd (f_X0_thoseWho N (9 * 0) 2 t) fun (r_6, t_4) => some (r_6, t_4)) else (o_bd (f_X4_remember 0 t) fun t_8 => if x2 = 0 then (f_X7_pass_61 N k35 x1 x2 x3 t_8) else (o_bd (f_X0_drawQuestion (9 * 0) t_8) fun t_11 => f_X7_pass_61 N k35 x1 x2 x3 t_11))
def f_X7_pass_35 (N : Nat) (x1 : Int32) (x2 : Int32) (x3 : Int32) (t : Mm) : Option (Int32 × Mm) := o_lp (fun k x => b_X7_pass_35 N k x.1 x.2.1 x.2.2.1 x.2.2.2) N (x1, x2, x3, t)
/-- FordQuestions.pass(IZ)I -/
def f_X7_pass (N : Nat) (a0 : Int32) (a1 : Int32) (t : Mm) : Option (Int32 × Mm) := o_bd (f_X7_isOutside a0 1 40 t) fun (r_15, t_13) => if r_15 = 0 then (if ((t_13.1 0 (9 * 0) 0 3) + a0) ≤ 9999 then (f_X7_pass_35 N a0 a1 0 t_13) else (some ((-3), t_13))) else (some ((-1), t_13))
theorem hd_X7_pass : x_hd yX7_pass 2 := by decide +kernel
set_option maxRecDepth 100000 in
set_option maxHeartbeats 4000000 in
theorem w_X7_pass_61 {l : Launch} {g : Ly} {p : Program} {e : Env} {s : State} {m : MethodId} {args : Array Value} {below : List Frame} {meth : Method} {c : Code} (N : Nat) (X : XC p m meth c cX7_pass 4 s args (.code yX7_pass cX7_pass 4 (some .int)) RX7 (some .int) shC g) {r : Int32} {t' : Mm} {k35 : Int32 × Int32 × Int32 × Mm → Option (Int32 × Mm)} (hk35 : ∀ x : Int32 × Int32 × Int32 × Mm, k35 x = some (r, t') → ∀ (H : Heap) (locs : List Loc) (ls : Array Slot), XP shC g x.2.2.2 H → va_S (XA shC g) s.heap H locs → lv_has ls 4 [(0, .ref (g.2.2 (3, 0, 0))), (1, .int x.1), (2, .int x.2.1), (3, .int x.2.2.1)] → W p l e (rmv 6) s m args below meth c H locs 0 0 (MQ below (XQi shC g r t') args s 0 0 (XA shC g)) (F0 m 35 ls [])) (x1 : Int32) (x2 : Int32) (x3 : Int32) (t : Mm) (H : Heap) (locs : List Loc) (ls : Array Slot) (hP : XP shC g t H) (hS : va_S (XA shC g) s.heap H locs) (hl : lv_has ls 4 [(0, .ref (g.2.2 (3, 0, 0))), (1, .int x1), (2, .int x2), (3, .int x3)]) (h : f_X7_pass_61 N k35 x1 x2 x3 t = some (r, t')) : W p l e (rmv 6) s m args below meth c H locs 0 0 (MQ below (XQi shC g r t') args s 0 0 (XA shC g)) (F0 m 61 ls []) := by
  unfold f_X7_pass_61 at h
  refine lv_aload_n X.1.1 X.1.2.1 dX7_pass_61 rfl (lv_at hl 0 rfl) ?_
  refine gt_X7_0 X hP (kyO (by decide)) wd_287 dX7_pass_62 ?_
  refine gtN_X4_0 X hP (kyS (by omega) (by decide)) wd_160 dX7_pass_65 ?_
  obtain ⟨t_1, hc_2, h⟩ := o_bd_inv h
  refine x_callv (x_runV (As := []) (rest := []) X hP hS (c_X0_passHour l g N (9 * 0) X.2.2.2.2.1 (by omega) t hc_2) ⟨wd_581, wd_578, wd_579, wd_580, wd_56⟩ hd_X0_passHour ⟨by omega, by decide⟩ (x_recv X hP (ci := 0) rfl (kyF (by omega) (by decide)) rfl) rfl hl.1 rfl (Nat.le_of_ble_eq_true rfl) dX7_pass_68) hS (fun H locs hP hS => ?_)
  refine lv_iinc (v := (x3 + 1)) (lv' := [(3, .int (x3 + 1)), (0, .ref (g.2.2 (3, 0, 0))), (1, .int x1), (2, .int x2)]) X.1.1 X.1.2.1 dX7_pass_71 hl (k := 3) rfl rfl (by decide) rfl (fun ls hl => ?_)
  refine lv_goto (tgt := 35) X.1.1 X.1.2.1 dX7_pass_74 (by decide) ?_
  exact hk35 (x1, x2, (x3 + 1), t_1) h _ _ _ hP hS (lv_sub hl [1, 2, 3, 0] rfl)
set_option maxRecDepth 100000 in
set_option maxHeartbeats 4000000 in
theorem wb_X7_pass_35 {l : Launch} {g : Ly} {p : Program} {e : Env} {s : State} {m : MethodId} {args : Array Value} {below : List Frame} {meth : Method} {c : Code} (N : Nat) (X : XC p m meth c cX7_pass 4 s args (.code yX7_pass cX7_pass 4 (some .int)) RX7 (some .int) shC g) {r : Int32} {t' : Mm} {k35 : Int32 × Int32 × Int32 × Mm → Option (Int32 × Mm)} (hk35 : ∀ x : Int32 × Int32 × Int32 × Mm, k35 x = some (r, t') → ∀ (H : Heap) (locs : List Loc) (ls : Array Slot), XP shC g x.2.2.2 H → va_S (XA shC g) s.heap H locs → lv_has ls 4 [(0, .ref (g.2.2 (3, 0, 0))), (1, .int x.1), (2, .int x.2.1), (3, .int x.2.2.1)] → W p l e (rmv 6) s m args below meth c H locs 0 0 (MQ below (XQi shC g r t') args s 0 0 (XA shC g)) (F0 m 35 ls [])) (x1 : Int32) (x2 : Int32) (x3 : Int32) (t : Mm) (H : Heap) (locs : List Loc) (ls : Array Slot) (hP : XP shC g t H) (hS : va_S (XA shC g) s.heap H locs) (hl : lv_has ls 4 [(0, .ref (g.2.2 (3, 0, 0))), (1, .int x1), (2, .int x2), (3, .int x3)]) (h : b_X7_pass_35 N k35 x1 x2 x3 t = some (r, t')) : W p l e (rmv 6) s m args below meth c H locs 0 0 (MQ below (XQi shC g r t') args s 0 0 (XA shC g)) (F0 m 35 ls []) := by
  unfold b_X7_pass_35 at h
  refine lv_iload_n X.1.1 X.1.2.1 dX7_pass_35 rfl (lv_at hl 3 rfl) ?_
  refine lv_iload_n X.1.1 X.1.2.1 dX7_pass_36 rfl (lv_at hl 1 rfl) ?_
  refine lv_icmp_ge (tgt := 77) X.1.1 X.1.2.1 dX7_pass_37 (by decide) (fun c_3 => ?_) (fun c_3 => ?_)
  · have h := o_pos c_3 h
    refine lv_aload_n X.1.1 X.1.2.1 dX7_pass_77 rfl (lv_at hl 0 rfl) ?_
    refine gt_X7_0 X hP (kyO (by decide)) wd_287 dX7_pass_78 ?_
    refine gtN_X4_0 X hP (kyS (by omega) (by decide)) wd_160 dX7_pass_81 ?_
    refine lv_iconst (v := 2) X.1.1 X.1.2.1 dX7_pass_84 (by decide) ?_
    obtain ⟨⟨r_6, t_4⟩, hc_5, h⟩ := o_bd_inv h
    refine x_calli (x_runV (As := [.int 2]) (rest := []) X hP hS (c_X0_thoseWho l g N (9 * 0) X.2.2.2.2.1 (by omega) 2 t hc_5) ⟨wd_369, wd_552, wd_367, wd_368, wd_56⟩ hd_X0_thoseWho ⟨by omega, by decide⟩ (x_recv X hP (ci := 0) rfl (kyF (by omega) (by decide)) rfl) rfl hl.1 rfl (Nat.le_of_ble_eq_true rfl) dX7_pass_85) hS (fun H locs hP hS => ?_)
    obtain ⟨rfl, rfl⟩ := o_ret2 h
    exact x_iret X hP hS dX7_pass_88
  · have h := o_neg c_3 h
    refine lv_aload_n X.1.1 X.1.2.1 dX7_pass_40 rfl (lv_at hl 0 rfl) ?_
    refine gt_X7_0 X hP (kyO (by decide)) wd_287 dX7_pass_41 ?_
    obtain ⟨t_8, hc_9, h⟩ := o_bd_inv h
    refine x_callv (x_runV (As := []) (rest := []) X hP hS (c_X4_remember l g 0 X.2.2.2.2.1 (by omega) t hc_9) ⟨wd_564, wd_561, wd_562, wd_563, wd_55⟩ hd_X4_remember ⟨by omega, by decide⟩ (x_recv X hP (ci := 4) rfl (kyS (by omega) (by decide)) rfl) rfl hl.1 rfl (Nat.le_of_ble_eq_true rfl) dX7_pass_44) hS (fun H locs hP hS => ?_)
    refine lv_iload_n X.1.1 X.1.2.1 dX7_pass_47 rfl (lv_at hl 2 rfl) ?_
    refine lv_if_eq (tgt := 61) X.1.1 X.1.2.1 dX7_pass_48 (by decide) (fun c_10 => ?_) (fun c_10 => ?_)
    · have h := o_pos c_10 h
      exact w_X7_pass_61 N X hk35 x1 x2 x3 t_8 _ _ _ hP hS (lv_sub hl [0, 1, 2, 3] rfl) h
    · have h := o_neg c_10 h
      refine lv_aload_n X.1.1 X.1.2.1 dX7_pass_51 rfl (lv_at hl 0 rfl) ?_
      refine gt_X7_0 X hP (kyO (by decide)) wd_287 dX7_pass_52 ?_
      refine gtN_X4_0 X hP (kyS (by omega) (by decide)) wd_160 dX7_pass_55 ?_
      obtain ⟨t_11, hc_12, h⟩ := o_bd_inv h
      refine x_callv (x_runV (As := []) (rest := []) X hP hS (c_X0_drawQuestion l g (9 * 0) X.2.2.2.2.1 (by omega) t_8 hc_12) ⟨wd_570, wd_567, wd_568, wd_569, wd_56⟩ hd_X0_drawQuestion ⟨by omega, by decide⟩ (x_recv X hP (ci := 0) rfl (kyF (by omega) (by decide)) rfl) rfl hl.1 rfl (Nat.le_of_ble_eq_true rfl) dX7_pass_58) hS (fun H locs hP hS => ?_)
      exact w_X7_pass_61 N X hk35 x1 x2 x3 t_11 _ _ _ hP hS (lv_sub hl [0, 1, 2, 3] rfl) h
set_option maxRecDepth 100000 in
set_option maxHeartbeats 4000000 in
theorem w_X7_pass_35 {l : Launch} {g : Ly} {p : Program} {e : Env} {s : State} {m : MethodId} {args : Array Value} {below : List Frame} {meth : Method} {c : Code} (N : Nat) (X : XC p m meth c cX7_pass 4 s args (.code yX7_pass cX7_pass 4 (some .int)) RX7 (some .int) shC g) {r : Int32} {t' : Mm} (x1 : Int32) (x2 : Int32) (x3 : Int32) (t : Mm) (H : Heap) (locs : List Loc) (ls : Array Slot) (hP : XP shC g t H) (hS : va_S (XA shC g) s.heap H locs) (hl : lv_has ls 4 [(0, .ref (g.2.2 (3, 0, 0))), (1, .int x1), (2, .int x2), (3, .int x3)]) (h : f_X7_pass_35 N x1 x2 x3 t = some (r, t')) : W p l e (rmv 6) s m args below meth c H locs 0 0 (MQ below (XQi shC g r t') args s 0 0 (XA shC g)) (F0 m 35 ls []) :=
  o_lp_ind (P := fun x : Int32 × Int32 × Int32 × Mm => ∀ (H : Heap) (locs : List Loc) (ls : Array Slot), XP shC g x.2.2.2 H → va_S (XA shC g) s.heap H locs → lv_has ls 4 [(0, .ref (g.2.2 (3, 0, 0))), (1, .int x.1), (2, .int x.2.1), (3, .int x.2.2.1)] → W p l e (rmv 6) s m args below meth c H locs 0 0 (MQ below (XQi shC g r t') args s 0 0 (XA shC g)) (F0 m 35 ls [])) (fun k hk x h H locs ls hP hS hl => wb_X7_pass_35 N X hk x.1 x.2.1 x.2.2.1 x.2.2.2 H locs ls hP hS hl h) N (x1, x2, x3, t) h H locs ls hP hS hl
set_option maxRecDepth 100000 in
set_option maxHeartbeats 4000000 in
theorem c_X7_pass (l : Launch) (g : Ly) (N : Nat) (hG : XG shC g) (a0 : Int32) (a1 : Int32) (t : Mm) {r : Int32} {t' : Mm} (h : f_X7_pass N a0 a1 t = some (r, t')) : MI l yX7_pass cX7_pass 4 (some .int) 6 shC g [.ref (g.2.2 (3, 0, 0)), .int a0, .int a1] t (XQi shC g r t') := by
  refine x_met hG (by decide +kernel) (Nat.le_of_ble_eq_true rfl) ?_
  intro p e s m below meth c ls X hP hl
  have hS : va_S (XA shC g) s.heap s.heap [] := va_S.rf
  have hl : lv_has ls 4 [(0, .ref (g.2.2 (3, 0, 0))), (1, .int a0), (2, .int a1)] := hl
  unfold f_X7_pass at h
  generalize ([.ref (g.2.2 (3, 0, 0)), .int a0, .int a1] : List Value).toArray = args at X ⊢
  refine lv_iload_n X.1.1 X.1.2.1 dX7_pass_0 rfl (lv_at hl 1 rfl) ?_
  refine lv_iconst (v := 1) X.1.1 X.1.2.1 dX7_pass_1 (by decide) ?_
  refine lv_bipush (v := 40) X.1.1 X.1.2.1 dX7_pass_2 (by decide) ?_
  obtain ⟨⟨r_15, t_13⟩, hc_14, h⟩ := o_bd_inv h
  refine x_calli (x_runS (As := [.int a0, .int 1, .int 40]) (rest := []) X hP hS (c_X7_isOutside l g X.2.2.2.2.1 a0 1 40 t hc_14) ⟨wd_318, wd_316, wd_317, wd_54⟩ hd_X7_isOutside ⟨by omega, by decide⟩ rfl hl.1 rfl (Nat.le_of_ble_eq_true rfl) dX7_pass_4) hS (fun H locs hP hS => ?_)
  refine lv_if_eq (tgt := 12) X.1.1 X.1.2.1 dX7_pass_7 (by decide) (fun c_17 => ?_) (fun c_17 => ?_)
  · have h := o_pos c_17 h
    refine lv_aload_n X.1.1 X.1.2.1 dX7_pass_12 rfl (lv_at hl 0 rfl) ?_
    refine gt_X7_0 X hP (kyO (by decide)) wd_287 dX7_pass_13 ?_
    refine gtN_X4_0 X hP (kyS (by omega) (by decide)) wd_160 dX7_pass_16 ?_
    refine gtN_X0_3 X hP (kyF (by omega) (by decide)) wd_107 dX7_pass_19 ?_
    refine lv_iload_n X.1.1 X.1.2.1 dX7_pass_22 rfl (lv_at hl 1 rfl) ?_
    refine lv_iadd X.1.1 X.1.2.1 dX7_pass_23 ?_
    refine lv_sipush (v := 9999) X.1.1 X.1.2.1 dX7_pass_24 (by decide) ?_
    refine lv_icmp_le (tgt := 33) X.1.1 X.1.2.1 dX7_pass_27 (by decide) (fun c_18 => ?_) (fun c_18 => ?_)
    · have h := o_pos c_18 h
      refine lv_iconst (v := 0) X.1.1 X.1.2.1 dX7_pass_33 (by decide) ?_
      refine lv_istore_n (lv' := [(3, .int 0), (0, .ref (g.2.2 (3, 0, 0))), (1, .int a0), (2, .int a1)]) X.1.1 X.1.2.1 dX7_pass_34 rfl hl (by decide) rfl (fun ls hl => ?_)
      exact w_X7_pass_35 N X a0 a1 0 t_13 _ _ _ hP hS (lv_sub hl [1, 2, 3, 0] rfl) h
    · have h := o_neg c_18 h
      refine lv_bipush (v := (-3)) X.1.1 X.1.2.1 dX7_pass_30 (by decide) ?_
      obtain ⟨rfl, rfl⟩ := o_ret2 h
      exact x_iret X hP hS dX7_pass_32
  · have h := o_neg c_17 h
    refine lv_iconst (v := (-1)) X.1.1 X.1.2.1 dX7_pass_10 (by decide) ?_
    obtain ⟨rfl, rfl⟩ := o_ret2 h
    exact x_iret X hP hS dX7_pass_11
/-- FordQuestions.hours(I)I -/
def f_X7_hours (N : Nat) (a0 : Int32) (t : Mm) : Option (Int32 × Mm) := o_bd (f_X7_pass N a0 0 t) fun (r_3, t_1) => some (r_3, t_1)
theorem hd_X7_hours : x_hd yX7_hours 1 := by decide +kernel
set_option maxRecDepth 100000 in
set_option maxHeartbeats 4000000 in
theorem c_X7_hours (l : Launch) (g : Ly) (N : Nat) (hG : XG shC g) (a0 : Int32) (t : Mm) {r : Int32} {t' : Mm} (h : f_X7_hours N a0 t = some (r, t')) : MI l yX7_hours cX7_hours 2 (some .int) 7 shC g [.ref (g.2.2 (3, 0, 0)), .int a0] t (XQi shC g r t') := by
  refine x_met hG (by decide +kernel) (Nat.le_of_ble_eq_true rfl) ?_
  intro p e s m below meth c ls X hP hl
  have hS : va_S (XA shC g) s.heap s.heap [] := va_S.rf
  have hl : lv_has ls 2 [(0, .ref (g.2.2 (3, 0, 0))), (1, .int a0)] := hl
  unfold f_X7_hours at h
  generalize ([.ref (g.2.2 (3, 0, 0)), .int a0] : List Value).toArray = args at X ⊢
  refine lv_aload_n X.1.1 X.1.2.1 dX7_hours_0 rfl (lv_at hl 0 rfl) ?_
  refine lv_iload_n X.1.1 X.1.2.1 dX7_hours_1 rfl (lv_at hl 1 rfl) ?_
  refine lv_iconst (v := 0) X.1.1 X.1.2.1 dX7_hours_2 (by decide) ?_
  obtain ⟨⟨r_3, t_1⟩, hc_2, h⟩ := o_bd_inv h
  refine x_calli (x_runV (As := [.int a0, .int 0]) (rest := []) X hP hS (c_X7_pass l g N X.2.2.2.2.1 a0 0 t hc_2) ⟨wd_560, wd_557, wd_559, wd_9, wd_54⟩ hd_X7_pass ⟨by omega, by decide⟩ (x_recv X hP (ci := 7) rfl (kyO (by decide)) rfl) rfl hl.1 rfl (Nat.le_of_ble_eq_true rfl) dX7_hours_3) hS (fun H locs hP hS => ?_)
  obtain ⟨rfl, rfl⟩ := o_ret2 h
  exact x_iret X hP hS dX7_hours_6
/-- FordQuestions.teach(II)I -/
def f_X7_teach (a0 : Int32) (a1 : Int32) (t : Mm) : Option (Int32 × Mm) := o_bd (f_X0_hasCrosser (9 * 0) a0 t) fun (r_3, t_1) => if r_3 = 0 then (some ((-1), t_1)) else (o_bd (f_X7_isOutside a1 0 7 t_1) fun (r_8, t_6) => if r_8 = 0 then (if o_inb a0 5 = true then (o_bd (f_X7_isIn (t_6.1 0 (9 * 0) 4 (a0.toNatClampNeg)) a1 t_6) fun (r_14, t_12) => if r_14 = 0 then (o_bd (f_X4_remember 0 t_12) fun t_17 => if o_inb a0 5 = true then (if o_inb a0 5 = true then (o_nm (sI t_17 0 (9 * 0) 4 (a0.toNatClampNeg) ((t_17.1 0 (9 * 0) 4 (a0.toNatClampNeg)) ||| (1 <<< (a1 &&& 31)))) fun t_21 => if o_inb a0 5 = true then (some ((t_21.1 0 (9 * 0) 4 (a0.toNatClampNeg)), t_21)) else none) else none) else none) else (some ((-2), t_12))) else none) else (some ((-1), t_6)))
theorem hd_X7_teach : x_hd yX7_teach 2 := by decide +kernel
set_option maxRecDepth 100000 in
set_option maxHeartbeats 4000000 in
theorem c_X7_teach (l : Launch) (g : Ly) (hG : XG shC g) (a0 : Int32) (a1 : Int32) (t : Mm) {r : Int32} {t' : Mm} (h : f_X7_teach a0 a1 t = some (r, t')) : MI l yX7_teach cX7_teach 4 (some .int) 3 shC g [.ref (g.2.2 (3, 0, 0)), .int a0, .int a1] t (XQi shC g r t') := by
  refine x_met hG (by decide +kernel) (Nat.le_of_ble_eq_true rfl) ?_
  intro p e s m below meth c ls X hP hl
  have hS : va_S (XA shC g) s.heap s.heap [] := va_S.rf
  have hl : lv_has ls 4 [(0, .ref (g.2.2 (3, 0, 0))), (1, .int a0), (2, .int a1)] := hl
  unfold f_X7_teach at h
  generalize ([.ref (g.2.2 (3, 0, 0)), .int a0, .int a1] : List Value).toArray = args at X ⊢
  refine lv_aload_n X.1.1 X.1.2.1 dX7_teach_0 rfl (lv_at hl 0 rfl) ?_
  refine gt_X7_0 X hP (kyO (by decide)) wd_287 dX7_teach_1 ?_
  refine gtN_X4_0 X hP (kyS (by omega) (by decide)) wd_160 dX7_teach_4 ?_
  refine lv_astore_n (lv' := [(3, .ref (g.2.2 (0, (9 * 0), 0))), (0, .ref (g.2.2 (3, 0, 0))), (1, .int a0), (2, .int a1)]) X.1.1 X.1.2.1 dX7_teach_7 rfl hl (by decide) rfl (fun ls hl => ?_)
  refine lv_aload_n X.1.1 X.1.2.1 dX7_teach_8 rfl (lv_at hl 0 rfl) ?_
  refine lv_iload_n X.1.1 X.1.2.1 dX7_teach_9 rfl (lv_at hl 2 rfl) ?_
  obtain ⟨⟨r_3, t_1⟩, hc_2, h⟩ := o_bd_inv h
  refine x_calli (x_runV (As := [.int a0]) (rest := []) X hP hS (c_X0_hasCrosser l g (9 * 0) X.2.2.2.2.1 (by omega) a0 t hc_2) ⟨wd_357, wd_354, wd_355, wd_356, wd_56⟩ hd_X0_hasCrosser ⟨by omega, by decide⟩ (x_recv X hP (ci := 0) rfl (kyF (by omega) (by decide)) rfl) rfl hl.1 rfl (Nat.le_of_ble_eq_true rfl) dX7_teach_10) hS (fun H locs hP hS => ?_)
  refine lv_if_eq (tgt := 26) X.1.1 X.1.2.1 dX7_teach_13 (by decide) (fun c_5 => ?_) (fun c_5 => ?_)
  · have h := o_pos c_5 h
    refine lv_iconst (v := (-1)) X.1.1 X.1.2.1 dX7_teach_26 (by decide) ?_
    obtain ⟨rfl, rfl⟩ := o_ret2 h
    exact x_iret X hP hS dX7_teach_27
  · have h := o_neg c_5 h
    refine lv_iload_n X.1.1 X.1.2.1 dX7_teach_16 rfl (lv_at hl 3 rfl) ?_
    refine lv_iconst (v := 0) X.1.1 X.1.2.1 dX7_teach_17 (by decide) ?_
    refine lv_bipush (v := 7) X.1.1 X.1.2.1 dX7_teach_18 (by decide) ?_
    obtain ⟨⟨r_8, t_6⟩, hc_7, h⟩ := o_bd_inv h
    refine x_calli (x_runS (As := [.int a1, .int 0, .int 7]) (rest := []) X hP hS (c_X7_isOutside l g X.2.2.2.2.1 a1 0 7 t_1 hc_7) ⟨wd_318, wd_316, wd_317, wd_54⟩ hd_X7_isOutside ⟨by omega, by decide⟩ rfl hl.1 rfl (Nat.le_of_ble_eq_true rfl) dX7_teach_20) hS (fun H locs hP hS => ?_)
    refine lv_if_eq (tgt := 28) X.1.1 X.1.2.1 dX7_teach_23 (by decide) (fun c_10 => ?_) (fun c_10 => ?_)
    · have h := o_pos c_10 h
      refine lv_aload_n X.1.1 X.1.2.1 dX7_teach_28 rfl (lv_at hl 0 rfl) ?_
      refine gtN_X0_8 X hP (kyF (by omega) (by decide)) wd_119 dX7_teach_29 ?_
      refine lv_iload_n X.1.1 X.1.2.1 dX7_teach_32 rfl (lv_at hl 2 rfl) ?_
      obtain ⟨g_11, h⟩ := o_gd_inv h
      refine x_iald X hP (kyF (by omega) (by decide)) (fun _ _ => rfl) g_11 dX7_teach_33 ?_
      refine lv_iload_n X.1.1 X.1.2.1 dX7_teach_34 rfl (lv_at hl 3 rfl) ?_
      obtain ⟨⟨r_14, t_12⟩, hc_13, h⟩ := o_bd_inv h
      refine x_calli (x_runS (As := [.int (t_6.1 0 (9 * 0) 4 (a0.toNatClampNeg)), .int a1]) (rest := []) X hP hS (c_X7_isIn l g X.2.2.2.2.1 (t_6.1 0 (9 * 0) 4 (a0.toNatClampNeg)) a1 t_6 hc_13) ⟨wd_349, wd_595, wd_348, wd_54⟩ hd_X7_isIn ⟨by omega, by decide⟩ rfl hl.1 rfl (Nat.le_of_ble_eq_true rfl) dX7_teach_35) hS (fun H locs hP hS => ?_)
      refine lv_if_eq (tgt := 44) X.1.1 X.1.2.1 dX7_teach_38 (by decide) (fun c_16 => ?_) (fun c_16 => ?_)
      · have h := o_pos c_16 h
        refine lv_aload_n X.1.1 X.1.2.1 dX7_teach_44 rfl (lv_at hl 1 rfl) ?_
        refine gt_X7_0 X hP (kyO (by decide)) wd_287 dX7_teach_45 ?_
        obtain ⟨t_17, hc_18, h⟩ := o_bd_inv h
        refine x_callv (x_runV (As := []) (rest := []) X hP hS (c_X4_remember l g 0 X.2.2.2.2.1 (by omega) t_12 hc_18) ⟨wd_564, wd_561, wd_562, wd_563, wd_55⟩ hd_X4_remember ⟨by omega, by decide⟩ (x_recv X hP (ci := 4) rfl (kyS (by omega) (by decide)) rfl) rfl hl.1 rfl (Nat.le_of_ble_eq_true rfl) dX7_teach_48) hS (fun H locs hP hS => ?_)
        refine lv_aload_n X.1.1 X.1.2.1 dX7_teach_51 rfl (lv_at hl 0 rfl) ?_
        refine gtN_X0_8 X hP (kyF (by omega) (by decide)) wd_119 dX7_teach_52 ?_
        refine lv_iload_n X.1.1 X.1.2.1 dX7_teach_55 rfl (lv_at hl 2 rfl) ?_
        refine lv_dup2_11 X.1.1 X.1.2.1 dX7_teach_56 rfl rfl ?_
        obtain ⟨g_19, h⟩ := o_gd_inv h
        refine x_iald X hP (kyF (by omega) (by decide)) (fun _ _ => rfl) g_19 dX7_teach_57 ?_
        refine lv_iconst (v := 1) X.1.1 X.1.2.1 dX7_teach_58 (by decide) ?_
        refine lv_iload_n X.1.1 X.1.2.1 dX7_teach_59 rfl (lv_at hl 3 rfl) ?_
        refine lv_ishl X.1.1 X.1.2.1 dX7_teach_60 ?_
        refine lv_ior X.1.1 X.1.2.1 dX7_teach_61 ?_
        obtain ⟨g_20, h⟩ := o_gd_inv h
        obtain ⟨t_21, e_22, h⟩ := o_nm_inv h
        refine x_iast X hP hS (kyF (by omega) (by decide)) (fun _ _ => rfl) g_20 dX7_teach_62 (fun H locs hP hS => ?_)
        have hP : XP shC g t_21 H := by rw [e_22]; exact hP
        refine lv_aload_n X.1.1 X.1.2.1 dX7_teach_63 rfl (lv_at hl 0 rfl) ?_
        refine gtN_X0_8 X hP (kyF (by omega) (by decide)) wd_119 dX7_teach_64 ?_
        refine lv_iload_n X.1.1 X.1.2.1 dX7_teach_67 rfl (lv_at hl 2 rfl) ?_
        obtain ⟨g_23, h⟩ := o_gd_inv h
        refine x_iald X hP (kyF (by omega) (by decide)) (fun _ _ => rfl) g_23 dX7_teach_68 ?_
        obtain ⟨rfl, rfl⟩ := o_ret2 h
        exact x_iret X hP hS dX7_teach_69
      · have h := o_neg c_16 h
        refine lv_bipush (v := (-2)) X.1.1 X.1.2.1 dX7_teach_41 (by decide) ?_
        obtain ⟨rfl, rfl⟩ := o_ret2 h
        exact x_iret X hP hS dX7_teach_43
    · have h := o_neg c_10 h
      refine lv_iconst (v := (-1)) X.1.1 X.1.2.1 dX7_teach_26 (by decide) ?_
      obtain ⟨rfl, rfl⟩ := o_ret2 h
      exact x_iret X hP hS dX7_teach_27
/-- FordQuestions.later(II)I -/
def f_X7_later (a0 : Int32) (a1 : Int32) (t : Mm) : Option (Int32 × Mm) := o_bd (f_X0_hasCrosser (9 * 0) a0 t) fun (r_3, t_1) => if r_3 = 0 then (some ((-1), t_1)) else (o_bd (f_X7_isOutside a1 0 40 t_1) fun (r_8, t_6) => if r_8 = 0 then (if o_inb a0 5 = true then (o_nm ((t_6.1 0 (9 * 0) 5 (a0.toNatClampNeg))) fun x_12 => if o_inb a0 5 = true then (if (t_6.1 0 (9 * 0) 6 (a0.toNatClampNeg)) = 0 then (if x_12 = a1 then (some ((-2), t_6)) else (o_bd (f_X4_remember 0 t_6) fun t_17 => if o_inb a0 5 = true then (o_nm (sI t_17 0 (9 * 0) 5 (a0.toNatClampNeg) a1) fun t_20 => some (x_12, t_20)) else none)) else (some ((-2), t_6))) else none) else none) else (some ((-1), t_6)))
theorem hd_X7_later : x_hd yX7_later 2 := by decide +kernel
set_option maxRecDepth 100000 in
set_option maxHeartbeats 4000000 in
theorem c_X7_later (l : Launch) (g : Ly) (hG : XG shC g) (a0 : Int32) (a1 : Int32) (t : Mm) {r : Int32} {t' : Mm} (h : f_X7_later a0 a1 t = some (r, t')) : MI l yX7_later cX7_later 5 (some .int) 3 shC g [.ref (g.2.2 (3, 0, 0)), .int a0, .int a1] t (XQi shC g r t') := by
  refine x_met hG (by decide +kernel) (Nat.le_of_ble_eq_true rfl) ?_
  intro p e s m below meth c ls X hP hl
  have hS : va_S (XA shC g) s.heap s.heap [] := va_S.rf
  have hl : lv_has ls 5 [(0, .ref (g.2.2 (3, 0, 0))), (1, .int a0), (2, .int a1)] := hl
  unfold f_X7_later at h
  generalize ([.ref (g.2.2 (3, 0, 0)), .int a0, .int a1] : List Value).toArray = args at X ⊢
  refine lv_aload_n X.1.1 X.1.2.1 dX7_later_0 rfl (lv_at hl 0 rfl) ?_
  refine gt_X7_0 X hP (kyO (by decide)) wd_287 dX7_later_1 ?_
  refine gtN_X4_0 X hP (kyS (by omega) (by decide)) wd_160 dX7_later_4 ?_
  refine lv_astore_n (lv' := [(3, .ref (g.2.2 (0, (9 * 0), 0))), (0, .ref (g.2.2 (3, 0, 0))), (1, .int a0), (2, .int a1)]) X.1.1 X.1.2.1 dX7_later_7 rfl hl (by decide) rfl (fun ls hl => ?_)
  refine lv_aload_n X.1.1 X.1.2.1 dX7_later_8 rfl (lv_at hl 0 rfl) ?_
  refine lv_iload_n X.1.1 X.1.2.1 dX7_later_9 rfl (lv_at hl 2 rfl) ?_
  obtain ⟨⟨r_3, t_1⟩, hc_2, h⟩ := o_bd_inv h
  refine x_calli (x_runV (As := [.int a0]) (rest := []) X hP hS (c_X0_hasCrosser l g (9 * 0) X.2.2.2.2.1 (by omega) a0 t hc_2) ⟨wd_357, wd_354, wd_355, wd_356, wd_56⟩ hd_X0_hasCrosser ⟨by omega, by decide⟩ (x_recv X hP (ci := 0) rfl (kyF (by omega) (by decide)) rfl) rfl hl.1 rfl (Nat.le_of_ble_eq_true rfl) dX7_later_10) hS (fun H locs hP hS => ?_)
  refine lv_if_eq (tgt := 26) X.1.1 X.1.2.1 dX7_later_13 (by decide) (fun c_5 => ?_) (fun c_5 => ?_)
  · have h := o_pos c_5 h
    refine lv_iconst (v := (-1)) X.1.1 X.1.2.1 dX7_later_26 (by decide) ?_
    obtain ⟨rfl, rfl⟩ := o_ret2 h
    exact x_iret X hP hS dX7_later_27
  · have h := o_neg c_5 h
    refine lv_iload_n X.1.1 X.1.2.1 dX7_later_16 rfl (lv_at hl 3 rfl) ?_
    refine lv_iconst (v := 0) X.1.1 X.1.2.1 dX7_later_17 (by decide) ?_
    refine lv_bipush (v := 40) X.1.1 X.1.2.1 dX7_later_18 (by decide) ?_
    obtain ⟨⟨r_8, t_6⟩, hc_7, h⟩ := o_bd_inv h
    refine x_calli (x_runS (As := [.int a1, .int 0, .int 40]) (rest := []) X hP hS (c_X7_isOutside l g X.2.2.2.2.1 a1 0 40 t_1 hc_7) ⟨wd_318, wd_316, wd_317, wd_54⟩ hd_X7_isOutside ⟨by omega, by decide⟩ rfl hl.1 rfl (Nat.le_of_ble_eq_true rfl) dX7_later_20) hS (fun H locs hP hS => ?_)
    refine lv_if_eq (tgt := 28) X.1.1 X.1.2.1 dX7_later_23 (by decide) (fun c_10 => ?_) (fun c_10 => ?_)
    · have h := o_pos c_10 h
      refine lv_aload_n X.1.1 X.1.2.1 dX7_later_28 rfl (lv_at hl 0 rfl) ?_
      refine gtN_X0_9 X hP (kyF (by omega) (by decide)) wd_122 dX7_later_29 ?_
      refine lv_iload_n X.1.1 X.1.2.1 dX7_later_32 rfl (lv_at hl 2 rfl) ?_
      obtain ⟨g_11, h⟩ := o_gd_inv h
      refine x_iald X hP (kyF (by omega) (by decide)) (fun _ _ => rfl) g_11 dX7_later_33 ?_
      refine lv_topi (fun x_12 e_13 => ?_)
      have h := o_nm_to e_13 h
      refine lv_istore (lv' := [(4, .int x_12), (3, .ref (g.2.2 (0, (9 * 0), 0))), (0, .ref (g.2.2 (3, 0, 0))), (1, .int a0), (2, .int a1)]) X.1.1 X.1.2.1 dX7_later_34 hl (by decide) rfl (fun ls hl => ?_)
      refine lv_aload_n X.1.1 X.1.2.1 dX7_later_36 rfl (lv_at hl 1 rfl) ?_
      refine gtN_X0_10 X hP (kyF (by omega) (by decide)) wd_127 dX7_later_37 ?_
      refine lv_iload_n X.1.1 X.1.2.1 dX7_later_40 rfl (lv_at hl 3 rfl) ?_
      obtain ⟨g_14, h⟩ := o_gd_inv h
      refine x_iald X hP (kyF (by omega) (by decide)) (fun _ _ => rfl) g_14 dX7_later_41 ?_
      refine lv_if_ne (tgt := 51) X.1.1 X.1.2.1 dX7_later_42 (by decide) (fun c_15 => ?_) (fun c_15 => ?_)
      · have h := o_neg c_15 h
        refine lv_bipush (v := (-2)) X.1.1 X.1.2.1 dX7_later_51 (by decide) ?_
        obtain ⟨rfl, rfl⟩ := o_ret2 h
        exact x_iret X hP hS dX7_later_53
      · have h := o_pos c_15 h
        refine lv_iload X.1.1 X.1.2.1 dX7_later_45 (lv_at hl 0 rfl) ?_
        refine lv_iload_n X.1.1 X.1.2.1 dX7_later_47 rfl (lv_at hl 4 rfl) ?_
        refine lv_icmp_ne (tgt := 54) X.1.1 X.1.2.1 dX7_later_48 (by decide) (fun c_16 => ?_) (fun c_16 => ?_)
        · have h := o_neg c_16 h
          refine lv_aload_n X.1.1 X.1.2.1 dX7_later_54 rfl (lv_at hl 2 rfl) ?_
          refine gt_X7_0 X hP (kyO (by decide)) wd_287 dX7_later_55 ?_
          obtain ⟨t_17, hc_18, h⟩ := o_bd_inv h
          refine x_callv (x_runV (As := []) (rest := []) X hP hS (c_X4_remember l g 0 X.2.2.2.2.1 (by omega) t_6 hc_18) ⟨wd_564, wd_561, wd_562, wd_563, wd_55⟩ hd_X4_remember ⟨by omega, by decide⟩ (x_recv X hP (ci := 4) rfl (kyS (by omega) (by decide)) rfl) rfl hl.1 rfl (Nat.le_of_ble_eq_true rfl) dX7_later_58) hS (fun H locs hP hS => ?_)
          refine lv_aload_n X.1.1 X.1.2.1 dX7_later_61 rfl (lv_at hl 1 rfl) ?_
          refine gtN_X0_9 X hP (kyF (by omega) (by decide)) wd_122 dX7_later_62 ?_
          refine lv_iload_n X.1.1 X.1.2.1 dX7_later_65 rfl (lv_at hl 3 rfl) ?_
          refine lv_iload_n X.1.1 X.1.2.1 dX7_later_66 rfl (lv_at hl 4 rfl) ?_
          obtain ⟨g_19, h⟩ := o_gd_inv h
          obtain ⟨t_20, e_21, h⟩ := o_nm_inv h
          refine x_iast X hP hS (kyF (by omega) (by decide)) (fun _ _ => rfl) g_19 dX7_later_67 (fun H locs hP hS => ?_)
          have hP : XP shC g t_20 H := by rw [e_21]; exact hP
          refine lv_iload X.1.1 X.1.2.1 dX7_later_68 (lv_at hl 0 rfl) ?_
          obtain ⟨rfl, rfl⟩ := o_ret2 h
          exact x_iret X hP hS dX7_later_70
        · have h := o_pos c_16 h
          refine lv_bipush (v := (-2)) X.1.1 X.1.2.1 dX7_later_51 (by decide) ?_
          obtain ⟨rfl, rfl⟩ := o_ret2 h
          exact x_iret X hP hS dX7_later_53
    · have h := o_neg c_10 h
      refine lv_iconst (v := (-1)) X.1.1 X.1.2.1 dX7_later_26 (by decide) ?_
      obtain ⟨rfl, rfl⟩ := o_ret2 h
      exact x_iret X hP hS dX7_later_27
/-- FordQuestions.again(I)I -/
def f_X7_again (a0 : Int32) (t : Mm) : Option (Int32 × Mm) := o_bd (f_X0_hasQuestion (9 * 0) a0 t) fun (r_3, t_1) => if r_3 = 0 then (some ((-1), t_1)) else (o_bd (f_X0_isAsked (9 * 0) a0 t_1) fun (r_8, t_6) => if r_8 = 0 then (some ((-2), t_6)) else (o_bd (f_X4_remember 0 t_6) fun t_11 => o_bd (f_X0_letAskAgain (9 * 0) a0 t_11) fun t_13 => some ((t_13.1 0 (9 * 0) 0 2), t_13)))
theorem hd_X7_again : x_hd yX7_again 1 := by decide +kernel
set_option maxRecDepth 100000 in
set_option maxHeartbeats 4000000 in
theorem c_X7_again (l : Launch) (g : Ly) (hG : XG shC g) (a0 : Int32) (t : Mm) {r : Int32} {t' : Mm} (h : f_X7_again a0 t = some (r, t')) : MI l yX7_again cX7_again 3 (some .int) 3 shC g [.ref (g.2.2 (3, 0, 0)), .int a0] t (XQi shC g r t') := by
  refine x_met hG (by decide +kernel) (Nat.le_of_ble_eq_true rfl) ?_
  intro p e s m below meth c ls X hP hl
  have hS : va_S (XA shC g) s.heap s.heap [] := va_S.rf
  have hl : lv_has ls 3 [(0, .ref (g.2.2 (3, 0, 0))), (1, .int a0)] := hl
  unfold f_X7_again at h
  generalize ([.ref (g.2.2 (3, 0, 0)), .int a0] : List Value).toArray = args at X ⊢
  refine lv_aload_n X.1.1 X.1.2.1 dX7_again_0 rfl (lv_at hl 0 rfl) ?_
  refine gt_X7_0 X hP (kyO (by decide)) wd_287 dX7_again_1 ?_
  refine gtN_X4_0 X hP (kyS (by omega) (by decide)) wd_160 dX7_again_4 ?_
  refine lv_astore_n (lv' := [(2, .ref (g.2.2 (0, (9 * 0), 0))), (0, .ref (g.2.2 (3, 0, 0))), (1, .int a0)]) X.1.1 X.1.2.1 dX7_again_7 rfl hl (by decide) rfl (fun ls hl => ?_)
  refine lv_aload_n X.1.1 X.1.2.1 dX7_again_8 rfl (lv_at hl 0 rfl) ?_
  refine lv_iload_n X.1.1 X.1.2.1 dX7_again_9 rfl (lv_at hl 2 rfl) ?_
  obtain ⟨⟨r_3, t_1⟩, hc_2, h⟩ := o_bd_inv h
  refine x_calli (x_runV (As := [.int a0]) (rest := []) X hP hS (c_X0_hasQuestion l g (9 * 0) X.2.2.2.2.1 (by omega) a0 t hc_2) ⟨wd_342, wd_339, wd_340, wd_341, wd_56⟩ hd_X0_hasQuestion ⟨by omega, by decide⟩ (x_recv X hP (ci := 0) rfl (kyF (by omega) (by decide)) rfl) rfl hl.1 rfl (Nat.le_of_ble_eq_true rfl) dX7_again_10) hS (fun H locs hP hS => ?_)
  refine lv_if_ne (tgt := 18) X.1.1 X.1.2.1 dX7_again_13 (by decide) (fun c_5 => ?_) (fun c_5 => ?_)
  · have h := o_neg c_5 h
    refine lv_aload_n X.1.1 X.1.2.1 dX7_again_18 rfl (lv_at hl 0 rfl) ?_
    refine lv_iload_n X.1.1 X.1.2.1 dX7_again_19 rfl (lv_at hl 2 rfl) ?_
    obtain ⟨⟨r_8, t_6⟩, hc_7, h⟩ := o_bd_inv h
    refine x_calli (x_runV (As := [.int a0]) (rest := []) X hP hS (c_X0_isAsked l g (9 * 0) X.2.2.2.2.1 (by omega) a0 t_1 hc_7) ⟨wd_346, wd_343, wd_344, wd_345, wd_56⟩ hd_X0_isAsked ⟨by omega, by decide⟩ (x_recv X hP (ci := 0) rfl (kyF (by omega) (by decide)) rfl) rfl hl.1 rfl (Nat.le_of_ble_eq_true rfl) dX7_again_20) hS (fun H locs hP hS => ?_)
    refine lv_if_ne (tgt := 29) X.1.1 X.1.2.1 dX7_again_23 (by decide) (fun c_10 => ?_) (fun c_10 => ?_)
    · have h := o_neg c_10 h
      refine lv_aload_n X.1.1 X.1.2.1 dX7_again_29 rfl (lv_at hl 1 rfl) ?_
      refine gt_X7_0 X hP (kyO (by decide)) wd_287 dX7_again_30 ?_
      obtain ⟨t_11, hc_12, h⟩ := o_bd_inv h
      refine x_callv (x_runV (As := []) (rest := []) X hP hS (c_X4_remember l g 0 X.2.2.2.2.1 (by omega) t_6 hc_12) ⟨wd_564, wd_561, wd_562, wd_563, wd_55⟩ hd_X4_remember ⟨by omega, by decide⟩ (x_recv X hP (ci := 4) rfl (kyS (by omega) (by decide)) rfl) rfl hl.1 rfl (Nat.le_of_ble_eq_true rfl) dX7_again_33) hS (fun H locs hP hS => ?_)
      refine lv_aload_n X.1.1 X.1.2.1 dX7_again_36 rfl (lv_at hl 0 rfl) ?_
      refine lv_iload_n X.1.1 X.1.2.1 dX7_again_37 rfl (lv_at hl 2 rfl) ?_
      obtain ⟨t_13, hc_14, h⟩ := o_bd_inv h
      refine x_callv (x_runV (As := [.int a0]) (rest := []) X hP hS (c_X0_letAskAgain l g (9 * 0) X.2.2.2.2.1 (by omega) a0 t_11 hc_14) ⟨wd_577, wd_604, wd_575, wd_576, wd_56⟩ hd_X0_letAskAgain ⟨by omega, by decide⟩ (x_recv X hP (ci := 0) rfl (kyF (by omega) (by decide)) rfl) rfl hl.1 rfl (Nat.le_of_ble_eq_true rfl) dX7_again_38) hS (fun H locs hP hS => ?_)
      refine lv_aload_n X.1.1 X.1.2.1 dX7_again_41 rfl (lv_at hl 0 rfl) ?_
      refine gtN_X0_2 X hP (kyF (by omega) (by decide)) wd_104 dX7_again_42 ?_
      obtain ⟨rfl, rfl⟩ := o_ret2 h
      exact x_iret X hP hS dX7_again_45
    · have h := o_pos c_10 h
      refine lv_bipush (v := (-2)) X.1.1 X.1.2.1 dX7_again_26 (by decide) ?_
      obtain ⟨rfl, rfl⟩ := o_ret2 h
      exact x_iret X hP hS dX7_again_28
  · have h := o_pos c_5 h
    refine lv_iconst (v := (-1)) X.1.1 X.1.2.1 dX7_again_16 (by decide) ?_
    obtain ⟨rfl, rfl⟩ := o_ret2 h
    exact x_iret X hP hS dX7_again_17
/-- FordQuestions.put(II)I -/
def f_X7_put (a0 : Int32) (a1 : Int32) (t : Mm) : Option (Int32 × Mm) := o_bd (f_X0_hasQuestion (9 * 0) a0 t) fun (r_3, t_1) => if r_3 = 0 then (some ((-1), t_1)) else (o_bd (f_X7_isOutside a1 1 9 t_1) fun (r_8, t_6) => if r_8 = 0 then (if o_inb a0 8 = true then (o_nm ((t_6.1 0 (9 * 0) 2 (a0.toNatClampNeg))) fun x_12 => if x_12 = a1 then (some ((-2), t_6)) else (o_bd (f_X4_remember 0 t_6) fun t_15 => if o_inb a0 8 = true then (o_nm (sI t_15 0 (9 * 0) 2 (a0.toNatClampNeg) a1) fun t_18 => some (x_12, t_18)) else none)) else none) else (some ((-1), t_6)))
theorem hd_X7_put : x_hd yX7_put 2 := by decide +kernel
set_option maxRecDepth 100000 in
set_option maxHeartbeats 4000000 in
theorem c_X7_put (l : Launch) (g : Ly) (hG : XG shC g) (a0 : Int32) (a1 : Int32) (t : Mm) {r : Int32} {t' : Mm} (h : f_X7_put a0 a1 t = some (r, t')) : MI l yX7_put cX7_put 5 (some .int) 3 shC g [.ref (g.2.2 (3, 0, 0)), .int a0, .int a1] t (XQi shC g r t') := by
  refine x_met hG (by decide +kernel) (Nat.le_of_ble_eq_true rfl) ?_
  intro p e s m below meth c ls X hP hl
  have hS : va_S (XA shC g) s.heap s.heap [] := va_S.rf
  have hl : lv_has ls 5 [(0, .ref (g.2.2 (3, 0, 0))), (1, .int a0), (2, .int a1)] := hl
  unfold f_X7_put at h
  generalize ([.ref (g.2.2 (3, 0, 0)), .int a0, .int a1] : List Value).toArray = args at X ⊢
  refine lv_aload_n X.1.1 X.1.2.1 dX7_put_0 rfl (lv_at hl 0 rfl) ?_
  refine gt_X7_0 X hP (kyO (by decide)) wd_287 dX7_put_1 ?_
  refine gtN_X4_0 X hP (kyS (by omega) (by decide)) wd_160 dX7_put_4 ?_
  refine lv_astore_n (lv' := [(3, .ref (g.2.2 (0, (9 * 0), 0))), (0, .ref (g.2.2 (3, 0, 0))), (1, .int a0), (2, .int a1)]) X.1.1 X.1.2.1 dX7_put_7 rfl hl (by decide) rfl (fun ls hl => ?_)
  refine lv_aload_n X.1.1 X.1.2.1 dX7_put_8 rfl (lv_at hl 0 rfl) ?_
  refine lv_iload_n X.1.1 X.1.2.1 dX7_put_9 rfl (lv_at hl 2 rfl) ?_
  obtain ⟨⟨r_3, t_1⟩, hc_2, h⟩ := o_bd_inv h
  refine x_calli (x_runV (As := [.int a0]) (rest := []) X hP hS (c_X0_hasQuestion l g (9 * 0) X.2.2.2.2.1 (by omega) a0 t hc_2) ⟨wd_342, wd_339, wd_340, wd_341, wd_56⟩ hd_X0_hasQuestion ⟨by omega, by decide⟩ (x_recv X hP (ci := 0) rfl (kyF (by omega) (by decide)) rfl) rfl hl.1 rfl (Nat.le_of_ble_eq_true rfl) dX7_put_10) hS (fun H locs hP hS => ?_)
  refine lv_if_eq (tgt := 26) X.1.1 X.1.2.1 dX7_put_13 (by decide) (fun c_5 => ?_) (fun c_5 => ?_)
  · have h := o_pos c_5 h
    refine lv_iconst (v := (-1)) X.1.1 X.1.2.1 dX7_put_26 (by decide) ?_
    obtain ⟨rfl, rfl⟩ := o_ret2 h
    exact x_iret X hP hS dX7_put_27
  · have h := o_neg c_5 h
    refine lv_iload_n X.1.1 X.1.2.1 dX7_put_16 rfl (lv_at hl 3 rfl) ?_
    refine lv_iconst (v := 1) X.1.1 X.1.2.1 dX7_put_17 (by decide) ?_
    refine lv_bipush (v := 9) X.1.1 X.1.2.1 dX7_put_18 (by decide) ?_
    obtain ⟨⟨r_8, t_6⟩, hc_7, h⟩ := o_bd_inv h
    refine x_calli (x_runS (As := [.int a1, .int 1, .int 9]) (rest := []) X hP hS (c_X7_isOutside l g X.2.2.2.2.1 a1 1 9 t_1 hc_7) ⟨wd_318, wd_316, wd_317, wd_54⟩ hd_X7_isOutside ⟨by omega, by decide⟩ rfl hl.1 rfl (Nat.le_of_ble_eq_true rfl) dX7_put_20) hS (fun H locs hP hS => ?_)
    refine lv_if_eq (tgt := 28) X.1.1 X.1.2.1 dX7_put_23 (by decide) (fun c_10 => ?_) (fun c_10 => ?_)
    · have h := o_pos c_10 h
      refine lv_aload_n X.1.1 X.1.2.1 dX7_put_28 rfl (lv_at hl 0 rfl) ?_
      refine gtN_X0_6 X hP (kyF (by omega) (by decide)) wd_114 dX7_put_29 ?_
      refine lv_iload_n X.1.1 X.1.2.1 dX7_put_32 rfl (lv_at hl 2 rfl) ?_
      obtain ⟨g_11, h⟩ := o_gd_inv h
      refine x_iald X hP (kyF (by omega) (by decide)) (fun _ _ => rfl) g_11 dX7_put_33 ?_
      refine lv_topi (fun x_12 e_13 => ?_)
      have h := o_nm_to e_13 h
      refine lv_istore (lv' := [(4, .int x_12), (3, .ref (g.2.2 (0, (9 * 0), 0))), (0, .ref (g.2.2 (3, 0, 0))), (1, .int a0), (2, .int a1)]) X.1.1 X.1.2.1 dX7_put_34 hl (by decide) rfl (fun ls hl => ?_)
      refine lv_iload X.1.1 X.1.2.1 dX7_put_36 (lv_at hl 0 rfl) ?_
      refine lv_iload_n X.1.1 X.1.2.1 dX7_put_38 rfl (lv_at hl 4 rfl) ?_
      refine lv_icmp_ne (tgt := 45) X.1.1 X.1.2.1 dX7_put_39 (by decide) (fun c_14 => ?_) (fun c_14 => ?_)
      · have h := o_neg c_14 h
        refine lv_aload_n X.1.1 X.1.2.1 dX7_put_45 rfl (lv_at hl 2 rfl) ?_
        refine gt_X7_0 X hP (kyO (by decide)) wd_287 dX7_put_46 ?_
        obtain ⟨t_15, hc_16, h⟩ := o_bd_inv h
        refine x_callv (x_runV (As := []) (rest := []) X hP hS (c_X4_remember l g 0 X.2.2.2.2.1 (by omega) t_6 hc_16) ⟨wd_564, wd_561, wd_562, wd_563, wd_55⟩ hd_X4_remember ⟨by omega, by decide⟩ (x_recv X hP (ci := 4) rfl (kyS (by omega) (by decide)) rfl) rfl hl.1 rfl (Nat.le_of_ble_eq_true rfl) dX7_put_49) hS (fun H locs hP hS => ?_)
        refine lv_aload_n X.1.1 X.1.2.1 dX7_put_52 rfl (lv_at hl 1 rfl) ?_
        refine gtN_X0_6 X hP (kyF (by omega) (by decide)) wd_114 dX7_put_53 ?_
        refine lv_iload_n X.1.1 X.1.2.1 dX7_put_56 rfl (lv_at hl 3 rfl) ?_
        refine lv_iload_n X.1.1 X.1.2.1 dX7_put_57 rfl (lv_at hl 4 rfl) ?_
        obtain ⟨g_17, h⟩ := o_gd_inv h
        obtain ⟨t_18, e_19, h⟩ := o_nm_inv h
        refine x_iast X hP hS (kyF (by omega) (by decide)) (fun _ _ => rfl) g_17 dX7_put_58 (fun H locs hP hS => ?_)
        have hP : XP shC g t_18 H := by rw [e_19]; exact hP
        refine lv_iload X.1.1 X.1.2.1 dX7_put_59 (lv_at hl 0 rfl) ?_
        obtain ⟨rfl, rfl⟩ := o_ret2 h
        exact x_iret X hP hS dX7_put_61
      · have h := o_pos c_14 h
        refine lv_bipush (v := (-2)) X.1.1 X.1.2.1 dX7_put_42 (by decide) ?_
        obtain ⟨rfl, rfl⟩ := o_ret2 h
        exact x_iret X hP hS dX7_put_44
    · have h := o_neg c_10 h
      refine lv_iconst (v := (-1)) X.1.1 X.1.2.1 dX7_put_26 (by decide) ?_
      obtain ⟨rfl, rfl⟩ := o_ret2 h
      exact x_iret X hP hS dX7_put_27
/-- FordQuestions.drift(I)I -/
def f_X7_drift (N : Nat) (a0 : Int32) (t : Mm) : Option (Int32 × Mm) := o_bd (f_X7_pass N a0 1 t) fun (r_3, t_1) => some (r_3, t_1)
theorem hd_X7_drift : x_hd yX7_drift 1 := by decide +kernel
set_option maxRecDepth 100000 in
set_option maxHeartbeats 4000000 in
theorem c_X7_drift (l : Launch) (g : Ly) (N : Nat) (hG : XG shC g) (a0 : Int32) (t : Mm) {r : Int32} {t' : Mm} (h : f_X7_drift N a0 t = some (r, t')) : MI l yX7_drift cX7_drift 2 (some .int) 7 shC g [.ref (g.2.2 (3, 0, 0)), .int a0] t (XQi shC g r t') := by
  refine x_met hG (by decide +kernel) (Nat.le_of_ble_eq_true rfl) ?_
  intro p e s m below meth c ls X hP hl
  have hS : va_S (XA shC g) s.heap s.heap [] := va_S.rf
  have hl : lv_has ls 2 [(0, .ref (g.2.2 (3, 0, 0))), (1, .int a0)] := hl
  unfold f_X7_drift at h
  generalize ([.ref (g.2.2 (3, 0, 0)), .int a0] : List Value).toArray = args at X ⊢
  refine lv_aload_n X.1.1 X.1.2.1 dX7_drift_0 rfl (lv_at hl 0 rfl) ?_
  refine lv_iload_n X.1.1 X.1.2.1 dX7_drift_1 rfl (lv_at hl 1 rfl) ?_
  refine lv_iconst (v := 1) X.1.1 X.1.2.1 dX7_drift_2 (by decide) ?_
  obtain ⟨⟨r_3, t_1⟩, hc_2, h⟩ := o_bd_inv h
  refine x_calli (x_runV (As := [.int a0, .int 1]) (rest := []) X hP hS (c_X7_pass l g N X.2.2.2.2.1 a0 1 t hc_2) ⟨wd_560, wd_557, wd_559, wd_9, wd_54⟩ hd_X7_pass ⟨by omega, by decide⟩ (x_recv X hP (ci := 7) rfl (kyO (by decide)) rfl) rfl hl.1 rfl (Nat.le_of_ble_eq_true rfl) dX7_drift_3) hS (fun H locs hP hS => ?_)
  obtain ⟨rfl, rfl⟩ := o_ret2 h
  exact x_iret X hP hS dX7_drift_6
/-- FordQuestions.undo()I -/
def f_X7_undo (t : Mm) : Option (Int32 × Mm) := o_bd (f_X4_goBack 0 t) fun (r_3, t_1) => if r_3 = 0 then (some ((-4), t_1)) else (some ((t_1.1 1 0 0 3), t_1))
theorem hd_X7_undo : x_hd yX7_undo 0 := by decide +kernel
set_option maxRecDepth 100000 in
set_option maxHeartbeats 4000000 in
theorem c_X7_undo (l : Launch) (g : Ly) (hG : XG shC g) (t : Mm) {r : Int32} {t' : Mm} (h : f_X7_undo t = some (r, t')) : MI l yX7_undo cX7_undo 1 (some .int) 3 shC g [.ref (g.2.2 (3, 0, 0))] t (XQi shC g r t') := by
  refine x_met hG (by decide +kernel) (Nat.le_of_ble_eq_true rfl) ?_
  intro p e s m below meth c ls X hP hl
  have hS : va_S (XA shC g) s.heap s.heap [] := va_S.rf
  have hl : lv_has ls 1 [(0, .ref (g.2.2 (3, 0, 0)))] := hl
  unfold f_X7_undo at h
  generalize ([.ref (g.2.2 (3, 0, 0))] : List Value).toArray = args at X ⊢
  refine lv_aload_n X.1.1 X.1.2.1 dX7_undo_0 rfl (lv_at hl 0 rfl) ?_
  refine gt_X7_0 X hP (kyO (by decide)) wd_287 dX7_undo_1 ?_
  obtain ⟨⟨r_3, t_1⟩, hc_2, h⟩ := o_bd_inv h
  refine x_calli (x_runV (As := []) (rest := []) X hP hS (c_X4_goBack l g 0 X.2.2.2.2.1 (by omega) t hc_2) ⟨wd_620, wd_617, wd_618, wd_619, wd_55⟩ hd_X4_goBack ⟨by omega, by decide⟩ (x_recv X hP (ci := 4) rfl (kyS (by omega) (by decide)) rfl) rfl hl.1 rfl (Nat.le_of_ble_eq_true rfl) dX7_undo_4) hS (fun H locs hP hS => ?_)
  refine lv_if_eq (tgt := 20) X.1.1 X.1.2.1 dX7_undo_7 (by decide) (fun c_5 => ?_) (fun c_5 => ?_)
  · have h := o_pos c_5 h
    refine lv_bipush (v := (-4)) X.1.1 X.1.2.1 dX7_undo_20 (by decide) ?_
    obtain ⟨rfl, rfl⟩ := o_ret2 h
    exact x_iret X hP hS dX7_undo_22
  · have h := o_neg c_5 h
    refine lv_aload_n X.1.1 X.1.2.1 dX7_undo_10 rfl (lv_at hl 0 rfl) ?_
    refine gt_X7_0 X hP (kyO (by decide)) wd_287 dX7_undo_11 ?_
    refine gtN_X4_3 X hP (kyS (by omega) (by decide)) wd_164 dX7_undo_14 ?_
    refine lv_goto (tgt := 22) X.1.1 X.1.2.1 dX7_undo_17 (by decide) ?_
    obtain ⟨rfl, rfl⟩ := o_ret2 h
    exact x_iret X hP hS dX7_undo_22
/-- FordQuestions.seed(I)I -/
def f_X7_seed (a0 : Int32) (t : Mm) : Option (Int32 × Mm) := if 0 ≤ a0 then (o_nm (sI t 0 (9 * 0) 0 4 a0) fun t_2 => some ((t.1 0 (9 * 0) 0 4), t_2)) else (some ((-1), t))
theorem hd_X7_seed : x_hd yX7_seed 1 := by decide +kernel
set_option maxRecDepth 100000 in
set_option maxHeartbeats 4000000 in
theorem c_X7_seed (l : Launch) (g : Ly) (hG : XG shC g) (a0 : Int32) (t : Mm) {r : Int32} {t' : Mm} (h : f_X7_seed a0 t = some (r, t')) : MI l yX7_seed cX7_seed 3 (some .int) 1 shC g [.ref (g.2.2 (3, 0, 0)), .int a0] t (XQi shC g r t') := by
  refine x_met hG (by decide +kernel) (Nat.le_of_ble_eq_true rfl) ?_
  intro p e s m below meth c ls X hP hl
  have hS : va_S (XA shC g) s.heap s.heap [] := va_S.rf
  have hl : lv_has ls 3 [(0, .ref (g.2.2 (3, 0, 0))), (1, .int a0)] := hl
  unfold f_X7_seed at h
  generalize ([.ref (g.2.2 (3, 0, 0)), .int a0] : List Value).toArray = args at X ⊢
  refine lv_iload_n X.1.1 X.1.2.1 dX7_seed_0 rfl (lv_at hl 1 rfl) ?_
  refine lv_if_ge (tgt := 6) X.1.1 X.1.2.1 dX7_seed_1 (by decide) (fun c_1 => ?_) (fun c_1 => ?_)
  · have h := o_pos c_1 h
    refine lv_aload_n X.1.1 X.1.2.1 dX7_seed_6 rfl (lv_at hl 0 rfl) ?_
    refine gt_X7_0 X hP (kyO (by decide)) wd_287 dX7_seed_7 ?_
    refine gtN_X4_0 X hP (kyS (by omega) (by decide)) wd_160 dX7_seed_10 ?_
    refine gtN_X0_4 X hP (kyF (by omega) (by decide)) wd_110 dX7_seed_13 ?_
    refine lv_istore_n (lv' := [(2, .int (t.1 0 (9 * 0) 0 4)), (0, .ref (g.2.2 (3, 0, 0))), (1, .int a0)]) X.1.1 X.1.2.1 dX7_seed_16 rfl hl (by decide) rfl (fun ls hl => ?_)
    refine lv_aload_n X.1.1 X.1.2.1 dX7_seed_17 rfl (lv_at hl 1 rfl) ?_
    refine gt_X7_0 X hP (kyO (by decide)) wd_287 dX7_seed_18 ?_
    refine gtN_X4_0 X hP (kyS (by omega) (by decide)) wd_160 dX7_seed_21 ?_
    refine lv_iload_n X.1.1 X.1.2.1 dX7_seed_24 rfl (lv_at hl 2 rfl) ?_
    obtain ⟨t_2, e_3, h⟩ := o_nm_inv h
    refine ptN_X0_4 (x := a0) X hP hS (kyF (by omega) (by decide)) wd_110 dX7_seed_25 (fun H locs hP hS => ?_)
    have hP : XP shC g t_2 H := by rw [e_3]; exact hP
    refine lv_iload_n X.1.1 X.1.2.1 dX7_seed_28 rfl (lv_at hl 0 rfl) ?_
    obtain ⟨rfl, rfl⟩ := o_ret2 h
    exact x_iret X hP hS dX7_seed_29
  · have h := o_neg c_1 h
    refine lv_iconst (v := (-1)) X.1.1 X.1.2.1 dX7_seed_4 (by decide) ?_
    obtain ⟨rfl, rfl⟩ := o_ret2 h
    exact x_iret X hP hS dX7_seed_5
/-- FordQuestions.then(II)I -/
def f_X7_then (N : Nat) (a0 : Int32) (a1 : Int32) (t : Mm) : Option (Int32 × Mm) := o_bd (f_X7_isOutside a0 0 100 t) fun (r_3, t_1) => if r_3 = 0 then (o_bd (f_X7_isOutside a1 0 2 t_1) fun (r_8, t_6) => if r_8 = 0 then (o_bd (f_X1_behind N (9 * 0) a0 t_6) fun t_11 => if a1 = 0 then (o_bd (f_X0_thoseWho N 18 1 t_11) fun (r_16, t_14) => some (r_16, t_14)) else (if a1 = 1 then (o_bd (f_X0_thoseWho N 18 2 t_11) fun (r_21, t_19) => some (r_21, t_19)) else (some ((t_11.1 0 18 0 2), t_11)))) else (some ((-1), t_6))) else (some ((-1), t_1))
theorem hd_X7_then : x_hd yX7_then 2 := by decide +kernel
set_option maxRecDepth 100000 in
set_option maxHeartbeats 4000000 in
theorem c_X7_then (l : Launch) (g : Ly) (N : Nat) (hG : XG shC g) (a0 : Int32) (a1 : Int32) (t : Mm) {r : Int32} {t' : Mm} (h : f_X7_then N a0 a1 t = some (r, t')) : MI l yX7_then cX7_then 4 (some .int) 7 shC g [.ref (g.2.2 (3, 0, 0)), .int a0, .int a1] t (XQi shC g r t') := by
  refine x_met hG (by decide +kernel) (Nat.le_of_ble_eq_true rfl) ?_
  intro p e s m below meth c ls X hP hl
  have hS : va_S (XA shC g) s.heap s.heap [] := va_S.rf
  have hl : lv_has ls 4 [(0, .ref (g.2.2 (3, 0, 0))), (1, .int a0), (2, .int a1)] := hl
  unfold f_X7_then at h
  generalize ([.ref (g.2.2 (3, 0, 0)), .int a0, .int a1] : List Value).toArray = args at X ⊢
  refine lv_iload_n X.1.1 X.1.2.1 dX7_then_0 rfl (lv_at hl 1 rfl) ?_
  refine lv_iconst (v := 0) X.1.1 X.1.2.1 dX7_then_1 (by decide) ?_
  refine lv_bipush (v := 100) X.1.1 X.1.2.1 dX7_then_2 (by decide) ?_
  obtain ⟨⟨r_3, t_1⟩, hc_2, h⟩ := o_bd_inv h
  refine x_calli (x_runS (As := [.int a0, .int 0, .int 100]) (rest := []) X hP hS (c_X7_isOutside l g X.2.2.2.2.1 a0 0 100 t hc_2) ⟨wd_318, wd_316, wd_317, wd_54⟩ hd_X7_isOutside ⟨by omega, by decide⟩ rfl hl.1 rfl (Nat.le_of_ble_eq_true rfl) dX7_then_4) hS (fun H locs hP hS => ?_)
  refine lv_if_ne (tgt := 19) X.1.1 X.1.2.1 dX7_then_7 (by decide) (fun c_5 => ?_) (fun c_5 => ?_)
  · have h := o_neg c_5 h
    refine lv_iconst (v := (-1)) X.1.1 X.1.2.1 dX7_then_19 (by decide) ?_
    obtain ⟨rfl, rfl⟩ := o_ret2 h
    exact x_iret X hP hS dX7_then_20
  · have h := o_pos c_5 h
    refine lv_iload_n X.1.1 X.1.2.1 dX7_then_10 rfl (lv_at hl 2 rfl) ?_
    refine lv_iconst (v := 0) X.1.1 X.1.2.1 dX7_then_11 (by decide) ?_
    refine lv_iconst (v := 2) X.1.1 X.1.2.1 dX7_then_12 (by decide) ?_
    obtain ⟨⟨r_8, t_6⟩, hc_7, h⟩ := o_bd_inv h
    refine x_calli (x_runS (As := [.int a1, .int 0, .int 2]) (rest := []) X hP hS (c_X7_isOutside l g X.2.2.2.2.1 a1 0 2 t_1 hc_7) ⟨wd_318, wd_316, wd_317, wd_54⟩ hd_X7_isOutside ⟨by omega, by decide⟩ rfl hl.1 rfl (Nat.le_of_ble_eq_true rfl) dX7_then_13) hS (fun H locs hP hS => ?_)
    refine lv_if_eq (tgt := 21) X.1.1 X.1.2.1 dX7_then_16 (by decide) (fun c_10 => ?_) (fun c_10 => ?_)
    · have h := o_pos c_10 h
      refine lv_aload_n X.1.1 X.1.2.1 dX7_then_21 rfl (lv_at hl 0 rfl) ?_
      refine gt_X7_5 X hP (kyO (by decide)) wd_292 dX7_then_22 ?_
      refine lv_aload_n X.1.1 X.1.2.1 dX7_then_25 rfl (lv_at hl 0 rfl) ?_
      refine gt_X7_0 X hP (kyO (by decide)) wd_287 dX7_then_26 ?_
      refine gtN_X4_0 X hP (kyS (by omega) (by decide)) wd_160 dX7_then_29 ?_
      refine lv_iload_n X.1.1 X.1.2.1 dX7_then_32 rfl (lv_at hl 1 rfl) ?_
      obtain ⟨t_11, hc_12, h⟩ := o_bd_inv h
      refine x_callr (x_runV (As := [.ref (g.2.2 (0, (9 * 0), 0)), .int a0]) (rest := []) X hP hS (c_X1_behind l g N (9 * 0) X.2.2.2.2.1 (by omega) a0 t_6 hc_12) ⟨wd_632, wd_629, wd_630, wd_631, wd_59⟩ hd_X1_behind ⟨by omega, by decide⟩ (x_recv X hP (ci := 1) rfl (kyO (by decide)) rfl) rfl hl.1 rfl (Nat.le_of_ble_eq_true rfl) dX7_then_33) hS (fun H locs hP hS => ?_)
      refine lv_astore_n (lv' := [(3, .ref (g.2.2 (0, 18, 0))), (0, .ref (g.2.2 (3, 0, 0))), (1, .int a0), (2, .int a1)]) X.1.1 X.1.2.1 dX7_then_36 rfl hl (by decide) rfl (fun ls hl => ?_)
      refine lv_iload_n X.1.1 X.1.2.1 dX7_then_37 rfl (lv_at hl 3 rfl) ?_
      by_cases c_13 : a1 = 0
      · have h := o_pos c_13 h
        refine lv_lookup (off := 26) (tgt := 64) X.1.1 X.1.2.1 dX7_then_38 (by decide) (by rw [c_13]; rfl) (by decide) ?_
        refine lv_aload_n X.1.1 X.1.2.1 dX7_then_64 rfl (lv_at hl 0 rfl) ?_
        refine lv_iconst (v := 1) X.1.1 X.1.2.1 dX7_then_65 (by decide) ?_
        obtain ⟨⟨r_16, t_14⟩, hc_15, h⟩ := o_bd_inv h
        refine x_calli (x_runV (As := [.int 1]) (rest := []) X hP hS (c_X0_thoseWho l g N 18 X.2.2.2.2.1 (by omega) 1 t_11 hc_15) ⟨wd_369, wd_552, wd_367, wd_368, wd_56⟩ hd_X0_thoseWho ⟨by omega, by decide⟩ (x_recv X hP (ci := 0) rfl (kyF (by omega) (by decide)) rfl) rfl hl.1 rfl (Nat.le_of_ble_eq_true rfl) dX7_then_66) hS (fun H locs hP hS => ?_)
        obtain ⟨rfl, rfl⟩ := o_ret2 h
        exact x_iret X hP hS dX7_then_69
      · have h := o_neg c_13 h
        by_cases c_18 : a1 = 1
        · have h := o_pos c_18 h
          refine lv_lookup (off := 32) (tgt := 70) X.1.1 X.1.2.1 dX7_then_38 (by decide) (by rw [c_18]; rfl) (by decide) ?_
          refine lv_aload_n X.1.1 X.1.2.1 dX7_then_70 rfl (lv_at hl 0 rfl) ?_
          refine lv_iconst (v := 2) X.1.1 X.1.2.1 dX7_then_71 (by decide) ?_
          obtain ⟨⟨r_21, t_19⟩, hc_20, h⟩ := o_bd_inv h
          refine x_calli (x_runV (As := [.int 2]) (rest := []) X hP hS (c_X0_thoseWho l g N 18 X.2.2.2.2.1 (by omega) 2 t_11 hc_20) ⟨wd_369, wd_552, wd_367, wd_368, wd_56⟩ hd_X0_thoseWho ⟨by omega, by decide⟩ (x_recv X hP (ci := 0) rfl (kyF (by omega) (by decide)) rfl) rfl hl.1 rfl (Nat.le_of_ble_eq_true rfl) dX7_then_72) hS (fun H locs hP hS => ?_)
          obtain ⟨rfl, rfl⟩ := o_ret2 h
          exact x_iret X hP hS dX7_then_75
        · have h := o_neg c_18 h
          refine lv_lookup (off := 38) (tgt := 76) X.1.1 X.1.2.1 dX7_then_38 (by decide) (x_lk2 c_13 c_18) (by decide) ?_
          refine lv_aload_n X.1.1 X.1.2.1 dX7_then_76 rfl (lv_at hl 0 rfl) ?_
          refine gtN_X0_2 X hP (kyF (by omega) (by decide)) wd_104 dX7_then_77 ?_
          obtain ⟨rfl, rfl⟩ := o_ret2 h
          exact x_iret X hP hS dX7_then_80
    · have h := o_neg c_10 h
      refine lv_iconst (v := (-1)) X.1.1 X.1.2.1 dX7_then_19 (by decide) ?_
      obtain ⟨rfl, rfl⟩ := o_ret2 h
      exact x_iret X hP hS dX7_then_20
/-- FordQuestions.orNone(I)I -/
def f_X7_orNone (a0 : Int32) (t : Mm) : Option (Int32 × Mm) := if a0 < 101 then (some (a0, t)) else (some ((-4), t))
theorem hd_X7_orNone : x_hd yX7_orNone 1 := by decide +kernel
set_option maxRecDepth 100000 in
set_option maxHeartbeats 4000000 in
theorem c_X7_orNone (l : Launch) (g : Ly) (hG : XG shC g) (a0 : Int32) (t : Mm) {r : Int32} {t' : Mm} (h : f_X7_orNone a0 t = some (r, t')) : MI l yX7_orNone cX7_orNone 1 (some .int) 1 shC g [.int a0] t (XQi shC g r t') := by
  refine x_met hG (by decide +kernel) (Nat.le_of_ble_eq_true rfl) ?_
  intro p e s m below meth c ls X hP hl
  have hS : va_S (XA shC g) s.heap s.heap [] := va_S.rf
  have hl : lv_has ls 1 [(0, .int a0)] := hl
  unfold f_X7_orNone at h
  generalize ([.int a0] : List Value).toArray = args at X ⊢
  refine lv_iload_n X.1.1 X.1.2.1 dX7_orNone_0 rfl (lv_at hl 0 rfl) ?_
  refine lv_bipush (v := 101) X.1.1 X.1.2.1 dX7_orNone_1 (by decide) ?_
  refine lv_icmp_lt (tgt := 11) X.1.1 X.1.2.1 dX7_orNone_3 (by decide) (fun c_1 => ?_) (fun c_1 => ?_)
  · have h := o_pos c_1 h
    refine lv_iload_n X.1.1 X.1.2.1 dX7_orNone_11 rfl (lv_at hl 0 rfl) ?_
    obtain ⟨rfl, rfl⟩ := o_ret2 h
    exact x_iret X hP hS dX7_orNone_12
  · have h := o_neg c_1 h
    refine lv_bipush (v := (-4)) X.1.1 X.1.2.1 dX7_orNone_6 (by decide) ?_
    refine lv_goto (tgt := 12) X.1.1 X.1.2.1 dX7_orNone_8 (by decide) ?_
    obtain ⟨rfl, rfl⟩ := o_ret2 h
    exact x_iret X hP hS dX7_orNone_12
/-- FordQuestions.crosses(I)I -/
def f_X7_crosses (N : Nat) (a0 : Int32) (t : Mm) : Option (Int32 × Mm) := o_bd (f_X0_hasCrosser (9 * 0) a0 t) fun (r_3, t_1) => if r_3 = 0 then (some ((-1), t_1)) else (o_bd (f_X1_startFrom (9 * 0) t_1) fun t_6 => o_bd (f_X1_hoursTillOver N (1 <<< (a0 &&& 31)) t_6) fun (r_10, t_8) => o_bd (f_X7_orNone r_10 t_8) fun (r_14, t_12) => some (r_14, t_12))
theorem hd_X7_crosses : x_hd yX7_crosses 1 := by decide +kernel
set_option maxRecDepth 100000 in
set_option maxHeartbeats 4000000 in
theorem c_X7_crosses (l : Launch) (g : Ly) (N : Nat) (hG : XG shC g) (a0 : Int32) (t : Mm) {r : Int32} {t' : Mm} (h : f_X7_crosses N a0 t = some (r, t')) : MI l yX7_crosses cX7_crosses 2 (some .int) 7 shC g [.ref (g.2.2 (3, 0, 0)), .int a0] t (XQi shC g r t') := by
  refine x_met hG (by decide +kernel) (Nat.le_of_ble_eq_true rfl) ?_
  intro p e s m below meth c ls X hP hl
  have hS : va_S (XA shC g) s.heap s.heap [] := va_S.rf
  have hl : lv_has ls 2 [(0, .ref (g.2.2 (3, 0, 0))), (1, .int a0)] := hl
  unfold f_X7_crosses at h
  generalize ([.ref (g.2.2 (3, 0, 0)), .int a0] : List Value).toArray = args at X ⊢
  refine lv_aload_n X.1.1 X.1.2.1 dX7_crosses_0 rfl (lv_at hl 0 rfl) ?_
  refine gt_X7_0 X hP (kyO (by decide)) wd_287 dX7_crosses_1 ?_
  refine gtN_X4_0 X hP (kyS (by omega) (by decide)) wd_160 dX7_crosses_4 ?_
  refine lv_iload_n X.1.1 X.1.2.1 dX7_crosses_7 rfl (lv_at hl 1 rfl) ?_
  obtain ⟨⟨r_3, t_1⟩, hc_2, h⟩ := o_bd_inv h
  refine x_calli (x_runV (As := [.int a0]) (rest := []) X hP hS (c_X0_hasCrosser l g (9 * 0) X.2.2.2.2.1 (by omega) a0 t hc_2) ⟨wd_357, wd_354, wd_355, wd_356, wd_56⟩ hd_X0_hasCrosser ⟨by omega, by decide⟩ (x_recv X hP (ci := 0) rfl (kyF (by omega) (by decide)) rfl) rfl hl.1 rfl (Nat.le_of_ble_eq_true rfl) dX7_crosses_8) hS (fun H locs hP hS => ?_)
  refine lv_if_ne (tgt := 16) X.1.1 X.1.2.1 dX7_crosses_11 (by decide) (fun c_5 => ?_) (fun c_5 => ?_)
  · have h := o_neg c_5 h
    refine lv_aload_n X.1.1 X.1.2.1 dX7_crosses_16 rfl (lv_at hl 0 rfl) ?_
    refine gt_X7_5 X hP (kyO (by decide)) wd_292 dX7_crosses_17 ?_
    refine lv_aload_n X.1.1 X.1.2.1 dX7_crosses_20 rfl (lv_at hl 0 rfl) ?_
    refine gt_X7_0 X hP (kyO (by decide)) wd_287 dX7_crosses_21 ?_
    refine gtN_X4_0 X hP (kyS (by omega) (by decide)) wd_160 dX7_crosses_24 ?_
    obtain ⟨t_6, hc_7, h⟩ := o_bd_inv h
    refine x_callv (x_runV (As := [.ref (g.2.2 (0, (9 * 0), 0))]) (rest := []) X hP hS (c_X1_startFrom l g (9 * 0) X.2.2.2.2.1 (by omega) t_1 hc_7) ⟨wd_636, wd_643, wd_634, wd_635, wd_59⟩ hd_X1_startFrom ⟨by omega, by decide⟩ (x_recv X hP (ci := 1) rfl (kyO (by decide)) rfl) rfl hl.1 rfl (Nat.le_of_ble_eq_true rfl) dX7_crosses_27) hS (fun H locs hP hS => ?_)
    refine lv_aload_n X.1.1 X.1.2.1 dX7_crosses_30 rfl (lv_at hl 0 rfl) ?_
    refine gt_X7_5 X hP (kyO (by decide)) wd_292 dX7_crosses_31 ?_
    refine lv_iconst (v := 1) X.1.1 X.1.2.1 dX7_crosses_34 (by decide) ?_
    refine lv_iload_n X.1.1 X.1.2.1 dX7_crosses_35 rfl (lv_at hl 1 rfl) ?_
    refine lv_ishl X.1.1 X.1.2.1 dX7_crosses_36 ?_
    obtain ⟨⟨r_10, t_8⟩, hc_9, h⟩ := o_bd_inv h
    refine x_calli (x_runV (As := [.int (1 <<< (a0 &&& 31))]) (rest := []) X hP hS (c_X1_hoursTillOver l g N X.2.2.2.2.1 (1 <<< (a0 &&& 31)) t_6 hc_9) ⟨wd_647, wd_644, wd_645, wd_646, wd_59⟩ hd_X1_hoursTillOver ⟨by omega, by decide⟩ (x_recv X hP (ci := 1) rfl (kyO (by decide)) rfl) rfl hl.1 rfl (Nat.le_of_ble_eq_true rfl) dX7_crosses_37) hS (fun H locs hP hS => ?_)
    obtain ⟨⟨r_14, t_12⟩, hc_13, h⟩ := o_bd_inv h
    refine x_calli (x_runS (As := [.int r_10]) (rest := []) X hP hS (c_X7_orNone l g X.2.2.2.2.1 r_10 t_8 hc_13) ⟨wd_651, wd_649, wd_650, wd_54⟩ hd_X7_orNone ⟨by omega, by decide⟩ rfl hl.1 rfl (Nat.le_of_ble_eq_true rfl) dX7_crosses_40) hS (fun H locs hP hS => ?_)
    obtain ⟨rfl, rfl⟩ := o_ret2 h
    exact x_iret X hP hS dX7_crosses_43
  · have h := o_pos c_5 h
    refine lv_iconst (v := (-1)) X.1.1 X.1.2.1 dX7_crosses_14 (by decide) ?_
    obtain ⟨rfl, rfl⟩ := o_ret2 h
    exact x_iret X hP hS dX7_crosses_15
/-- FordQuestions.last()I -/
def f_X7_last (N : Nat) (t : Mm) : Option (Int32 × Mm) := o_bd (f_X1_startFrom (9 * 0) t) fun t_1 => o_bd (f_X0_everyone (9 * 0) t_1) fun (r_5, t_3) => o_bd (f_X1_hoursTillOver N r_5 t_3) fun (r_9, t_7) => o_bd (f_X7_orNone r_9 t_7) fun (r_13, t_11) => some (r_13, t_11)
theorem hd_X7_last : x_hd yX7_last 0 := by decide +kernel
set_option maxRecDepth 100000 in
set_option maxHeartbeats 4000000 in
theorem c_X7_last (l : Launch) (g : Ly) (N : Nat) (hG : XG shC g) (t : Mm) {r : Int32} {t' : Mm} (h : f_X7_last N t = some (r, t')) : MI l yX7_last cX7_last 1 (some .int) 7 shC g [.ref (g.2.2 (3, 0, 0))] t (XQi shC g r t') := by
  refine x_met hG (by decide +kernel) (Nat.le_of_ble_eq_true rfl) ?_
  intro p e s m below meth c ls X hP hl
  have hS : va_S (XA shC g) s.heap s.heap [] := va_S.rf
  have hl : lv_has ls 1 [(0, .ref (g.2.2 (3, 0, 0)))] := hl
  unfold f_X7_last at h
  generalize ([.ref (g.2.2 (3, 0, 0))] : List Value).toArray = args at X ⊢
  refine lv_aload_n X.1.1 X.1.2.1 dX7_last_0 rfl (lv_at hl 0 rfl) ?_
  refine gt_X7_5 X hP (kyO (by decide)) wd_292 dX7_last_1 ?_
  refine lv_aload_n X.1.1 X.1.2.1 dX7_last_4 rfl (lv_at hl 0 rfl) ?_
  refine gt_X7_0 X hP (kyO (by decide)) wd_287 dX7_last_5 ?_
  refine gtN_X4_0 X hP (kyS (by omega) (by decide)) wd_160 dX7_last_8 ?_
  obtain ⟨t_1, hc_2, h⟩ := o_bd_inv h
  refine x_callv (x_runV (As := [.ref (g.2.2 (0, (9 * 0), 0))]) (rest := []) X hP hS (c_X1_startFrom l g (9 * 0) X.2.2.2.2.1 (by omega) t hc_2) ⟨wd_636, wd_643, wd_634, wd_635, wd_59⟩ hd_X1_startFrom ⟨by omega, by decide⟩ (x_recv X hP (ci := 1) rfl (kyO (by decide)) rfl) rfl hl.1 rfl (Nat.le_of_ble_eq_true rfl) dX7_last_11) hS (fun H locs hP hS => ?_)
  refine lv_aload_n X.1.1 X.1.2.1 dX7_last_14 rfl (lv_at hl 0 rfl) ?_
  refine gt_X7_5 X hP (kyO (by decide)) wd_292 dX7_last_15 ?_
  refine lv_aload_n X.1.1 X.1.2.1 dX7_last_18 rfl (lv_at hl 0 rfl) ?_
  refine gt_X7_0 X hP (kyO (by decide)) wd_287 dX7_last_19 ?_
  refine gtN_X4_0 X hP (kyS (by omega) (by decide)) wd_160 dX7_last_22 ?_
  obtain ⟨⟨r_5, t_3⟩, hc_4, h⟩ := o_bd_inv h
  refine x_calli (x_runV (As := []) (rest := [.ref (g.2.2 (3, 4, 0))]) X hP hS (c_X0_everyone l g (9 * 0) X.2.2.2.2.1 (by omega) t_1 hc_4) ⟨wd_659, wd_656, wd_657, wd_658, wd_56⟩ hd_X0_everyone ⟨by omega, by decide⟩ (x_recv X hP (ci := 0) rfl (kyF (by omega) (by decide)) rfl) rfl hl.1 rfl (Nat.le_of_ble_eq_true rfl) dX7_last_25) hS (fun H locs hP hS => ?_)
  obtain ⟨⟨r_9, t_7⟩, hc_8, h⟩ := o_bd_inv h
  refine x_calli (x_runV (As := [.int r_5]) (rest := []) X hP hS (c_X1_hoursTillOver l g N X.2.2.2.2.1 r_5 t_3 hc_8) ⟨wd_647, wd_644, wd_645, wd_646, wd_59⟩ hd_X1_hoursTillOver ⟨by omega, by decide⟩ (x_recv X hP (ci := 1) rfl (kyO (by decide)) rfl) rfl hl.1 rfl (Nat.le_of_ble_eq_true rfl) dX7_last_28) hS (fun H locs hP hS => ?_)
  obtain ⟨⟨r_13, t_11⟩, hc_12, h⟩ := o_bd_inv h
  refine x_calli (x_runS (As := [.int r_9]) (rest := []) X hP hS (c_X7_orNone l g X.2.2.2.2.1 r_9 t_7 hc_12) ⟨wd_651, wd_649, wd_650, wd_54⟩ hd_X7_orNone ⟨by omega, by decide⟩ rfl hl.1 rfl (Nat.le_of_ble_eq_true rfl) dX7_last_31) hS (fun H locs hP hS => ?_)
  obtain ⟨rfl, rfl⟩ := o_ret2 h
  exact x_iret X hP hS dX7_last_34
/-- FordQuestions.most(I)I -/
def f_X7_most (N : Nat) (a0 : Int32) (t : Mm) : Option (Int32 × Mm) := o_bd (f_X7_isOutside a0 0 1 t) fun (r_3, t_1) => if r_3 = 0 then (o_bd (f_X1_seekMost N (9 * 0) t_1) fun t_6 => if a0 = 0 then (some ((t_6.1 3 4 0 1), t_6)) else (some ((t_6.1 3 4 0 2), t_6))) else (some ((-1), t_1))
theorem hd_X7_most : x_hd yX7_most 1 := by decide +kernel
set_option maxRecDepth 100000 in
set_option maxHeartbeats 4000000 in
theorem c_X7_most (l : Launch) (g : Ly) (N : Nat) (hG : XG shC g) (a0 : Int32) (t : Mm) {r : Int32} {t' : Mm} (h : f_X7_most N a0 t = some (r, t')) : MI l yX7_most cX7_most 2 (some .int) 7 shC g [.ref (g.2.2 (3, 0, 0)), .int a0] t (XQi shC g r t') := by
  refine x_met hG (by decide +kernel) (Nat.le_of_ble_eq_true rfl) ?_
  intro p e s m below meth c ls X hP hl
  have hS : va_S (XA shC g) s.heap s.heap [] := va_S.rf
  have hl : lv_has ls 2 [(0, .ref (g.2.2 (3, 0, 0))), (1, .int a0)] := hl
  unfold f_X7_most at h
  generalize ([.ref (g.2.2 (3, 0, 0)), .int a0] : List Value).toArray = args at X ⊢
  refine lv_iload_n X.1.1 X.1.2.1 dX7_most_0 rfl (lv_at hl 1 rfl) ?_
  refine lv_iconst (v := 0) X.1.1 X.1.2.1 dX7_most_1 (by decide) ?_
  refine lv_iconst (v := 1) X.1.1 X.1.2.1 dX7_most_2 (by decide) ?_
  obtain ⟨⟨r_3, t_1⟩, hc_2, h⟩ := o_bd_inv h
  refine x_calli (x_runS (As := [.int a0, .int 0, .int 1]) (rest := []) X hP hS (c_X7_isOutside l g X.2.2.2.2.1 a0 0 1 t hc_2) ⟨wd_318, wd_316, wd_317, wd_54⟩ hd_X7_isOutside ⟨by omega, by decide⟩ rfl hl.1 rfl (Nat.le_of_ble_eq_true rfl) dX7_most_3) hS (fun H locs hP hS => ?_)
  refine lv_if_eq (tgt := 11) X.1.1 X.1.2.1 dX7_most_6 (by decide) (fun c_5 => ?_) (fun c_5 => ?_)
  · have h := o_pos c_5 h
    refine lv_aload_n X.1.1 X.1.2.1 dX7_most_11 rfl (lv_at hl 0 rfl) ?_
    refine gt_X7_5 X hP (kyO (by decide)) wd_292 dX7_most_12 ?_
    refine lv_aload_n X.1.1 X.1.2.1 dX7_most_15 rfl (lv_at hl 0 rfl) ?_
    refine gt_X7_0 X hP (kyO (by decide)) wd_287 dX7_most_16 ?_
    refine gtN_X4_0 X hP (kyS (by omega) (by decide)) wd_160 dX7_most_19 ?_
    obtain ⟨t_6, hc_7, h⟩ := o_bd_inv h
    refine x_callv (x_runV (As := [.ref (g.2.2 (0, (9 * 0), 0))]) (rest := []) X hP hS (c_X1_seekMost l g N (9 * 0) X.2.2.2.2.1 (by omega) t_1 hc_7) ⟨wd_667, wd_664, wd_665, wd_666, wd_59⟩ hd_X1_seekMost ⟨by omega, by decide⟩ (x_recv X hP (ci := 1) rfl (kyO (by decide)) rfl) rfl hl.1 rfl (Nat.le_of_ble_eq_true rfl) dX7_most_22) hS (fun H locs hP hS => ?_)
    refine lv_iload_n X.1.1 X.1.2.1 dX7_most_25 rfl (lv_at hl 1 rfl) ?_
    refine lv_if_ne (tgt := 39) X.1.1 X.1.2.1 dX7_most_26 (by decide) (fun c_8 => ?_) (fun c_8 => ?_)
    · have h := o_neg c_8 h
      refine lv_aload_n X.1.1 X.1.2.1 dX7_most_39 rfl (lv_at hl 0 rfl) ?_
      refine gt_X7_5 X hP (kyO (by decide)) wd_292 dX7_most_40 ?_
      refine gtN_X1_2 X hP (kyO (by decide)) wd_223 dX7_most_43 ?_
      obtain ⟨rfl, rfl⟩ := o_ret2 h
      exact x_iret X hP hS dX7_most_46
    · have h := o_pos c_8 h
      refine lv_aload_n X.1.1 X.1.2.1 dX7_most_29 rfl (lv_at hl 0 rfl) ?_
      refine gt_X7_5 X hP (kyO (by decide)) wd_292 dX7_most_30 ?_
      refine gtN_X1_1 X hP (kyO (by decide)) wd_221 dX7_most_33 ?_
      refine lv_goto (tgt := 46) X.1.1 X.1.2.1 dX7_most_36 (by decide) ?_
      obtain ⟨rfl, rfl⟩ := o_ret2 h
      exact x_iret X hP hS dX7_most_46
  · have h := o_neg c_5 h
    refine lv_iconst (v := (-1)) X.1.1 X.1.2.1 dX7_most_9 (by decide) ?_
    obtain ⟨rfl, rfl⟩ := o_ret2 h
    exact x_iret X hP hS dX7_most_10
def f_X7_best_21 (N : Nat) (x1 : Int32) (t : Mm) : Option (Int32 × Mm) := o_bd (f_X6_seekBest N (9 * 0) t) fun t_1 => if x1 = (-1) then (o_bd (f_X7_orNone (t_1.1 3 5 0 5) t_1) fun (r_10, t_8) => some (r_10, t_8)) else (o_bd (f_X6_toldTo x1 t_1) fun (r_6, t_4) => some (r_6, t_4))
/-- FordQuestions.best(I)I -/
def f_X7_best (N : Nat) (a0 : Int32) (t : Mm) : Option (Int32 × Mm) := if a0 = (-1) then (f_X7_best_21 N a0 t) else (o_bd (f_X0_hasCrosser (9 * 0) a0 t) fun (r_15, t_13) => if r_15 = 0 then (some ((-1), t_13)) else (f_X7_best_21 N a0 t_13))
theorem hd_X7_best : x_hd yX7_best 1 := by decide +kernel
set_option maxRecDepth 100000 in
set_option maxHeartbeats 4000000 in
theorem w_X7_best_21 {l : Launch} {g : Ly} {p : Program} {e : Env} {s : State} {m : MethodId} {args : Array Value} {below : List Frame} {meth : Method} {c : Code} (N : Nat) (X : XC p m meth c cX7_best 2 s args (.code yX7_best cX7_best 2 (some .int)) RX7 (some .int) shC g) {r : Int32} {t' : Mm} (x1 : Int32) (t : Mm) (H : Heap) (locs : List Loc) (ls : Array Slot) (hP : XP shC g t H) (hS : va_S (XA shC g) s.heap H locs) (hl : lv_has ls 2 [(0, .ref (g.2.2 (3, 0, 0))), (1, .int x1)]) (h : f_X7_best_21 N x1 t = some (r, t')) : W p l e (rmv 13) s m args below meth c H locs 0 0 (MQ below (XQi shC g r t') args s 0 0 (XA shC g)) (F0 m 21 ls []) := by
  unfold f_X7_best_21 at h
  refine lv_aload_n X.1.1 X.1.2.1 dX7_best_21 rfl (lv_at hl 0 rfl) ?_
  refine gt_X7_6 X hP (kyO (by decide)) wd_293 dX7_best_22 ?_
  refine lv_aload_n X.1.1 X.1.2.1 dX7_best_25 rfl (lv_at hl 0 rfl) ?_
  refine gt_X7_0 X hP (kyO (by decide)) wd_287 dX7_best_26 ?_
  refine gtN_X4_0 X hP (kyS (by omega) (by decide)) wd_160 dX7_best_29 ?_
  obtain ⟨t_1, hc_2, h⟩ := o_bd_inv h
  refine x_callv (x_runV (As := [.ref (g.2.2 (0, (9 * 0), 0))]) (rest := []) X hP hS (c_X6_seekBest l g N (9 * 0) X.2.2.2.2.1 (by omega) t hc_2) ⟨wd_680, wd_677, wd_678, wd_679, wd_60⟩ hd_X6_seekBest ⟨by omega, by decide⟩ (x_recv X hP (ci := 6) rfl (kyO (by decide)) rfl) rfl hl.1 rfl (Nat.le_of_ble_eq_true rfl) dX7_best_32) hS (fun H locs hP hS => ?_)
  refine lv_iload_n X.1.1 X.1.2.1 dX7_best_35 rfl (lv_at hl 1 rfl) ?_
  refine lv_iconst (v := (-1)) X.1.1 X.1.2.1 dX7_best_36 (by decide) ?_
  refine lv_icmp_ne (tgt := 53) X.1.1 X.1.2.1 dX7_best_37 (by decide) (fun c_3 => ?_) (fun c_3 => ?_)
  · have h := o_neg c_3 h
    refine lv_aload_n X.1.1 X.1.2.1 dX7_best_53 rfl (lv_at hl 0 rfl) ?_
    refine gt_X7_6 X hP (kyO (by decide)) wd_293 dX7_best_54 ?_
    refine lv_iload_n X.1.1 X.1.2.1 dX7_best_57 rfl (lv_at hl 1 rfl) ?_
    obtain ⟨⟨r_6, t_4⟩, hc_5, h⟩ := o_bd_inv h
    refine x_calli (x_runV (As := [.int x1]) (rest := []) X hP hS (c_X6_toldTo l g X.2.2.2.2.1 x1 t_1 hc_5) ⟨wd_726, wd_723, wd_724, wd_725, wd_60⟩ hd_X6_toldTo ⟨by omega, by decide⟩ (x_recv X hP (ci := 6) rfl (kyO (by decide)) rfl) rfl hl.1 rfl (Nat.le_of_ble_eq_true rfl) dX7_best_58) hS (fun H locs hP hS => ?_)
    obtain ⟨rfl, rfl⟩ := o_ret2 h
    exact x_iret X hP hS dX7_best_61
  · have h := o_pos c_3 h
    refine lv_aload_n X.1.1 X.1.2.1 dX7_best_40 rfl (lv_at hl 0 rfl) ?_
    refine gt_X7_6 X hP (kyO (by decide)) wd_293 dX7_best_41 ?_
    refine gtN_X6_5 X hP (kyO (by decide)) wd_249 dX7_best_44 ?_
    obtain ⟨⟨r_10, t_8⟩, hc_9, h⟩ := o_bd_inv h
    refine x_calli (x_runS (As := [.int (t_1.1 3 5 0 5)]) (rest := []) X hP hS (c_X7_orNone l g X.2.2.2.2.1 (t_1.1 3 5 0 5) t_1 hc_9) ⟨wd_651, wd_649, wd_650, wd_54⟩ hd_X7_orNone ⟨by omega, by decide⟩ rfl hl.1 rfl (Nat.le_of_ble_eq_true rfl) dX7_best_47) hS (fun H locs hP hS => ?_)
    refine lv_goto (tgt := 61) X.1.1 X.1.2.1 dX7_best_50 (by decide) ?_
    obtain ⟨rfl, rfl⟩ := o_ret2 h
    exact x_iret X hP hS dX7_best_61
set_option maxRecDepth 100000 in
set_option maxHeartbeats 4000000 in
theorem c_X7_best (l : Launch) (g : Ly) (N : Nat) (hG : XG shC g) (a0 : Int32) (t : Mm) {r : Int32} {t' : Mm} (h : f_X7_best N a0 t = some (r, t')) : MI l yX7_best cX7_best 2 (some .int) 13 shC g [.ref (g.2.2 (3, 0, 0)), .int a0] t (XQi shC g r t') := by
  refine x_met hG (by decide +kernel) (Nat.le_of_ble_eq_true rfl) ?_
  intro p e s m below meth c ls X hP hl
  have hS : va_S (XA shC g) s.heap s.heap [] := va_S.rf
  have hl : lv_has ls 2 [(0, .ref (g.2.2 (3, 0, 0))), (1, .int a0)] := hl
  unfold f_X7_best at h
  generalize ([.ref (g.2.2 (3, 0, 0)), .int a0] : List Value).toArray = args at X ⊢
  refine lv_iload_n X.1.1 X.1.2.1 dX7_best_0 rfl (lv_at hl 1 rfl) ?_
  refine lv_iconst (v := (-1)) X.1.1 X.1.2.1 dX7_best_1 (by decide) ?_
  refine lv_icmp_eq (tgt := 21) X.1.1 X.1.2.1 dX7_best_2 (by decide) (fun c_12 => ?_) (fun c_12 => ?_)
  · have h := o_pos c_12 h
    exact w_X7_best_21 N X a0 t _ _ _ hP hS (lv_sub hl [0, 1] rfl) h
  · have h := o_neg c_12 h
    refine lv_aload_n X.1.1 X.1.2.1 dX7_best_5 rfl (lv_at hl 0 rfl) ?_
    refine gt_X7_0 X hP (kyO (by decide)) wd_287 dX7_best_6 ?_
    refine gtN_X4_0 X hP (kyS (by omega) (by decide)) wd_160 dX7_best_9 ?_
    refine lv_iload_n X.1.1 X.1.2.1 dX7_best_12 rfl (lv_at hl 1 rfl) ?_
    obtain ⟨⟨r_15, t_13⟩, hc_14, h⟩ := o_bd_inv h
    refine x_calli (x_runV (As := [.int a0]) (rest := []) X hP hS (c_X0_hasCrosser l g (9 * 0) X.2.2.2.2.1 (by omega) a0 t hc_14) ⟨wd_357, wd_354, wd_355, wd_356, wd_56⟩ hd_X0_hasCrosser ⟨by omega, by decide⟩ (x_recv X hP (ci := 0) rfl (kyF (by omega) (by decide)) rfl) rfl hl.1 rfl (Nat.le_of_ble_eq_true rfl) dX7_best_13) hS (fun H locs hP hS => ?_)
    refine lv_if_ne (tgt := 21) X.1.1 X.1.2.1 dX7_best_16 (by decide) (fun c_17 => ?_) (fun c_17 => ?_)
    · have h := o_neg c_17 h
      exact w_X7_best_21 N X a0 t_13 _ _ _ hP hS (lv_sub hl [0, 1] rfl) h
    · have h := o_pos c_17 h
      refine lv_iconst (v := (-1)) X.1.1 X.1.2.1 dX7_best_19 (by decide) ?_
      obtain ⟨rfl, rfl⟩ := o_ret2 h
      exact x_iret X hP hS dX7_best_20
/-- FordQuestions.foundOr(I)I -/
def f_X7_foundOr (a0 : Int32) (t : Mm) : Option (Int32 × Mm) := if (t.1 3 4 0 1) = (-4) then (some ((-4), t)) else (if a0 = 0 then (some ((t.1 3 4 0 1), t)) else (o_bd (f_X7_orNone (t.1 3 4 0 2) t) fun (r_5, t_3) => some (r_5, t_3)))
theorem hd_X7_foundOr : x_hd yX7_foundOr 1 := by decide +kernel
set_option maxRecDepth 100000 in
set_option maxHeartbeats 4000000 in
theorem c_X7_foundOr (l : Launch) (g : Ly) (hG : XG shC g) (a0 : Int32) (t : Mm) {r : Int32} {t' : Mm} (h : f_X7_foundOr a0 t = some (r, t')) : MI l yX7_foundOr cX7_foundOr 2 (some .int) 2 shC g [.ref (g.2.2 (3, 0, 0)), .int a0] t (XQi shC g r t') := by
  refine x_met hG (by decide +kernel) (Nat.le_of_ble_eq_true rfl) ?_
  intro p e s m below meth c ls X hP hl
  have hS : va_S (XA shC g) s.heap s.heap [] := va_S.rf
  have hl : lv_has ls 2 [(0, .ref (g.2.2 (3, 0, 0))), (1, .int a0)] := hl
  unfold f_X7_foundOr at h
  generalize ([.ref (g.2.2 (3, 0, 0)), .int a0] : List Value).toArray = args at X ⊢
  refine lv_aload_n X.1.1 X.1.2.1 dX7_foundOr_0 rfl (lv_at hl 0 rfl) ?_
  refine gt_X7_5 X hP (kyO (by decide)) wd_292 dX7_foundOr_1 ?_
  refine gtN_X1_1 X hP (kyO (by decide)) wd_221 dX7_foundOr_4 ?_
  refine lv_bipush (v := (-4)) X.1.1 X.1.2.1 dX7_foundOr_7 (by decide) ?_
  refine lv_icmp_ne (tgt := 15) X.1.1 X.1.2.1 dX7_foundOr_9 (by decide) (fun c_1 => ?_) (fun c_1 => ?_)
  · have h := o_neg c_1 h
    refine lv_iload_n X.1.1 X.1.2.1 dX7_foundOr_15 rfl (lv_at hl 1 rfl) ?_
    refine lv_if_ne (tgt := 29) X.1.1 X.1.2.1 dX7_foundOr_16 (by decide) (fun c_2 => ?_) (fun c_2 => ?_)
    · have h := o_neg c_2 h
      refine lv_aload_n X.1.1 X.1.2.1 dX7_foundOr_29 rfl (lv_at hl 0 rfl) ?_
      refine gt_X7_5 X hP (kyO (by decide)) wd_292 dX7_foundOr_30 ?_
      refine gtN_X1_2 X hP (kyO (by decide)) wd_223 dX7_foundOr_33 ?_
      obtain ⟨⟨r_5, t_3⟩, hc_4, h⟩ := o_bd_inv h
      refine x_calli (x_runS (As := [.int (t.1 3 4 0 2)]) (rest := []) X hP hS (c_X7_orNone l g X.2.2.2.2.1 (t.1 3 4 0 2) t hc_4) ⟨wd_651, wd_649, wd_650, wd_54⟩ hd_X7_orNone ⟨by omega, by decide⟩ rfl hl.1 rfl (Nat.le_of_ble_eq_true rfl) dX7_foundOr_36) hS (fun H locs hP hS => ?_)
      obtain ⟨rfl, rfl⟩ := o_ret2 h
      exact x_iret X hP hS dX7_foundOr_39
    · have h := o_pos c_2 h
      refine lv_aload_n X.1.1 X.1.2.1 dX7_foundOr_19 rfl (lv_at hl 0 rfl) ?_
      refine gt_X7_5 X hP (kyO (by decide)) wd_292 dX7_foundOr_20 ?_
      refine gtN_X1_1 X hP (kyO (by decide)) wd_221 dX7_foundOr_23 ?_
      refine lv_goto (tgt := 39) X.1.1 X.1.2.1 dX7_foundOr_26 (by decide) ?_
      obtain ⟨rfl, rfl⟩ := o_ret2 h
      exact x_iret X hP hS dX7_foundOr_39
  · have h := o_pos c_1 h
    refine lv_bipush (v := (-4)) X.1.1 X.1.2.1 dX7_foundOr_12 (by decide) ?_
    obtain ⟨rfl, rfl⟩ := o_ret2 h
    exact x_iret X hP hS dX7_foundOr_14
/-- FordQuestions.teaches(I)I -/
def f_X7_teaches (N : Nat) (a0 : Int32) (t : Mm) : Option (Int32 × Mm) := o_bd (f_X7_isOutside a0 0 1 t) fun (r_3, t_1) => if r_3 = 0 then (o_bd (f_X1_seekTeaching N (9 * 0) t_1) fun t_6 => o_bd (f_X7_foundOr a0 t_6) fun (r_10, t_8) => some (r_10, t_8)) else (some ((-1), t_1))
theorem hd_X7_teaches : x_hd yX7_teaches 1 := by decide +kernel
set_option maxRecDepth 100000 in
set_option maxHeartbeats 4000000 in
theorem c_X7_teaches (l : Launch) (g : Ly) (N : Nat) (hG : XG shC g) (a0 : Int32) (t : Mm) {r : Int32} {t' : Mm} (h : f_X7_teaches N a0 t = some (r, t')) : MI l yX7_teaches cX7_teaches 2 (some .int) 8 shC g [.ref (g.2.2 (3, 0, 0)), .int a0] t (XQi shC g r t') := by
  refine x_met hG (by decide +kernel) (Nat.le_of_ble_eq_true rfl) ?_
  intro p e s m below meth c ls X hP hl
  have hS : va_S (XA shC g) s.heap s.heap [] := va_S.rf
  have hl : lv_has ls 2 [(0, .ref (g.2.2 (3, 0, 0))), (1, .int a0)] := hl
  unfold f_X7_teaches at h
  generalize ([.ref (g.2.2 (3, 0, 0)), .int a0] : List Value).toArray = args at X ⊢
  refine lv_iload_n X.1.1 X.1.2.1 dX7_teaches_0 rfl (lv_at hl 1 rfl) ?_
  refine lv_iconst (v := 0) X.1.1 X.1.2.1 dX7_teaches_1 (by decide) ?_
  refine lv_iconst (v := 1) X.1.1 X.1.2.1 dX7_teaches_2 (by decide) ?_
  obtain ⟨⟨r_3, t_1⟩, hc_2, h⟩ := o_bd_inv h
  refine x_calli (x_runS (As := [.int a0, .int 0, .int 1]) (rest := []) X hP hS (c_X7_isOutside l g X.2.2.2.2.1 a0 0 1 t hc_2) ⟨wd_318, wd_316, wd_317, wd_54⟩ hd_X7_isOutside ⟨by omega, by decide⟩ rfl hl.1 rfl (Nat.le_of_ble_eq_true rfl) dX7_teaches_3) hS (fun H locs hP hS => ?_)
  refine lv_if_eq (tgt := 11) X.1.1 X.1.2.1 dX7_teaches_6 (by decide) (fun c_5 => ?_) (fun c_5 => ?_)
  · have h := o_pos c_5 h
    refine lv_aload_n X.1.1 X.1.2.1 dX7_teaches_11 rfl (lv_at hl 0 rfl) ?_
    refine gt_X7_5 X hP (kyO (by decide)) wd_292 dX7_teaches_12 ?_
    refine lv_aload_n X.1.1 X.1.2.1 dX7_teaches_15 rfl (lv_at hl 0 rfl) ?_
    refine gt_X7_0 X hP (kyO (by decide)) wd_287 dX7_teaches_16 ?_
    refine gtN_X4_0 X hP (kyS (by omega) (by decide)) wd_160 dX7_teaches_19 ?_
    obtain ⟨t_6, hc_7, h⟩ := o_bd_inv h
    refine x_callv (x_runV (As := [.ref (g.2.2 (0, (9 * 0), 0))]) (rest := []) X hP hS (c_X1_seekTeaching l g N (9 * 0) X.2.2.2.2.1 (by omega) t_1 hc_7) ⟨wd_734, wd_731, wd_732, wd_733, wd_59⟩ hd_X1_seekTeaching ⟨by omega, by decide⟩ (x_recv X hP (ci := 1) rfl (kyO (by decide)) rfl) rfl hl.1 rfl (Nat.le_of_ble_eq_true rfl) dX7_teaches_22) hS (fun H locs hP hS => ?_)
    refine lv_aload_n X.1.1 X.1.2.1 dX7_teaches_25 rfl (lv_at hl 0 rfl) ?_
    refine lv_iload_n X.1.1 X.1.2.1 dX7_teaches_26 rfl (lv_at hl 1 rfl) ?_
    obtain ⟨⟨r_10, t_8⟩, hc_9, h⟩ := o_bd_inv h
    refine x_calli (x_runV (As := [.int a0]) (rest := []) X hP hS (c_X7_foundOr l g X.2.2.2.2.1 a0 t_6 hc_9) ⟨wd_745, wd_742, wd_744, wd_22, wd_54⟩ hd_X7_foundOr ⟨by omega, by decide⟩ (x_recv X hP (ci := 7) rfl (kyO (by decide)) rfl) rfl hl.1 rfl (Nat.le_of_ble_eq_true rfl) dX7_teaches_27) hS (fun H locs hP hS => ?_)
    obtain ⟨rfl, rfl⟩ := o_ret2 h
    exact x_iret X hP hS dX7_teaches_30
  · have h := o_neg c_5 h
    refine lv_iconst (v := (-1)) X.1.1 X.1.2.1 dX7_teaches_9 (by decide) ?_
    obtain ⟨rfl, rfl⟩ := o_ret2 h
    exact x_iret X hP hS dX7_teaches_10
/-- FordQuestions.spare(I)I -/
def f_X7_spare (N : Nat) (a0 : Int32) (t : Mm) : Option (Int32 × Mm) := o_bd (f_X7_isOutside a0 0 1 t) fun (r_3, t_1) => if r_3 = 0 then (o_bd (f_X1_seekSpare N (9 * 0) t_1) fun t_6 => o_bd (f_X7_foundOr a0 t_6) fun (r_10, t_8) => some (r_10, t_8)) else (some ((-1), t_1))
theorem hd_X7_spare : x_hd yX7_spare 1 := by decide +kernel
set_option maxRecDepth 100000 in
set_option maxHeartbeats 4000000 in
theorem c_X7_spare (l : Launch) (g : Ly) (N : Nat) (hG : XG shC g) (a0 : Int32) (t : Mm) {r : Int32} {t' : Mm} (h : f_X7_spare N a0 t = some (r, t')) : MI l yX7_spare cX7_spare 2 (some .int) 8 shC g [.ref (g.2.2 (3, 0, 0)), .int a0] t (XQi shC g r t') := by
  refine x_met hG (by decide +kernel) (Nat.le_of_ble_eq_true rfl) ?_
  intro p e s m below meth c ls X hP hl
  have hS : va_S (XA shC g) s.heap s.heap [] := va_S.rf
  have hl : lv_has ls 2 [(0, .ref (g.2.2 (3, 0, 0))), (1, .int a0)] := hl
  unfold f_X7_spare at h
  generalize ([.ref (g.2.2 (3, 0, 0)), .int a0] : List Value).toArray = args at X ⊢
  refine lv_iload_n X.1.1 X.1.2.1 dX7_spare_0 rfl (lv_at hl 1 rfl) ?_
  refine lv_iconst (v := 0) X.1.1 X.1.2.1 dX7_spare_1 (by decide) ?_
  refine lv_iconst (v := 1) X.1.1 X.1.2.1 dX7_spare_2 (by decide) ?_
  obtain ⟨⟨r_3, t_1⟩, hc_2, h⟩ := o_bd_inv h
  refine x_calli (x_runS (As := [.int a0, .int 0, .int 1]) (rest := []) X hP hS (c_X7_isOutside l g X.2.2.2.2.1 a0 0 1 t hc_2) ⟨wd_318, wd_316, wd_317, wd_54⟩ hd_X7_isOutside ⟨by omega, by decide⟩ rfl hl.1 rfl (Nat.le_of_ble_eq_true rfl) dX7_spare_3) hS (fun H locs hP hS => ?_)
  refine lv_if_eq (tgt := 11) X.1.1 X.1.2.1 dX7_spare_6 (by decide) (fun c_5 => ?_) (fun c_5 => ?_)
  · have h := o_pos c_5 h
    refine lv_aload_n X.1.1 X.1.2.1 dX7_spare_11 rfl (lv_at hl 0 rfl) ?_
    refine gt_X7_5 X hP (kyO (by decide)) wd_292 dX7_spare_12 ?_
    refine lv_aload_n X.1.1 X.1.2.1 dX7_spare_15 rfl (lv_at hl 0 rfl) ?_
    refine gt_X7_0 X hP (kyO (by decide)) wd_287 dX7_spare_16 ?_
    refine gtN_X4_0 X hP (kyS (by omega) (by decide)) wd_160 dX7_spare_19 ?_
    obtain ⟨t_6, hc_7, h⟩ := o_bd_inv h
    refine x_callv (x_runV (As := [.ref (g.2.2 (0, (9 * 0), 0))]) (rest := []) X hP hS (c_X1_seekSpare l g N (9 * 0) X.2.2.2.2.1 (by omega) t_1 hc_7) ⟨wd_753, wd_750, wd_751, wd_752, wd_59⟩ hd_X1_seekSpare ⟨by omega, by decide⟩ (x_recv X hP (ci := 1) rfl (kyO (by decide)) rfl) rfl hl.1 rfl (Nat.le_of_ble_eq_true rfl) dX7_spare_22) hS (fun H locs hP hS => ?_)
    refine lv_aload_n X.1.1 X.1.2.1 dX7_spare_25 rfl (lv_at hl 0 rfl) ?_
    refine lv_iload_n X.1.1 X.1.2.1 dX7_spare_26 rfl (lv_at hl 1 rfl) ?_
    obtain ⟨⟨r_10, t_8⟩, hc_9, h⟩ := o_bd_inv h
    refine x_calli (x_runV (As := [.int a0]) (rest := []) X hP hS (c_X7_foundOr l g X.2.2.2.2.1 a0 t_6 hc_9) ⟨wd_745, wd_742, wd_744, wd_22, wd_54⟩ hd_X7_foundOr ⟨by omega, by decide⟩ (x_recv X hP (ci := 7) rfl (kyO (by decide)) rfl) rfl hl.1 rfl (Nat.le_of_ble_eq_true rfl) dX7_spare_27) hS (fun H locs hP hS => ?_)
    obtain ⟨rfl, rfl⟩ := o_ret2 h
    exact x_iret X hP hS dX7_spare_30
  · have h := o_neg c_5 h
    refine lv_iconst (v := (-1)) X.1.1 X.1.2.1 dX7_spare_9 (by decide) ?_
    obtain ⟨rfl, rfl⟩ := o_ret2 h
    exact x_iret X hP hS dX7_spare_10
/-- FordQuestions.before(I)I -/
def f_X7_before (N : Nat) (a0 : Int32) (t : Mm) : Option (Int32 × Mm) := o_bd (f_X0_hasCrosser (9 * 0) a0 t) fun (r_3, t_1) => if r_3 = 0 then (some ((-1), t_1)) else (o_bd (f_X1_seekComing N (9 * 0) a0 t_1) fun t_6 => some ((t_6.1 3 4 0 1), t_6))
theorem hd_X7_before : x_hd yX7_before 1 := by decide +kernel
set_option maxRecDepth 100000 in
set_option maxHeartbeats 4000000 in
theorem c_X7_before (l : Launch) (g : Ly) (N : Nat) (hG : XG shC g) (a0 : Int32) (t : Mm) {r : Int32} {t' : Mm} (h : f_X7_before N a0 t = some (r, t')) : MI l yX7_before cX7_before 2 (some .int) 8 shC g [.ref (g.2.2 (3, 0, 0)), .int a0] t (XQi shC g r t') := by
  refine x_met hG (by decide +kernel) (Nat.le_of_ble_eq_true rfl) ?_
  intro p e s m below meth c ls X hP hl
  have hS : va_S (XA shC g) s.heap s.heap [] := va_S.rf
  have hl : lv_has ls 2 [(0, .ref (g.2.2 (3, 0, 0))), (1, .int a0)] := hl
  unfold f_X7_before at h
  generalize ([.ref (g.2.2 (3, 0, 0)), .int a0] : List Value).toArray = args at X ⊢
  refine lv_aload_n X.1.1 X.1.2.1 dX7_before_0 rfl (lv_at hl 0 rfl) ?_
  refine gt_X7_0 X hP (kyO (by decide)) wd_287 dX7_before_1 ?_
  refine gtN_X4_0 X hP (kyS (by omega) (by decide)) wd_160 dX7_before_4 ?_
  refine lv_iload_n X.1.1 X.1.2.1 dX7_before_7 rfl (lv_at hl 1 rfl) ?_
  obtain ⟨⟨r_3, t_1⟩, hc_2, h⟩ := o_bd_inv h
  refine x_calli (x_runV (As := [.int a0]) (rest := []) X hP hS (c_X0_hasCrosser l g (9 * 0) X.2.2.2.2.1 (by omega) a0 t hc_2) ⟨wd_357, wd_354, wd_355, wd_356, wd_56⟩ hd_X0_hasCrosser ⟨by omega, by decide⟩ (x_recv X hP (ci := 0) rfl (kyF (by omega) (by decide)) rfl) rfl hl.1 rfl (Nat.le_of_ble_eq_true rfl) dX7_before_8) hS (fun H locs hP hS => ?_)
  refine lv_if_ne (tgt := 16) X.1.1 X.1.2.1 dX7_before_11 (by decide) (fun c_5 => ?_) (fun c_5 => ?_)
  · have h := o_neg c_5 h
    refine lv_aload_n X.1.1 X.1.2.1 dX7_before_16 rfl (lv_at hl 0 rfl) ?_
    refine gt_X7_5 X hP (kyO (by decide)) wd_292 dX7_before_17 ?_
    refine lv_aload_n X.1.1 X.1.2.1 dX7_before_20 rfl (lv_at hl 0 rfl) ?_
    refine gt_X7_0 X hP (kyO (by decide)) wd_287 dX7_before_21 ?_
    refine gtN_X4_0 X hP (kyS (by omega) (by decide)) wd_160 dX7_before_24 ?_
    refine lv_iload_n X.1.1 X.1.2.1 dX7_before_27 rfl (lv_at hl 1 rfl) ?_
    obtain ⟨t_6, hc_7, h⟩ := o_bd_inv h
    refine x_callv (x_runV (As := [.ref (g.2.2 (0, (9 * 0), 0)), .int a0]) (rest := []) X hP hS (c_X1_seekComing l g N (9 * 0) X.2.2.2.2.1 (by omega) a0 t_1 hc_7) ⟨wd_762, wd_759, wd_760, wd_761, wd_59⟩ hd_X1_seekComing ⟨by omega, by decide⟩ (x_recv X hP (ci := 1) rfl (kyO (by decide)) rfl) rfl hl.1 rfl (Nat.le_of_ble_eq_true rfl) dX7_before_28) hS (fun H locs hP hS => ?_)
    refine lv_aload_n X.1.1 X.1.2.1 dX7_before_31 rfl (lv_at hl 0 rfl) ?_
    refine gt_X7_5 X hP (kyO (by decide)) wd_292 dX7_before_32 ?_
    refine gtN_X1_1 X hP (kyO (by decide)) wd_221 dX7_before_35 ?_
    obtain ⟨rfl, rfl⟩ := o_ret2 h
    exact x_iret X hP hS dX7_before_38
  · have h := o_pos c_5 h
    refine lv_iconst (v := (-1)) X.1.1 X.1.2.1 dX7_before_14 (by decide) ?_
    obtain ⟨rfl, rfl⟩ := o_ret2 h
    exact x_iret X hP hS dX7_before_15
def f_X7_greatestDivisor_27 (N : Nat) (x0 : Int32) (t : Mm) : Option (Int32 × Mm) := if 1 ≤ x0 then (some (x0, t)) else (some (1, t))
def b_X7_greatestDivisor_2 (N : Nat) (k2 : Int32 × Int32 × Int32 × Mm → Option (Int32 × Mm)) (x0 : Int32) (x1 : Int32) (x2 : Int32) (t : Mm) : Option (Int32 × Mm) := if 1000 ≤ x2 then (f_X7_greatestDivisor_27 N x0 t) else (if x1 = 0 then (f_X7_greatestDivisor_27 N x0 t) else (if ¬ (x1 = 0) then (k2 (x1, (x0 - x0 / x1 * x1), (x2 + 1), t)) else none))
def f_X7_greatestDivisor_2 (N : Nat) (x0 : Int32) (x1 : Int32) (x2 : Int32) (t : Mm) : Option (Int32 × Mm) := o_lp (fun k x => b_X7_greatestDivisor_2 N k x.1 x.2.1 x.2.2.1 x.2.2.2) N (x0, x1, x2, t)
/-- FordQuestions.greatestDivisor(II)I -/
def f_X7_greatestDivisor (N : Nat) (a0 : Int32) (a1 : Int32) (t : Mm) : Option (Int32 × Mm) := f_X7_greatestDivisor_2 N a0 a1 0 t
theorem hd_X7_greatestDivisor : x_hd yX7_greatestDivisor 2 := by decide +kernel
set_option maxRecDepth 100000 in
set_option maxHeartbeats 4000000 in
theorem w_X7_greatestDivisor_27 {l : Launch} {g : Ly} {p : Program} {e : Env} {s : State} {m : MethodId} {args : Array Value} {below : List Frame} {meth : Method} {c : Code} (N : Nat) (X : XC p m meth c cX7_greatestDivisor 4 s args (.code yX7_greatestDivisor cX7_greatestDivisor 4 (some .int)) RX7 (some .int) shC g) {r : Int32} {t' : Mm} (x0 : Int32) (t : Mm) (H : Heap) (locs : List Loc) (ls : Array Slot) (hP : XP shC g t H) (hS : va_S (XA shC g) s.heap H locs) (hl : lv_has ls 4 [(0, .int x0)]) (h : f_X7_greatestDivisor_27 N x0 t = some (r, t')) : W p l e (rmv 1) s m args below meth c H locs 0 0 (MQ below (XQi shC g r t') args s 0 0 (XA shC g)) (F0 m 27 ls []) := by
  unfold f_X7_greatestDivisor_27 at h
  refine lv_iload_n X.1.1 X.1.2.1 dX7_greatestDivisor_27 rfl (lv_at hl 0 rfl) ?_
  refine lv_iconst (v := 1) X.1.1 X.1.2.1 dX7_greatestDivisor_28 (by decide) ?_
  refine lv_icmp_ge (tgt := 36) X.1.1 X.1.2.1 dX7_greatestDivisor_29 (by decide) (fun c_1 => ?_) (fun c_1 => ?_)
  · have h := o_pos c_1 h
    refine lv_iload_n X.1.1 X.1.2.1 dX7_greatestDivisor_36 rfl (lv_at hl 0 rfl) ?_
    obtain ⟨rfl, rfl⟩ := o_ret2 h
    exact x_iret X hP hS dX7_greatestDivisor_37
  · have h := o_neg c_1 h
    refine lv_iconst (v := 1) X.1.1 X.1.2.1 dX7_greatestDivisor_32 (by decide) ?_
    refine lv_goto (tgt := 37) X.1.1 X.1.2.1 dX7_greatestDivisor_33 (by decide) ?_
    obtain ⟨rfl, rfl⟩ := o_ret2 h
    exact x_iret X hP hS dX7_greatestDivisor_37
set_option maxRecDepth 100000 in
set_option maxHeartbeats 4000000 in
theorem wb_X7_greatestDivisor_2 {l : Launch} {g : Ly} {p : Program} {e : Env} {s : State} {m : MethodId} {args : Array Value} {below : List Frame} {meth : Method} {c : Code} (N : Nat) (X : XC p m meth c cX7_greatestDivisor 4 s args (.code yX7_greatestDivisor cX7_greatestDivisor 4 (some .int)) RX7 (some .int) shC g) {r : Int32} {t' : Mm} {k2 : Int32 × Int32 × Int32 × Mm → Option (Int32 × Mm)} (hk2 : ∀ x : Int32 × Int32 × Int32 × Mm, k2 x = some (r, t') → ∀ (H : Heap) (locs : List Loc) (ls : Array Slot), XP shC g x.2.2.2 H → va_S (XA shC g) s.heap H locs → lv_has ls 4 [(0, .int x.1), (1, .int x.2.1), (2, .int x.2.2.1)] → W p l e (rmv 1) s m args below meth c H locs 0 0 (MQ below (XQi shC g r t') args s 0 0 (XA shC g)) (F0 m 2 ls [])) (x0 : Int32) (x1 : Int32) (x2 : Int32) (t : Mm) (H : Heap) (locs : List Loc) (ls : Array Slot) (hP : XP shC g t H) (hS : va_S (XA shC g) s.heap H locs) (hl : lv_has ls 4 [(0, .int x0), (1, .int x1), (2, .int x2)]) (h : b_X7_greatestDivisor_2 N k2 x0 x1 x2 t = some (r, t')) : W p l e (rmv 1) s m args below meth c H locs 0 0 (MQ below (XQi shC g r t') args s 0 0 (XA shC g)) (F0 m 2 ls []) := by
  unfold b_X7_greatestDivisor_2 at h
  refine lv_iload_n X.1.1 X.1.2.1 dX7_greatestDivisor_2 rfl (lv_at hl 2 rfl) ?_
  refine lv_sipush (v := 1000) X.1.1 X.1.2.1 dX7_greatestDivisor_3 (by decide) ?_
  refine lv_icmp_ge (tgt := 27) X.1.1 X.1.2.1 dX7_greatestDivisor_6 (by decide) (fun c_2 => ?_) (fun c_2 => ?_)
  · have h := o_pos c_2 h
    exact w_X7_greatestDivisor_27 N X x0 t _ _ _ hP hS (lv_sub hl [0] rfl) h
  · have h := o_neg c_2 h
    refine lv_iload_n X.1.1 X.1.2.1 dX7_greatestDivisor_9 rfl (lv_at hl 1 rfl) ?_
    refine lv_if_eq (tgt := 27) X.1.1 X.1.2.1 dX7_greatestDivisor_10 (by decide) (fun c_3 => ?_) (fun c_3 => ?_)
    · have h := o_pos c_3 h
      exact w_X7_greatestDivisor_27 N X x0 t _ _ _ hP hS (lv_sub hl [0] rfl) h
    · have h := o_neg c_3 h
      refine lv_iload_n X.1.1 X.1.2.1 dX7_greatestDivisor_13 rfl (lv_at hl 0 rfl) ?_
      refine lv_iload_n X.1.1 X.1.2.1 dX7_greatestDivisor_14 rfl (lv_at hl 1 rfl) ?_
      obtain ⟨g_4, h⟩ := o_gd_inv h
      refine lv_irem X.1.1 X.1.2.1 dX7_greatestDivisor_15 g_4 ?_
      refine lv_istore_n (lv' := [(3, .int (x0 - x0 / x1 * x1)), (0, .int x0), (1, .int x1), (2, .int x2)]) X.1.1 X.1.2.1 dX7_greatestDivisor_16 rfl hl (by decide) rfl (fun ls hl => ?_)
      refine lv_iload_n X.1.1 X.1.2.1 dX7_greatestDivisor_17 rfl (lv_at hl 2 rfl) ?_
      refine lv_istore_n (lv' := [(0, .int x1), (3, .int (x0 - x0 / x1 * x1)), (1, .int x1), (2, .int x2)]) X.1.1 X.1.2.1 dX7_greatestDivisor_18 rfl hl (by decide) rfl (fun ls hl => ?_)
      refine lv_iload_n X.1.1 X.1.2.1 dX7_greatestDivisor_19 rfl (lv_at hl 1 rfl) ?_
      refine lv_istore_n (lv' := [(1, .int (x0 - x0 / x1 * x1)), (0, .int x1), (3, .int (x0 - x0 / x1 * x1)), (2, .int x2)]) X.1.1 X.1.2.1 dX7_greatestDivisor_20 rfl hl (by decide) rfl (fun ls hl => ?_)
      refine lv_iinc (v := (x2 + 1)) (lv' := [(2, .int (x2 + 1)), (1, .int (x0 - x0 / x1 * x1)), (0, .int x1), (3, .int (x0 - x0 / x1 * x1))]) X.1.1 X.1.2.1 dX7_greatestDivisor_21 hl (k := 3) rfl rfl (by decide) rfl (fun ls hl => ?_)
      refine lv_goto (tgt := 2) X.1.1 X.1.2.1 dX7_greatestDivisor_24 (by decide) ?_
      exact hk2 (x1, (x0 - x0 / x1 * x1), (x2 + 1), t) h _ _ _ hP hS (lv_sub hl [2, 1, 0] rfl)
set_option maxRecDepth 100000 in
set_option maxHeartbeats 4000000 in
theorem w_X7_greatestDivisor_2 {l : Launch} {g : Ly} {p : Program} {e : Env} {s : State} {m : MethodId} {args : Array Value} {below : List Frame} {meth : Method} {c : Code} (N : Nat) (X : XC p m meth c cX7_greatestDivisor 4 s args (.code yX7_greatestDivisor cX7_greatestDivisor 4 (some .int)) RX7 (some .int) shC g) {r : Int32} {t' : Mm} (x0 : Int32) (x1 : Int32) (x2 : Int32) (t : Mm) (H : Heap) (locs : List Loc) (ls : Array Slot) (hP : XP shC g t H) (hS : va_S (XA shC g) s.heap H locs) (hl : lv_has ls 4 [(0, .int x0), (1, .int x1), (2, .int x2)]) (h : f_X7_greatestDivisor_2 N x0 x1 x2 t = some (r, t')) : W p l e (rmv 1) s m args below meth c H locs 0 0 (MQ below (XQi shC g r t') args s 0 0 (XA shC g)) (F0 m 2 ls []) :=
  o_lp_ind (P := fun x : Int32 × Int32 × Int32 × Mm => ∀ (H : Heap) (locs : List Loc) (ls : Array Slot), XP shC g x.2.2.2 H → va_S (XA shC g) s.heap H locs → lv_has ls 4 [(0, .int x.1), (1, .int x.2.1), (2, .int x.2.2.1)] → W p l e (rmv 1) s m args below meth c H locs 0 0 (MQ below (XQi shC g r t') args s 0 0 (XA shC g)) (F0 m 2 ls [])) (fun k hk x h H locs ls hP hS hl => wb_X7_greatestDivisor_2 N X hk x.1 x.2.1 x.2.2.1 x.2.2.2 H locs ls hP hS hl h) N (x0, x1, x2, t) h H locs ls hP hS hl
set_option maxRecDepth 100000 in
set_option maxHeartbeats 4000000 in
theorem c_X7_greatestDivisor (l : Launch) (g : Ly) (N : Nat) (hG : XG shC g) (a0 : Int32) (a1 : Int32) (t : Mm) {r : Int32} {t' : Mm} (h : f_X7_greatestDivisor N a0 a1 t = some (r, t')) : MI l yX7_greatestDivisor cX7_greatestDivisor 4 (some .int) 1 shC g [.int a0, .int a1] t (XQi shC g r t') := by
  refine x_met hG (by decide +kernel) (Nat.le_of_ble_eq_true rfl) ?_
  intro p e s m below meth c ls X hP hl
  have hS : va_S (XA shC g) s.heap s.heap [] := va_S.rf
  have hl : lv_has ls 4 [(0, .int a0), (1, .int a1)] := hl
  unfold f_X7_greatestDivisor at h
  generalize ([.int a0, .int a1] : List Value).toArray = args at X ⊢
  refine lv_iconst (v := 0) X.1.1 X.1.2.1 dX7_greatestDivisor_0 (by decide) ?_
  refine lv_istore_n (lv' := [(2, .int 0), (0, .int a0), (1, .int a1)]) X.1.1 X.1.2.1 dX7_greatestDivisor_1 rfl hl (by decide) rfl (fun ls hl => ?_)
  exact w_X7_greatestDivisor_2 N X a0 a1 0 t _ _ _ hP hS (lv_sub hl [1, 2, 0] rfl) h
def b_X7_power_4 (N : Nat) (k4 : Int32 × Int32 × Int32 × Int32 × Mm → Option (Int32 × Mm)) (x0 : Int32) (x1 : Int32) (x2 : Int32) (x3 : Int32) (t : Mm) : Option (Int32 × Mm) := if x1 ≤ x3 then (some (x2, t)) else (k4 (x0, x1, (x2 * x0), (x3 + 1), t))
def f_X7_power_4 (N : Nat) (x0 : Int32) (x1 : Int32) (x2 : Int32) (x3 : Int32) (t : Mm) : Option (Int32 × Mm) := o_lp (fun k x => b_X7_power_4 N k x.1 x.2.1 x.2.2.1 x.2.2.2.1 x.2.2.2.2) N (x0, x1, x2, x3, t)
/-- FordQuestions.power(II)I -/
def f_X7_power (N : Nat) (a0 : Int32) (a1 : Int32) (t : Mm) : Option (Int32 × Mm) := f_X7_power_4 N a0 a1 1 0 t
theorem hd_X7_power : x_hd yX7_power 2 := by decide +kernel
set_option maxRecDepth 100000 in
set_option maxHeartbeats 4000000 in
theorem wb_X7_power_4 {l : Launch} {g : Ly} {p : Program} {e : Env} {s : State} {m : MethodId} {args : Array Value} {below : List Frame} {meth : Method} {c : Code} (N : Nat) (X : XC p m meth c cX7_power 4 s args (.code yX7_power cX7_power 4 (some .int)) RX7 (some .int) shC g) {r : Int32} {t' : Mm} {k4 : Int32 × Int32 × Int32 × Int32 × Mm → Option (Int32 × Mm)} (hk4 : ∀ x : Int32 × Int32 × Int32 × Int32 × Mm, k4 x = some (r, t') → ∀ (H : Heap) (locs : List Loc) (ls : Array Slot), XP shC g x.2.2.2.2 H → va_S (XA shC g) s.heap H locs → lv_has ls 4 [(0, .int x.1), (1, .int x.2.1), (2, .int x.2.2.1), (3, .int x.2.2.2.1)] → W p l e (rmv 1) s m args below meth c H locs 0 0 (MQ below (XQi shC g r t') args s 0 0 (XA shC g)) (F0 m 4 ls [])) (x0 : Int32) (x1 : Int32) (x2 : Int32) (x3 : Int32) (t : Mm) (H : Heap) (locs : List Loc) (ls : Array Slot) (hP : XP shC g t H) (hS : va_S (XA shC g) s.heap H locs) (hl : lv_has ls 4 [(0, .int x0), (1, .int x1), (2, .int x2), (3, .int x3)]) (h : b_X7_power_4 N k4 x0 x1 x2 x3 t = some (r, t')) : W p l e (rmv 1) s m args below meth c H locs 0 0 (MQ below (XQi shC g r t') args s 0 0 (XA shC g)) (F0 m 4 ls []) := by
  unfold b_X7_power_4 at h
  refine lv_iload_n X.1.1 X.1.2.1 dX7_power_4 rfl (lv_at hl 3 rfl) ?_
  refine lv_iload_n X.1.1 X.1.2.1 dX7_power_5 rfl (lv_at hl 1 rfl) ?_
  refine lv_icmp_ge (tgt := 19) X.1.1 X.1.2.1 dX7_power_6 (by decide) (fun c_1 => ?_) (fun c_1 => ?_)
  · have h := o_pos c_1 h
    refine lv_iload_n X.1.1 X.1.2.1 dX7_power_19 rfl (lv_at hl 2 rfl) ?_
    obtain ⟨rfl, rfl⟩ := o_ret2 h
    exact x_iret X hP hS dX7_power_20
  · have h := o_neg c_1 h
    refine lv_iload_n X.1.1 X.1.2.1 dX7_power_9 rfl (lv_at hl 2 rfl) ?_
    refine lv_iload_n X.1.1 X.1.2.1 dX7_power_10 rfl (lv_at hl 0 rfl) ?_
    refine lv_imul X.1.1 X.1.2.1 dX7_power_11 ?_
    refine lv_istore_n (lv' := [(2, .int (x2 * x0)), (0, .int x0), (1, .int x1), (3, .int x3)]) X.1.1 X.1.2.1 dX7_power_12 rfl hl (by decide) rfl (fun ls hl => ?_)
    refine lv_iinc (v := (x3 + 1)) (lv' := [(3, .int (x3 + 1)), (2, .int (x2 * x0)), (0, .int x0), (1, .int x1)]) X.1.1 X.1.2.1 dX7_power_13 hl (k := 3) rfl rfl (by decide) rfl (fun ls hl => ?_)
    refine lv_goto (tgt := 4) X.1.1 X.1.2.1 dX7_power_16 (by decide) ?_
    exact hk4 (x0, x1, (x2 * x0), (x3 + 1), t) h _ _ _ hP hS (lv_sub hl [2, 3, 1, 0] rfl)
set_option maxRecDepth 100000 in
set_option maxHeartbeats 4000000 in
theorem w_X7_power_4 {l : Launch} {g : Ly} {p : Program} {e : Env} {s : State} {m : MethodId} {args : Array Value} {below : List Frame} {meth : Method} {c : Code} (N : Nat) (X : XC p m meth c cX7_power 4 s args (.code yX7_power cX7_power 4 (some .int)) RX7 (some .int) shC g) {r : Int32} {t' : Mm} (x0 : Int32) (x1 : Int32) (x2 : Int32) (x3 : Int32) (t : Mm) (H : Heap) (locs : List Loc) (ls : Array Slot) (hP : XP shC g t H) (hS : va_S (XA shC g) s.heap H locs) (hl : lv_has ls 4 [(0, .int x0), (1, .int x1), (2, .int x2), (3, .int x3)]) (h : f_X7_power_4 N x0 x1 x2 x3 t = some (r, t')) : W p l e (rmv 1) s m args below meth c H locs 0 0 (MQ below (XQi shC g r t') args s 0 0 (XA shC g)) (F0 m 4 ls []) :=
  o_lp_ind (P := fun x : Int32 × Int32 × Int32 × Int32 × Mm => ∀ (H : Heap) (locs : List Loc) (ls : Array Slot), XP shC g x.2.2.2.2 H → va_S (XA shC g) s.heap H locs → lv_has ls 4 [(0, .int x.1), (1, .int x.2.1), (2, .int x.2.2.1), (3, .int x.2.2.2.1)] → W p l e (rmv 1) s m args below meth c H locs 0 0 (MQ below (XQi shC g r t') args s 0 0 (XA shC g)) (F0 m 4 ls [])) (fun k hk x h H locs ls hP hS hl => wb_X7_power_4 N X hk x.1 x.2.1 x.2.2.1 x.2.2.2.1 x.2.2.2.2 H locs ls hP hS hl h) N (x0, x1, x2, x3, t) h H locs ls hP hS hl
set_option maxRecDepth 100000 in
set_option maxHeartbeats 4000000 in
theorem c_X7_power (l : Launch) (g : Ly) (N : Nat) (hG : XG shC g) (a0 : Int32) (a1 : Int32) (t : Mm) {r : Int32} {t' : Mm} (h : f_X7_power N a0 a1 t = some (r, t')) : MI l yX7_power cX7_power 4 (some .int) 1 shC g [.int a0, .int a1] t (XQi shC g r t') := by
  refine x_met hG (by decide +kernel) (Nat.le_of_ble_eq_true rfl) ?_
  intro p e s m below meth c ls X hP hl
  have hS : va_S (XA shC g) s.heap s.heap [] := va_S.rf
  have hl : lv_has ls 4 [(0, .int a0), (1, .int a1)] := hl
  unfold f_X7_power at h
  generalize ([.int a0, .int a1] : List Value).toArray = args at X ⊢
  refine lv_iconst (v := 1) X.1.1 X.1.2.1 dX7_power_0 (by decide) ?_
  refine lv_istore_n (lv' := [(2, .int 1), (0, .int a0), (1, .int a1)]) X.1.1 X.1.2.1 dX7_power_1 rfl hl (by decide) rfl (fun ls hl => ?_)
  refine lv_iconst (v := 0) X.1.1 X.1.2.1 dX7_power_2 (by decide) ?_
  refine lv_istore_n (lv' := [(3, .int 0), (2, .int 1), (0, .int a0), (1, .int a1)]) X.1.1 X.1.2.1 dX7_power_3 rfl hl (by decide) rfl (fun ls hl => ?_)
  exact w_X7_power_4 N X a0 a1 1 0 t _ _ _ hP hS (lv_sub hl [2, 3, 1, 0] rfl) h
def f_X7_waysOfAtLeast_44 (N : Nat) (k8 : Int32 × Int32 × Int32 × Int32 × Int32 × Int32 × Mm → Option (Int32 × Mm)) (x0 : Int32) (x1 : Int32) (x2 : Int32) (x3 : Int32) (x4 : Int32) (x5 : Int32) (t : Mm) : Option (Int32 × Mm) := if ¬ ((x5 + 1) = 0) then (o_nm (((x4 * (x1 - x5)) / (x5 + 1))) fun x_2 => k8 (x0, x1, x2, x3, x_2, (x5 + 1), t)) else none
def b_X7_waysOfAtLeast_8 (N : Nat) (k8 : Int32 × Int32 × Int32 × Int32 × Int32 × Int32 × Mm → Option (Int32 × Mm)) (x0 : Int32) (x1 : Int32) (x2 : Int32) (x3 : Int32) (x4 : Int32) (x5 : Int32) (t : Mm) : Option (Int32 × Mm) := if x1 < x5 then (some (x3, t)) else (if x5 < x0 then (f_X7_waysOfAtLeast_44 N k8 x0 x1 x2 x3 x4 x5 t) else (o_bd (f_X7_power N x2 x5 t) fun (r_8, t_6) => o_bd (f_X7_power N (10 - x2) (x1 - x5) t_6) fun (r_12, t_10) => o_nm ((x3 + ((x4 * r_8) * r_12))) fun x_14 => f_X7_waysOfAtLeast_44 N k8 x0 x1 x2 x_14 x4 x5 t_10))
def f_X7_waysOfAtLeast_8 (N : Nat) (x0 : Int32) (x1 : Int32) (x2 : Int32) (x3 : Int32) (x4 : Int32) (x5 : Int32) (t : Mm) : Option (Int32 × Mm) := o_lp (fun k x => b_X7_waysOfAtLeast_8 N k x.1 x.2.1 x.2.2.1 x.2.2.2.1 x.2.2.2.2.1 x.2.2.2.2.2.1 x.2.2.2.2.2.2) N (x0, x1, x2, x3, x4, x5, t)
/-- FordQuestions.waysOfAtLeast(III)I -/
def f_X7_waysOfAtLeast (N : Nat) (a0 : Int32) (a1 : Int32) (a2 : Int32) (t : Mm) : Option (Int32 × Mm) := f_X7_waysOfAtLeast_8 N a0 a1 a2 0 1 0 t
theorem hd_X7_waysOfAtLeast : x_hd yX7_waysOfAtLeast 3 := by decide +kernel
set_option maxRecDepth 100000 in
set_option maxHeartbeats 4000000 in
theorem w_X7_waysOfAtLeast_44 {l : Launch} {g : Ly} {p : Program} {e : Env} {s : State} {m : MethodId} {args : Array Value} {below : List Frame} {meth : Method} {c : Code} (N : Nat) (X : XC p m meth c cX7_waysOfAtLeast 6 s args (.code yX7_waysOfAtLeast cX7_waysOfAtLeast 6 (some .int)) RX7 (some .int) shC g) {r : Int32} {t' : Mm} {k8 : Int32 × Int32 × Int32 × Int32 × Int32 × Int32 × Mm → Option (Int32 × Mm)} (hk8 : ∀ x : Int32 × Int32 × Int32 × Int32 × Int32 × Int32 × Mm, k8 x = some (r, t') → ∀ (H : Heap) (locs : List Loc) (ls : Array Slot), XP shC g x.2.2.2.2.2.2 H → va_S (XA shC g) s.heap H locs → lv_has ls 6 [(0, .int x.1), (1, .int x.2.1), (2, .int x.2.2.1), (3, .int x.2.2.2.1), (4, .int x.2.2.2.2.1), (5, .int x.2.2.2.2.2.1)] → W p l e (rmv 2) s m args below meth c H locs 0 0 (MQ below (XQi shC g r t') args s 0 0 (XA shC g)) (F0 m 8 ls [])) (x0 : Int32) (x1 : Int32) (x2 : Int32) (x3 : Int32) (x4 : Int32) (x5 : Int32) (t : Mm) (H : Heap) (locs : List Loc) (ls : Array Slot) (hP : XP shC g t H) (hS : va_S (XA shC g) s.heap H locs) (hl : lv_has ls 6 [(0, .int x0), (1, .int x1), (2, .int x2), (3, .int x3), (4, .int x4), (5, .int x5)]) (h : f_X7_waysOfAtLeast_44 N k8 x0 x1 x2 x3 x4 x5 t = some (r, t')) : W p l e (rmv 2) s m args below meth c H locs 0 0 (MQ below (XQi shC g r t') args s 0 0 (XA shC g)) (F0 m 44 ls []) := by
  unfold f_X7_waysOfAtLeast_44 at h
  refine lv_iload X.1.1 X.1.2.1 dX7_waysOfAtLeast_44 (lv_at hl 4 rfl) ?_
  refine lv_iload_n X.1.1 X.1.2.1 dX7_waysOfAtLeast_46 rfl (lv_at hl 1 rfl) ?_
  refine lv_iload X.1.1 X.1.2.1 dX7_waysOfAtLeast_47 (lv_at hl 5 rfl) ?_
  refine lv_isub X.1.1 X.1.2.1 dX7_waysOfAtLeast_49 ?_
  refine lv_imul X.1.1 X.1.2.1 dX7_waysOfAtLeast_50 ?_
  refine lv_iload X.1.1 X.1.2.1 dX7_waysOfAtLeast_51 (lv_at hl 5 rfl) ?_
  refine lv_iconst (v := 1) X.1.1 X.1.2.1 dX7_waysOfAtLeast_53 (by decide) ?_
  refine lv_iadd X.1.1 X.1.2.1 dX7_waysOfAtLeast_54 ?_
  obtain ⟨g_1, h⟩ := o_gd_inv h
  refine lv_idiv X.1.1 X.1.2.1 dX7_waysOfAtLeast_55 g_1 ?_
  refine lv_topi (fun x_2 e_3 => ?_)
  have h := o_nm_to e_3 h
  refine lv_istore (lv' := [(4, .int x_2), (0, .int x0), (1, .int x1), (2, .int x2), (3, .int x3), (5, .int x5)]) X.1.1 X.1.2.1 dX7_waysOfAtLeast_56 hl (by decide) rfl (fun ls hl => ?_)
  refine lv_iinc (v := (x5 + 1)) (lv' := [(5, .int (x5 + 1)), (4, .int x_2), (0, .int x0), (1, .int x1), (2, .int x2), (3, .int x3)]) X.1.1 X.1.2.1 dX7_waysOfAtLeast_58 hl (k := 5) rfl rfl (by decide) rfl (fun ls hl => ?_)
  refine lv_goto (tgt := 8) X.1.1 X.1.2.1 dX7_waysOfAtLeast_61 (by decide) ?_
  exact hk8 (x0, x1, x2, x3, x_2, (x5 + 1), t) h _ _ _ hP hS (lv_sub hl [2, 3, 4, 5, 1, 0] rfl)
set_option maxRecDepth 100000 in
set_option maxHeartbeats 4000000 in
theorem wb_X7_waysOfAtLeast_8 {l : Launch} {g : Ly} {p : Program} {e : Env} {s : State} {m : MethodId} {args : Array Value} {below : List Frame} {meth : Method} {c : Code} (N : Nat) (X : XC p m meth c cX7_waysOfAtLeast 6 s args (.code yX7_waysOfAtLeast cX7_waysOfAtLeast 6 (some .int)) RX7 (some .int) shC g) {r : Int32} {t' : Mm} {k8 : Int32 × Int32 × Int32 × Int32 × Int32 × Int32 × Mm → Option (Int32 × Mm)} (hk8 : ∀ x : Int32 × Int32 × Int32 × Int32 × Int32 × Int32 × Mm, k8 x = some (r, t') → ∀ (H : Heap) (locs : List Loc) (ls : Array Slot), XP shC g x.2.2.2.2.2.2 H → va_S (XA shC g) s.heap H locs → lv_has ls 6 [(0, .int x.1), (1, .int x.2.1), (2, .int x.2.2.1), (3, .int x.2.2.2.1), (4, .int x.2.2.2.2.1), (5, .int x.2.2.2.2.2.1)] → W p l e (rmv 2) s m args below meth c H locs 0 0 (MQ below (XQi shC g r t') args s 0 0 (XA shC g)) (F0 m 8 ls [])) (x0 : Int32) (x1 : Int32) (x2 : Int32) (x3 : Int32) (x4 : Int32) (x5 : Int32) (t : Mm) (H : Heap) (locs : List Loc) (ls : Array Slot) (hP : XP shC g t H) (hS : va_S (XA shC g) s.heap H locs) (hl : lv_has ls 6 [(0, .int x0), (1, .int x1), (2, .int x2), (3, .int x3), (4, .int x4), (5, .int x5)]) (h : b_X7_waysOfAtLeast_8 N k8 x0 x1 x2 x3 x4 x5 t = some (r, t')) : W p l e (rmv 2) s m args below meth c H locs 0 0 (MQ below (XQi shC g r t') args s 0 0 (XA shC g)) (F0 m 8 ls []) := by
  unfold b_X7_waysOfAtLeast_8 at h
  refine lv_iload X.1.1 X.1.2.1 dX7_waysOfAtLeast_8 (lv_at hl 5 rfl) ?_
  refine lv_iload_n X.1.1 X.1.2.1 dX7_waysOfAtLeast_10 rfl (lv_at hl 1 rfl) ?_
  refine lv_icmp_gt (tgt := 64) X.1.1 X.1.2.1 dX7_waysOfAtLeast_11 (by decide) (fun c_4 => ?_) (fun c_4 => ?_)
  · have h := o_pos c_4 h
    refine lv_iload_n X.1.1 X.1.2.1 dX7_waysOfAtLeast_64 rfl (lv_at hl 3 rfl) ?_
    obtain ⟨rfl, rfl⟩ := o_ret2 h
    exact x_iret X hP hS dX7_waysOfAtLeast_65
  · have h := o_neg c_4 h
    refine lv_iload X.1.1 X.1.2.1 dX7_waysOfAtLeast_14 (lv_at hl 5 rfl) ?_
    refine lv_iload_n X.1.1 X.1.2.1 dX7_waysOfAtLeast_16 rfl (lv_at hl 0 rfl) ?_
    refine lv_icmp_lt (tgt := 44) X.1.1 X.1.2.1 dX7_waysOfAtLeast_17 (by decide) (fun c_5 => ?_) (fun c_5 => ?_)
    · have h := o_pos c_5 h
      exact w_X7_waysOfAtLeast_44 N X hk8 x0 x1 x2 x3 x4 x5 t _ _ _ hP hS (lv_sub hl [0, 1, 2, 3, 4, 5] rfl) h
    · have h := o_neg c_5 h
      refine lv_iload_n X.1.1 X.1.2.1 dX7_waysOfAtLeast_20 rfl (lv_at hl 3 rfl) ?_
      refine lv_iload X.1.1 X.1.2.1 dX7_waysOfAtLeast_21 (lv_at hl 4 rfl) ?_
      refine lv_iload_n X.1.1 X.1.2.1 dX7_waysOfAtLeast_23 rfl (lv_at hl 2 rfl) ?_
      refine lv_iload X.1.1 X.1.2.1 dX7_waysOfAtLeast_24 (lv_at hl 5 rfl) ?_
      obtain ⟨⟨r_8, t_6⟩, hc_7, h⟩ := o_bd_inv h
      refine x_calli (x_runS (As := [.int x2, .int x5]) (rest := [.int x4, .int x3]) X hP hS (c_X7_power l g N X.2.2.2.2.1 x2 x5 t hc_7) ⟨wd_777, wd_775, wd_776, wd_54⟩ hd_X7_power ⟨by omega, by decide⟩ rfl hl.1 rfl (Nat.le_of_ble_eq_true rfl) dX7_waysOfAtLeast_26) hS (fun H locs hP hS => ?_)
      refine lv_imul X.1.1 X.1.2.1 dX7_waysOfAtLeast_29 ?_
      refine lv_bipush (v := 10) X.1.1 X.1.2.1 dX7_waysOfAtLeast_30 (by decide) ?_
      refine lv_iload_n X.1.1 X.1.2.1 dX7_waysOfAtLeast_32 rfl (lv_at hl 2 rfl) ?_
      refine lv_isub X.1.1 X.1.2.1 dX7_waysOfAtLeast_33 ?_
      refine lv_iload_n X.1.1 X.1.2.1 dX7_waysOfAtLeast_34 rfl (lv_at hl 1 rfl) ?_
      refine lv_iload X.1.1 X.1.2.1 dX7_waysOfAtLeast_35 (lv_at hl 5 rfl) ?_
      refine lv_isub X.1.1 X.1.2.1 dX7_waysOfAtLeast_37 ?_
      obtain ⟨⟨r_12, t_10⟩, hc_11, h⟩ := o_bd_inv h
      refine x_calli (x_runS (As := [.int (10 - x2), .int (x1 - x5)]) (rest := [.int (x4 * r_8), .int x3]) X hP hS (c_X7_power l g N X.2.2.2.2.1 (10 - x2) (x1 - x5) t_6 hc_11) ⟨wd_777, wd_775, wd_776, wd_54⟩ hd_X7_power ⟨by omega, by decide⟩ rfl hl.1 rfl (Nat.le_of_ble_eq_true rfl) dX7_waysOfAtLeast_38) hS (fun H locs hP hS => ?_)
      refine lv_imul X.1.1 X.1.2.1 dX7_waysOfAtLeast_41 ?_
      refine lv_iadd X.1.1 X.1.2.1 dX7_waysOfAtLeast_42 ?_
      refine lv_topi (fun x_14 e_15 => ?_)
      have h := o_nm_to e_15 h
      refine lv_istore_n (lv' := [(3, .int x_14), (0, .int x0), (1, .int x1), (2, .int x2), (4, .int x4), (5, .int x5)]) X.1.1 X.1.2.1 dX7_waysOfAtLeast_43 rfl hl (by decide) rfl (fun ls hl => ?_)
      exact w_X7_waysOfAtLeast_44 N X hk8 x0 x1 x2 x_14 x4 x5 t_10 _ _ _ hP hS (lv_sub hl [1, 2, 3, 0, 4, 5] rfl) h
set_option maxRecDepth 100000 in
set_option maxHeartbeats 4000000 in
theorem w_X7_waysOfAtLeast_8 {l : Launch} {g : Ly} {p : Program} {e : Env} {s : State} {m : MethodId} {args : Array Value} {below : List Frame} {meth : Method} {c : Code} (N : Nat) (X : XC p m meth c cX7_waysOfAtLeast 6 s args (.code yX7_waysOfAtLeast cX7_waysOfAtLeast 6 (some .int)) RX7 (some .int) shC g) {r : Int32} {t' : Mm} (x0 : Int32) (x1 : Int32) (x2 : Int32) (x3 : Int32) (x4 : Int32) (x5 : Int32) (t : Mm) (H : Heap) (locs : List Loc) (ls : Array Slot) (hP : XP shC g t H) (hS : va_S (XA shC g) s.heap H locs) (hl : lv_has ls 6 [(0, .int x0), (1, .int x1), (2, .int x2), (3, .int x3), (4, .int x4), (5, .int x5)]) (h : f_X7_waysOfAtLeast_8 N x0 x1 x2 x3 x4 x5 t = some (r, t')) : W p l e (rmv 2) s m args below meth c H locs 0 0 (MQ below (XQi shC g r t') args s 0 0 (XA shC g)) (F0 m 8 ls []) :=
  o_lp_ind (P := fun x : Int32 × Int32 × Int32 × Int32 × Int32 × Int32 × Mm => ∀ (H : Heap) (locs : List Loc) (ls : Array Slot), XP shC g x.2.2.2.2.2.2 H → va_S (XA shC g) s.heap H locs → lv_has ls 6 [(0, .int x.1), (1, .int x.2.1), (2, .int x.2.2.1), (3, .int x.2.2.2.1), (4, .int x.2.2.2.2.1), (5, .int x.2.2.2.2.2.1)] → W p l e (rmv 2) s m args below meth c H locs 0 0 (MQ below (XQi shC g r t') args s 0 0 (XA shC g)) (F0 m 8 ls [])) (fun k hk x h H locs ls hP hS hl => wb_X7_waysOfAtLeast_8 N X hk x.1 x.2.1 x.2.2.1 x.2.2.2.1 x.2.2.2.2.1 x.2.2.2.2.2.1 x.2.2.2.2.2.2 H locs ls hP hS hl h) N (x0, x1, x2, x3, x4, x5, t) h H locs ls hP hS hl
set_option maxRecDepth 100000 in
set_option maxHeartbeats 4000000 in
theorem c_X7_waysOfAtLeast (l : Launch) (g : Ly) (N : Nat) (hG : XG shC g) (a0 : Int32) (a1 : Int32) (a2 : Int32) (t : Mm) {r : Int32} {t' : Mm} (h : f_X7_waysOfAtLeast N a0 a1 a2 t = some (r, t')) : MI l yX7_waysOfAtLeast cX7_waysOfAtLeast 6 (some .int) 2 shC g [.int a0, .int a1, .int a2] t (XQi shC g r t') := by
  refine x_met hG (by decide +kernel) (Nat.le_of_ble_eq_true rfl) ?_
  intro p e s m below meth c ls X hP hl
  have hS : va_S (XA shC g) s.heap s.heap [] := va_S.rf
  have hl : lv_has ls 6 [(0, .int a0), (1, .int a1), (2, .int a2)] := hl
  unfold f_X7_waysOfAtLeast at h
  generalize ([.int a0, .int a1, .int a2] : List Value).toArray = args at X ⊢
  refine lv_iconst (v := 0) X.1.1 X.1.2.1 dX7_waysOfAtLeast_0 (by decide) ?_
  refine lv_istore_n (lv' := [(3, .int 0), (0, .int a0), (1, .int a1), (2, .int a2)]) X.1.1 X.1.2.1 dX7_waysOfAtLeast_1 rfl hl (by decide) rfl (fun ls hl => ?_)
  refine lv_iconst (v := 1) X.1.1 X.1.2.1 dX7_waysOfAtLeast_2 (by decide) ?_
  refine lv_istore (lv' := [(4, .int 1), (3, .int 0), (0, .int a0), (1, .int a1), (2, .int a2)]) X.1.1 X.1.2.1 dX7_waysOfAtLeast_3 hl (by decide) rfl (fun ls hl => ?_)
  refine lv_iconst (v := 0) X.1.1 X.1.2.1 dX7_waysOfAtLeast_5 (by decide) ?_
  refine lv_istore (lv' := [(5, .int 0), (4, .int 1), (3, .int 0), (0, .int a0), (1, .int a1), (2, .int a2)]) X.1.1 X.1.2.1 dX7_waysOfAtLeast_6 hl (by decide) rfl (fun ls hl => ?_)
  exact w_X7_waysOfAtLeast_8 N X a0 a1 a2 0 1 0 t _ _ _ hP hS (lv_sub hl [3, 4, 5, 2, 1, 0] rfl) h
def f_X7_cramp_102 (N : Nat) (x8 : Int32) (s0 : Int32) (t : Mm) : Option (Int32 × Mm) := if ¬ (x8 = 0) then (some ((s0 / x8), t)) else none
/-- FordQuestions.cramp(III)I -/
def f_X7_cramp (N : Nat) (a0 : Int32) (a1 : Int32) (a2 : Int32) (t : Mm) : Option (Int32 × Mm) := o_bd (f_X7_isOutside a0 0 5 t) fun (r_4, t_2) => if r_4 = 0 then (o_bd (f_X7_isOutside a1 0 10 t_2) fun (r_9, t_7) => if r_9 = 0 then (o_bd (f_X7_isOutside a2 0 1 t_7) fun (r_14, t_12) => if r_14 = 0 then (o_bd (f_X0_howManyLeaveNext N (9 * 0) t_12) fun (r_19, t_17) => o_bd (f_X0_thoseWho N (9 * 0) 1 t_17) fun (r_23, t_21) => o_bd (f_J6_bitCount_0f7a4 r_23 t_21) fun (r_27, t_25) => o_bd (f_X7_waysOfAtLeast N (a0 - (r_27 - r_19)) r_19 a1 t_25) fun (r_31, t_29) => o_bd (f_X7_power N 10 r_19 t_29) fun (r_35, t_33) => o_bd (f_X7_greatestDivisor N r_31 r_35 t_33) fun (r_39, t_37) => if a2 = 0 then (f_X7_cramp_102 N r_39 r_31 t_37) else (f_X7_cramp_102 N r_39 r_35 t_37)) else (some ((-1), t_12))) else (some ((-1), t_7))) else (some ((-1), t_2))
theorem hd_X7_cramp : x_hd yX7_cramp 3 := by decide +kernel
set_option maxRecDepth 100000 in
set_option maxHeartbeats 4000000 in
theorem w_X7_cramp_102 {l : Launch} {g : Ly} {p : Program} {e : Env} {s : State} {m : MethodId} {args : Array Value} {below : List Frame} {meth : Method} {c : Code} (N : Nat) (X : XC p m meth c cX7_cramp 9 s args (.code yX7_cramp cX7_cramp 9 (some .int)) RX7 (some .int) shC g) {r : Int32} {t' : Mm} (x8 : Int32) (s0 : Int32) (t : Mm) (H : Heap) (locs : List Loc) (ls : Array Slot) (hP : XP shC g t H) (hS : va_S (XA shC g) s.heap H locs) (hl : lv_has ls 9 [(8, .int x8)]) (h : f_X7_cramp_102 N x8 s0 t = some (r, t')) : W p l e (rmv 3) s m args below meth c H locs 0 0 (MQ below (XQi shC g r t') args s 0 0 (XA shC g)) (F0 m 102 ls [.int s0]) := by
  unfold f_X7_cramp_102 at h
  refine lv_iload X.1.1 X.1.2.1 dX7_cramp_102 (lv_at hl 0 rfl) ?_
  obtain ⟨g_1, h⟩ := o_gd_inv h
  refine lv_idiv X.1.1 X.1.2.1 dX7_cramp_104 g_1 ?_
  obtain ⟨rfl, rfl⟩ := o_ret2 h
  exact x_iret X hP hS dX7_cramp_105
set_option maxRecDepth 100000 in
set_option maxHeartbeats 4000000 in
theorem c_X7_cramp (l : Launch) (g : Ly) (N : Nat) (hG : XG shC g) (a0 : Int32) (a1 : Int32) (a2 : Int32) (t : Mm) {r : Int32} {t' : Mm} (h : f_X7_cramp N a0 a1 a2 t = some (r, t')) : MI l yX7_cramp cX7_cramp 9 (some .int) 3 shC g [.ref (g.2.2 (3, 0, 0)), .int a0, .int a1, .int a2] t (XQi shC g r t') := by
  refine x_met hG (by decide +kernel) (Nat.le_of_ble_eq_true rfl) ?_
  intro p e s m below meth c ls X hP hl
  have hS : va_S (XA shC g) s.heap s.heap [] := va_S.rf
  have hl : lv_has ls 9 [(0, .ref (g.2.2 (3, 0, 0))), (1, .int a0), (2, .int a1), (3, .int a2)] := hl
  unfold f_X7_cramp at h
  generalize ([.ref (g.2.2 (3, 0, 0)), .int a0, .int a1, .int a2] : List Value).toArray = args at X ⊢
  refine lv_iload_n X.1.1 X.1.2.1 dX7_cramp_0 rfl (lv_at hl 1 rfl) ?_
  refine lv_iconst (v := 0) X.1.1 X.1.2.1 dX7_cramp_1 (by decide) ?_
  refine lv_iconst (v := 5) X.1.1 X.1.2.1 dX7_cramp_2 (by decide) ?_
  obtain ⟨⟨r_4, t_2⟩, hc_3, h⟩ := o_bd_inv h
  refine x_calli (x_runS (As := [.int a0, .int 0, .int 5]) (rest := []) X hP hS (c_X7_isOutside l g X.2.2.2.2.1 a0 0 5 t hc_3) ⟨wd_318, wd_316, wd_317, wd_54⟩ hd_X7_isOutside ⟨by omega, by decide⟩ rfl hl.1 rfl (Nat.le_of_ble_eq_true rfl) dX7_cramp_3) hS (fun H locs hP hS => ?_)
  refine lv_if_ne (tgt := 28) X.1.1 X.1.2.1 dX7_cramp_6 (by decide) (fun c_6 => ?_) (fun c_6 => ?_)
  · have h := o_neg c_6 h
    refine lv_iconst (v := (-1)) X.1.1 X.1.2.1 dX7_cramp_28 (by decide) ?_
    obtain ⟨rfl, rfl⟩ := o_ret2 h
    exact x_iret X hP hS dX7_cramp_29
  · have h := o_pos c_6 h
    refine lv_iload_n X.1.1 X.1.2.1 dX7_cramp_9 rfl (lv_at hl 2 rfl) ?_
    refine lv_iconst (v := 0) X.1.1 X.1.2.1 dX7_cramp_10 (by decide) ?_
    refine lv_bipush (v := 10) X.1.1 X.1.2.1 dX7_cramp_11 (by decide) ?_
    obtain ⟨⟨r_9, t_7⟩, hc_8, h⟩ := o_bd_inv h
    refine x_calli (x_runS (As := [.int a1, .int 0, .int 10]) (rest := []) X hP hS (c_X7_isOutside l g X.2.2.2.2.1 a1 0 10 t_2 hc_8) ⟨wd_318, wd_316, wd_317, wd_54⟩ hd_X7_isOutside ⟨by omega, by decide⟩ rfl hl.1 rfl (Nat.le_of_ble_eq_true rfl) dX7_cramp_13) hS (fun H locs hP hS => ?_)
    refine lv_if_ne (tgt := 28) X.1.1 X.1.2.1 dX7_cramp_16 (by decide) (fun c_11 => ?_) (fun c_11 => ?_)
    · have h := o_neg c_11 h
      refine lv_iconst (v := (-1)) X.1.1 X.1.2.1 dX7_cramp_28 (by decide) ?_
      obtain ⟨rfl, rfl⟩ := o_ret2 h
      exact x_iret X hP hS dX7_cramp_29
    · have h := o_pos c_11 h
      refine lv_iload_n X.1.1 X.1.2.1 dX7_cramp_19 rfl (lv_at hl 3 rfl) ?_
      refine lv_iconst (v := 0) X.1.1 X.1.2.1 dX7_cramp_20 (by decide) ?_
      refine lv_iconst (v := 1) X.1.1 X.1.2.1 dX7_cramp_21 (by decide) ?_
      obtain ⟨⟨r_14, t_12⟩, hc_13, h⟩ := o_bd_inv h
      refine x_calli (x_runS (As := [.int a2, .int 0, .int 1]) (rest := []) X hP hS (c_X7_isOutside l g X.2.2.2.2.1 a2 0 1 t_7 hc_13) ⟨wd_318, wd_316, wd_317, wd_54⟩ hd_X7_isOutside ⟨by omega, by decide⟩ rfl hl.1 rfl (Nat.le_of_ble_eq_true rfl) dX7_cramp_22) hS (fun H locs hP hS => ?_)
      refine lv_if_eq (tgt := 30) X.1.1 X.1.2.1 dX7_cramp_25 (by decide) (fun c_16 => ?_) (fun c_16 => ?_)
      · have h := o_pos c_16 h
        refine lv_aload_n X.1.1 X.1.2.1 dX7_cramp_30 rfl (lv_at hl 0 rfl) ?_
        refine gt_X7_0 X hP (kyO (by decide)) wd_287 dX7_cramp_31 ?_
        refine gtN_X4_0 X hP (kyS (by omega) (by decide)) wd_160 dX7_cramp_34 ?_
        obtain ⟨⟨r_19, t_17⟩, hc_18, h⟩ := o_bd_inv h
        refine x_calli (x_runV (As := []) (rest := []) X hP hS (c_X0_howManyLeaveNext l g N (9 * 0) X.2.2.2.2.1 (by omega) t_12 hc_18) ⟨wd_770, wd_767, wd_768, wd_769, wd_56⟩ hd_X0_howManyLeaveNext ⟨by omega, by decide⟩ (x_recv X hP (ci := 0) rfl (kyF (by omega) (by decide)) rfl) rfl hl.1 rfl (Nat.le_of_ble_eq_true rfl) dX7_cramp_37) hS (fun H locs hP hS => ?_)
        refine lv_istore (lv' := [(4, .int r_19), (0, .ref (g.2.2 (3, 0, 0))), (1, .int a0), (2, .int a1), (3, .int a2)]) X.1.1 X.1.2.1 dX7_cramp_40 hl (by decide) rfl (fun ls hl => ?_)
        refine lv_aload_n X.1.1 X.1.2.1 dX7_cramp_42 rfl (lv_at hl 1 rfl) ?_
        refine gt_X7_0 X hP (kyO (by decide)) wd_287 dX7_cramp_43 ?_
        refine gtN_X4_0 X hP (kyS (by omega) (by decide)) wd_160 dX7_cramp_46 ?_
        refine lv_iconst (v := 1) X.1.1 X.1.2.1 dX7_cramp_49 (by decide) ?_
        obtain ⟨⟨r_23, t_21⟩, hc_22, h⟩ := o_bd_inv h
        refine x_calli (x_runV (As := [.int 1]) (rest := []) X hP hS (c_X0_thoseWho l g N (9 * 0) X.2.2.2.2.1 (by omega) 1 t_17 hc_22) ⟨wd_369, wd_552, wd_367, wd_368, wd_56⟩ hd_X0_thoseWho ⟨by omega, by decide⟩ (x_recv X hP (ci := 0) rfl (kyF (by omega) (by decide)) rfl) rfl hl.1 rfl (Nat.le_of_ble_eq_true rfl) dX7_cramp_50) hS (fun H locs hP hS => ?_)
        obtain ⟨⟨r_27, t_25⟩, hc_26, h⟩ := o_bd_inv h
        refine x_calli (x_runS (As := [.int r_23]) (rest := []) X hP hS (c_J6_bitCount_0f7a4 l g X.2.2.2.2.1 r_23 t_21 hc_26) ⟨wd_372, wd_771, wd_371, wd_63⟩ hd_J6_bitCount_0f7a4 ⟨by omega, by decide⟩ rfl hl.1 rfl (Nat.le_of_ble_eq_true rfl) dX7_cramp_53) hS (fun H locs hP hS => ?_)
        refine lv_iload X.1.1 X.1.2.1 dX7_cramp_56 (lv_at hl 0 rfl) ?_
        refine lv_isub X.1.1 X.1.2.1 dX7_cramp_58 ?_
        refine lv_istore (lv' := [(5, .int (r_27 - r_19)), (4, .int r_19), (0, .ref (g.2.2 (3, 0, 0))), (1, .int a0), (2, .int a1), (3, .int a2)]) X.1.1 X.1.2.1 dX7_cramp_59 hl (by decide) rfl (fun ls hl => ?_)
        refine lv_iload_n X.1.1 X.1.2.1 dX7_cramp_61 rfl (lv_at hl 3 rfl) ?_
        refine lv_iload X.1.1 X.1.2.1 dX7_cramp_62 (lv_at hl 0 rfl) ?_
        refine lv_isub X.1.1 X.1.2.1 dX7_cramp_64 ?_
        refine lv_iload X.1.1 X.1.2.1 dX7_cramp_65 (lv_at hl 1 rfl) ?_
        refine lv_iload_n X.1.1 X.1.2.1 dX7_cramp_67 rfl (lv_at hl 4 rfl) ?_
        obtain ⟨⟨r_31, t_29⟩, hc_30, h⟩ := o_bd_inv h
        refine x_calli (x_runS (As := [.int (a0 - (r_27 - r_19)), .int r_19, .int a1]) (rest := []) X hP hS (c_X7_waysOfAtLeast l g N X.2.2.2.2.1 (a0 - (r_27 - r_19)) r_19 a1 t_25 hc_30) ⟨wd_774, wd_772, wd_773, wd_54⟩ hd_X7_waysOfAtLeast ⟨by omega, by decide⟩ rfl hl.1 rfl (Nat.le_of_ble_eq_true rfl) dX7_cramp_68) hS (fun H locs hP hS => ?_)
        refine lv_istore (lv' := [(6, .int r_31), (5, .int (r_27 - r_19)), (4, .int r_19), (0, .ref (g.2.2 (3, 0, 0))), (1, .int a0), (2, .int a1), (3, .int a2)]) X.1.1 X.1.2.1 dX7_cramp_71 hl (by decide) rfl (fun ls hl => ?_)
        refine lv_bipush (v := 10) X.1.1 X.1.2.1 dX7_cramp_73 (by decide) ?_
        refine lv_iload X.1.1 X.1.2.1 dX7_cramp_75 (lv_at hl 2 rfl) ?_
        obtain ⟨⟨r_35, t_33⟩, hc_34, h⟩ := o_bd_inv h
        refine x_calli (x_runS (As := [.int 10, .int r_19]) (rest := []) X hP hS (c_X7_power l g N X.2.2.2.2.1 10 r_19 t_29 hc_34) ⟨wd_777, wd_775, wd_776, wd_54⟩ hd_X7_power ⟨by omega, by decide⟩ rfl hl.1 rfl (Nat.le_of_ble_eq_true rfl) dX7_cramp_77) hS (fun H locs hP hS => ?_)
        refine lv_istore (lv' := [(7, .int r_35), (6, .int r_31), (5, .int (r_27 - r_19)), (4, .int r_19), (0, .ref (g.2.2 (3, 0, 0))), (1, .int a0), (2, .int a1), (3, .int a2)]) X.1.1 X.1.2.1 dX7_cramp_80 hl (by decide) rfl (fun ls hl => ?_)
        refine lv_iload X.1.1 X.1.2.1 dX7_cramp_82 (lv_at hl 1 rfl) ?_
        refine lv_iload X.1.1 X.1.2.1 dX7_cramp_84 (lv_at hl 0 rfl) ?_
        obtain ⟨⟨r_39, t_37⟩, hc_38, h⟩ := o_bd_inv h
        refine x_calli (x_runS (As := [.int r_31, .int r_35]) (rest := []) X hP hS (c_X7_greatestDivisor l g N X.2.2.2.2.1 r_31 r_35 t_33 hc_38) ⟨wd_780, wd_778, wd_779, wd_54⟩ hd_X7_greatestDivisor ⟨by omega, by decide⟩ rfl hl.1 rfl (Nat.le_of_ble_eq_true rfl) dX7_cramp_86) hS (fun H locs hP hS => ?_)
        refine lv_istore (lv' := [(8, .int r_39), (7, .int r_35), (6, .int r_31), (5, .int (r_27 - r_19)), (4, .int r_19), (0, .ref (g.2.2 (3, 0, 0))), (1, .int a0), (2, .int a1), (3, .int a2)]) X.1.1 X.1.2.1 dX7_cramp_89 hl (by decide) rfl (fun ls hl => ?_)
        refine lv_iload_n X.1.1 X.1.2.1 dX7_cramp_91 rfl (lv_at hl 8 rfl) ?_
        refine lv_if_ne (tgt := 100) X.1.1 X.1.2.1 dX7_cramp_92 (by decide) (fun c_41 => ?_) (fun c_41 => ?_)
        · have h := o_neg c_41 h
          refine lv_iload X.1.1 X.1.2.1 dX7_cramp_100 (lv_at hl 1 rfl) ?_
          exact w_X7_cramp_102 N X r_39 r_35 t_37 _ _ _ hP hS (lv_sub hl [0] rfl) h
        · have h := o_pos c_41 h
          refine lv_iload X.1.1 X.1.2.1 dX7_cramp_95 (lv_at hl 2 rfl) ?_
          refine lv_goto (tgt := 102) X.1.1 X.1.2.1 dX7_cramp_97 (by decide) ?_
          exact w_X7_cramp_102 N X r_39 r_31 t_37 _ _ _ hP hS (lv_sub hl [0] rfl) h
      · have h := o_neg c_16 h
        refine lv_iconst (v := (-1)) X.1.1 X.1.2.1 dX7_cramp_28 (by decide) ?_
        obtain ⟨rfl, rfl⟩ := o_ret2 h
        exact x_iret X hP hS dX7_cramp_29
/-- FordQuestions.image()I -/
def f_X7_image (N : Nat) (t : Mm) : Option (Int32 × Mm) := o_bd (f_X4_takeFrom N 1 0 t) fun t_1 => o_nm (sI t_1 3 0 0 2 1) fun t_3 => some (1, t_3)
theorem hd_X7_image : x_hd yX7_image 0 := by decide +kernel
set_option maxRecDepth 100000 in
set_option maxHeartbeats 4000000 in
theorem c_X7_image (l : Launch) (g : Ly) (N : Nat) (hG : XG shC g) (t : Mm) {r : Int32} {t' : Mm} (h : f_X7_image N t = some (r, t')) : MI l yX7_image cX7_image 1 (some .int) 3 shC g [.ref (g.2.2 (3, 0, 0))] t (XQi shC g r t') := by
  refine x_met hG (by decide +kernel) (Nat.le_of_ble_eq_true rfl) ?_
  intro p e s m below meth c ls X hP hl
  have hS : va_S (XA shC g) s.heap s.heap [] := va_S.rf
  have hl : lv_has ls 1 [(0, .ref (g.2.2 (3, 0, 0)))] := hl
  unfold f_X7_image at h
  generalize ([.ref (g.2.2 (3, 0, 0))] : List Value).toArray = args at X ⊢
  refine lv_aload_n X.1.1 X.1.2.1 dX7_image_0 rfl (lv_at hl 0 rfl) ?_
  refine gt_X7_1 X hP (kyO (by decide)) wd_288 dX7_image_1 ?_
  refine lv_aload_n X.1.1 X.1.2.1 dX7_image_4 rfl (lv_at hl 0 rfl) ?_
  refine gt_X7_0 X hP (kyO (by decide)) wd_287 dX7_image_5 ?_
  obtain ⟨t_1, hc_2, h⟩ := o_bd_inv h
  refine x_callv (x_runV (As := [.ref (g.2.2 (1, 0, 0))]) (rest := []) X hP hS (c_X4_takeFrom l g N 1 0 X.2.2.2.2.1 (by omega) (by omega) t hc_2) ⟨wd_788, wd_785, wd_786, wd_787, wd_55⟩ hd_X4_takeFrom ⟨by omega, by decide⟩ (x_recv X hP (ci := 4) rfl (kyS (by omega) (by decide)) rfl) rfl hl.1 rfl (Nat.le_of_ble_eq_true rfl) dX7_image_8) hS (fun H locs hP hS => ?_)
  refine lv_aload_n X.1.1 X.1.2.1 dX7_image_11 rfl (lv_at hl 0 rfl) ?_
  refine lv_iconst (v := 1) X.1.1 X.1.2.1 dX7_image_12 (by decide) ?_
  obtain ⟨t_3, e_4, h⟩ := o_nm_inv h
  refine pt_X7_2 (x := 1) X hP hS (kyO (by decide)) rfl rfl wd_289 dX7_image_13 (fun H locs hP hS => ?_)
  have hP : XP shC g t_3 H := by rw [e_4]; exact hP
  refine lv_iconst (v := 1) X.1.1 X.1.2.1 dX7_image_16 (by decide) ?_
  obtain ⟨rfl, rfl⟩ := o_ret2 h
  exact x_iret X hP hS dX7_image_17
/-- FordQuestions.restore()I -/
def f_X7_restore (N : Nat) (t : Mm) : Option (Int32 × Mm) := if (t.1 3 0 0 2) = 0 then (some ((-4), t)) else (o_bd (f_X4_takeFrom N 0 1 t) fun t_2 => some (1, t_2))
theorem hd_X7_restore : x_hd yX7_restore 0 := by decide +kernel
set_option maxRecDepth 100000 in
set_option maxHeartbeats 4000000 in
theorem c_X7_restore (l : Launch) (g : Ly) (N : Nat) (hG : XG shC g) (t : Mm) {r : Int32} {t' : Mm} (h : f_X7_restore N t = some (r, t')) : MI l yX7_restore cX7_restore 1 (some .int) 3 shC g [.ref (g.2.2 (3, 0, 0))] t (XQi shC g r t') := by
  refine x_met hG (by decide +kernel) (Nat.le_of_ble_eq_true rfl) ?_
  intro p e s m below meth c ls X hP hl
  have hS : va_S (XA shC g) s.heap s.heap [] := va_S.rf
  have hl : lv_has ls 1 [(0, .ref (g.2.2 (3, 0, 0)))] := hl
  unfold f_X7_restore at h
  generalize ([.ref (g.2.2 (3, 0, 0))] : List Value).toArray = args at X ⊢
  refine lv_aload_n X.1.1 X.1.2.1 dX7_restore_0 rfl (lv_at hl 0 rfl) ?_
  refine gt_X7_2 X hP (kyO (by decide)) wd_289 dX7_restore_1 ?_
  refine lv_if_ne (tgt := 10) X.1.1 X.1.2.1 dX7_restore_4 (by decide) (fun c_1 => ?_) (fun c_1 => ?_)
  · have h := o_neg c_1 h
    refine lv_aload_n X.1.1 X.1.2.1 dX7_restore_10 rfl (lv_at hl 0 rfl) ?_
    refine gt_X7_0 X hP (kyO (by decide)) wd_287 dX7_restore_11 ?_
    refine lv_aload_n X.1.1 X.1.2.1 dX7_restore_14 rfl (lv_at hl 0 rfl) ?_
    refine gt_X7_1 X hP (kyO (by decide)) wd_288 dX7_restore_15 ?_
    obtain ⟨t_2, hc_3, h⟩ := o_bd_inv h
    refine x_callv (x_runV (As := [.ref (g.2.2 (1, 1, 0))]) (rest := []) X hP hS (c_X4_takeFrom l g N 0 1 X.2.2.2.2.1 (by omega) (by omega) t hc_3) ⟨wd_788, wd_785, wd_786, wd_787, wd_55⟩ hd_X4_takeFrom ⟨by omega, by decide⟩ (x_recv X hP (ci := 4) rfl (kyS (by omega) (by decide)) rfl) rfl hl.1 rfl (Nat.le_of_ble_eq_true rfl) dX7_restore_18) hS (fun H locs hP hS => ?_)
    refine lv_iconst (v := 1) X.1.1 X.1.2.1 dX7_restore_21 (by decide) ?_
    obtain ⟨rfl, rfl⟩ := o_ret2 h
    exact x_iret X hP hS dX7_restore_22
  · have h := o_pos c_1 h
    refine lv_bipush (v := (-4)) X.1.1 X.1.2.1 dX7_restore_7 (by decide) ?_
    obtain ⟨rfl, rfl⟩ := o_ret2 h
    exact x_iret X hP hS dX7_restore_9
/-- FordQuestions.isNoLane(I)Z -/
def f_X7_isNoLane (a0 : Int32) (t : Mm) : Option (Int32 × Mm) := o_bd (f_X7_isOutside a0 0 3 t) fun (r_3, t_1) => if (r_3 = 0 ∨ r_3 = 1) then some (r_3, t_1) else none
theorem hd_X7_isNoLane : x_hd yX7_isNoLane 1 := by decide +kernel
set_option maxRecDepth 100000 in
set_option maxHeartbeats 4000000 in
theorem c_X7_isNoLane (l : Launch) (g : Ly) (hG : XG shC g) (a0 : Int32) (t : Mm) {r : Int32} {t' : Mm} (h : f_X7_isNoLane a0 t = some (r, t')) : MI l yX7_isNoLane cX7_isNoLane 1 (some .boolean) 2 shC g [.int a0] t (XQi shC g r t') := by
  refine x_met hG (by decide +kernel) (Nat.le_of_ble_eq_true rfl) ?_
  intro p e s m below meth c ls X hP hl
  have hS : va_S (XA shC g) s.heap s.heap [] := va_S.rf
  have hl : lv_has ls 1 [(0, .int a0)] := hl
  unfold f_X7_isNoLane at h
  generalize ([.int a0] : List Value).toArray = args at X ⊢
  refine lv_iload_n X.1.1 X.1.2.1 dX7_isNoLane_0 rfl (lv_at hl 0 rfl) ?_
  refine lv_iconst (v := 0) X.1.1 X.1.2.1 dX7_isNoLane_1 (by decide) ?_
  refine lv_iconst (v := 3) X.1.1 X.1.2.1 dX7_isNoLane_2 (by decide) ?_
  obtain ⟨⟨r_3, t_1⟩, hc_2, h⟩ := o_bd_inv h
  refine x_calli (x_runS (As := [.int a0, .int 0, .int 3]) (rest := []) X hP hS (c_X7_isOutside l g X.2.2.2.2.1 a0 0 3 t hc_2) ⟨wd_318, wd_316, wd_317, wd_54⟩ hd_X7_isOutside ⟨by omega, by decide⟩ rfl hl.1 rfl (Nat.le_of_ble_eq_true rfl) dX7_isNoLane_3) hS (fun H locs hP hS => ?_)
  obtain ⟨g_5, h⟩ := o_gd_inv h
  obtain ⟨rfl, rfl⟩ := o_ret2 h
  exact x_zret (x_narZ g_5) X hP hS dX7_isNoLane_6
/-- FordQuestions.isNoSheet(I)Z -/
def f_X7_isNoSheet (a0 : Int32) (t : Mm) : Option (Int32 × Mm) := o_bd (f_X7_isOutside a0 0 3 t) fun (r_3, t_1) => if (r_3 = 0 ∨ r_3 = 1) then some (r_3, t_1) else none
theorem hd_X7_isNoSheet : x_hd yX7_isNoSheet 1 := by decide +kernel
set_option maxRecDepth 100000 in
set_option maxHeartbeats 4000000 in
theorem c_X7_isNoSheet (l : Launch) (g : Ly) (hG : XG shC g) (a0 : Int32) (t : Mm) {r : Int32} {t' : Mm} (h : f_X7_isNoSheet a0 t = some (r, t')) : MI l yX7_isNoSheet cX7_isNoSheet 1 (some .boolean) 2 shC g [.int a0] t (XQi shC g r t') := by
  refine x_met hG (by decide +kernel) (Nat.le_of_ble_eq_true rfl) ?_
  intro p e s m below meth c ls X hP hl
  have hS : va_S (XA shC g) s.heap s.heap [] := va_S.rf
  have hl : lv_has ls 1 [(0, .int a0)] := hl
  unfold f_X7_isNoSheet at h
  generalize ([.int a0] : List Value).toArray = args at X ⊢
  refine lv_iload_n X.1.1 X.1.2.1 dX7_isNoSheet_0 rfl (lv_at hl 0 rfl) ?_
  refine lv_iconst (v := 0) X.1.1 X.1.2.1 dX7_isNoSheet_1 (by decide) ?_
  refine lv_iconst (v := 3) X.1.1 X.1.2.1 dX7_isNoSheet_2 (by decide) ?_
  obtain ⟨⟨r_3, t_1⟩, hc_2, h⟩ := o_bd_inv h
  refine x_calli (x_runS (As := [.int a0, .int 0, .int 3]) (rest := []) X hP hS (c_X7_isOutside l g X.2.2.2.2.1 a0 0 3 t hc_2) ⟨wd_318, wd_316, wd_317, wd_54⟩ hd_X7_isOutside ⟨by omega, by decide⟩ rfl hl.1 rfl (Nat.le_of_ble_eq_true rfl) dX7_isNoSheet_3) hS (fun H locs hP hS => ?_)
  obtain ⟨g_5, h⟩ := o_gd_inv h
  obtain ⟨rfl, rfl⟩ := o_ret2 h
  exact x_zret (x_narZ g_5) X hP hS dX7_isNoSheet_6
/-- FordQuestions.seen(IIIIII)I -/
def f_X7_seen (N : Nat) (a0 : Int32) (a1 : Int32) (a2 : Int32) (a3 : Int32) (a4 : Int32) (a5 : Int32) (t : Mm) : Option (Int32 × Mm) := o_bd (f_X0_hasCrosser (9 * 0) a0 t) fun (r_3, t_1) => if r_3 = 0 then (some ((-1), t_1)) else (o_bd (f_X7_isNoSheet a1 t_1) fun (r_8, t_6) => if r_8 = 0 then (o_bd (f_X7_isNoLane a2 t_6) fun (r_13, t_11) => if r_13 = 0 then (o_bd (f_X7_isOutside a4 1 8 t_11) fun (r_18, t_16) => if r_18 = 0 then (o_bd (f_X7_isOutside a5 0 2 t_16) fun (r_23, t_21) => if r_23 = 0 then (if o_inb a1 4 = true then (o_bd (f_X3_refusal (a1.toNatClampNeg) a2 a3 a4 t_21) fun (r_29, t_27) => if r_29 = 0 then (if a5 = 0 then (o_bd (f_X1_kindsThatFit N (9 * 0) (a1.toNatClampNeg) a0 a3 a4 t_27) fun (r_38, t_36) => some (r_38, t_36)) else (o_bd (f_X1_seekKnowledge N (9 * 0) (a1.toNatClampNeg) a0 a3 a4 t_27) fun t_33 => if a5 = 1 then (some ((t_33.1 3 4 0 3), t_33)) else (some ((t_33.1 3 4 0 1), t_33)))) else (some (r_29, t_27))) else none) else (some ((-1), t_21))) else (some ((-1), t_16))) else (some ((-1), t_11))) else (some ((-1), t_6)))
theorem hd_X7_seen : x_hd yX7_seen 6 := by decide +kernel
set_option maxRecDepth 100000 in
set_option maxHeartbeats 4000000 in
theorem c_X7_seen (l : Launch) (g : Ly) (N : Nat) (hG : XG shC g) (a0 : Int32) (a1 : Int32) (a2 : Int32) (a3 : Int32) (a4 : Int32) (a5 : Int32) (t : Mm) {r : Int32} {t' : Mm} (h : f_X7_seen N a0 a1 a2 a3 a4 a5 t = some (r, t')) : MI l yX7_seen cX7_seen 9 (some .int) 8 shC g [.ref (g.2.2 (3, 0, 0)), .int a0, .int a1, .int a2, .int a3, .int a4, .int a5] t (XQi shC g r t') := by
  refine x_met hG (by decide +kernel) (Nat.le_of_ble_eq_true rfl) ?_
  intro p e s m below meth c ls X hP hl
  have hS : va_S (XA shC g) s.heap s.heap [] := va_S.rf
  have hl : lv_has ls 9 [(0, .ref (g.2.2 (3, 0, 0))), (1, .int a0), (2, .int a1), (3, .int a2), (4, .int a3), (5, .int a4), (6, .int a5)] := hl
  unfold f_X7_seen at h
  generalize ([.ref (g.2.2 (3, 0, 0)), .int a0, .int a1, .int a2, .int a3, .int a4, .int a5] : List Value).toArray = args at X ⊢
  refine lv_aload_n X.1.1 X.1.2.1 dX7_seen_0 rfl (lv_at hl 0 rfl) ?_
  refine gt_X7_0 X hP (kyO (by decide)) wd_287 dX7_seen_1 ?_
  refine gtN_X4_0 X hP (kyS (by omega) (by decide)) wd_160 dX7_seen_4 ?_
  refine lv_iload_n X.1.1 X.1.2.1 dX7_seen_7 rfl (lv_at hl 1 rfl) ?_
  obtain ⟨⟨r_3, t_1⟩, hc_2, h⟩ := o_bd_inv h
  refine x_calli (x_runV (As := [.int a0]) (rest := []) X hP hS (c_X0_hasCrosser l g (9 * 0) X.2.2.2.2.1 (by omega) a0 t hc_2) ⟨wd_357, wd_354, wd_355, wd_356, wd_56⟩ hd_X0_hasCrosser ⟨by omega, by decide⟩ (x_recv X hP (ci := 0) rfl (kyF (by omega) (by decide)) rfl) rfl hl.1 rfl (Nat.le_of_ble_eq_true rfl) dX7_seen_8) hS (fun H locs hP hS => ?_)
  refine lv_if_eq (tgt := 49) X.1.1 X.1.2.1 dX7_seen_11 (by decide) (fun c_5 => ?_) (fun c_5 => ?_)
  · have h := o_pos c_5 h
    refine lv_iconst (v := (-1)) X.1.1 X.1.2.1 dX7_seen_49 (by decide) ?_
    obtain ⟨rfl, rfl⟩ := o_ret2 h
    exact x_iret X hP hS dX7_seen_50
  · have h := o_neg c_5 h
    refine lv_iload_n X.1.1 X.1.2.1 dX7_seen_14 rfl (lv_at hl 2 rfl) ?_
    obtain ⟨⟨r_8, t_6⟩, hc_7, h⟩ := o_bd_inv h
    refine x_calli (x_runS (As := [.int a1]) (rest := []) X hP hS (c_X7_isNoSheet l g X.2.2.2.2.1 a1 t_1 hc_7) ⟨wd_799, wd_797, wd_798, wd_54⟩ hd_X7_isNoSheet ⟨by omega, by decide⟩ rfl hl.1 rfl (Nat.le_of_ble_eq_true rfl) dX7_seen_15) hS (fun H locs hP hS => ?_)
    refine lv_if_ne (tgt := 49) X.1.1 X.1.2.1 dX7_seen_18 (by decide) (fun c_10 => ?_) (fun c_10 => ?_)
    · have h := o_neg c_10 h
      refine lv_iconst (v := (-1)) X.1.1 X.1.2.1 dX7_seen_49 (by decide) ?_
      obtain ⟨rfl, rfl⟩ := o_ret2 h
      exact x_iret X hP hS dX7_seen_50
    · have h := o_pos c_10 h
      refine lv_iload_n X.1.1 X.1.2.1 dX7_seen_21 rfl (lv_at hl 3 rfl) ?_
      obtain ⟨⟨r_13, t_11⟩, hc_12, h⟩ := o_bd_inv h
      refine x_calli (x_runS (As := [.int a2]) (rest := []) X hP hS (c_X7_isNoLane l g X.2.2.2.2.1 a2 t_6 hc_12) ⟨wd_802, wd_800, wd_801, wd_54⟩ hd_X7_isNoLane ⟨by omega, by decide⟩ rfl hl.1 rfl (Nat.le_of_ble_eq_true rfl) dX7_seen_22) hS (fun H locs hP hS => ?_)
      refine lv_if_ne (tgt := 49) X.1.1 X.1.2.1 dX7_seen_25 (by decide) (fun c_15 => ?_) (fun c_15 => ?_)
      · have h := o_neg c_15 h
        refine lv_iconst (v := (-1)) X.1.1 X.1.2.1 dX7_seen_49 (by decide) ?_
        obtain ⟨rfl, rfl⟩ := o_ret2 h
        exact x_iret X hP hS dX7_seen_50
      · have h := o_pos c_15 h
        refine lv_iload X.1.1 X.1.2.1 dX7_seen_28 (lv_at hl 5 rfl) ?_
        refine lv_iconst (v := 1) X.1.1 X.1.2.1 dX7_seen_30 (by decide) ?_
        refine lv_bipush (v := 8) X.1.1 X.1.2.1 dX7_seen_31 (by decide) ?_
        obtain ⟨⟨r_18, t_16⟩, hc_17, h⟩ := o_bd_inv h
        refine x_calli (x_runS (As := [.int a4, .int 1, .int 8]) (rest := []) X hP hS (c_X7_isOutside l g X.2.2.2.2.1 a4 1 8 t_11 hc_17) ⟨wd_318, wd_316, wd_317, wd_54⟩ hd_X7_isOutside ⟨by omega, by decide⟩ rfl hl.1 rfl (Nat.le_of_ble_eq_true rfl) dX7_seen_33) hS (fun H locs hP hS => ?_)
        refine lv_if_ne (tgt := 49) X.1.1 X.1.2.1 dX7_seen_36 (by decide) (fun c_20 => ?_) (fun c_20 => ?_)
        · have h := o_neg c_20 h
          refine lv_iconst (v := (-1)) X.1.1 X.1.2.1 dX7_seen_49 (by decide) ?_
          obtain ⟨rfl, rfl⟩ := o_ret2 h
          exact x_iret X hP hS dX7_seen_50
        · have h := o_pos c_20 h
          refine lv_iload X.1.1 X.1.2.1 dX7_seen_39 (lv_at hl 6 rfl) ?_
          refine lv_iconst (v := 0) X.1.1 X.1.2.1 dX7_seen_41 (by decide) ?_
          refine lv_iconst (v := 2) X.1.1 X.1.2.1 dX7_seen_42 (by decide) ?_
          obtain ⟨⟨r_23, t_21⟩, hc_22, h⟩ := o_bd_inv h
          refine x_calli (x_runS (As := [.int a5, .int 0, .int 2]) (rest := []) X hP hS (c_X7_isOutside l g X.2.2.2.2.1 a5 0 2 t_16 hc_22) ⟨wd_318, wd_316, wd_317, wd_54⟩ hd_X7_isOutside ⟨by omega, by decide⟩ rfl hl.1 rfl (Nat.le_of_ble_eq_true rfl) dX7_seen_43) hS (fun H locs hP hS => ?_)
          refine lv_if_eq (tgt := 51) X.1.1 X.1.2.1 dX7_seen_46 (by decide) (fun c_25 => ?_) (fun c_25 => ?_)
          · have h := o_pos c_25 h
            refine lv_aload_n X.1.1 X.1.2.1 dX7_seen_51 rfl (lv_at hl 0 rfl) ?_
            refine gt_X7_7 X hP (kyO (by decide)) wd_294 dX7_seen_52 ?_
            refine lv_iload_n X.1.1 X.1.2.1 dX7_seen_55 rfl (lv_at hl 2 rfl) ?_
            obtain ⟨g_26, h⟩ := o_gd_inv h
            have := o_inb_lt g_26
            refine x_aald (ti := 4) X hP (kyO (by decide)) rfl rfl g_26 rfl dX7_seen_56 ?_
            refine lv_astore (lv' := [(7, .ref (g.2.2 (2, (a1.toNatClampNeg), 0))), (0, .ref (g.2.2 (3, 0, 0))), (1, .int a0), (2, .int a1), (3, .int a2), (4, .int a3), (5, .int a4), (6, .int a5)]) X.1.1 X.1.2.1 dX7_seen_57 hl (by decide) rfl (fun ls hl => ?_)
            refine lv_aload X.1.1 X.1.2.1 dX7_seen_59 (lv_at hl 0 rfl) ?_
            refine lv_iload_n X.1.1 X.1.2.1 dX7_seen_61 rfl (lv_at hl 4 rfl) ?_
            refine lv_iload X.1.1 X.1.2.1 dX7_seen_62 (lv_at hl 5 rfl) ?_
            refine lv_iload X.1.1 X.1.2.1 dX7_seen_64 (lv_at hl 6 rfl) ?_
            obtain ⟨⟨r_29, t_27⟩, hc_28, h⟩ := o_bd_inv h
            refine x_calli (x_runV (As := [.int a2, .int a3, .int a4]) (rest := []) X hP hS (c_X3_refusal l g (a1.toNatClampNeg) X.2.2.2.2.1 (by omega) a2 a3 a4 t_21 hc_28) ⟨wd_806, wd_803, wd_804, wd_805, wd_61⟩ hd_X3_refusal ⟨by omega, by decide⟩ (x_recv X hP (ci := 3) rfl (kyH (by omega) (by decide)) rfl) rfl hl.1 rfl (Nat.le_of_ble_eq_true rfl) dX7_seen_66) hS (fun H locs hP hS => ?_)
            refine lv_istore (lv' := [(8, .int r_29), (7, .ref (g.2.2 (2, (a1.toNatClampNeg), 0))), (0, .ref (g.2.2 (3, 0, 0))), (1, .int a0), (2, .int a1), (3, .int a2), (4, .int a3), (5, .int a4), (6, .int a5)]) X.1.1 X.1.2.1 dX7_seen_69 hl (by decide) rfl (fun ls hl => ?_)
            refine lv_iload X.1.1 X.1.2.1 dX7_seen_71 (lv_at hl 0 rfl) ?_
            refine lv_if_eq (tgt := 79) X.1.1 X.1.2.1 dX7_seen_73 (by decide) (fun c_31 => ?_) (fun c_31 => ?_)
            · have h := o_pos c_31 h
              refine lv_iload X.1.1 X.1.2.1 dX7_seen_79 (lv_at hl 8 rfl) ?_
              refine lv_if_ne (tgt := 106) X.1.1 X.1.2.1 dX7_seen_81 (by decide) (fun c_32 => ?_) (fun c_32 => ?_)
              · have h := o_neg c_32 h
                refine lv_aload_n X.1.1 X.1.2.1 dX7_seen_106 rfl (lv_at hl 2 rfl) ?_
                refine gt_X7_5 X hP (kyO (by decide)) wd_292 dX7_seen_107 ?_
                refine lv_aload_n X.1.1 X.1.2.1 dX7_seen_110 rfl (lv_at hl 2 rfl) ?_
                refine gt_X7_0 X hP (kyO (by decide)) wd_287 dX7_seen_111 ?_
                refine gtN_X4_0 X hP (kyS (by omega) (by decide)) wd_160 dX7_seen_114 ?_
                refine lv_iload_n X.1.1 X.1.2.1 dX7_seen_117 rfl (lv_at hl 3 rfl) ?_
                refine lv_aload X.1.1 X.1.2.1 dX7_seen_118 (lv_at hl 1 rfl) ?_
                refine lv_iload X.1.1 X.1.2.1 dX7_seen_120 (lv_at hl 6 rfl) ?_
                refine lv_iload X.1.1 X.1.2.1 dX7_seen_122 (lv_at hl 7 rfl) ?_
                obtain ⟨t_33, hc_34, h⟩ := o_bd_inv h
                refine x_callv (x_runV (As := [.ref (g.2.2 (0, (9 * 0), 0)), .int a0, .ref (g.2.2 (2, (a1.toNatClampNeg), 0)), .int a3, .int a4]) (rest := []) X hP hS (c_X1_seekKnowledge l g N (9 * 0) (a1.toNatClampNeg) X.2.2.2.2.1 (by omega) (by omega) a0 a3 a4 t_27 hc_34) ⟨wd_826, wd_823, wd_824, wd_825, wd_59⟩ hd_X1_seekKnowledge ⟨by omega, by decide⟩ (x_recv X hP (ci := 1) rfl (kyO (by decide)) rfl) rfl hl.1 rfl (Nat.le_of_ble_eq_true rfl) dX7_seen_124) hS (fun H locs hP hS => ?_)
                refine lv_iload X.1.1 X.1.2.1 dX7_seen_127 (lv_at hl 8 rfl) ?_
                refine lv_iconst (v := 1) X.1.1 X.1.2.1 dX7_seen_129 (by decide) ?_
                refine lv_icmp_ne (tgt := 143) X.1.1 X.1.2.1 dX7_seen_130 (by decide) (fun c_35 => ?_) (fun c_35 => ?_)
                · have h := o_neg c_35 h
                  refine lv_aload_n X.1.1 X.1.2.1 dX7_seen_143 rfl (lv_at hl 2 rfl) ?_
                  refine gt_X7_5 X hP (kyO (by decide)) wd_292 dX7_seen_144 ?_
                  refine gtN_X1_1 X hP (kyO (by decide)) wd_221 dX7_seen_147 ?_
                  obtain ⟨rfl, rfl⟩ := o_ret2 h
                  exact x_iret X hP hS dX7_seen_150
                · have h := o_pos c_35 h
                  refine lv_aload_n X.1.1 X.1.2.1 dX7_seen_133 rfl (lv_at hl 2 rfl) ?_
                  refine gt_X7_5 X hP (kyO (by decide)) wd_292 dX7_seen_134 ?_
                  refine gtN_X1_3 X hP (kyO (by decide)) wd_225 dX7_seen_137 ?_
                  refine lv_goto (tgt := 150) X.1.1 X.1.2.1 dX7_seen_140 (by decide) ?_
                  obtain ⟨rfl, rfl⟩ := o_ret2 h
                  exact x_iret X hP hS dX7_seen_150
              · have h := o_pos c_32 h
                refine lv_aload_n X.1.1 X.1.2.1 dX7_seen_84 rfl (lv_at hl 2 rfl) ?_
                refine gt_X7_5 X hP (kyO (by decide)) wd_292 dX7_seen_85 ?_
                refine lv_aload_n X.1.1 X.1.2.1 dX7_seen_88 rfl (lv_at hl 2 rfl) ?_
                refine gt_X7_0 X hP (kyO (by decide)) wd_287 dX7_seen_89 ?_
                refine gtN_X4_0 X hP (kyS (by omega) (by decide)) wd_160 dX7_seen_92 ?_
                refine lv_iload_n X.1.1 X.1.2.1 dX7_seen_95 rfl (lv_at hl 3 rfl) ?_
                refine lv_aload X.1.1 X.1.2.1 dX7_seen_96 (lv_at hl 1 rfl) ?_
                refine lv_iload X.1.1 X.1.2.1 dX7_seen_98 (lv_at hl 6 rfl) ?_
                refine lv_iload X.1.1 X.1.2.1 dX7_seen_100 (lv_at hl 7 rfl) ?_
                obtain ⟨⟨r_38, t_36⟩, hc_37, h⟩ := o_bd_inv h
                refine x_calli (x_runV (As := [.ref (g.2.2 (0, (9 * 0), 0)), .int a0, .ref (g.2.2 (2, (a1.toNatClampNeg), 0)), .int a3, .int a4]) (rest := []) X hP hS (c_X1_kindsThatFit l g N (9 * 0) (a1.toNatClampNeg) X.2.2.2.2.1 (by omega) (by omega) a0 a3 a4 t_27 hc_37) ⟨wd_818, wd_815, wd_816, wd_817, wd_59⟩ hd_X1_kindsThatFit ⟨by omega, by decide⟩ (x_recv X hP (ci := 1) rfl (kyO (by decide)) rfl) rfl hl.1 rfl (Nat.le_of_ble_eq_true rfl) dX7_seen_102) hS (fun H locs hP hS => ?_)
                obtain ⟨rfl, rfl⟩ := o_ret2 h
                exact x_iret X hP hS dX7_seen_105
            · have h := o_neg c_31 h
              refine lv_iload X.1.1 X.1.2.1 dX7_seen_76 (lv_at hl 0 rfl) ?_
              obtain ⟨rfl, rfl⟩ := o_ret2 h
              exact x_iret X hP hS dX7_seen_78
          · have h := o_neg c_25 h
            refine lv_iconst (v := (-1)) X.1.1 X.1.2.1 dX7_seen_49 (by decide) ?_
            obtain ⟨rfl, rfl⟩ := o_ret2 h
            exact x_iret X hP hS dX7_seen_50
/-- FordQuestions.film(IIII)I -/
def f_X7_film (N : Nat) (a0 : Int32) (a1 : Int32) (a2 : Int32) (a3 : Int32) (t : Mm) : Option (Int32 × Mm) := o_bd (f_X7_isOutside a0 1 24 t) fun (r_3, t_1) => if r_3 = 0 then (o_bd (f_X7_isNoSheet a1 t_1) fun (r_8, t_6) => if r_8 = 0 then (o_bd (f_X7_isNoLane a2 t_6) fun (r_13, t_11) => if r_13 = 0 then (if o_inb a1 4 = true then (o_bd (f_X3_refusal (a1.toNatClampNeg) a2 a3 a0 t_11) fun (r_19, t_17) => if r_19 = 0 then (o_bd (f_X1_writeFilm N (9 * 0) (a1.toNatClampNeg) a3 a0 t_17) fun t_22 => some (a0, t_22)) else (some (r_19, t_17))) else none) else (some ((-1), t_11))) else (some ((-1), t_6))) else (some ((-1), t_1))
theorem hd_X7_film : x_hd yX7_film 4 := by decide +kernel
set_option maxRecDepth 100000 in
set_option maxHeartbeats 4000000 in
theorem c_X7_film (l : Launch) (g : Ly) (N : Nat) (hG : XG shC g) (a0 : Int32) (a1 : Int32) (a2 : Int32) (a3 : Int32) (t : Mm) {r : Int32} {t' : Mm} (h : f_X7_film N a0 a1 a2 a3 t = some (r, t')) : MI l yX7_film cX7_film 7 (some .int) 7 shC g [.ref (g.2.2 (3, 0, 0)), .int a0, .int a1, .int a2, .int a3] t (XQi shC g r t') := by
  refine x_met hG (by decide +kernel) (Nat.le_of_ble_eq_true rfl) ?_
  intro p e s m below meth c ls X hP hl
  have hS : va_S (XA shC g) s.heap s.heap [] := va_S.rf
  have hl : lv_has ls 7 [(0, .ref (g.2.2 (3, 0, 0))), (1, .int a0), (2, .int a1), (3, .int a2), (4, .int a3)] := hl
  unfold f_X7_film at h
  generalize ([.ref (g.2.2 (3, 0, 0)), .int a0, .int a1, .int a2, .int a3] : List Value).toArray = args at X ⊢
  refine lv_iload_n X.1.1 X.1.2.1 dX7_film_0 rfl (lv_at hl 1 rfl) ?_
  refine lv_iconst (v := 1) X.1.1 X.1.2.1 dX7_film_1 (by decide) ?_
  refine lv_bipush (v := 24) X.1.1 X.1.2.1 dX7_film_2 (by decide) ?_
  obtain ⟨⟨r_3, t_1⟩, hc_2, h⟩ := o_bd_inv h
  refine x_calli (x_runS (As := [.int a0, .int 1, .int 24]) (rest := []) X hP hS (c_X7_isOutside l g X.2.2.2.2.1 a0 1 24 t hc_2) ⟨wd_318, wd_316, wd_317, wd_54⟩ hd_X7_isOutside ⟨by omega, by decide⟩ rfl hl.1 rfl (Nat.le_of_ble_eq_true rfl) dX7_film_4) hS (fun H locs hP hS => ?_)
  refine lv_if_ne (tgt := 24) X.1.1 X.1.2.1 dX7_film_7 (by decide) (fun c_5 => ?_) (fun c_5 => ?_)
  · have h := o_neg c_5 h
    refine lv_iconst (v := (-1)) X.1.1 X.1.2.1 dX7_film_24 (by decide) ?_
    obtain ⟨rfl, rfl⟩ := o_ret2 h
    exact x_iret X hP hS dX7_film_25
  · have h := o_pos c_5 h
    refine lv_iload_n X.1.1 X.1.2.1 dX7_film_10 rfl (lv_at hl 2 rfl) ?_
    obtain ⟨⟨r_8, t_6⟩, hc_7, h⟩ := o_bd_inv h
    refine x_calli (x_runS (As := [.int a1]) (rest := []) X hP hS (c_X7_isNoSheet l g X.2.2.2.2.1 a1 t_1 hc_7) ⟨wd_799, wd_797, wd_798, wd_54⟩ hd_X7_isNoSheet ⟨by omega, by decide⟩ rfl hl.1 rfl (Nat.le_of_ble_eq_true rfl) dX7_film_11) hS (fun H locs hP hS => ?_)
    refine lv_if_ne (tgt := 24) X.1.1 X.1.2.1 dX7_film_14 (by decide) (fun c_10 => ?_) (fun c_10 => ?_)
    · have h := o_neg c_10 h
      refine lv_iconst (v := (-1)) X.1.1 X.1.2.1 dX7_film_24 (by decide) ?_
      obtain ⟨rfl, rfl⟩ := o_ret2 h
      exact x_iret X hP hS dX7_film_25
    · have h := o_pos c_10 h
      refine lv_iload_n X.1.1 X.1.2.1 dX7_film_17 rfl (lv_at hl 3 rfl) ?_
      obtain ⟨⟨r_13, t_11⟩, hc_12, h⟩ := o_bd_inv h
      refine x_calli (x_runS (As := [.int a2]) (rest := []) X hP hS (c_X7_isNoLane l g X.2.2.2.2.1 a2 t_6 hc_12) ⟨wd_802, wd_800, wd_801, wd_54⟩ hd_X7_isNoLane ⟨by omega, by decide⟩ rfl hl.1 rfl (Nat.le_of_ble_eq_true rfl) dX7_film_18) hS (fun H locs hP hS => ?_)
      refine lv_if_eq (tgt := 26) X.1.1 X.1.2.1 dX7_film_21 (by decide) (fun c_15 => ?_) (fun c_15 => ?_)
      · have h := o_pos c_15 h
        refine lv_aload_n X.1.1 X.1.2.1 dX7_film_26 rfl (lv_at hl 0 rfl) ?_
        refine gt_X7_7 X hP (kyO (by decide)) wd_294 dX7_film_27 ?_
        refine lv_iload_n X.1.1 X.1.2.1 dX7_film_30 rfl (lv_at hl 2 rfl) ?_
        obtain ⟨g_16, h⟩ := o_gd_inv h
        have := o_inb_lt g_16
        refine x_aald (ti := 4) X hP (kyO (by decide)) rfl rfl g_16 rfl dX7_film_31 ?_
        refine lv_astore (lv' := [(5, .ref (g.2.2 (2, (a1.toNatClampNeg), 0))), (0, .ref (g.2.2 (3, 0, 0))), (1, .int a0), (2, .int a1), (3, .int a2), (4, .int a3)]) X.1.1 X.1.2.1 dX7_film_32 hl (by decide) rfl (fun ls hl => ?_)
        refine lv_aload X.1.1 X.1.2.1 dX7_film_34 (lv_at hl 0 rfl) ?_
        refine lv_iload_n X.1.1 X.1.2.1 dX7_film_36 rfl (lv_at hl 4 rfl) ?_
        refine lv_iload X.1.1 X.1.2.1 dX7_film_37 (lv_at hl 5 rfl) ?_
        refine lv_iload_n X.1.1 X.1.2.1 dX7_film_39 rfl (lv_at hl 2 rfl) ?_
        obtain ⟨⟨r_19, t_17⟩, hc_18, h⟩ := o_bd_inv h
        refine x_calli (x_runV (As := [.int a2, .int a3, .int a0]) (rest := []) X hP hS (c_X3_refusal l g (a1.toNatClampNeg) X.2.2.2.2.1 (by omega) a2 a3 a0 t_11 hc_18) ⟨wd_806, wd_803, wd_804, wd_805, wd_61⟩ hd_X3_refusal ⟨by omega, by decide⟩ (x_recv X hP (ci := 3) rfl (kyH (by omega) (by decide)) rfl) rfl hl.1 rfl (Nat.le_of_ble_eq_true rfl) dX7_film_40) hS (fun H locs hP hS => ?_)
        refine lv_istore (lv' := [(6, .int r_19), (5, .ref (g.2.2 (2, (a1.toNatClampNeg), 0))), (0, .ref (g.2.2 (3, 0, 0))), (1, .int a0), (2, .int a1), (3, .int a2), (4, .int a3)]) X.1.1 X.1.2.1 dX7_film_43 hl (by decide) rfl (fun ls hl => ?_)
        refine lv_iload X.1.1 X.1.2.1 dX7_film_45 (lv_at hl 0 rfl) ?_
        refine lv_if_eq (tgt := 53) X.1.1 X.1.2.1 dX7_film_47 (by decide) (fun c_21 => ?_) (fun c_21 => ?_)
        · have h := o_pos c_21 h
          refine lv_aload_n X.1.1 X.1.2.1 dX7_film_53 rfl (lv_at hl 2 rfl) ?_
          refine gt_X7_5 X hP (kyO (by decide)) wd_292 dX7_film_54 ?_
          refine lv_aload_n X.1.1 X.1.2.1 dX7_film_57 rfl (lv_at hl 2 rfl) ?_
          refine gt_X7_0 X hP (kyO (by decide)) wd_287 dX7_film_58 ?_
          refine gtN_X4_0 X hP (kyS (by omega) (by decide)) wd_160 dX7_film_61 ?_
          refine lv_aload X.1.1 X.1.2.1 dX7_film_64 (lv_at hl 1 rfl) ?_
          refine lv_iload X.1.1 X.1.2.1 dX7_film_66 (lv_at hl 6 rfl) ?_
          refine lv_iload_n X.1.1 X.1.2.1 dX7_film_68 rfl (lv_at hl 3 rfl) ?_
          obtain ⟨t_22, hc_23, h⟩ := o_bd_inv h
          refine x_callv (x_runV (As := [.ref (g.2.2 (0, (9 * 0), 0)), .ref (g.2.2 (2, (a1.toNatClampNeg), 0)), .int a3, .int a0]) (rest := []) X hP hS (c_X1_writeFilm l g N (9 * 0) (a1.toNatClampNeg) X.2.2.2.2.1 (by omega) (by omega) a3 a0 t_17 hc_23) ⟨wd_834, wd_831, wd_832, wd_833, wd_59⟩ hd_X1_writeFilm ⟨by omega, by decide⟩ (x_recv X hP (ci := 1) rfl (kyO (by decide)) rfl) rfl hl.1 rfl (Nat.le_of_ble_eq_true rfl) dX7_film_69) hS (fun H locs hP hS => ?_)
          refine lv_iload_n X.1.1 X.1.2.1 dX7_film_72 rfl (lv_at hl 3 rfl) ?_
          obtain ⟨rfl, rfl⟩ := o_ret2 h
          exact x_iret X hP hS dX7_film_73
        · have h := o_neg c_21 h
          refine lv_iload X.1.1 X.1.2.1 dX7_film_50 (lv_at hl 0 rfl) ?_
          obtain ⟨rfl, rfl⟩ := o_ret2 h
          exact x_iret X hP hS dX7_film_52
      · have h := o_neg c_15 h
        refine lv_iconst (v := (-1)) X.1.1 X.1.2.1 dX7_film_24 (by decide) ?_
        obtain ⟨rfl, rfl⟩ := o_ret2 h
        exact x_iret X hP hS dX7_film_25
/-- FordQuestions.sheet(III)I -/
def f_X7_sheet (N : Nat) (a0 : Int32) (a1 : Int32) (a2 : Int32) (t : Mm) : Option (Int32 × Mm) := o_bd (f_X7_isNoSheet a0 t) fun (r_3, t_1) => if r_3 = 0 then (o_bd (f_X7_isNoLane a1 t_1) fun (r_8, t_6) => if r_8 = 0 then (if a2 ≤ 24 then (if 0 ≤ a2 then (if o_inb a0 4 = true then (o_bd (f_X3_begin N (a0.toNatClampNeg) a1 a2 t_6) fun t_14 => some (a2, t_14)) else none) else (some ((-14), t_6))) else (some ((-1), t_6))) else (some ((-1), t_6))) else (some ((-1), t_1))
theorem hd_X7_sheet : x_hd yX7_sheet 3 := by decide +kernel
set_option maxRecDepth 100000 in
set_option maxHeartbeats 4000000 in
theorem c_X7_sheet (l : Launch) (g : Ly) (N : Nat) (hG : XG shC g) (a0 : Int32) (a1 : Int32) (a2 : Int32) (t : Mm) {r : Int32} {t' : Mm} (h : f_X7_sheet N a0 a1 a2 t = some (r, t')) : MI l yX7_sheet cX7_sheet 4 (some .int) 3 shC g [.ref (g.2.2 (3, 0, 0)), .int a0, .int a1, .int a2] t (XQi shC g r t') := by
  refine x_met hG (by decide +kernel) (Nat.le_of_ble_eq_true rfl) ?_
  intro p e s m below meth c ls X hP hl
  have hS : va_S (XA shC g) s.heap s.heap [] := va_S.rf
  have hl : lv_has ls 4 [(0, .ref (g.2.2 (3, 0, 0))), (1, .int a0), (2, .int a1), (3, .int a2)] := hl
  unfold f_X7_sheet at h
  generalize ([.ref (g.2.2 (3, 0, 0)), .int a0, .int a1, .int a2] : List Value).toArray = args at X ⊢
  refine lv_iload_n X.1.1 X.1.2.1 dX7_sheet_0 rfl (lv_at hl 1 rfl) ?_
  obtain ⟨⟨r_3, t_1⟩, hc_2, h⟩ := o_bd_inv h
  refine x_calli (x_runS (As := [.int a0]) (rest := []) X hP hS (c_X7_isNoSheet l g X.2.2.2.2.1 a0 t hc_2) ⟨wd_799, wd_797, wd_798, wd_54⟩ hd_X7_isNoSheet ⟨by omega, by decide⟩ rfl hl.1 rfl (Nat.le_of_ble_eq_true rfl) dX7_sheet_1) hS (fun H locs hP hS => ?_)
  refine lv_if_ne (tgt := 20) X.1.1 X.1.2.1 dX7_sheet_4 (by decide) (fun c_5 => ?_) (fun c_5 => ?_)
  · have h := o_neg c_5 h
    refine lv_iconst (v := (-1)) X.1.1 X.1.2.1 dX7_sheet_20 (by decide) ?_
    obtain ⟨rfl, rfl⟩ := o_ret2 h
    exact x_iret X hP hS dX7_sheet_21
  · have h := o_pos c_5 h
    refine lv_iload_n X.1.1 X.1.2.1 dX7_sheet_7 rfl (lv_at hl 2 rfl) ?_
    obtain ⟨⟨r_8, t_6⟩, hc_7, h⟩ := o_bd_inv h
    refine x_calli (x_runS (As := [.int a1]) (rest := []) X hP hS (c_X7_isNoLane l g X.2.2.2.2.1 a1 t_1 hc_7) ⟨wd_802, wd_800, wd_801, wd_54⟩ hd_X7_isNoLane ⟨by omega, by decide⟩ rfl hl.1 rfl (Nat.le_of_ble_eq_true rfl) dX7_sheet_8) hS (fun H locs hP hS => ?_)
    refine lv_if_ne (tgt := 20) X.1.1 X.1.2.1 dX7_sheet_11 (by decide) (fun c_10 => ?_) (fun c_10 => ?_)
    · have h := o_neg c_10 h
      refine lv_iconst (v := (-1)) X.1.1 X.1.2.1 dX7_sheet_20 (by decide) ?_
      obtain ⟨rfl, rfl⟩ := o_ret2 h
      exact x_iret X hP hS dX7_sheet_21
    · have h := o_pos c_10 h
      refine lv_iload_n X.1.1 X.1.2.1 dX7_sheet_14 rfl (lv_at hl 3 rfl) ?_
      refine lv_bipush (v := 24) X.1.1 X.1.2.1 dX7_sheet_15 (by decide) ?_
      refine lv_icmp_le (tgt := 22) X.1.1 X.1.2.1 dX7_sheet_17 (by decide) (fun c_11 => ?_) (fun c_11 => ?_)
      · have h := o_pos c_11 h
        refine lv_iload_n X.1.1 X.1.2.1 dX7_sheet_22 rfl (lv_at hl 3 rfl) ?_
        refine lv_if_ge (tgt := 29) X.1.1 X.1.2.1 dX7_sheet_23 (by decide) (fun c_12 => ?_) (fun c_12 => ?_)
        · have h := o_pos c_12 h
          refine lv_aload_n X.1.1 X.1.2.1 dX7_sheet_29 rfl (lv_at hl 0 rfl) ?_
          refine gt_X7_7 X hP (kyO (by decide)) wd_294 dX7_sheet_30 ?_
          refine lv_iload_n X.1.1 X.1.2.1 dX7_sheet_33 rfl (lv_at hl 1 rfl) ?_
          obtain ⟨g_13, h⟩ := o_gd_inv h
          have := o_inb_lt g_13
          refine x_aald (ti := 4) X hP (kyO (by decide)) rfl rfl g_13 rfl dX7_sheet_34 ?_
          refine lv_iload_n X.1.1 X.1.2.1 dX7_sheet_35 rfl (lv_at hl 2 rfl) ?_
          refine lv_iload_n X.1.1 X.1.2.1 dX7_sheet_36 rfl (lv_at hl 3 rfl) ?_
          obtain ⟨t_14, hc_15, h⟩ := o_bd_inv h
          refine x_callv (x_runV (As := [.int a1, .int a2]) (rest := []) X hP hS (c_X3_begin l g N (a0.toNatClampNeg) X.2.2.2.2.1 (by omega) a1 a2 t_6 hc_15) ⟨wd_850, wd_847, wd_848, wd_849, wd_61⟩ hd_X3_begin ⟨by omega, by decide⟩ (x_recv X hP (ci := 3) rfl (kyH (by omega) (by decide)) rfl) rfl hl.1 rfl (Nat.le_of_ble_eq_true rfl) dX7_sheet_37) hS (fun H locs hP hS => ?_)
          refine lv_iload_n X.1.1 X.1.2.1 dX7_sheet_40 rfl (lv_at hl 3 rfl) ?_
          obtain ⟨rfl, rfl⟩ := o_ret2 h
          exact x_iret X hP hS dX7_sheet_41
        · have h := o_neg c_12 h
          refine lv_bipush (v := (-14)) X.1.1 X.1.2.1 dX7_sheet_26 (by decide) ?_
          obtain ⟨rfl, rfl⟩ := o_ret2 h
          exact x_iret X hP hS dX7_sheet_28
      · have h := o_neg c_11 h
        refine lv_iconst (v := (-1)) X.1.1 X.1.2.1 dX7_sheet_20 (by decide) ?_
        obtain ⟨rfl, rfl⟩ := o_ret2 h
        exact x_iret X hP hS dX7_sheet_21
/-- FordQuestions.drop(I)I -/
def f_X7_drop (a0 : Int32) (t : Mm) : Option (Int32 × Mm) := o_bd (f_X7_isNoSheet a0 t) fun (r_3, t_1) => if r_3 = 0 then (if o_inb a0 4 = true then (o_bd (f_X3_isMissing (a0.toNatClampNeg) t_1) fun (r_9, t_7) => if r_9 = 0 then (if o_inb a0 4 = true then (o_bd (f_X3_end (a0.toNatClampNeg) t_7) fun (r_15, t_13) => some (r_15, t_13)) else none) else (some ((-11), t_7))) else none) else (some ((-1), t_1))
theorem hd_X7_drop : x_hd yX7_drop 1 := by decide +kernel
set_option maxRecDepth 100000 in
set_option maxHeartbeats 4000000 in
theorem c_X7_drop (l : Launch) (g : Ly) (hG : XG shC g) (a0 : Int32) (t : Mm) {r : Int32} {t' : Mm} (h : f_X7_drop a0 t = some (r, t')) : MI l yX7_drop cX7_drop 2 (some .int) 3 shC g [.ref (g.2.2 (3, 0, 0)), .int a0] t (XQi shC g r t') := by
  refine x_met hG (by decide +kernel) (Nat.le_of_ble_eq_true rfl) ?_
  intro p e s m below meth c ls X hP hl
  have hS : va_S (XA shC g) s.heap s.heap [] := va_S.rf
  have hl : lv_has ls 2 [(0, .ref (g.2.2 (3, 0, 0))), (1, .int a0)] := hl
  unfold f_X7_drop at h
  generalize ([.ref (g.2.2 (3, 0, 0)), .int a0] : List Value).toArray = args at X ⊢
  refine lv_iload_n X.1.1 X.1.2.1 dX7_drop_0 rfl (lv_at hl 1 rfl) ?_
  obtain ⟨⟨r_3, t_1⟩, hc_2, h⟩ := o_bd_inv h
  refine x_calli (x_runS (As := [.int a0]) (rest := []) X hP hS (c_X7_isNoSheet l g X.2.2.2.2.1 a0 t hc_2) ⟨wd_799, wd_797, wd_798, wd_54⟩ hd_X7_isNoSheet ⟨by omega, by decide⟩ rfl hl.1 rfl (Nat.le_of_ble_eq_true rfl) dX7_drop_1) hS (fun H locs hP hS => ?_)
  refine lv_if_eq (tgt := 9) X.1.1 X.1.2.1 dX7_drop_4 (by decide) (fun c_5 => ?_) (fun c_5 => ?_)
  · have h := o_pos c_5 h
    refine lv_aload_n X.1.1 X.1.2.1 dX7_drop_9 rfl (lv_at hl 0 rfl) ?_
    refine gt_X7_7 X hP (kyO (by decide)) wd_294 dX7_drop_10 ?_
    refine lv_iload_n X.1.1 X.1.2.1 dX7_drop_13 rfl (lv_at hl 1 rfl) ?_
    obtain ⟨g_6, h⟩ := o_gd_inv h
    have := o_inb_lt g_6
    refine x_aald (ti := 4) X hP (kyO (by decide)) rfl rfl g_6 rfl dX7_drop_14 ?_
    obtain ⟨⟨r_9, t_7⟩, hc_8, h⟩ := o_bd_inv h
    refine x_calli (x_runV (As := []) (rest := []) X hP hS (c_X3_isMissing l g (a0.toNatClampNeg) X.2.2.2.2.1 (by omega) t_1 hc_8) ⟨wd_810, wd_858, wd_808, wd_809, wd_61⟩ hd_X3_isMissing ⟨by omega, by decide⟩ (x_recv X hP (ci := 3) rfl (kyH (by omega) (by decide)) rfl) rfl hl.1 rfl (Nat.le_of_ble_eq_true rfl) dX7_drop_15) hS (fun H locs hP hS => ?_)
    refine lv_if_eq (tgt := 24) X.1.1 X.1.2.1 dX7_drop_18 (by decide) (fun c_11 => ?_) (fun c_11 => ?_)
    · have h := o_pos c_11 h
      refine lv_aload_n X.1.1 X.1.2.1 dX7_drop_24 rfl (lv_at hl 0 rfl) ?_
      refine gt_X7_7 X hP (kyO (by decide)) wd_294 dX7_drop_25 ?_
      refine lv_iload_n X.1.1 X.1.2.1 dX7_drop_28 rfl (lv_at hl 1 rfl) ?_
      obtain ⟨g_12, h⟩ := o_gd_inv h
      have := o_inb_lt g_12
      refine x_aald (ti := 4) X hP (kyO (by decide)) rfl rfl g_12 rfl dX7_drop_29 ?_
      obtain ⟨⟨r_15, t_13⟩, hc_14, h⟩ := o_bd_inv h
      refine x_calli (x_runV (As := []) (rest := []) X hP hS (c_X3_end l g (a0.toNatClampNeg) X.2.2.2.2.1 (by omega) t_7 hc_14) ⟨wd_862, wd_859, wd_860, wd_861, wd_61⟩ hd_X3_end ⟨by omega, by decide⟩ (x_recv X hP (ci := 3) rfl (kyH (by omega) (by decide)) rfl) rfl hl.1 rfl (Nat.le_of_ble_eq_true rfl) dX7_drop_30) hS (fun H locs hP hS => ?_)
      obtain ⟨rfl, rfl⟩ := o_ret2 h
      exact x_iret X hP hS dX7_drop_33
    · have h := o_neg c_11 h
      refine lv_bipush (v := (-11)) X.1.1 X.1.2.1 dX7_drop_21 (by decide) ?_
      obtain ⟨rfl, rfl⟩ := o_ret2 h
      exact x_iret X hP hS dX7_drop_23
  · have h := o_neg c_5 h
    refine lv_iconst (v := (-1)) X.1.1 X.1.2.1 dX7_drop_7 (by decide) ?_
    obtain ⟨rfl, rfl⟩ := o_ret2 h
    exact x_iret X hP hS dX7_drop_8
/-- FordQuestions.item(IIIJ)I -/
def f_X7_item (a0 : Int32) (a1 : Int32) (a2 : Int32) (a3 : Int64) (t : Mm) : Option (Int32 × Mm) := o_bd (f_X7_isNoSheet a0 t) fun (r_3, t_1) => if r_3 = 0 then (o_bd (f_X7_isNoLane a1 t_1) fun (r_8, t_6) => if r_8 = 0 then (if o_inb a0 4 = true then (o_bd (f_X3_refusal (a0.toNatClampNeg) a1 a2 1 t_6) fun (r_14, t_12) => if r_14 = 0 then (if o_inb a0 4 = true then (o_bd (f_X3_write (a0.toNatClampNeg) a2 a3 t_12) fun t_18 => some (1, t_18)) else none) else (some (r_14, t_12))) else none) else (some ((-1), t_6))) else (some ((-1), t_1))
theorem hd_X7_item : x_hd yX7_item 4 := by decide +kernel
set_option maxRecDepth 100000 in
set_option maxHeartbeats 4000000 in
theorem c_X7_item (l : Launch) (g : Ly) (hG : XG shC g) (a0 : Int32) (a1 : Int32) (a2 : Int32) (a3 : Int64) (t : Mm) {r : Int32} {t' : Mm} (h : f_X7_item a0 a1 a2 a3 t = some (r, t')) : MI l yX7_item cX7_item 7 (some .int) 3 shC g [.ref (g.2.2 (3, 0, 0)), .int a0, .int a1, .int a2, .long a3] t (XQi shC g r t') := by
  refine x_met hG (by decide +kernel) (Nat.le_of_ble_eq_true rfl) ?_
  intro p e s m below meth c ls X hP hl
  have hS : va_S (XA shC g) s.heap s.heap [] := va_S.rf
  have hl : lv_has ls 7 [(0, .ref (g.2.2 (3, 0, 0))), (1, .int a0), (2, .int a1), (3, .int a2), (4, .long a3)] := hl
  unfold f_X7_item at h
  generalize ([.ref (g.2.2 (3, 0, 0)), .int a0, .int a1, .int a2, .long a3] : List Value).toArray = args at X ⊢
  refine lv_iload_n X.1.1 X.1.2.1 dX7_item_0 rfl (lv_at hl 1 rfl) ?_
  obtain ⟨⟨r_3, t_1⟩, hc_2, h⟩ := o_bd_inv h
  refine x_calli (x_runS (As := [.int a0]) (rest := []) X hP hS (c_X7_isNoSheet l g X.2.2.2.2.1 a0 t hc_2) ⟨wd_799, wd_797, wd_798, wd_54⟩ hd_X7_isNoSheet ⟨by omega, by decide⟩ rfl hl.1 rfl (Nat.le_of_ble_eq_true rfl) dX7_item_1) hS (fun H locs hP hS => ?_)
  refine lv_if_ne (tgt := 14) X.1.1 X.1.2.1 dX7_item_4 (by decide) (fun c_5 => ?_) (fun c_5 => ?_)
  · have h := o_neg c_5 h
    refine lv_iconst (v := (-1)) X.1.1 X.1.2.1 dX7_item_14 (by decide) ?_
    obtain ⟨rfl, rfl⟩ := o_ret2 h
    exact x_iret X hP hS dX7_item_15
  · have h := o_pos c_5 h
    refine lv_iload_n X.1.1 X.1.2.1 dX7_item_7 rfl (lv_at hl 2 rfl) ?_
    obtain ⟨⟨r_8, t_6⟩, hc_7, h⟩ := o_bd_inv h
    refine x_calli (x_runS (As := [.int a1]) (rest := []) X hP hS (c_X7_isNoLane l g X.2.2.2.2.1 a1 t_1 hc_7) ⟨wd_802, wd_800, wd_801, wd_54⟩ hd_X7_isNoLane ⟨by omega, by decide⟩ rfl hl.1 rfl (Nat.le_of_ble_eq_true rfl) dX7_item_8) hS (fun H locs hP hS => ?_)
    refine lv_if_eq (tgt := 16) X.1.1 X.1.2.1 dX7_item_11 (by decide) (fun c_10 => ?_) (fun c_10 => ?_)
    · have h := o_pos c_10 h
      refine lv_aload_n X.1.1 X.1.2.1 dX7_item_16 rfl (lv_at hl 0 rfl) ?_
      refine gt_X7_7 X hP (kyO (by decide)) wd_294 dX7_item_17 ?_
      refine lv_iload_n X.1.1 X.1.2.1 dX7_item_20 rfl (lv_at hl 1 rfl) ?_
      obtain ⟨g_11, h⟩ := o_gd_inv h
      have := o_inb_lt g_11
      refine x_aald (ti := 4) X hP (kyO (by decide)) rfl rfl g_11 rfl dX7_item_21 ?_
      refine lv_iload_n X.1.1 X.1.2.1 dX7_item_22 rfl (lv_at hl 2 rfl) ?_
      refine lv_iload_n X.1.1 X.1.2.1 dX7_item_23 rfl (lv_at hl 3 rfl) ?_
      refine lv_iconst (v := 1) X.1.1 X.1.2.1 dX7_item_24 (by decide) ?_
      obtain ⟨⟨r_14, t_12⟩, hc_13, h⟩ := o_bd_inv h
      refine x_calli (x_runV (As := [.int a1, .int a2, .int 1]) (rest := []) X hP hS (c_X3_refusal l g (a0.toNatClampNeg) X.2.2.2.2.1 (by omega) a1 a2 1 t_6 hc_13) ⟨wd_806, wd_803, wd_804, wd_805, wd_61⟩ hd_X3_refusal ⟨by omega, by decide⟩ (x_recv X hP (ci := 3) rfl (kyH (by omega) (by decide)) rfl) rfl hl.1 rfl (Nat.le_of_ble_eq_true rfl) dX7_item_25) hS (fun H locs hP hS => ?_)
      refine lv_istore (lv' := [(6, .int r_14), (0, .ref (g.2.2 (3, 0, 0))), (1, .int a0), (2, .int a1), (3, .int a2), (4, .long a3)]) X.1.1 X.1.2.1 dX7_item_28 hl (by decide) rfl (fun ls hl => ?_)
      refine lv_iload X.1.1 X.1.2.1 dX7_item_30 (lv_at hl 0 rfl) ?_
      refine lv_if_eq (tgt := 38) X.1.1 X.1.2.1 dX7_item_32 (by decide) (fun c_16 => ?_) (fun c_16 => ?_)
      · have h := o_pos c_16 h
        refine lv_aload_n X.1.1 X.1.2.1 dX7_item_38 rfl (lv_at hl 1 rfl) ?_
        refine gt_X7_7 X hP (kyO (by decide)) wd_294 dX7_item_39 ?_
        refine lv_iload_n X.1.1 X.1.2.1 dX7_item_42 rfl (lv_at hl 2 rfl) ?_
        obtain ⟨g_17, h⟩ := o_gd_inv h
        have := o_inb_lt g_17
        refine x_aald (ti := 4) X hP (kyO (by decide)) rfl rfl g_17 rfl dX7_item_43 ?_
        refine lv_iload_n X.1.1 X.1.2.1 dX7_item_44 rfl (lv_at hl 4 rfl) ?_
        refine lv_lload X.1.1 X.1.2.1 dX7_item_45 (lv_at hl 5 rfl) ?_
        obtain ⟨t_18, hc_19, h⟩ := o_bd_inv h
        refine x_callv (x_runV (As := [.int a2, .long a3]) (rest := []) X hP hS (c_X3_write l g (a0.toNatClampNeg) X.2.2.2.2.1 (by omega) a2 a3 t_12 hc_19) ⟨wd_838, wd_867, wd_836, wd_837, wd_61⟩ hd_X3_write ⟨by omega, by decide⟩ (x_recv X hP (ci := 3) rfl (kyH (by omega) (by decide)) rfl) rfl hl.1 rfl (Nat.le_of_ble_eq_true rfl) dX7_item_47) hS (fun H locs hP hS => ?_)
        refine lv_iconst (v := 1) X.1.1 X.1.2.1 dX7_item_50 (by decide) ?_
        obtain ⟨rfl, rfl⟩ := o_ret2 h
        exact x_iret X hP hS dX7_item_51
      · have h := o_neg c_16 h
        refine lv_iload X.1.1 X.1.2.1 dX7_item_35 (lv_at hl 0 rfl) ?_
        obtain ⟨rfl, rfl⟩ := o_ret2 h
        exact x_iret X hP hS dX7_item_37
    · have h := o_neg c_10 h
      refine lv_iconst (v := (-1)) X.1.1 X.1.2.1 dX7_item_14 (by decide) ?_
      obtain ⟨rfl, rfl⟩ := o_ret2 h
      exact x_iret X hP hS dX7_item_15
/-- FordQuestions.copy(IIIII)I -/
def f_X7_copy (a0 : Int32) (a1 : Int32) (a2 : Int32) (a3 : Int32) (a4 : Int32) (t : Mm) : Option (Int32 × Mm) := o_bd (f_X7_isNoSheet a0 t) fun (r_3, t_1) => if r_3 = 0 then (o_bd (f_X7_isNoSheet a2 t_1) fun (r_8, t_6) => if r_8 = 0 then (if o_inb a0 4 = true then (if o_inb a2 4 = true then (o_bd (f_X3_isMissing (a0.toNatClampNeg) t_6) fun (r_15, t_13) => if r_15 = 0 then (o_bd (f_X3_isMissing (a2.toNatClampNeg) t_13) fun (r_20, t_18) => if r_20 = 0 then (if (t_18.1 2 (a0.toNatClampNeg) 0 0) = (t_18.1 2 (a2.toNatClampNeg) 0 0) then (o_bd (f_X3_holds (a0.toNatClampNeg) a1 a4 t_18) fun (r_26, t_24) => if r_26 = 0 then (some ((-13), t_24)) else (o_bd (f_X3_holds (a2.toNatClampNeg) a3 a4 t_24) fun (r_31, t_29) => if r_31 = 0 then (some ((-13), t_29)) else (if (decide (¬ a1 < 0) && decide (¬ a3 < 0) && decide (¬ a4 < 0) && decide (a1.toNatClampNeg + a4.toNatClampNeg ≤ 24) && decide (a3.toNatClampNeg + a4.toNatClampNeg ≤ 24)) = true then (o_nm (sL t_29 (a2.toNatClampNeg) (va_cpy (t_29.2 (a0.toNatClampNeg)) (t_29.2 (a2.toNatClampNeg)) a1.toNatClampNeg a3.toNatClampNeg a4.toNatClampNeg)) fun t_35 => some (a4, t_35)) else none))) else (some ((-12), t_18))) else (some ((-11), t_18))) else (some ((-11), t_13))) else none) else none) else (some ((-1), t_6))) else (some ((-1), t_1))
theorem hd_X7_copy : x_hd yX7_copy 5 := by decide +kernel
set_option maxRecDepth 100000 in
set_option maxHeartbeats 4000000 in
theorem c_X7_copy (l : Launch) (g : Ly) (hG : XG shC g) (a0 : Int32) (a1 : Int32) (a2 : Int32) (a3 : Int32) (a4 : Int32) (t : Mm) {r : Int32} {t' : Mm} (h : f_X7_copy a0 a1 a2 a3 a4 t = some (r, t')) : MI l yX7_copy cX7_copy 8 (some .int) 3 shC g [.ref (g.2.2 (3, 0, 0)), .int a0, .int a1, .int a2, .int a3, .int a4] t (XQi shC g r t') := by
  refine x_met hG (by decide +kernel) (Nat.le_of_ble_eq_true rfl) ?_
  intro p e s m below meth c ls X hP hl
  have hS : va_S (XA shC g) s.heap s.heap [] := va_S.rf
  have hl : lv_has ls 8 [(0, .ref (g.2.2 (3, 0, 0))), (1, .int a0), (2, .int a1), (3, .int a2), (4, .int a3), (5, .int a4)] := hl
  unfold f_X7_copy at h
  generalize ([.ref (g.2.2 (3, 0, 0)), .int a0, .int a1, .int a2, .int a3, .int a4] : List Value).toArray = args at X ⊢
  refine lv_iload_n X.1.1 X.1.2.1 dX7_copy_0 rfl (lv_at hl 1 rfl) ?_
  obtain ⟨⟨r_3, t_1⟩, hc_2, h⟩ := o_bd_inv h
  refine x_calli (x_runS (As := [.int a0]) (rest := []) X hP hS (c_X7_isNoSheet l g X.2.2.2.2.1 a0 t hc_2) ⟨wd_799, wd_797, wd_798, wd_54⟩ hd_X7_isNoSheet ⟨by omega, by decide⟩ rfl hl.1 rfl (Nat.le_of_ble_eq_true rfl) dX7_copy_1) hS (fun H locs hP hS => ?_)
  refine lv_if_ne (tgt := 14) X.1.1 X.1.2.1 dX7_copy_4 (by decide) (fun c_5 => ?_) (fun c_5 => ?_)
  · have h := o_neg c_5 h
    refine lv_iconst (v := (-1)) X.1.1 X.1.2.1 dX7_copy_14 (by decide) ?_
    obtain ⟨rfl, rfl⟩ := o_ret2 h
    exact x_iret X hP hS dX7_copy_15
  · have h := o_pos c_5 h
    refine lv_iload_n X.1.1 X.1.2.1 dX7_copy_7 rfl (lv_at hl 3 rfl) ?_
    obtain ⟨⟨r_8, t_6⟩, hc_7, h⟩ := o_bd_inv h
    refine x_calli (x_runS (As := [.int a2]) (rest := []) X hP hS (c_X7_isNoSheet l g X.2.2.2.2.1 a2 t_1 hc_7) ⟨wd_799, wd_797, wd_798, wd_54⟩ hd_X7_isNoSheet ⟨by omega, by decide⟩ rfl hl.1 rfl (Nat.le_of_ble_eq_true rfl) dX7_copy_8) hS (fun H locs hP hS => ?_)
    refine lv_if_eq (tgt := 16) X.1.1 X.1.2.1 dX7_copy_11 (by decide) (fun c_10 => ?_) (fun c_10 => ?_)
    · have h := o_pos c_10 h
      refine lv_aload_n X.1.1 X.1.2.1 dX7_copy_16 rfl (lv_at hl 0 rfl) ?_
      refine gt_X7_7 X hP (kyO (by decide)) wd_294 dX7_copy_17 ?_
      refine lv_iload_n X.1.1 X.1.2.1 dX7_copy_20 rfl (lv_at hl 1 rfl) ?_
      obtain ⟨g_11, h⟩ := o_gd_inv h
      have := o_inb_lt g_11
      refine x_aald (ti := 4) X hP (kyO (by decide)) rfl rfl g_11 rfl dX7_copy_21 ?_
      refine lv_astore (lv' := [(6, .ref (g.2.2 (2, (a0.toNatClampNeg), 0))), (0, .ref (g.2.2 (3, 0, 0))), (1, .int a0), (2, .int a1), (3, .int a2), (4, .int a3), (5, .int a4)]) X.1.1 X.1.2.1 dX7_copy_22 hl (by decide) rfl (fun ls hl => ?_)
      refine lv_aload_n X.1.1 X.1.2.1 dX7_copy_24 rfl (lv_at hl 1 rfl) ?_
      refine gt_X7_7 X hP (kyO (by decide)) wd_294 dX7_copy_25 ?_
      refine lv_iload_n X.1.1 X.1.2.1 dX7_copy_28 rfl (lv_at hl 4 rfl) ?_
      obtain ⟨g_12, h⟩ := o_gd_inv h
      have := o_inb_lt g_12
      refine x_aald (ti := 4) X hP (kyO (by decide)) rfl rfl g_12 rfl dX7_copy_29 ?_
      refine lv_astore (lv' := [(7, .ref (g.2.2 (2, (a2.toNatClampNeg), 0))), (6, .ref (g.2.2 (2, (a0.toNatClampNeg), 0))), (0, .ref (g.2.2 (3, 0, 0))), (1, .int a0), (2, .int a1), (3, .int a2), (4, .int a3), (5, .int a4)]) X.1.1 X.1.2.1 dX7_copy_30 hl (by decide) rfl (fun ls hl => ?_)
      refine lv_aload X.1.1 X.1.2.1 dX7_copy_32 (lv_at hl 1 rfl) ?_
      obtain ⟨⟨r_15, t_13⟩, hc_14, h⟩ := o_bd_inv h
      refine x_calli (x_runV (As := []) (rest := []) X hP hS (c_X3_isMissing l g (a0.toNatClampNeg) X.2.2.2.2.1 (by omega) t_6 hc_14) ⟨wd_810, wd_858, wd_808, wd_809, wd_61⟩ hd_X3_isMissing ⟨by omega, by decide⟩ (x_recv X hP (ci := 3) rfl (kyH (by omega) (by decide)) rfl) rfl hl.1 rfl (Nat.le_of_ble_eq_true rfl) dX7_copy_34) hS (fun H locs hP hS => ?_)
      refine lv_if_ne (tgt := 48) X.1.1 X.1.2.1 dX7_copy_37 (by decide) (fun c_17 => ?_) (fun c_17 => ?_)
      · have h := o_neg c_17 h
        refine lv_bipush (v := (-11)) X.1.1 X.1.2.1 dX7_copy_48 (by decide) ?_
        obtain ⟨rfl, rfl⟩ := o_ret2 h
        exact x_iret X hP hS dX7_copy_50
      · have h := o_pos c_17 h
        refine lv_aload X.1.1 X.1.2.1 dX7_copy_40 (lv_at hl 0 rfl) ?_
        obtain ⟨⟨r_20, t_18⟩, hc_19, h⟩ := o_bd_inv h
        refine x_calli (x_runV (As := []) (rest := []) X hP hS (c_X3_isMissing l g (a2.toNatClampNeg) X.2.2.2.2.1 (by omega) t_13 hc_19) ⟨wd_810, wd_858, wd_808, wd_809, wd_61⟩ hd_X3_isMissing ⟨by omega, by decide⟩ (x_recv X hP (ci := 3) rfl (kyH (by omega) (by decide)) rfl) rfl hl.1 rfl (Nat.le_of_ble_eq_true rfl) dX7_copy_42) hS (fun H locs hP hS => ?_)
        refine lv_if_eq (tgt := 51) X.1.1 X.1.2.1 dX7_copy_45 (by decide) (fun c_22 => ?_) (fun c_22 => ?_)
        · have h := o_pos c_22 h
          refine lv_aload X.1.1 X.1.2.1 dX7_copy_51 (lv_at hl 1 rfl) ?_
          refine gtN_X3_0 X hP (kyH (by omega) (by decide)) wd_274 dX7_copy_53 ?_
          refine lv_aload X.1.1 X.1.2.1 dX7_copy_56 (lv_at hl 0 rfl) ?_
          refine gtN_X3_0 X hP (kyH (by omega) (by decide)) wd_274 dX7_copy_58 ?_
          refine lv_icmp_eq (tgt := 67) X.1.1 X.1.2.1 dX7_copy_61 (by decide) (fun c_23 => ?_) (fun c_23 => ?_)
          · have h := o_pos c_23 h
            refine lv_aload X.1.1 X.1.2.1 dX7_copy_67 (lv_at hl 1 rfl) ?_
            refine lv_iload_n X.1.1 X.1.2.1 dX7_copy_69 rfl (lv_at hl 4 rfl) ?_
            refine lv_iload X.1.1 X.1.2.1 dX7_copy_70 (lv_at hl 7 rfl) ?_
            obtain ⟨⟨r_26, t_24⟩, hc_25, h⟩ := o_bd_inv h
            refine x_calli (x_runV (As := [.int a1, .int a4]) (rest := []) X hP hS (c_X3_holds l g (a0.toNatClampNeg) X.2.2.2.2.1 (by omega) a1 a4 t_18 hc_25) ⟨wd_814, wd_872, wd_812, wd_813, wd_61⟩ hd_X3_holds ⟨by omega, by decide⟩ (x_recv X hP (ci := 3) rfl (kyH (by omega) (by decide)) rfl) rfl hl.1 rfl (Nat.le_of_ble_eq_true rfl) dX7_copy_72) hS (fun H locs hP hS => ?_)
            refine lv_if_eq (tgt := 90) X.1.1 X.1.2.1 dX7_copy_75 (by decide) (fun c_28 => ?_) (fun c_28 => ?_)
            · have h := o_pos c_28 h
              refine lv_bipush (v := (-13)) X.1.1 X.1.2.1 dX7_copy_90 (by decide) ?_
              obtain ⟨rfl, rfl⟩ := o_ret2 h
              exact x_iret X hP hS dX7_copy_92
            · have h := o_neg c_28 h
              refine lv_aload X.1.1 X.1.2.1 dX7_copy_78 (lv_at hl 0 rfl) ?_
              refine lv_iload X.1.1 X.1.2.1 dX7_copy_80 (lv_at hl 6 rfl) ?_
              refine lv_iload X.1.1 X.1.2.1 dX7_copy_82 (lv_at hl 7 rfl) ?_
              obtain ⟨⟨r_31, t_29⟩, hc_30, h⟩ := o_bd_inv h
              refine x_calli (x_runV (As := [.int a3, .int a4]) (rest := []) X hP hS (c_X3_holds l g (a2.toNatClampNeg) X.2.2.2.2.1 (by omega) a3 a4 t_24 hc_30) ⟨wd_814, wd_872, wd_812, wd_813, wd_61⟩ hd_X3_holds ⟨by omega, by decide⟩ (x_recv X hP (ci := 3) rfl (kyH (by omega) (by decide)) rfl) rfl hl.1 rfl (Nat.le_of_ble_eq_true rfl) dX7_copy_84) hS (fun H locs hP hS => ?_)
              refine lv_if_ne (tgt := 93) X.1.1 X.1.2.1 dX7_copy_87 (by decide) (fun c_33 => ?_) (fun c_33 => ?_)
              · have h := o_neg c_33 h
                refine lv_aload X.1.1 X.1.2.1 dX7_copy_93 (lv_at hl 1 rfl) ?_
                refine gtN_X3_2 X hP (kyH (by omega) (by decide)) wd_278 dX7_copy_95 ?_
                refine lv_iload_n X.1.1 X.1.2.1 dX7_copy_98 rfl (lv_at hl 4 rfl) ?_
                refine lv_aload X.1.1 X.1.2.1 dX7_copy_99 (lv_at hl 0 rfl) ?_
                refine gtN_X3_2 X hP (kyH (by omega) (by decide)) wd_278 dX7_copy_101 ?_
                refine lv_iload X.1.1 X.1.2.1 dX7_copy_104 (lv_at hl 6 rfl) ?_
                refine lv_iload X.1.1 X.1.2.1 dX7_copy_106 (lv_at hl 7 rfl) ?_
                obtain ⟨g_34, h⟩ := o_gd_inv h
                obtain ⟨t_35, e_36, h⟩ := o_nm_inv h
                refine x_copyl X hP hS ⟨wd_873, wd_546, wd_545, wd_70⟩ (kyH (by omega) (by decide)) (fun _ _ => rfl) (kyH (by omega) (by decide)) (fun _ _ => rfl) hLC g_34 hl.1 (by omega) (Nat.le_of_ble_eq_true rfl) dX7_copy_108 (fun H locs hP hS => ?_)
                have hP : XP shC g t_35 H := by rw [e_36]; exact hP
                refine lv_iload X.1.1 X.1.2.1 dX7_copy_111 (lv_at hl 7 rfl) ?_
                obtain ⟨rfl, rfl⟩ := o_ret2 h
                exact x_iret X hP hS dX7_copy_113
              · have h := o_pos c_33 h
                refine lv_bipush (v := (-13)) X.1.1 X.1.2.1 dX7_copy_90 (by decide) ?_
                obtain ⟨rfl, rfl⟩ := o_ret2 h
                exact x_iret X hP hS dX7_copy_92
          · have h := o_neg c_23 h
            refine lv_bipush (v := (-12)) X.1.1 X.1.2.1 dX7_copy_64 (by decide) ?_
            obtain ⟨rfl, rfl⟩ := o_ret2 h
            exact x_iret X hP hS dX7_copy_66
        · have h := o_neg c_22 h
          refine lv_bipush (v := (-11)) X.1.1 X.1.2.1 dX7_copy_48 (by decide) ?_
          obtain ⟨rfl, rfl⟩ := o_ret2 h
          exact x_iret X hP hS dX7_copy_50
    · have h := o_neg c_10 h
      refine lv_iconst (v := (-1)) X.1.1 X.1.2.1 dX7_copy_14 (by decide) ?_
      obtain ⟨rfl, rfl⟩ := o_ret2 h
      exact x_iret X hP hS dX7_copy_15
