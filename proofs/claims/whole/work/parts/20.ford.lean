/-- FordQuestions$Ford.takeFrom(LFordQuestions$Ford;)V -/
def f_X0_takeFrom (i : Nat) (i0 : Nat) (t : Mm) : Option (Mm) := o_nm (sI t 0 i 0 0 (t.1 0 i0 0 0)) fun t_1 => o_nm (sI t_1 0 i 0 1 (t_1.1 0 i0 0 1)) fun t_3 => o_nm (sI t_3 0 i 0 2 (t_3.1 0 i0 0 2)) fun t_5 => o_nm (sI t_5 0 i 0 3 (t_5.1 0 i0 0 3)) fun t_7 => o_nm (sI t_7 0 i 0 4 (t_7.1 0 i0 0 4)) fun t_9 => o_nm (sR t_9 0 i 1 (va_cpy (t_9.1 0 i0 1) (t_9.1 0 i 1) (Int32.toNatClampNeg 0) (Int32.toNatClampNeg 0) (Int32.toNatClampNeg 8))) fun t_11 => o_nm (sR t_11 0 i 2 (va_cpy (t_11.1 0 i0 2) (t_11.1 0 i 2) (Int32.toNatClampNeg 0) (Int32.toNatClampNeg 0) (Int32.toNatClampNeg 8))) fun t_13 => o_nm (sR t_13 0 i 3 (va_cpy (t_13.1 0 i0 3) (t_13.1 0 i 3) (Int32.toNatClampNeg 0) (Int32.toNatClampNeg 0) (Int32.toNatClampNeg 5))) fun t_15 => o_nm (sR t_15 0 i 4 (va_cpy (t_15.1 0 i0 4) (t_15.1 0 i 4) (Int32.toNatClampNeg 0) (Int32.toNatClampNeg 0) (Int32.toNatClampNeg 5))) fun t_17 => o_nm (sR t_17 0 i 5 (va_cpy (t_17.1 0 i0 5) (t_17.1 0 i 5) (Int32.toNatClampNeg 0) (Int32.toNatClampNeg 0) (Int32.toNatClampNeg 5))) fun t_19 => o_nm (sR t_19 0 i 6 (va_cpy (t_19.1 0 i0 6) (t_19.1 0 i 6) (Int32.toNatClampNeg 0) (Int32.toNatClampNeg 0) (Int32.toNatClampNeg 5))) fun t_21 => o_nm (sR t_21 0 i 7 (va_cpy (t_21.1 0 i0 7) (t_21.1 0 i 7) (Int32.toNatClampNeg 0) (Int32.toNatClampNeg 0) (Int32.toNatClampNeg 5))) fun t_23 => some t_23
theorem hd_X0_takeFrom : x_hd yX0_takeFrom 1 := by decide +kernel
set_option maxRecDepth 100000 in
set_option maxHeartbeats 4000000 in
theorem c_X0_takeFrom (l : Launch) (g : Ly) (i : Nat) (i0 : Nat) (hG : XG shC g) (hi : i < 21) (hi0 : i0 < 21) (t : Mm) {t' : Mm} (h : f_X0_takeFrom i i0 t = some t') : MI l yX0_takeFrom cX0_takeFrom 2 none 1 shC g [.ref (g.2.2 (0, i, 0)), .ref (g.2.2 (0, i0, 0))] t (XQv shC g t') := by
  refine x_met hG (by decide +kernel) (Nat.le_of_ble_eq_true rfl) ?_
  intro p e s m below meth c ls X hP hl
  have hS : va_S (XA shC g) s.heap s.heap [] := va_S.rf
  have hl : lv_has ls 2 [(0, .ref (g.2.2 (0, i, 0))), (1, .ref (g.2.2 (0, i0, 0)))] := hl
  unfold f_X0_takeFrom at h
  generalize ([.ref (g.2.2 (0, i, 0)), .ref (g.2.2 (0, i0, 0))] : List Value).toArray = args at X ⊢
  refine lv_aload_n X.1.1 X.1.2.1 dX0_takeFrom_0 rfl (lv_at hl 0 rfl) ?_
  refine lv_aload_n X.1.1 X.1.2.1 dX0_takeFrom_1 rfl (lv_at hl 1 rfl) ?_
  refine gt_X0_0 X hP (kyF (by omega) (by decide)) wd_92 dX0_takeFrom_2 ?_
  obtain ⟨t_1, e_2, h⟩ := o_nm_inv h
  refine pt_X0_0 (x := (t.1 0 i0 0 0)) X hP hS (kyF (by omega) (by decide)) wd_92 dX0_takeFrom_5 (fun H locs hP hS => ?_)
  have hP : XP shC g t_1 H := by rw [e_2]; exact hP
  refine lv_aload_n X.1.1 X.1.2.1 dX0_takeFrom_8 rfl (lv_at hl 0 rfl) ?_
  refine lv_aload_n X.1.1 X.1.2.1 dX0_takeFrom_9 rfl (lv_at hl 1 rfl) ?_
  refine gt_X0_1 X hP (kyF (by omega) (by decide)) wd_96 dX0_takeFrom_10 ?_
  obtain ⟨t_3, e_4, h⟩ := o_nm_inv h
  refine pt_X0_1 (x := (t_1.1 0 i0 0 1)) X hP hS (kyF (by omega) (by decide)) wd_96 dX0_takeFrom_13 (fun H locs hP hS => ?_)
  have hP : XP shC g t_3 H := by rw [e_4]; exact hP
  refine lv_aload_n X.1.1 X.1.2.1 dX0_takeFrom_16 rfl (lv_at hl 0 rfl) ?_
  refine lv_aload_n X.1.1 X.1.2.1 dX0_takeFrom_17 rfl (lv_at hl 1 rfl) ?_
  refine gt_X0_2 X hP (kyF (by omega) (by decide)) wd_100 dX0_takeFrom_18 ?_
  obtain ⟨t_5, e_6, h⟩ := o_nm_inv h
  refine pt_X0_2 (x := (t_3.1 0 i0 0 2)) X hP hS (kyF (by omega) (by decide)) wd_100 dX0_takeFrom_21 (fun H locs hP hS => ?_)
  have hP : XP shC g t_5 H := by rw [e_6]; exact hP
  refine lv_aload_n X.1.1 X.1.2.1 dX0_takeFrom_24 rfl (lv_at hl 0 rfl) ?_
  refine lv_aload_n X.1.1 X.1.2.1 dX0_takeFrom_25 rfl (lv_at hl 1 rfl) ?_
  refine gt_X0_3 X hP (kyF (by omega) (by decide)) wd_105 dX0_takeFrom_26 ?_
  obtain ⟨t_7, e_8, h⟩ := o_nm_inv h
  refine pt_X0_3 (x := (t_5.1 0 i0 0 3)) X hP hS (kyF (by omega) (by decide)) wd_105 dX0_takeFrom_29 (fun H locs hP hS => ?_)
  have hP : XP shC g t_7 H := by rw [e_8]; exact hP
  refine lv_aload_n X.1.1 X.1.2.1 dX0_takeFrom_32 rfl (lv_at hl 0 rfl) ?_
  refine lv_aload_n X.1.1 X.1.2.1 dX0_takeFrom_33 rfl (lv_at hl 1 rfl) ?_
  refine gt_X0_4 X hP (kyF (by omega) (by decide)) wd_109 dX0_takeFrom_34 ?_
  obtain ⟨t_9, e_10, h⟩ := o_nm_inv h
  refine pt_X0_4 (x := (t_7.1 0 i0 0 4)) X hP hS (kyF (by omega) (by decide)) wd_109 dX0_takeFrom_37 (fun H locs hP hS => ?_)
  have hP : XP shC g t_9 H := by rw [e_10]; exact hP
  refine lv_aload_n X.1.1 X.1.2.1 dX0_takeFrom_40 rfl (lv_at hl 1 rfl) ?_
  refine gt_X0_5 X hP (kyF (by omega) (by decide)) wd_111 dX0_takeFrom_41 ?_
  refine lv_iconst (v := 0) X.1.1 X.1.2.1 dX0_takeFrom_44 (by decide) ?_
  refine lv_aload_n X.1.1 X.1.2.1 dX0_takeFrom_45 rfl (lv_at hl 0 rfl) ?_
  refine gt_X0_5 X hP (kyF (by omega) (by decide)) wd_111 dX0_takeFrom_46 ?_
  refine lv_iconst (v := 0) X.1.1 X.1.2.1 dX0_takeFrom_49 (by decide) ?_
  refine lv_bipush (v := 8) X.1.1 X.1.2.1 dX0_takeFrom_50 (by decide) ?_
  obtain ⟨t_11, e_12, h⟩ := o_nm_inv h
  refine x_copyi X hP hS ⟨wd_544, wd_546, wd_545, wd_70⟩ (kyF (by omega) (by decide)) (fun _ _ => rfl) (kyF (by omega) (by decide)) (fun _ _ => rfl) (by decide) hl.1 (by omega) (Nat.le_of_ble_eq_true rfl) dX0_takeFrom_52 (fun H locs hP hS => ?_)
  have hP : XP shC g t_11 H := by rw [e_12]; exact hP
  refine lv_aload_n X.1.1 X.1.2.1 dX0_takeFrom_55 rfl (lv_at hl 1 rfl) ?_
  refine gt_X0_6 X hP (kyF (by omega) (by decide)) wd_113 dX0_takeFrom_56 ?_
  refine lv_iconst (v := 0) X.1.1 X.1.2.1 dX0_takeFrom_59 (by decide) ?_
  refine lv_aload_n X.1.1 X.1.2.1 dX0_takeFrom_60 rfl (lv_at hl 0 rfl) ?_
  refine gt_X0_6 X hP (kyF (by omega) (by decide)) wd_113 dX0_takeFrom_61 ?_
  refine lv_iconst (v := 0) X.1.1 X.1.2.1 dX0_takeFrom_64 (by decide) ?_
  refine lv_bipush (v := 8) X.1.1 X.1.2.1 dX0_takeFrom_65 (by decide) ?_
  obtain ⟨t_13, e_14, h⟩ := o_nm_inv h
  refine x_copyi X hP hS ⟨wd_544, wd_546, wd_545, wd_70⟩ (kyF (by omega) (by decide)) (fun _ _ => rfl) (kyF (by omega) (by decide)) (fun _ _ => rfl) (by decide) hl.1 (by omega) (Nat.le_of_ble_eq_true rfl) dX0_takeFrom_67 (fun H locs hP hS => ?_)
  have hP : XP shC g t_13 H := by rw [e_14]; exact hP
  refine lv_aload_n X.1.1 X.1.2.1 dX0_takeFrom_70 rfl (lv_at hl 1 rfl) ?_
  refine gt_X0_7 X hP (kyF (by omega) (by decide)) wd_115 dX0_takeFrom_71 ?_
  refine lv_iconst (v := 0) X.1.1 X.1.2.1 dX0_takeFrom_74 (by decide) ?_
  refine lv_aload_n X.1.1 X.1.2.1 dX0_takeFrom_75 rfl (lv_at hl 0 rfl) ?_
  refine gt_X0_7 X hP (kyF (by omega) (by decide)) wd_115 dX0_takeFrom_76 ?_
  refine lv_iconst (v := 0) X.1.1 X.1.2.1 dX0_takeFrom_79 (by decide) ?_
  refine lv_iconst (v := 5) X.1.1 X.1.2.1 dX0_takeFrom_80 (by decide) ?_
  obtain ⟨t_15, e_16, h⟩ := o_nm_inv h
  refine x_copyi X hP hS ⟨wd_544, wd_546, wd_545, wd_70⟩ (kyF (by omega) (by decide)) (fun _ _ => rfl) (kyF (by omega) (by decide)) (fun _ _ => rfl) (by decide) hl.1 (by omega) (Nat.le_of_ble_eq_true rfl) dX0_takeFrom_81 (fun H locs hP hS => ?_)
  have hP : XP shC g t_15 H := by rw [e_16]; exact hP
  refine lv_aload_n X.1.1 X.1.2.1 dX0_takeFrom_84 rfl (lv_at hl 1 rfl) ?_
  refine gt_X0_8 X hP (kyF (by omega) (by decide)) wd_118 dX0_takeFrom_85 ?_
  refine lv_iconst (v := 0) X.1.1 X.1.2.1 dX0_takeFrom_88 (by decide) ?_
  refine lv_aload_n X.1.1 X.1.2.1 dX0_takeFrom_89 rfl (lv_at hl 0 rfl) ?_
  refine gt_X0_8 X hP (kyF (by omega) (by decide)) wd_118 dX0_takeFrom_90 ?_
  refine lv_iconst (v := 0) X.1.1 X.1.2.1 dX0_takeFrom_93 (by decide) ?_
  refine lv_iconst (v := 5) X.1.1 X.1.2.1 dX0_takeFrom_94 (by decide) ?_
  obtain ⟨t_17, e_18, h⟩ := o_nm_inv h
  refine x_copyi X hP hS ⟨wd_544, wd_546, wd_545, wd_70⟩ (kyF (by omega) (by decide)) (fun _ _ => rfl) (kyF (by omega) (by decide)) (fun _ _ => rfl) (by decide) hl.1 (by omega) (Nat.le_of_ble_eq_true rfl) dX0_takeFrom_95 (fun H locs hP hS => ?_)
  have hP : XP shC g t_17 H := by rw [e_18]; exact hP
  refine lv_aload_n X.1.1 X.1.2.1 dX0_takeFrom_98 rfl (lv_at hl 1 rfl) ?_
  refine gt_X0_9 X hP (kyF (by omega) (by decide)) wd_121 dX0_takeFrom_99 ?_
  refine lv_iconst (v := 0) X.1.1 X.1.2.1 dX0_takeFrom_102 (by decide) ?_
  refine lv_aload_n X.1.1 X.1.2.1 dX0_takeFrom_103 rfl (lv_at hl 0 rfl) ?_
  refine gt_X0_9 X hP (kyF (by omega) (by decide)) wd_121 dX0_takeFrom_104 ?_
  refine lv_iconst (v := 0) X.1.1 X.1.2.1 dX0_takeFrom_107 (by decide) ?_
  refine lv_iconst (v := 5) X.1.1 X.1.2.1 dX0_takeFrom_108 (by decide) ?_
  obtain ⟨t_19, e_20, h⟩ := o_nm_inv h
  refine x_copyi X hP hS ⟨wd_544, wd_546, wd_545, wd_70⟩ (kyF (by omega) (by decide)) (fun _ _ => rfl) (kyF (by omega) (by decide)) (fun _ _ => rfl) (by decide) hl.1 (by omega) (Nat.le_of_ble_eq_true rfl) dX0_takeFrom_109 (fun H locs hP hS => ?_)
  have hP : XP shC g t_19 H := by rw [e_20]; exact hP
  refine lv_aload_n X.1.1 X.1.2.1 dX0_takeFrom_112 rfl (lv_at hl 1 rfl) ?_
  refine gt_X0_10 X hP (kyF (by omega) (by decide)) wd_125 dX0_takeFrom_113 ?_
  refine lv_iconst (v := 0) X.1.1 X.1.2.1 dX0_takeFrom_116 (by decide) ?_
  refine lv_aload_n X.1.1 X.1.2.1 dX0_takeFrom_117 rfl (lv_at hl 0 rfl) ?_
  refine gt_X0_10 X hP (kyF (by omega) (by decide)) wd_125 dX0_takeFrom_118 ?_
  refine lv_iconst (v := 0) X.1.1 X.1.2.1 dX0_takeFrom_121 (by decide) ?_
  refine lv_iconst (v := 5) X.1.1 X.1.2.1 dX0_takeFrom_122 (by decide) ?_
  obtain ⟨t_21, e_22, h⟩ := o_nm_inv h
  refine x_copyi X hP hS ⟨wd_544, wd_546, wd_545, wd_70⟩ (kyF (by omega) (by decide)) (fun _ _ => rfl) (kyF (by omega) (by decide)) (fun _ _ => rfl) (by decide) hl.1 (by omega) (Nat.le_of_ble_eq_true rfl) dX0_takeFrom_123 (fun H locs hP hS => ?_)
  have hP : XP shC g t_21 H := by rw [e_22]; exact hP
  refine lv_aload_n X.1.1 X.1.2.1 dX0_takeFrom_126 rfl (lv_at hl 1 rfl) ?_
  refine gt_X0_11 X hP (kyF (by omega) (by decide)) wd_129 dX0_takeFrom_127 ?_
  refine lv_iconst (v := 0) X.1.1 X.1.2.1 dX0_takeFrom_130 (by decide) ?_
  refine lv_aload_n X.1.1 X.1.2.1 dX0_takeFrom_131 rfl (lv_at hl 0 rfl) ?_
  refine gt_X0_11 X hP (kyF (by omega) (by decide)) wd_129 dX0_takeFrom_132 ?_
  refine lv_iconst (v := 0) X.1.1 X.1.2.1 dX0_takeFrom_135 (by decide) ?_
  refine lv_iconst (v := 5) X.1.1 X.1.2.1 dX0_takeFrom_136 (by decide) ?_
  obtain ⟨t_23, e_24, h⟩ := o_nm_inv h
  refine x_copyi X hP hS ⟨wd_544, wd_546, wd_545, wd_70⟩ (kyF (by omega) (by decide)) (fun _ _ => rfl) (kyF (by omega) (by decide)) (fun _ _ => rfl) (by decide) hl.1 (by omega) (Nat.le_of_ble_eq_true rfl) dX0_takeFrom_137 (fun H locs hP hS => ?_)
  have hP : XP shC g t_23 H := by rw [e_24]; exact hP
  obtain rfl := o_ret h
  exact x_vret X hP hS dX0_takeFrom_140
/-- FordQuestions$Ford.becomeNew(LFordQuestions$Ford;)V -/
def f_X0_becomeNew (i : Nat) (i0 : Nat) (t : Mm) : Option (Mm) := o_bd (f_X0_takeFrom i i0 t) fun t_1 => o_nm (sI t_1 0 i 0 4 (t.1 0 i 0 4)) fun t_3 => some t_3
theorem hd_X0_becomeNew : x_hd yX0_becomeNew 1 := by decide +kernel
set_option maxRecDepth 100000 in
set_option maxHeartbeats 4000000 in
theorem c_X0_becomeNew (l : Launch) (g : Ly) (i : Nat) (i0 : Nat) (hG : XG shC g) (hi : i < 21) (hi0 : i0 < 21) (t : Mm) {t' : Mm} (h : f_X0_becomeNew i i0 t = some t') : MI l yX0_becomeNew cX0_becomeNew 3 none 2 shC g [.ref (g.2.2 (0, i, 0)), .ref (g.2.2 (0, i0, 0))] t (XQv shC g t') := by
  refine x_met hG (by decide +kernel) (Nat.le_of_ble_eq_true rfl) ?_
  intro p e s m below meth c ls X hP hl
  have hS : va_S (XA shC g) s.heap s.heap [] := va_S.rf
  have hl : lv_has ls 3 [(0, .ref (g.2.2 (0, i, 0))), (1, .ref (g.2.2 (0, i0, 0)))] := hl
  unfold f_X0_becomeNew at h
  generalize ([.ref (g.2.2 (0, i, 0)), .ref (g.2.2 (0, i0, 0))] : List Value).toArray = args at X ⊢
  refine lv_aload_n X.1.1 X.1.2.1 dX0_becomeNew_0 rfl (lv_at hl 0 rfl) ?_
  refine gt_X0_4 X hP (kyF (by omega) (by decide)) wd_109 dX0_becomeNew_1 ?_
  refine lv_istore_n (lv' := [(2, .int (t.1 0 i 0 4)), (0, .ref (g.2.2 (0, i, 0))), (1, .ref (g.2.2 (0, i0, 0)))]) X.1.1 X.1.2.1 dX0_becomeNew_4 rfl hl (by decide) rfl (fun ls hl => ?_)
  refine lv_aload_n X.1.1 X.1.2.1 dX0_becomeNew_5 rfl (lv_at hl 1 rfl) ?_
  refine lv_aload_n X.1.1 X.1.2.1 dX0_becomeNew_6 rfl (lv_at hl 2 rfl) ?_
  obtain ⟨t_1, hc_2, h⟩ := o_bd_inv h
  refine x_callv (x_runV (As := [.ref (g.2.2 (0, i0, 0))]) (rest := []) X hP hS (c_X0_takeFrom l g i i0 X.2.2.2.2.1 (by omega) (by omega) t hc_2) ⟨wd_543, wd_540, wd_541, wd_542, wd_56⟩ hd_X0_takeFrom ⟨by omega, by decide⟩ (x_recv X hP (ci := 0) rfl (kyF (by omega) (by decide)) rfl) rfl hl.1 rfl (Nat.le_of_ble_eq_true rfl) dX0_becomeNew_7) hS (fun H locs hP hS => ?_)
  refine lv_aload_n X.1.1 X.1.2.1 dX0_becomeNew_10 rfl (lv_at hl 1 rfl) ?_
  refine lv_iload_n X.1.1 X.1.2.1 dX0_becomeNew_11 rfl (lv_at hl 0 rfl) ?_
  obtain ⟨t_3, e_4, h⟩ := o_nm_inv h
  refine pt_X0_4 (x := (t.1 0 i 0 4)) X hP hS (kyF (by omega) (by decide)) wd_109 dX0_becomeNew_12 (fun H locs hP hS => ?_)
  have hP : XP shC g t_3 H := by rw [e_4]; exact hP
  obtain rfl := o_ret h
  exact x_vret X hP hS dX0_becomeNew_15
/-- FordQuestions$Ford.makeEmpty()V -/
def f_X0_makeEmpty (i : Nat) (t : Mm) : Option (Mm) := o_nm (sI t 0 i 0 0 0) fun t_1 => o_nm (sI t_1 0 i 0 1 0) fun t_3 => o_nm (sI t_3 0 i 0 2 0) fun t_5 => o_nm (sI t_5 0 i 0 3 0) fun t_7 => some t_7
theorem hd_X0_makeEmpty : x_hd yX0_makeEmpty 0 := by decide +kernel
set_option maxRecDepth 100000 in
set_option maxHeartbeats 4000000 in
theorem c_X0_makeEmpty (l : Launch) (g : Ly) (i : Nat) (hG : XG shC g) (hi : i < 21) (t : Mm) {t' : Mm} (h : f_X0_makeEmpty i t = some t') : MI l yX0_makeEmpty cX0_makeEmpty 1 none 1 shC g [.ref (g.2.2 (0, i, 0))] t (XQv shC g t') := by
  refine x_met hG (by decide +kernel) (Nat.le_of_ble_eq_true rfl) ?_
  intro p e s m below meth c ls X hP hl
  have hS : va_S (XA shC g) s.heap s.heap [] := va_S.rf
  have hl : lv_has ls 1 [(0, .ref (g.2.2 (0, i, 0)))] := hl
  unfold f_X0_makeEmpty at h
  generalize ([.ref (g.2.2 (0, i, 0))] : List Value).toArray = args at X ⊢
  refine lv_aload_n X.1.1 X.1.2.1 dX0_makeEmpty_0 rfl (lv_at hl 0 rfl) ?_
  refine lv_iconst (v := 0) X.1.1 X.1.2.1 dX0_makeEmpty_1 (by decide) ?_
  obtain ⟨t_1, e_2, h⟩ := o_nm_inv h
  refine pt_X0_0 (x := 0) X hP hS (kyF (by omega) (by decide)) wd_92 dX0_makeEmpty_2 (fun H locs hP hS => ?_)
  have hP : XP shC g t_1 H := by rw [e_2]; exact hP
  refine lv_aload_n X.1.1 X.1.2.1 dX0_makeEmpty_5 rfl (lv_at hl 0 rfl) ?_
  refine lv_iconst (v := 0) X.1.1 X.1.2.1 dX0_makeEmpty_6 (by decide) ?_
  obtain ⟨t_3, e_4, h⟩ := o_nm_inv h
  refine pt_X0_1 (x := 0) X hP hS (kyF (by omega) (by decide)) wd_96 dX0_makeEmpty_7 (fun H locs hP hS => ?_)
  have hP : XP shC g t_3 H := by rw [e_4]; exact hP
  refine lv_aload_n X.1.1 X.1.2.1 dX0_makeEmpty_10 rfl (lv_at hl 0 rfl) ?_
  refine lv_iconst (v := 0) X.1.1 X.1.2.1 dX0_makeEmpty_11 (by decide) ?_
  obtain ⟨t_5, e_6, h⟩ := o_nm_inv h
  refine pt_X0_2 (x := 0) X hP hS (kyF (by omega) (by decide)) wd_100 dX0_makeEmpty_12 (fun H locs hP hS => ?_)
  have hP : XP shC g t_5 H := by rw [e_6]; exact hP
  refine lv_aload_n X.1.1 X.1.2.1 dX0_makeEmpty_15 rfl (lv_at hl 0 rfl) ?_
  refine lv_iconst (v := 0) X.1.1 X.1.2.1 dX0_makeEmpty_16 (by decide) ?_
  obtain ⟨t_7, e_8, h⟩ := o_nm_inv h
  refine pt_X0_3 (x := 0) X hP hS (kyF (by omega) (by decide)) wd_105 dX0_makeEmpty_17 (fun H locs hP hS => ?_)
  have hP : XP shC g t_7 H := by rw [e_8]; exact hP
  obtain rfl := o_ret h
  exact x_vret X hP hS dX0_makeEmpty_20
/-- FordQuestions$Ford.addQuestion(II)I -/
def f_X0_addQuestion (i : Nat) (a0 : Int32) (a1 : Int32) (t : Mm) : Option (Int32 × Mm) := if (t.1 0 i 0 0) < 8 then (if o_inb (t.1 0 i 0 0) 8 = true then (o_nm (sI t 0 i 1 ((t.1 0 i 0 0).toNatClampNeg) a0) fun t_3 => if o_inb (t.1 0 i 0 0) 8 = true then (o_nm (sI t_3 0 i 2 ((t.1 0 i 0 0).toNatClampNeg) a1) fun t_6 => o_nm (sI t_6 0 i 0 0 ((t_6.1 0 i 0 0) + 1)) fun t_8 => some ((t.1 0 i 0 0), t_8)) else none) else none) else (some ((-3), t))
theorem hd_X0_addQuestion : x_hd yX0_addQuestion 2 := by decide +kernel
set_option maxRecDepth 100000 in
set_option maxHeartbeats 4000000 in
theorem c_X0_addQuestion (l : Launch) (g : Ly) (i : Nat) (hG : XG shC g) (hi : i < 21) (a0 : Int32) (a1 : Int32) (t : Mm) {r : Int32} {t' : Mm} (h : f_X0_addQuestion i a0 a1 t = some (r, t')) : MI l yX0_addQuestion cX0_addQuestion 4 (some .int) 1 shC g [.ref (g.2.2 (0, i, 0)), .int a0, .int a1] t (XQi shC g r t') := by
  refine x_met hG (by decide +kernel) (Nat.le_of_ble_eq_true rfl) ?_
  intro p e s m below meth c ls X hP hl
  have hS : va_S (XA shC g) s.heap s.heap [] := va_S.rf
  have hl : lv_has ls 4 [(0, .ref (g.2.2 (0, i, 0))), (1, .int a0), (2, .int a1)] := hl
  unfold f_X0_addQuestion at h
  generalize ([.ref (g.2.2 (0, i, 0)), .int a0, .int a1] : List Value).toArray = args at X ⊢
  refine lv_aload_n X.1.1 X.1.2.1 dX0_addQuestion_0 rfl (lv_at hl 0 rfl) ?_
  refine gt_X0_0 X hP (kyF (by omega) (by decide)) wd_92 dX0_addQuestion_1 ?_
  refine lv_istore_n (lv' := [(3, .int (t.1 0 i 0 0)), (0, .ref (g.2.2 (0, i, 0))), (1, .int a0), (2, .int a1)]) X.1.1 X.1.2.1 dX0_addQuestion_4 rfl hl (by decide) rfl (fun ls hl => ?_)
  refine lv_iload_n X.1.1 X.1.2.1 dX0_addQuestion_5 rfl (lv_at hl 0 rfl) ?_
  refine lv_bipush (v := 8) X.1.1 X.1.2.1 dX0_addQuestion_6 (by decide) ?_
  refine lv_icmp_lt (tgt := 14) X.1.1 X.1.2.1 dX0_addQuestion_8 (by decide) (fun c_1 => ?_) (fun c_1 => ?_)
  · have h := o_pos c_1 h
    refine lv_aload_n X.1.1 X.1.2.1 dX0_addQuestion_14 rfl (lv_at hl 1 rfl) ?_
    refine gt_X0_5 X hP (kyF (by omega) (by decide)) wd_111 dX0_addQuestion_15 ?_
    refine lv_iload_n X.1.1 X.1.2.1 dX0_addQuestion_18 rfl (lv_at hl 0 rfl) ?_
    refine lv_iload_n X.1.1 X.1.2.1 dX0_addQuestion_19 rfl (lv_at hl 2 rfl) ?_
    obtain ⟨g_2, h⟩ := o_gd_inv h
    obtain ⟨t_3, e_4, h⟩ := o_nm_inv h
    refine x_iast X hP hS (kyF (by omega) (by decide)) (fun _ _ => rfl) g_2 dX0_addQuestion_20 (fun H locs hP hS => ?_)
    have hP : XP shC g t_3 H := by rw [e_4]; exact hP
    refine lv_aload_n X.1.1 X.1.2.1 dX0_addQuestion_21 rfl (lv_at hl 1 rfl) ?_
    refine gt_X0_6 X hP (kyF (by omega) (by decide)) wd_113 dX0_addQuestion_22 ?_
    refine lv_iload_n X.1.1 X.1.2.1 dX0_addQuestion_25 rfl (lv_at hl 0 rfl) ?_
    refine lv_iload_n X.1.1 X.1.2.1 dX0_addQuestion_26 rfl (lv_at hl 3 rfl) ?_
    obtain ⟨g_5, h⟩ := o_gd_inv h
    obtain ⟨t_6, e_7, h⟩ := o_nm_inv h
    refine x_iast X hP hS (kyF (by omega) (by decide)) (fun _ _ => rfl) g_5 dX0_addQuestion_27 (fun H locs hP hS => ?_)
    have hP : XP shC g t_6 H := by rw [e_7]; exact hP
    refine lv_aload_n X.1.1 X.1.2.1 dX0_addQuestion_28 rfl (lv_at hl 1 rfl) ?_
    refine lv_dup X.1.1 X.1.2.1 dX0_addQuestion_29 rfl ?_
    refine gt_X0_0 X hP (kyF (by omega) (by decide)) wd_92 dX0_addQuestion_30 ?_
    refine lv_iconst (v := 1) X.1.1 X.1.2.1 dX0_addQuestion_33 (by decide) ?_
    refine lv_iadd X.1.1 X.1.2.1 dX0_addQuestion_34 ?_
    obtain ⟨t_8, e_9, h⟩ := o_nm_inv h
    refine pt_X0_0 (x := ((t_6.1 0 i 0 0) + 1)) X hP hS (kyF (by omega) (by decide)) wd_92 dX0_addQuestion_35 (fun H locs hP hS => ?_)
    have hP : XP shC g t_8 H := by rw [e_9]; exact hP
    refine lv_iload_n X.1.1 X.1.2.1 dX0_addQuestion_38 rfl (lv_at hl 0 rfl) ?_
    obtain ⟨rfl, rfl⟩ := o_ret2 h
    exact x_iret X hP hS dX0_addQuestion_39
  · have h := o_neg c_1 h
    refine lv_bipush (v := (-3)) X.1.1 X.1.2.1 dX0_addQuestion_11 (by decide) ?_
    obtain ⟨rfl, rfl⟩ := o_ret2 h
    exact x_iret X hP hS dX0_addQuestion_13
/-- FordQuestions$Ford.addCrosser(III)I -/
def f_X0_addCrosser (i : Nat) (a0 : Int32) (a1 : Int32) (a2 : Int32) (t : Mm) : Option (Int32 × Mm) := if (t.1 0 i 0 1) < 5 then (if o_inb (t.1 0 i 0 1) 5 = true then (o_nm (sI t 0 i 3 ((t.1 0 i 0 1).toNatClampNeg) a0) fun t_3 => if o_inb (t.1 0 i 0 1) 5 = true then (o_nm (sI t_3 0 i 4 ((t.1 0 i 0 1).toNatClampNeg) a1) fun t_6 => if o_inb (t.1 0 i 0 1) 5 = true then (o_nm (sI t_6 0 i 5 ((t.1 0 i 0 1).toNatClampNeg) a2) fun t_9 => if o_inb (t.1 0 i 0 1) 5 = true then (o_nm (sI t_9 0 i 6 ((t.1 0 i 0 1).toNatClampNeg) 0) fun t_12 => if o_inb (t.1 0 i 0 1) 5 = true then (o_nm (sI t_12 0 i 7 ((t.1 0 i 0 1).toNatClampNeg) 0) fun t_15 => o_nm (sI t_15 0 i 0 1 ((t_15.1 0 i 0 1) + 1)) fun t_17 => some ((t.1 0 i 0 1), t_17)) else none) else none) else none) else none) else none) else (some ((-3), t))
theorem hd_X0_addCrosser : x_hd yX0_addCrosser 3 := by decide +kernel
set_option maxRecDepth 100000 in
set_option maxHeartbeats 4000000 in
theorem c_X0_addCrosser (l : Launch) (g : Ly) (i : Nat) (hG : XG shC g) (hi : i < 21) (a0 : Int32) (a1 : Int32) (a2 : Int32) (t : Mm) {r : Int32} {t' : Mm} (h : f_X0_addCrosser i a0 a1 a2 t = some (r, t')) : MI l yX0_addCrosser cX0_addCrosser 5 (some .int) 1 shC g [.ref (g.2.2 (0, i, 0)), .int a0, .int a1, .int a2] t (XQi shC g r t') := by
  refine x_met hG (by decide +kernel) (Nat.le_of_ble_eq_true rfl) ?_
  intro p e s m below meth c ls X hP hl
  have hS : va_S (XA shC g) s.heap s.heap [] := va_S.rf
  have hl : lv_has ls 5 [(0, .ref (g.2.2 (0, i, 0))), (1, .int a0), (2, .int a1), (3, .int a2)] := hl
  unfold f_X0_addCrosser at h
  generalize ([.ref (g.2.2 (0, i, 0)), .int a0, .int a1, .int a2] : List Value).toArray = args at X ⊢
  refine lv_aload_n X.1.1 X.1.2.1 dX0_addCrosser_0 rfl (lv_at hl 0 rfl) ?_
  refine gt_X0_1 X hP (kyF (by omega) (by decide)) wd_96 dX0_addCrosser_1 ?_
  refine lv_istore (lv' := [(4, .int (t.1 0 i 0 1)), (0, .ref (g.2.2 (0, i, 0))), (1, .int a0), (2, .int a1), (3, .int a2)]) X.1.1 X.1.2.1 dX0_addCrosser_4 hl (by decide) rfl (fun ls hl => ?_)
  refine lv_iload X.1.1 X.1.2.1 dX0_addCrosser_6 (lv_at hl 0 rfl) ?_
  refine lv_iconst (v := 5) X.1.1 X.1.2.1 dX0_addCrosser_8 (by decide) ?_
  refine lv_icmp_lt (tgt := 15) X.1.1 X.1.2.1 dX0_addCrosser_9 (by decide) (fun c_1 => ?_) (fun c_1 => ?_)
  · have h := o_pos c_1 h
    refine lv_aload_n X.1.1 X.1.2.1 dX0_addCrosser_15 rfl (lv_at hl 1 rfl) ?_
    refine gt_X0_7 X hP (kyF (by omega) (by decide)) wd_115 dX0_addCrosser_16 ?_
    refine lv_iload X.1.1 X.1.2.1 dX0_addCrosser_19 (lv_at hl 0 rfl) ?_
    refine lv_iload_n X.1.1 X.1.2.1 dX0_addCrosser_21 rfl (lv_at hl 2 rfl) ?_
    obtain ⟨g_2, h⟩ := o_gd_inv h
    obtain ⟨t_3, e_4, h⟩ := o_nm_inv h
    refine x_iast X hP hS (kyF (by omega) (by decide)) (fun _ _ => rfl) g_2 dX0_addCrosser_22 (fun H locs hP hS => ?_)
    have hP : XP shC g t_3 H := by rw [e_4]; exact hP
    refine lv_aload_n X.1.1 X.1.2.1 dX0_addCrosser_23 rfl (lv_at hl 1 rfl) ?_
    refine gt_X0_8 X hP (kyF (by omega) (by decide)) wd_118 dX0_addCrosser_24 ?_
    refine lv_iload X.1.1 X.1.2.1 dX0_addCrosser_27 (lv_at hl 0 rfl) ?_
    refine lv_iload_n X.1.1 X.1.2.1 dX0_addCrosser_29 rfl (lv_at hl 3 rfl) ?_
    obtain ⟨g_5, h⟩ := o_gd_inv h
    obtain ⟨t_6, e_7, h⟩ := o_nm_inv h
    refine x_iast X hP hS (kyF (by omega) (by decide)) (fun _ _ => rfl) g_5 dX0_addCrosser_30 (fun H locs hP hS => ?_)
    have hP : XP shC g t_6 H := by rw [e_7]; exact hP
    refine lv_aload_n X.1.1 X.1.2.1 dX0_addCrosser_31 rfl (lv_at hl 1 rfl) ?_
    refine gt_X0_9 X hP (kyF (by omega) (by decide)) wd_121 dX0_addCrosser_32 ?_
    refine lv_iload X.1.1 X.1.2.1 dX0_addCrosser_35 (lv_at hl 0 rfl) ?_
    refine lv_iload_n X.1.1 X.1.2.1 dX0_addCrosser_37 rfl (lv_at hl 4 rfl) ?_
    obtain ⟨g_8, h⟩ := o_gd_inv h
    obtain ⟨t_9, e_10, h⟩ := o_nm_inv h
    refine x_iast X hP hS (kyF (by omega) (by decide)) (fun _ _ => rfl) g_8 dX0_addCrosser_38 (fun H locs hP hS => ?_)
    have hP : XP shC g t_9 H := by rw [e_10]; exact hP
    refine lv_aload_n X.1.1 X.1.2.1 dX0_addCrosser_39 rfl (lv_at hl 1 rfl) ?_
    refine gt_X0_10 X hP (kyF (by omega) (by decide)) wd_125 dX0_addCrosser_40 ?_
    refine lv_iload X.1.1 X.1.2.1 dX0_addCrosser_43 (lv_at hl 0 rfl) ?_
    refine lv_iconst (v := 0) X.1.1 X.1.2.1 dX0_addCrosser_45 (by decide) ?_
    obtain ⟨g_11, h⟩ := o_gd_inv h
    obtain ⟨t_12, e_13, h⟩ := o_nm_inv h
    refine x_iast X hP hS (kyF (by omega) (by decide)) (fun _ _ => rfl) g_11 dX0_addCrosser_46 (fun H locs hP hS => ?_)
    have hP : XP shC g t_12 H := by rw [e_13]; exact hP
    refine lv_aload_n X.1.1 X.1.2.1 dX0_addCrosser_47 rfl (lv_at hl 1 rfl) ?_
    refine gt_X0_11 X hP (kyF (by omega) (by decide)) wd_129 dX0_addCrosser_48 ?_
    refine lv_iload X.1.1 X.1.2.1 dX0_addCrosser_51 (lv_at hl 0 rfl) ?_
    refine lv_iconst (v := 0) X.1.1 X.1.2.1 dX0_addCrosser_53 (by decide) ?_
    obtain ⟨g_14, h⟩ := o_gd_inv h
    obtain ⟨t_15, e_16, h⟩ := o_nm_inv h
    refine x_iast X hP hS (kyF (by omega) (by decide)) (fun _ _ => rfl) g_14 dX0_addCrosser_54 (fun H locs hP hS => ?_)
    have hP : XP shC g t_15 H := by rw [e_16]; exact hP
    refine lv_aload_n X.1.1 X.1.2.1 dX0_addCrosser_55 rfl (lv_at hl 1 rfl) ?_
    refine lv_dup X.1.1 X.1.2.1 dX0_addCrosser_56 rfl ?_
    refine gt_X0_1 X hP (kyF (by omega) (by decide)) wd_96 dX0_addCrosser_57 ?_
    refine lv_iconst (v := 1) X.1.1 X.1.2.1 dX0_addCrosser_60 (by decide) ?_
    refine lv_iadd X.1.1 X.1.2.1 dX0_addCrosser_61 ?_
    obtain ⟨t_17, e_18, h⟩ := o_nm_inv h
    refine pt_X0_1 (x := ((t_15.1 0 i 0 1) + 1)) X hP hS (kyF (by omega) (by decide)) wd_96 dX0_addCrosser_62 (fun H locs hP hS => ?_)
    have hP : XP shC g t_17 H := by rw [e_18]; exact hP
    refine lv_iload X.1.1 X.1.2.1 dX0_addCrosser_65 (lv_at hl 0 rfl) ?_
    obtain ⟨rfl, rfl⟩ := o_ret2 h
    exact x_iret X hP hS dX0_addCrosser_67
  · have h := o_neg c_1 h
    refine lv_bipush (v := (-3)) X.1.1 X.1.2.1 dX0_addCrosser_12 (by decide) ?_
    obtain ⟨rfl, rfl⟩ := o_ret2 h
    exact x_iret X hP hS dX0_addCrosser_14
/-- FordQuestions$Ford.hasQuestion(I)Z -/
def f_X0_hasQuestion (i : Nat) (a0 : Int32) (t : Mm) : Option (Int32 × Mm) := if a0 < 0 then (some (0, t)) else (if (t.1 0 i 0 0) ≤ a0 then (some (0, t)) else (some (1, t)))
theorem hd_X0_hasQuestion : x_hd yX0_hasQuestion 1 := by decide +kernel
set_option maxRecDepth 100000 in
set_option maxHeartbeats 4000000 in
theorem c_X0_hasQuestion (l : Launch) (g : Ly) (i : Nat) (hG : XG shC g) (hi : i < 21) (a0 : Int32) (t : Mm) {r : Int32} {t' : Mm} (h : f_X0_hasQuestion i a0 t = some (r, t')) : MI l yX0_hasQuestion cX0_hasQuestion 2 (some .boolean) 1 shC g [.ref (g.2.2 (0, i, 0)), .int a0] t (XQi shC g r t') := by
  refine x_met hG (by decide +kernel) (Nat.le_of_ble_eq_true rfl) ?_
  intro p e s m below meth c ls X hP hl
  have hS : va_S (XA shC g) s.heap s.heap [] := va_S.rf
  have hl : lv_has ls 2 [(0, .ref (g.2.2 (0, i, 0))), (1, .int a0)] := hl
  unfold f_X0_hasQuestion at h
  generalize ([.ref (g.2.2 (0, i, 0)), .int a0] : List Value).toArray = args at X ⊢
  refine lv_iload_n X.1.1 X.1.2.1 dX0_hasQuestion_0 rfl (lv_at hl 1 rfl) ?_
  refine lv_if_lt (tgt := 16) X.1.1 X.1.2.1 dX0_hasQuestion_1 (by decide) (fun c_1 => ?_) (fun c_1 => ?_)
  · have h := o_pos c_1 h
    refine lv_iconst (v := 0) X.1.1 X.1.2.1 dX0_hasQuestion_16 (by decide) ?_
    obtain ⟨rfl, rfl⟩ := o_ret2 h
    exact x_zret rfl X hP hS dX0_hasQuestion_17
  · have h := o_neg c_1 h
    refine lv_iload_n X.1.1 X.1.2.1 dX0_hasQuestion_4 rfl (lv_at hl 1 rfl) ?_
    refine lv_aload_n X.1.1 X.1.2.1 dX0_hasQuestion_5 rfl (lv_at hl 0 rfl) ?_
    refine gt_X0_0 X hP (kyF (by omega) (by decide)) wd_92 dX0_hasQuestion_6 ?_
    refine lv_icmp_ge (tgt := 16) X.1.1 X.1.2.1 dX0_hasQuestion_9 (by decide) (fun c_2 => ?_) (fun c_2 => ?_)
    · have h := o_pos c_2 h
      refine lv_iconst (v := 0) X.1.1 X.1.2.1 dX0_hasQuestion_16 (by decide) ?_
      obtain ⟨rfl, rfl⟩ := o_ret2 h
      exact x_zret rfl X hP hS dX0_hasQuestion_17
    · have h := o_neg c_2 h
      refine lv_iconst (v := 1) X.1.1 X.1.2.1 dX0_hasQuestion_12 (by decide) ?_
      refine lv_goto (tgt := 17) X.1.1 X.1.2.1 dX0_hasQuestion_13 (by decide) ?_
      obtain ⟨rfl, rfl⟩ := o_ret2 h
      exact x_zret rfl X hP hS dX0_hasQuestion_17
/-- FordQuestions$Ford.hasCrosser(I)Z -/
def f_X0_hasCrosser (i : Nat) (a0 : Int32) (t : Mm) : Option (Int32 × Mm) := if a0 < 0 then (some (0, t)) else (if (t.1 0 i 0 1) ≤ a0 then (some (0, t)) else (some (1, t)))
theorem hd_X0_hasCrosser : x_hd yX0_hasCrosser 1 := by decide +kernel
set_option maxRecDepth 100000 in
set_option maxHeartbeats 4000000 in
theorem c_X0_hasCrosser (l : Launch) (g : Ly) (i : Nat) (hG : XG shC g) (hi : i < 21) (a0 : Int32) (t : Mm) {r : Int32} {t' : Mm} (h : f_X0_hasCrosser i a0 t = some (r, t')) : MI l yX0_hasCrosser cX0_hasCrosser 2 (some .boolean) 1 shC g [.ref (g.2.2 (0, i, 0)), .int a0] t (XQi shC g r t') := by
  refine x_met hG (by decide +kernel) (Nat.le_of_ble_eq_true rfl) ?_
  intro p e s m below meth c ls X hP hl
  have hS : va_S (XA shC g) s.heap s.heap [] := va_S.rf
  have hl : lv_has ls 2 [(0, .ref (g.2.2 (0, i, 0))), (1, .int a0)] := hl
  unfold f_X0_hasCrosser at h
  generalize ([.ref (g.2.2 (0, i, 0)), .int a0] : List Value).toArray = args at X ⊢
  refine lv_iload_n X.1.1 X.1.2.1 dX0_hasCrosser_0 rfl (lv_at hl 1 rfl) ?_
  refine lv_if_lt (tgt := 16) X.1.1 X.1.2.1 dX0_hasCrosser_1 (by decide) (fun c_1 => ?_) (fun c_1 => ?_)
  · have h := o_pos c_1 h
    refine lv_iconst (v := 0) X.1.1 X.1.2.1 dX0_hasCrosser_16 (by decide) ?_
    obtain ⟨rfl, rfl⟩ := o_ret2 h
    exact x_zret rfl X hP hS dX0_hasCrosser_17
  · have h := o_neg c_1 h
    refine lv_iload_n X.1.1 X.1.2.1 dX0_hasCrosser_4 rfl (lv_at hl 1 rfl) ?_
    refine lv_aload_n X.1.1 X.1.2.1 dX0_hasCrosser_5 rfl (lv_at hl 0 rfl) ?_
    refine gt_X0_1 X hP (kyF (by omega) (by decide)) wd_96 dX0_hasCrosser_6 ?_
    refine lv_icmp_ge (tgt := 16) X.1.1 X.1.2.1 dX0_hasCrosser_9 (by decide) (fun c_2 => ?_) (fun c_2 => ?_)
    · have h := o_pos c_2 h
      refine lv_iconst (v := 0) X.1.1 X.1.2.1 dX0_hasCrosser_16 (by decide) ?_
      obtain ⟨rfl, rfl⟩ := o_ret2 h
      exact x_zret rfl X hP hS dX0_hasCrosser_17
    · have h := o_neg c_2 h
      refine lv_iconst (v := 1) X.1.1 X.1.2.1 dX0_hasCrosser_12 (by decide) ?_
      refine lv_goto (tgt := 17) X.1.1 X.1.2.1 dX0_hasCrosser_13 (by decide) ?_
      obtain ⟨rfl, rfl⟩ := o_ret2 h
      exact x_zret rfl X hP hS dX0_hasCrosser_17
/-- FordQuestions.isIn(II)Z -/
def f_X7_isIn (a0 : Int32) (a1 : Int32) (t : Mm) : Option (Int32 × Mm) := if ((a0 >>> (a1 &&& 31)) &&& 1) = 0 then (some (0, t)) else (some (1, t))
theorem hd_X7_isIn : x_hd yX7_isIn 2 := by decide +kernel
set_option maxRecDepth 100000 in
set_option maxHeartbeats 4000000 in
theorem c_X7_isIn (l : Launch) (g : Ly) (hG : XG shC g) (a0 : Int32) (a1 : Int32) (t : Mm) {r : Int32} {t' : Mm} (h : f_X7_isIn a0 a1 t = some (r, t')) : MI l yX7_isIn cX7_isIn 2 (some .boolean) 1 shC g [.int a0, .int a1] t (XQi shC g r t') := by
  refine x_met hG (by decide +kernel) (Nat.le_of_ble_eq_true rfl) ?_
  intro p e s m below meth c ls X hP hl
  have hS : va_S (XA shC g) s.heap s.heap [] := va_S.rf
  have hl : lv_has ls 2 [(0, .int a0), (1, .int a1)] := hl
  unfold f_X7_isIn at h
  generalize ([.int a0, .int a1] : List Value).toArray = args at X ⊢
  refine lv_iload_n X.1.1 X.1.2.1 dX7_isIn_0 rfl (lv_at hl 0 rfl) ?_
  refine lv_iload_n X.1.1 X.1.2.1 dX7_isIn_1 rfl (lv_at hl 1 rfl) ?_
  refine lv_ishr X.1.1 X.1.2.1 dX7_isIn_2 ?_
  refine lv_iconst (v := 1) X.1.1 X.1.2.1 dX7_isIn_3 (by decide) ?_
  refine lv_iand X.1.1 X.1.2.1 dX7_isIn_4 ?_
  refine lv_if_eq (tgt := 12) X.1.1 X.1.2.1 dX7_isIn_5 (by decide) (fun c_1 => ?_) (fun c_1 => ?_)
  · have h := o_pos c_1 h
    refine lv_iconst (v := 0) X.1.1 X.1.2.1 dX7_isIn_12 (by decide) ?_
    obtain ⟨rfl, rfl⟩ := o_ret2 h
    exact x_zret rfl X hP hS dX7_isIn_13
  · have h := o_neg c_1 h
    refine lv_iconst (v := 1) X.1.1 X.1.2.1 dX7_isIn_8 (by decide) ?_
    refine lv_goto (tgt := 13) X.1.1 X.1.2.1 dX7_isIn_9 (by decide) ?_
    obtain ⟨rfl, rfl⟩ := o_ret2 h
    exact x_zret rfl X hP hS dX7_isIn_13
/-- FordQuestions$Ford.isAsked(I)Z -/
def f_X0_isAsked (i : Nat) (a0 : Int32) (t : Mm) : Option (Int32 × Mm) := o_bd (f_X7_isIn (t.1 0 i 0 2) a0 t) fun (r_3, t_1) => if (r_3 = 0 ∨ r_3 = 1) then some (r_3, t_1) else none
theorem hd_X0_isAsked : x_hd yX0_isAsked 1 := by decide +kernel
set_option maxRecDepth 100000 in
set_option maxHeartbeats 4000000 in
theorem c_X0_isAsked (l : Launch) (g : Ly) (i : Nat) (hG : XG shC g) (hi : i < 21) (a0 : Int32) (t : Mm) {r : Int32} {t' : Mm} (h : f_X0_isAsked i a0 t = some (r, t')) : MI l yX0_isAsked cX0_isAsked 2 (some .boolean) 2 shC g [.ref (g.2.2 (0, i, 0)), .int a0] t (XQi shC g r t') := by
  refine x_met hG (by decide +kernel) (Nat.le_of_ble_eq_true rfl) ?_
  intro p e s m below meth c ls X hP hl
  have hS : va_S (XA shC g) s.heap s.heap [] := va_S.rf
  have hl : lv_has ls 2 [(0, .ref (g.2.2 (0, i, 0))), (1, .int a0)] := hl
  unfold f_X0_isAsked at h
  generalize ([.ref (g.2.2 (0, i, 0)), .int a0] : List Value).toArray = args at X ⊢
  refine lv_aload_n X.1.1 X.1.2.1 dX0_isAsked_0 rfl (lv_at hl 0 rfl) ?_
  refine gt_X0_2 X hP (kyF (by omega) (by decide)) wd_100 dX0_isAsked_1 ?_
  refine lv_iload_n X.1.1 X.1.2.1 dX0_isAsked_4 rfl (lv_at hl 1 rfl) ?_
  obtain ⟨⟨r_3, t_1⟩, hc_2, h⟩ := o_bd_inv h
  refine x_calli (x_runSN (As := [.int (t.1 0 i 0 2), .int a0]) (rest := []) X hP hS (c_X7_isIn l g X.2.2.2.2.1 (t.1 0 i 0 2) a0 t hc_2) ⟨wd_349, wd_347, wd_348, wd_54⟩ hd_X7_isIn ⟨by omega, by decide⟩ rfl hl.1 rfl (Nat.le_of_ble_eq_true rfl) dX0_isAsked_5) hS (fun H locs hP hS => ?_)
  obtain ⟨g_5, h⟩ := o_gd_inv h
  obtain ⟨rfl, rfl⟩ := o_ret2 h
  exact x_zret (x_narZ g_5) X hP hS dX0_isAsked_8
/-- FordQuestions$Ford.letAskAgain(I)V -/
def f_X0_letAskAgain (i : Nat) (a0 : Int32) (t : Mm) : Option (Mm) := o_nm (sI t 0 i 0 2 ((t.1 0 i 0 2) &&& ((1 <<< (a0 &&& 31)) ^^^ (-1)))) fun t_1 => some t_1
theorem hd_X0_letAskAgain : x_hd yX0_letAskAgain 1 := by decide +kernel
set_option maxRecDepth 100000 in
set_option maxHeartbeats 4000000 in
theorem c_X0_letAskAgain (l : Launch) (g : Ly) (i : Nat) (hG : XG shC g) (hi : i < 21) (a0 : Int32) (t : Mm) {t' : Mm} (h : f_X0_letAskAgain i a0 t = some t') : MI l yX0_letAskAgain cX0_letAskAgain 2 none 1 shC g [.ref (g.2.2 (0, i, 0)), .int a0] t (XQv shC g t') := by
  refine x_met hG (by decide +kernel) (Nat.le_of_ble_eq_true rfl) ?_
  intro p e s m below meth c ls X hP hl
  have hS : va_S (XA shC g) s.heap s.heap [] := va_S.rf
  have hl : lv_has ls 2 [(0, .ref (g.2.2 (0, i, 0))), (1, .int a0)] := hl
  unfold f_X0_letAskAgain at h
  generalize ([.ref (g.2.2 (0, i, 0)), .int a0] : List Value).toArray = args at X ⊢
  refine lv_aload_n X.1.1 X.1.2.1 dX0_letAskAgain_0 rfl (lv_at hl 0 rfl) ?_
  refine lv_dup X.1.1 X.1.2.1 dX0_letAskAgain_1 rfl ?_
  refine gt_X0_2 X hP (kyF (by omega) (by decide)) wd_100 dX0_letAskAgain_2 ?_
  refine lv_iconst (v := 1) X.1.1 X.1.2.1 dX0_letAskAgain_5 (by decide) ?_
  refine lv_iload_n X.1.1 X.1.2.1 dX0_letAskAgain_6 rfl (lv_at hl 1 rfl) ?_
  refine lv_ishl X.1.1 X.1.2.1 dX0_letAskAgain_7 ?_
  refine lv_iconst (v := (-1)) X.1.1 X.1.2.1 dX0_letAskAgain_8 (by decide) ?_
  refine lv_ixor X.1.1 X.1.2.1 dX0_letAskAgain_9 ?_
  refine lv_iand X.1.1 X.1.2.1 dX0_letAskAgain_10 ?_
  obtain ⟨t_1, e_2, h⟩ := o_nm_inv h
  refine pt_X0_2 (x := ((t.1 0 i 0 2) &&& ((1 <<< (a0 &&& 31)) ^^^ (-1)))) X hP hS (kyF (by omega) (by decide)) wd_100 dX0_letAskAgain_11 (fun H locs hP hS => ?_)
  have hP : XP shC g t_1 H := by rw [e_2]; exact hP
  obtain rfl := o_ret h
  exact x_vret X hP hS dX0_letAskAgain_14
/-- FordQuestions$Ford.everyone()I -/
def f_X0_everyone (i : Nat) (t : Mm) : Option (Int32 × Mm) := some (((1 <<< ((t.1 0 i 0 1) &&& 31)) - 1), t)
theorem hd_X0_everyone : x_hd yX0_everyone 0 := by decide +kernel
set_option maxRecDepth 100000 in
set_option maxHeartbeats 4000000 in
theorem c_X0_everyone (l : Launch) (g : Ly) (i : Nat) (hG : XG shC g) (hi : i < 21) (t : Mm) {r : Int32} {t' : Mm} (h : f_X0_everyone i t = some (r, t')) : MI l yX0_everyone cX0_everyone 1 (some .int) 1 shC g [.ref (g.2.2 (0, i, 0))] t (XQi shC g r t') := by
  refine x_met hG (by decide +kernel) (Nat.le_of_ble_eq_true rfl) ?_
  intro p e s m below meth c ls X hP hl
  have hS : va_S (XA shC g) s.heap s.heap [] := va_S.rf
  have hl : lv_has ls 1 [(0, .ref (g.2.2 (0, i, 0)))] := hl
  unfold f_X0_everyone at h
  generalize ([.ref (g.2.2 (0, i, 0))] : List Value).toArray = args at X ⊢
  refine lv_iconst (v := 1) X.1.1 X.1.2.1 dX0_everyone_0 (by decide) ?_
  refine lv_aload_n X.1.1 X.1.2.1 dX0_everyone_1 rfl (lv_at hl 0 rfl) ?_
  refine gt_X0_1 X hP (kyF (by omega) (by decide)) wd_96 dX0_everyone_2 ?_
  refine lv_ishl X.1.1 X.1.2.1 dX0_everyone_5 ?_
  refine lv_iconst (v := 1) X.1.1 X.1.2.1 dX0_everyone_6 (by decide) ?_
  refine lv_isub X.1.1 X.1.2.1 dX0_everyone_7 ?_
  obtain ⟨rfl, rfl⟩ := o_ret2 h
  exact x_iret X hP hS dX0_everyone_8
def f_X0_thoseWho_28 (N : Nat) (i : Nat) (k4 : Int32 × Int32 × Int32 × Mm → Option (Int32 × Mm)) (x1 : Int32) (x2 : Int32) (x3 : Int32) (t : Mm) : Option (Int32 × Mm) := k4 (x1, x2, (x3 + 1), t)
def b_X0_thoseWho_4 (N : Nat) (i : Nat) (k4 : Int32 × Int32 × Int32 × Mm → Option (Int32 × Mm)) (x1 : Int32) (x2 : Int32) (x3 : Int32) (t : Mm) : Option (Int32 × Mm) := if (t.1 0 i 0 1) ≤ x3 then (some (x2, t)) else (if o_inb x3 5 = true then (if (t.1 0 i 6 (x3.toNatClampNeg)) = x1 then (o_nm ((x2 ||| (1 <<< (x3 &&& 31)))) fun x_4 => f_X0_thoseWho_28 N i k4 x1 x_4 x3 t) else (f_X0_thoseWho_28 N i k4 x1 x2 x3 t)) else none)
def f_X0_thoseWho_4 (N : Nat) (i : Nat) (x1 : Int32) (x2 : Int32) (x3 : Int32) (t : Mm) : Option (Int32 × Mm) := o_lp (fun k x => b_X0_thoseWho_4 N i k x.1 x.2.1 x.2.2.1 x.2.2.2) N (x1, x2, x3, t)
/-- FordQuestions$Ford.thoseWho(I)I -/
def f_X0_thoseWho (N : Nat) (i : Nat) (a0 : Int32) (t : Mm) : Option (Int32 × Mm) := f_X0_thoseWho_4 N i a0 0 0 t
theorem hd_X0_thoseWho : x_hd yX0_thoseWho 1 := by decide +kernel
set_option maxRecDepth 100000 in
set_option maxHeartbeats 4000000 in
theorem w_X0_thoseWho_28 {l : Launch} {g : Ly} {p : Program} {e : Env} {s : State} {m : MethodId} {args : Array Value} {below : List Frame} {meth : Method} {c : Code} (N : Nat) (i : Nat) (hi : i < 21) (X : XC p m meth c cX0_thoseWho 4 s args (.code yX0_thoseWho cX0_thoseWho 4 (some .int)) RX0 (some .int) shC g) {r : Int32} {t' : Mm} {k4 : Int32 × Int32 × Int32 × Mm → Option (Int32 × Mm)} (hk4 : ∀ x : Int32 × Int32 × Int32 × Mm, k4 x = some (r, t') → ∀ (H : Heap) (locs : List Loc) (ls : Array Slot), XP shC g x.2.2.2 H → va_S (XA shC g) s.heap H locs → lv_has ls 4 [(0, .ref (g.2.2 (0, i, 0))), (1, .int x.1), (2, .int x.2.1), (3, .int x.2.2.1)] → W p l e (rmv 1) s m args below meth c H locs 0 0 (MQ below (XQi shC g r t') args s 0 0 (XA shC g)) (F0 m 4 ls [])) (x1 : Int32) (x2 : Int32) (x3 : Int32) (t : Mm) (H : Heap) (locs : List Loc) (ls : Array Slot) (hP : XP shC g t H) (hS : va_S (XA shC g) s.heap H locs) (hl : lv_has ls 4 [(0, .ref (g.2.2 (0, i, 0))), (1, .int x1), (2, .int x2), (3, .int x3)]) (h : f_X0_thoseWho_28 N i k4 x1 x2 x3 t = some (r, t')) : W p l e (rmv 1) s m args below meth c H locs 0 0 (MQ below (XQi shC g r t') args s 0 0 (XA shC g)) (F0 m 28 ls []) := by
  unfold f_X0_thoseWho_28 at h
  refine lv_iinc (v := (x3 + 1)) (lv' := [(3, .int (x3 + 1)), (0, .ref (g.2.2 (0, i, 0))), (1, .int x1), (2, .int x2)]) X.1.1 X.1.2.1 dX0_thoseWho_28 hl (k := 3) rfl rfl (by decide) rfl (fun ls hl => ?_)
  refine lv_goto (tgt := 4) X.1.1 X.1.2.1 dX0_thoseWho_31 (by decide) ?_
  exact hk4 (x1, x2, (x3 + 1), t) h _ _ _ hP hS (lv_sub hl [1, 2, 3, 0] rfl)
set_option maxRecDepth 100000 in
set_option maxHeartbeats 4000000 in
theorem wb_X0_thoseWho_4 {l : Launch} {g : Ly} {p : Program} {e : Env} {s : State} {m : MethodId} {args : Array Value} {below : List Frame} {meth : Method} {c : Code} (N : Nat) (i : Nat) (hi : i < 21) (X : XC p m meth c cX0_thoseWho 4 s args (.code yX0_thoseWho cX0_thoseWho 4 (some .int)) RX0 (some .int) shC g) {r : Int32} {t' : Mm} {k4 : Int32 × Int32 × Int32 × Mm → Option (Int32 × Mm)} (hk4 : ∀ x : Int32 × Int32 × Int32 × Mm, k4 x = some (r, t') → ∀ (H : Heap) (locs : List Loc) (ls : Array Slot), XP shC g x.2.2.2 H → va_S (XA shC g) s.heap H locs → lv_has ls 4 [(0, .ref (g.2.2 (0, i, 0))), (1, .int x.1), (2, .int x.2.1), (3, .int x.2.2.1)] → W p l e (rmv 1) s m args below meth c H locs 0 0 (MQ below (XQi shC g r t') args s 0 0 (XA shC g)) (F0 m 4 ls [])) (x1 : Int32) (x2 : Int32) (x3 : Int32) (t : Mm) (H : Heap) (locs : List Loc) (ls : Array Slot) (hP : XP shC g t H) (hS : va_S (XA shC g) s.heap H locs) (hl : lv_has ls 4 [(0, .ref (g.2.2 (0, i, 0))), (1, .int x1), (2, .int x2), (3, .int x3)]) (h : b_X0_thoseWho_4 N i k4 x1 x2 x3 t = some (r, t')) : W p l e (rmv 1) s m args below meth c H locs 0 0 (MQ below (XQi shC g r t') args s 0 0 (XA shC g)) (F0 m 4 ls []) := by
  unfold b_X0_thoseWho_4 at h
  refine lv_iload_n X.1.1 X.1.2.1 dX0_thoseWho_4 rfl (lv_at hl 3 rfl) ?_
  refine lv_aload_n X.1.1 X.1.2.1 dX0_thoseWho_5 rfl (lv_at hl 0 rfl) ?_
  refine gt_X0_1 X hP (kyF (by omega) (by decide)) wd_96 dX0_thoseWho_6 ?_
  refine lv_icmp_ge (tgt := 34) X.1.1 X.1.2.1 dX0_thoseWho_9 (by decide) (fun c_1 => ?_) (fun c_1 => ?_)
  · have h := o_pos c_1 h
    refine lv_iload_n X.1.1 X.1.2.1 dX0_thoseWho_34 rfl (lv_at hl 2 rfl) ?_
    obtain ⟨rfl, rfl⟩ := o_ret2 h
    exact x_iret X hP hS dX0_thoseWho_35
  · have h := o_neg c_1 h
    refine lv_aload_n X.1.1 X.1.2.1 dX0_thoseWho_12 rfl (lv_at hl 0 rfl) ?_
    refine gt_X0_10 X hP (kyF (by omega) (by decide)) wd_125 dX0_thoseWho_13 ?_
    refine lv_iload_n X.1.1 X.1.2.1 dX0_thoseWho_16 rfl (lv_at hl 3 rfl) ?_
    obtain ⟨g_2, h⟩ := o_gd_inv h
    refine x_iald X hP (kyF (by omega) (by decide)) (fun _ _ => rfl) g_2 dX0_thoseWho_17 ?_
    refine lv_iload_n X.1.1 X.1.2.1 dX0_thoseWho_18 rfl (lv_at hl 1 rfl) ?_
    refine lv_icmp_ne (tgt := 28) X.1.1 X.1.2.1 dX0_thoseWho_19 (by decide) (fun c_3 => ?_) (fun c_3 => ?_)
    · have h := o_neg c_3 h
      exact w_X0_thoseWho_28 N i (by omega) X hk4 x1 x2 x3 t _ _ _ hP hS (lv_sub hl [0, 1, 2, 3] rfl) h
    · have h := o_pos c_3 h
      refine lv_iload_n X.1.1 X.1.2.1 dX0_thoseWho_22 rfl (lv_at hl 2 rfl) ?_
      refine lv_iconst (v := 1) X.1.1 X.1.2.1 dX0_thoseWho_23 (by decide) ?_
      refine lv_iload_n X.1.1 X.1.2.1 dX0_thoseWho_24 rfl (lv_at hl 3 rfl) ?_
      refine lv_ishl X.1.1 X.1.2.1 dX0_thoseWho_25 ?_
      refine lv_ior X.1.1 X.1.2.1 dX0_thoseWho_26 ?_
      refine lv_topi (fun x_4 e_5 => ?_)
      have h := o_nm_to e_5 h
      refine lv_istore_n (lv' := [(2, .int x_4), (0, .ref (g.2.2 (0, i, 0))), (1, .int x1), (3, .int x3)]) X.1.1 X.1.2.1 dX0_thoseWho_27 rfl hl (by decide) rfl (fun ls hl => ?_)
      exact w_X0_thoseWho_28 N i (by omega) X hk4 x1 x_4 x3 t _ _ _ hP hS (lv_sub hl [1, 2, 0, 3] rfl) h
set_option maxRecDepth 100000 in
set_option maxHeartbeats 4000000 in
theorem w_X0_thoseWho_4 {l : Launch} {g : Ly} {p : Program} {e : Env} {s : State} {m : MethodId} {args : Array Value} {below : List Frame} {meth : Method} {c : Code} (N : Nat) (i : Nat) (hi : i < 21) (X : XC p m meth c cX0_thoseWho 4 s args (.code yX0_thoseWho cX0_thoseWho 4 (some .int)) RX0 (some .int) shC g) {r : Int32} {t' : Mm} (x1 : Int32) (x2 : Int32) (x3 : Int32) (t : Mm) (H : Heap) (locs : List Loc) (ls : Array Slot) (hP : XP shC g t H) (hS : va_S (XA shC g) s.heap H locs) (hl : lv_has ls 4 [(0, .ref (g.2.2 (0, i, 0))), (1, .int x1), (2, .int x2), (3, .int x3)]) (h : f_X0_thoseWho_4 N i x1 x2 x3 t = some (r, t')) : W p l e (rmv 1) s m args below meth c H locs 0 0 (MQ below (XQi shC g r t') args s 0 0 (XA shC g)) (F0 m 4 ls []) :=
  o_lp_ind (P := fun x : Int32 × Int32 × Int32 × Mm => ∀ (H : Heap) (locs : List Loc) (ls : Array Slot), XP shC g x.2.2.2 H → va_S (XA shC g) s.heap H locs → lv_has ls 4 [(0, .ref (g.2.2 (0, i, 0))), (1, .int x.1), (2, .int x.2.1), (3, .int x.2.2.1)] → W p l e (rmv 1) s m args below meth c H locs 0 0 (MQ below (XQi shC g r t') args s 0 0 (XA shC g)) (F0 m 4 ls [])) (fun k hk x h H locs ls hP hS hl => wb_X0_thoseWho_4 N i hi X hk x.1 x.2.1 x.2.2.1 x.2.2.2 H locs ls hP hS hl h) N (x1, x2, x3, t) h H locs ls hP hS hl
set_option maxRecDepth 100000 in
set_option maxHeartbeats 4000000 in
theorem c_X0_thoseWho (l : Launch) (g : Ly) (N : Nat) (i : Nat) (hG : XG shC g) (hi : i < 21) (a0 : Int32) (t : Mm) {r : Int32} {t' : Mm} (h : f_X0_thoseWho N i a0 t = some (r, t')) : MI l yX0_thoseWho cX0_thoseWho 4 (some .int) 1 shC g [.ref (g.2.2 (0, i, 0)), .int a0] t (XQi shC g r t') := by
  refine x_met hG (by decide +kernel) (Nat.le_of_ble_eq_true rfl) ?_
  intro p e s m below meth c ls X hP hl
  have hS : va_S (XA shC g) s.heap s.heap [] := va_S.rf
  have hl : lv_has ls 4 [(0, .ref (g.2.2 (0, i, 0))), (1, .int a0)] := hl
  unfold f_X0_thoseWho at h
  generalize ([.ref (g.2.2 (0, i, 0)), .int a0] : List Value).toArray = args at X ⊢
  refine lv_iconst (v := 0) X.1.1 X.1.2.1 dX0_thoseWho_0 (by decide) ?_
  refine lv_istore_n (lv' := [(2, .int 0), (0, .ref (g.2.2 (0, i, 0))), (1, .int a0)]) X.1.1 X.1.2.1 dX0_thoseWho_1 rfl hl (by decide) rfl (fun ls hl => ?_)
  refine lv_iconst (v := 0) X.1.1 X.1.2.1 dX0_thoseWho_2 (by decide) ?_
  refine lv_istore_n (lv' := [(3, .int 0), (2, .int 0), (0, .ref (g.2.2 (0, i, 0))), (1, .int a0)]) X.1.1 X.1.2.1 dX0_thoseWho_3 rfl hl (by decide) rfl (fun ls hl => ?_)
  exact w_X0_thoseWho_4 N i (by omega) X a0 0 0 t _ _ _ hP hS (lv_sub hl [2, 3, 1, 0] rfl) h
/-- java/lang/Integer.bitCount(I)I -/
def f_J6_bitCount_0f7a4 (a0 : Int32) (t : Mm) : Option (Int32 × Mm) := o_nm ((a0 - (((a0.toUInt32 >>> ((1 : Int32).toUInt32 &&& Int32.toUInt32 31)).toInt32) &&& 1431655765))) fun x_1 => o_nm (((x_1 &&& 858993459) + (((x_1.toUInt32 >>> ((2 : Int32).toUInt32 &&& Int32.toUInt32 31)).toInt32) &&& 858993459))) fun x_3 => o_nm (((x_3 + ((x_3.toUInt32 >>> ((4 : Int32).toUInt32 &&& Int32.toUInt32 31)).toInt32)) &&& 252645135)) fun x_5 => o_nm ((x_5 + ((x_5.toUInt32 >>> ((8 : Int32).toUInt32 &&& Int32.toUInt32 31)).toInt32))) fun x_7 => o_nm ((x_7 + ((x_7.toUInt32 >>> ((16 : Int32).toUInt32 &&& Int32.toUInt32 31)).toInt32))) fun x_9 => some ((x_9 &&& 63), t)
theorem hd_J6_bitCount_0f7a4 : x_hd yJ6_bitCount_0f7a4 1 := by decide +kernel
set_option maxRecDepth 100000 in
set_option maxHeartbeats 4000000 in
theorem c_J6_bitCount_0f7a4 (l : Launch) (g : Ly) (hG : XG shC g) (a0 : Int32) (t : Mm) {r : Int32} {t' : Mm} (h : f_J6_bitCount_0f7a4 a0 t = some (r, t')) : MI l yJ6_bitCount_0f7a4 cJ6_bitCount_0f7a4 1 (some .int) 1 shC g [.int a0] t (XQi shC g r t') := by
  refine x_met hG (by decide +kernel) (Nat.le_of_ble_eq_true rfl) ?_
  intro p e s m below meth c ls X hP hl
  have hS : va_S (XA shC g) s.heap s.heap [] := va_S.rf
  have hl : lv_has ls 1 [(0, .int a0)] := hl
  unfold f_J6_bitCount_0f7a4 at h
  generalize ([.int a0] : List Value).toArray = args at X ⊢
  refine lv_iload_n X.1.1 X.1.2.1 dJ6_bitCount_0f7a4_0 rfl (lv_at hl 0 rfl) ?_
  refine lv_iload_n X.1.1 X.1.2.1 dJ6_bitCount_0f7a4_1 rfl (lv_at hl 0 rfl) ?_
  refine lv_iconst (v := 1) X.1.1 X.1.2.1 dJ6_bitCount_0f7a4_2 (by decide) ?_
  refine lv_iushr (v := (a0.toUInt32 >>> ((1 : Int32).toUInt32 &&& Int32.toUInt32 31)).toInt32) X.1.1 X.1.2.1 dJ6_bitCount_0f7a4_3 rfl ?_
  refine lv_ldcw (v := 1431655765) X.1.1 X.1.2.1 X.1.2.2.2.1 (X.1.2.2.2.2 _ (List.mem_cons_of_mem _ wd_373)) dJ6_bitCount_0f7a4_4 ?_
  refine lv_iand X.1.1 X.1.2.1 dJ6_bitCount_0f7a4_7 ?_
  refine lv_isub X.1.1 X.1.2.1 dJ6_bitCount_0f7a4_8 ?_
  refine lv_topi (fun x_1 e_2 => ?_)
  have h := o_nm_to e_2 h
  refine lv_istore_n (lv' := [(0, .int x_1)]) X.1.1 X.1.2.1 dJ6_bitCount_0f7a4_9 rfl hl (by decide) rfl (fun ls hl => ?_)
  refine lv_iload_n X.1.1 X.1.2.1 dJ6_bitCount_0f7a4_10 rfl (lv_at hl 0 rfl) ?_
  refine lv_ldcw (v := 858993459) X.1.1 X.1.2.1 X.1.2.2.2.1 (X.1.2.2.2.2 _ (List.mem_cons_of_mem _ wd_374)) dJ6_bitCount_0f7a4_11 ?_
  refine lv_iand X.1.1 X.1.2.1 dJ6_bitCount_0f7a4_14 ?_
  refine lv_iload_n X.1.1 X.1.2.1 dJ6_bitCount_0f7a4_15 rfl (lv_at hl 0 rfl) ?_
  refine lv_iconst (v := 2) X.1.1 X.1.2.1 dJ6_bitCount_0f7a4_16 (by decide) ?_
  refine lv_iushr (v := (x_1.toUInt32 >>> ((2 : Int32).toUInt32 &&& Int32.toUInt32 31)).toInt32) X.1.1 X.1.2.1 dJ6_bitCount_0f7a4_17 rfl ?_
  refine lv_ldcw (v := 858993459) X.1.1 X.1.2.1 X.1.2.2.2.1 (X.1.2.2.2.2 _ (List.mem_cons_of_mem _ wd_374)) dJ6_bitCount_0f7a4_18 ?_
  refine lv_iand X.1.1 X.1.2.1 dJ6_bitCount_0f7a4_21 ?_
  refine lv_iadd X.1.1 X.1.2.1 dJ6_bitCount_0f7a4_22 ?_
  refine lv_topi (fun x_3 e_4 => ?_)
  have h := o_nm_to e_4 h
  refine lv_istore_n (lv' := [(0, .int x_3)]) X.1.1 X.1.2.1 dJ6_bitCount_0f7a4_23 rfl hl (by decide) rfl (fun ls hl => ?_)
  refine lv_iload_n X.1.1 X.1.2.1 dJ6_bitCount_0f7a4_24 rfl (lv_at hl 0 rfl) ?_
  refine lv_iload_n X.1.1 X.1.2.1 dJ6_bitCount_0f7a4_25 rfl (lv_at hl 0 rfl) ?_
  refine lv_iconst (v := 4) X.1.1 X.1.2.1 dJ6_bitCount_0f7a4_26 (by decide) ?_
  refine lv_iushr (v := (x_3.toUInt32 >>> ((4 : Int32).toUInt32 &&& Int32.toUInt32 31)).toInt32) X.1.1 X.1.2.1 dJ6_bitCount_0f7a4_27 rfl ?_
  refine lv_iadd X.1.1 X.1.2.1 dJ6_bitCount_0f7a4_28 ?_
  refine lv_ldcw (v := 252645135) X.1.1 X.1.2.1 X.1.2.2.2.1 (X.1.2.2.2.2 _ (List.mem_cons_of_mem _ wd_375)) dJ6_bitCount_0f7a4_29 ?_
  refine lv_iand X.1.1 X.1.2.1 dJ6_bitCount_0f7a4_32 ?_
  refine lv_topi (fun x_5 e_6 => ?_)
  have h := o_nm_to e_6 h
  refine lv_istore_n (lv' := [(0, .int x_5)]) X.1.1 X.1.2.1 dJ6_bitCount_0f7a4_33 rfl hl (by decide) rfl (fun ls hl => ?_)
  refine lv_iload_n X.1.1 X.1.2.1 dJ6_bitCount_0f7a4_34 rfl (lv_at hl 0 rfl) ?_
  refine lv_iload_n X.1.1 X.1.2.1 dJ6_bitCount_0f7a4_35 rfl (lv_at hl 0 rfl) ?_
  refine lv_bipush (v := 8) X.1.1 X.1.2.1 dJ6_bitCount_0f7a4_36 (by decide) ?_
  refine lv_iushr (v := (x_5.toUInt32 >>> ((8 : Int32).toUInt32 &&& Int32.toUInt32 31)).toInt32) X.1.1 X.1.2.1 dJ6_bitCount_0f7a4_38 rfl ?_
  refine lv_iadd X.1.1 X.1.2.1 dJ6_bitCount_0f7a4_39 ?_
  refine lv_topi (fun x_7 e_8 => ?_)
  have h := o_nm_to e_8 h
  refine lv_istore_n (lv' := [(0, .int x_7)]) X.1.1 X.1.2.1 dJ6_bitCount_0f7a4_40 rfl hl (by decide) rfl (fun ls hl => ?_)
  refine lv_iload_n X.1.1 X.1.2.1 dJ6_bitCount_0f7a4_41 rfl (lv_at hl 0 rfl) ?_
  refine lv_iload_n X.1.1 X.1.2.1 dJ6_bitCount_0f7a4_42 rfl (lv_at hl 0 rfl) ?_
  refine lv_bipush (v := 16) X.1.1 X.1.2.1 dJ6_bitCount_0f7a4_43 (by decide) ?_
  refine lv_iushr (v := (x_7.toUInt32 >>> ((16 : Int32).toUInt32 &&& Int32.toUInt32 31)).toInt32) X.1.1 X.1.2.1 dJ6_bitCount_0f7a4_45 rfl ?_
  refine lv_iadd X.1.1 X.1.2.1 dJ6_bitCount_0f7a4_46 ?_
  refine lv_topi (fun x_9 e_10 => ?_)
  have h := o_nm_to e_10 h
  refine lv_istore_n (lv' := [(0, .int x_9)]) X.1.1 X.1.2.1 dJ6_bitCount_0f7a4_47 rfl hl (by decide) rfl (fun ls hl => ?_)
  refine lv_iload_n X.1.1 X.1.2.1 dJ6_bitCount_0f7a4_48 rfl (lv_at hl 0 rfl) ?_
  refine lv_bipush (v := 63) X.1.1 X.1.2.1 dJ6_bitCount_0f7a4_49 (by decide) ?_
  refine lv_iand X.1.1 X.1.2.1 dJ6_bitCount_0f7a4_51 ?_
  obtain ⟨rfl, rfl⟩ := o_ret2 h
  exact x_iret X hP hS dJ6_bitCount_0f7a4_52
def f_X0_hoursAmong_48 (i : Nat) (x1 : Int32) (x2 : Int32) (x4 : Int32) (x6 : Int32) (s0 : Int32) (t : Mm) : Option (Int32 × Mm) := o_nm ((if 2 < x6 then 2 else x6)) fun x_1 => if o_inb x2 5 = true then (if (t.1 0 i 3 (x2.toNatClampNeg)) = 0 then (some (x6, t)) else (if (t.1 0 i 3 (x2.toNatClampNeg)) = 1 then (some (s0, t)) else (if (t.1 0 i 3 (x2.toNatClampNeg)) = 2 then (some (x_1, t)) else (if (t.1 0 i 3 (x2.toNatClampNeg)) = 3 then (some ((s0 + x1), t)) else (if (t.1 0 i 3 (x2.toNatClampNeg)) = 4 then (if (x4 - x4 / 2 * 2) = 0 then (some ((if 1 < (x_1 - 1) then (x_1 - 1) else 1), t)) else (some (x_1, t))) else (some (x6, t))))))) else none
def f_X0_hoursAmong_32 (i : Nat) (x1 : Int32) (x2 : Int32) (x4 : Int32) (x5 : Int32) (s0 : Int32) (t : Mm) : Option (Int32 × Mm) := if x5 = 0 then (f_X0_hoursAmong_48 i x1 x2 x4 s0 (2 * s0) t) else (f_X0_hoursAmong_48 i x1 x2 x4 s0 s0 t)
/-- FordQuestions$Ford.hoursAmong(IIII)I -/
def f_X0_hoursAmong (i : Nat) (a0 : Int32) (a1 : Int32) (a2 : Int32) (a3 : Int32) (t : Mm) : Option (Int32 × Mm) := if o_inb a1 5 = true then (if o_inb a2 8 = true then (o_bd (f_X7_isIn (t.1 0 i 4 (a1.toNatClampNeg)) (t.1 0 i 1 (a2.toNatClampNeg)) t) fun (r_15, t_13) => if r_15 = 0 then (if o_inb a2 8 = true then (f_X0_hoursAmong_32 i a0 a1 a3 r_15 (t_13.1 0 i 2 (a2.toNatClampNeg)) t_13) else none) else (f_X0_hoursAmong_32 i a0 a1 a3 r_15 1 t_13)) else none) else none
theorem hd_X0_hoursAmong : x_hd yX0_hoursAmong 4 := by decide +kernel
set_option maxRecDepth 100000 in
set_option maxHeartbeats 4000000 in
theorem w_X0_hoursAmong_48 {l : Launch} {g : Ly} {p : Program} {e : Env} {s : State} {m : MethodId} {args : Array Value} {below : List Frame} {meth : Method} {c : Code} (i : Nat) (hi : i < 21) (X : XC p m meth c cX0_hoursAmong 9 s args (.code yX0_hoursAmong cX0_hoursAmong 9 (some .int)) RX0 (some .int) shC g) {r : Int32} {t' : Mm} (x1 : Int32) (x2 : Int32) (x4 : Int32) (x6 : Int32) (s0 : Int32) (t : Mm) (H : Heap) (locs : List Loc) (ls : Array Slot) (hP : XP shC g t H) (hS : va_S (XA shC g) s.heap H locs) (hl : lv_has ls 9 [(0, .ref (g.2.2 (0, i, 0))), (1, .int x1), (2, .int x2), (4, .int x4), (6, .int x6)]) (h : f_X0_hoursAmong_48 i x1 x2 x4 x6 s0 t = some (r, t')) : W p l e (rmv 2) s m args below meth c H locs 0 0 (MQ below (XQi shC g r t') args s 0 0 (XA shC g)) (F0 m 48 ls [.int s0]) := by
  unfold f_X0_hoursAmong_48 at h
  refine lv_istore (lv' := [(7, .int s0), (0, .ref (g.2.2 (0, i, 0))), (1, .int x1), (2, .int x2), (4, .int x4), (6, .int x6)]) X.1.1 X.1.2.1 dX0_hoursAmong_48 hl (by decide) rfl (fun ls hl => ?_)
  refine lv_iload X.1.1 X.1.2.1 dX0_hoursAmong_50 (lv_at hl 5 rfl) ?_
  refine lv_iconst (v := 2) X.1.1 X.1.2.1 dX0_hoursAmong_52 (by decide) ?_
  refine x_min X ⟨wd_380, wd_381, wd_64, wd_382⟩ hl.1 (by omega) (Nat.le_of_ble_eq_true rfl) dX0_hoursAmong_53 ?_
  refine lv_topi (fun x_1 e_2 => ?_)
  have h := o_nm_to e_2 h
  refine lv_istore (lv' := [(8, .int x_1), (7, .int s0), (0, .ref (g.2.2 (0, i, 0))), (1, .int x1), (2, .int x2), (4, .int x4), (6, .int x6)]) X.1.1 X.1.2.1 dX0_hoursAmong_56 hl (by decide) rfl (fun ls hl => ?_)
  refine lv_aload_n X.1.1 X.1.2.1 dX0_hoursAmong_58 rfl (lv_at hl 2 rfl) ?_
  refine gt_X0_7 X hP (kyF (by omega) (by decide)) wd_115 dX0_hoursAmong_59 ?_
  refine lv_iload_n X.1.1 X.1.2.1 dX0_hoursAmong_62 rfl (lv_at hl 4 rfl) ?_
  obtain ⟨g_3, h⟩ := o_gd_inv h
  refine x_iald X hP (kyF (by omega) (by decide)) (fun _ _ => rfl) g_3 dX0_hoursAmong_63 ?_
  by_cases c_4 : (t.1 0 i 3 (x2.toNatClampNeg)) = 0
  · have h := o_pos c_4 h
    refine lv_tableIn (off := 68) (tgt := 132) X.1.1 X.1.2.1 dX0_hoursAmong_64 (by rw [c_4]; decide) (by rw [c_4]; decide) (by rw [c_4]; rfl) (by decide) ?_
    refine lv_iload X.1.1 X.1.2.1 dX0_hoursAmong_132 (lv_at hl 6 rfl) ?_
    obtain ⟨rfl, rfl⟩ := o_ret2 h
    exact x_iret X hP hS dX0_hoursAmong_134
  · have h := o_neg c_4 h
    by_cases c_5 : (t.1 0 i 3 (x2.toNatClampNeg)) = 1
    · have h := o_pos c_5 h
      refine lv_tableIn (off := 36) (tgt := 100) X.1.1 X.1.2.1 dX0_hoursAmong_64 (by rw [c_5]; decide) (by rw [c_5]; decide) (by rw [c_5]; rfl) (by decide) ?_
      refine lv_iload X.1.1 X.1.2.1 dX0_hoursAmong_100 (lv_at hl 1 rfl) ?_
      obtain ⟨rfl, rfl⟩ := o_ret2 h
      exact x_iret X hP hS dX0_hoursAmong_102
    · have h := o_neg c_5 h
      by_cases c_6 : (t.1 0 i 3 (x2.toNatClampNeg)) = 2
      · have h := o_pos c_6 h
        refine lv_tableIn (off := 39) (tgt := 103) X.1.1 X.1.2.1 dX0_hoursAmong_64 (by rw [c_6]; decide) (by rw [c_6]; decide) (by rw [c_6]; rfl) (by decide) ?_
        refine lv_iload X.1.1 X.1.2.1 dX0_hoursAmong_103 (lv_at hl 0 rfl) ?_
        obtain ⟨rfl, rfl⟩ := o_ret2 h
        exact x_iret X hP hS dX0_hoursAmong_105
      · have h := o_neg c_6 h
        by_cases c_7 : (t.1 0 i 3 (x2.toNatClampNeg)) = 3
        · have h := o_pos c_7 h
          refine lv_tableIn (off := 42) (tgt := 106) X.1.1 X.1.2.1 dX0_hoursAmong_64 (by rw [c_7]; decide) (by rw [c_7]; decide) (by rw [c_7]; rfl) (by decide) ?_
          refine lv_iload X.1.1 X.1.2.1 dX0_hoursAmong_106 (lv_at hl 1 rfl) ?_
          refine lv_iload_n X.1.1 X.1.2.1 dX0_hoursAmong_108 rfl (lv_at hl 3 rfl) ?_
          refine lv_iadd X.1.1 X.1.2.1 dX0_hoursAmong_109 ?_
          obtain ⟨rfl, rfl⟩ := o_ret2 h
          exact x_iret X hP hS dX0_hoursAmong_110
        · have h := o_neg c_7 h
          by_cases c_8 : (t.1 0 i 3 (x2.toNatClampNeg)) = 4
          · have h := o_pos c_8 h
            refine lv_tableIn (off := 47) (tgt := 111) X.1.1 X.1.2.1 dX0_hoursAmong_64 (by rw [c_8]; decide) (by rw [c_8]; decide) (by rw [c_8]; rfl) (by decide) ?_
            refine lv_iload X.1.1 X.1.2.1 dX0_hoursAmong_111 (lv_at hl 5 rfl) ?_
            refine lv_iconst (v := 2) X.1.1 X.1.2.1 dX0_hoursAmong_113 (by decide) ?_
            refine lv_irem X.1.1 X.1.2.1 dX0_hoursAmong_114 (by decide) ?_
            refine lv_if_ne (tgt := 129) X.1.1 X.1.2.1 dX0_hoursAmong_115 (by decide) (fun c_9 => ?_) (fun c_9 => ?_)
            · have h := o_neg c_9 h
              refine lv_iload X.1.1 X.1.2.1 dX0_hoursAmong_129 (lv_at hl 0 rfl) ?_
              obtain ⟨rfl, rfl⟩ := o_ret2 h
              exact x_iret X hP hS dX0_hoursAmong_131
            · have h := o_pos c_9 h
              refine lv_iconst (v := 1) X.1.1 X.1.2.1 dX0_hoursAmong_118 (by decide) ?_
              refine lv_iload X.1.1 X.1.2.1 dX0_hoursAmong_119 (lv_at hl 0 rfl) ?_
              refine lv_iconst (v := 1) X.1.1 X.1.2.1 dX0_hoursAmong_121 (by decide) ?_
              refine lv_isub X.1.1 X.1.2.1 dX0_hoursAmong_122 ?_
              refine x_max X ⟨wd_383, wd_384, wd_64, wd_385⟩ hl.1 (by omega) (Nat.le_of_ble_eq_true rfl) dX0_hoursAmong_123 ?_
              refine lv_goto (tgt := 131) X.1.1 X.1.2.1 dX0_hoursAmong_126 (by decide) ?_
              obtain ⟨rfl, rfl⟩ := o_ret2 h
              exact x_iret X hP hS dX0_hoursAmong_131
          · have h := o_neg c_8 h
            have qc_4 := x_ne (n := 0) c_4 (by decide)
            have qc_5 := x_ne (n := 1) c_5 (by decide)
            have qc_6 := x_ne (n := 2) c_6 (by decide)
            have qc_7 := x_ne (n := 3) c_7 (by decide)
            have qc_8 := x_ne (n := 4) c_8 (by decide)
            refine lv_tableOut (tgt := 132) X.1.1 X.1.2.1 dX0_hoursAmong_64 (by omega) (by decide) ?_
            refine lv_iload X.1.1 X.1.2.1 dX0_hoursAmong_132 (lv_at hl 6 rfl) ?_
            obtain ⟨rfl, rfl⟩ := o_ret2 h
            exact x_iret X hP hS dX0_hoursAmong_134
set_option maxRecDepth 100000 in
set_option maxHeartbeats 4000000 in
theorem w_X0_hoursAmong_32 {l : Launch} {g : Ly} {p : Program} {e : Env} {s : State} {m : MethodId} {args : Array Value} {below : List Frame} {meth : Method} {c : Code} (i : Nat) (hi : i < 21) (X : XC p m meth c cX0_hoursAmong 9 s args (.code yX0_hoursAmong cX0_hoursAmong 9 (some .int)) RX0 (some .int) shC g) {r : Int32} {t' : Mm} (x1 : Int32) (x2 : Int32) (x4 : Int32) (x5 : Int32) (s0 : Int32) (t : Mm) (H : Heap) (locs : List Loc) (ls : Array Slot) (hP : XP shC g t H) (hS : va_S (XA shC g) s.heap H locs) (hl : lv_has ls 9 [(0, .ref (g.2.2 (0, i, 0))), (1, .int x1), (2, .int x2), (4, .int x4), (5, .int x5)]) (h : f_X0_hoursAmong_32 i x1 x2 x4 x5 s0 t = some (r, t')) : W p l e (rmv 2) s m args below meth c H locs 0 0 (MQ below (XQi shC g r t') args s 0 0 (XA shC g)) (F0 m 32 ls [.int s0]) := by
  unfold f_X0_hoursAmong_32 at h
  refine lv_istore (lv' := [(6, .int s0), (0, .ref (g.2.2 (0, i, 0))), (1, .int x1), (2, .int x2), (4, .int x4), (5, .int x5)]) X.1.1 X.1.2.1 dX0_hoursAmong_32 hl (by decide) rfl (fun ls hl => ?_)
  refine lv_iload X.1.1 X.1.2.1 dX0_hoursAmong_34 (lv_at hl 5 rfl) ?_
  refine lv_if_eq (tgt := 44) X.1.1 X.1.2.1 dX0_hoursAmong_36 (by decide) (fun c_10 => ?_) (fun c_10 => ?_)
  · have h := o_pos c_10 h
    refine lv_iconst (v := 2) X.1.1 X.1.2.1 dX0_hoursAmong_44 (by decide) ?_
    refine lv_iload X.1.1 X.1.2.1 dX0_hoursAmong_45 (lv_at hl 0 rfl) ?_
    refine lv_imul X.1.1 X.1.2.1 dX0_hoursAmong_47 ?_
    exact w_X0_hoursAmong_48 i (by omega) X x1 x2 x4 s0 (2 * s0) t _ _ _ hP hS (lv_sub hl [1, 2, 3, 4, 0] rfl) h
  · have h := o_neg c_10 h
    refine lv_iload X.1.1 X.1.2.1 dX0_hoursAmong_39 (lv_at hl 0 rfl) ?_
    refine lv_goto (tgt := 48) X.1.1 X.1.2.1 dX0_hoursAmong_41 (by decide) ?_
    exact w_X0_hoursAmong_48 i (by omega) X x1 x2 x4 s0 s0 t _ _ _ hP hS (lv_sub hl [1, 2, 3, 4, 0] rfl) h
set_option maxRecDepth 100000 in
set_option maxHeartbeats 4000000 in
theorem c_X0_hoursAmong (l : Launch) (g : Ly) (i : Nat) (hG : XG shC g) (hi : i < 21) (a0 : Int32) (a1 : Int32) (a2 : Int32) (a3 : Int32) (t : Mm) {r : Int32} {t' : Mm} (h : f_X0_hoursAmong i a0 a1 a2 a3 t = some (r, t')) : MI l yX0_hoursAmong cX0_hoursAmong 9 (some .int) 2 shC g [.ref (g.2.2 (0, i, 0)), .int a0, .int a1, .int a2, .int a3] t (XQi shC g r t') := by
  refine x_met hG (by decide +kernel) (Nat.le_of_ble_eq_true rfl) ?_
  intro p e s m below meth c ls X hP hl
  have hS : va_S (XA shC g) s.heap s.heap [] := va_S.rf
  have hl : lv_has ls 9 [(0, .ref (g.2.2 (0, i, 0))), (1, .int a0), (2, .int a1), (3, .int a2), (4, .int a3)] := hl
  unfold f_X0_hoursAmong at h
  generalize ([.ref (g.2.2 (0, i, 0)), .int a0, .int a1, .int a2, .int a3] : List Value).toArray = args at X ⊢
  refine lv_aload_n X.1.1 X.1.2.1 dX0_hoursAmong_0 rfl (lv_at hl 0 rfl) ?_
  refine gt_X0_8 X hP (kyF (by omega) (by decide)) wd_118 dX0_hoursAmong_1 ?_
  refine lv_iload_n X.1.1 X.1.2.1 dX0_hoursAmong_4 rfl (lv_at hl 2 rfl) ?_
  obtain ⟨g_11, h⟩ := o_gd_inv h
  refine x_iald X hP (kyF (by omega) (by decide)) (fun _ _ => rfl) g_11 dX0_hoursAmong_5 ?_
  refine lv_aload_n X.1.1 X.1.2.1 dX0_hoursAmong_6 rfl (lv_at hl 0 rfl) ?_
  refine gt_X0_5 X hP (kyF (by omega) (by decide)) wd_111 dX0_hoursAmong_7 ?_
  refine lv_iload_n X.1.1 X.1.2.1 dX0_hoursAmong_10 rfl (lv_at hl 3 rfl) ?_
  obtain ⟨g_12, h⟩ := o_gd_inv h
  refine x_iald X hP (kyF (by omega) (by decide)) (fun _ _ => rfl) g_12 dX0_hoursAmong_11 ?_
  obtain ⟨⟨r_15, t_13⟩, hc_14, h⟩ := o_bd_inv h
  refine x_calli (x_runSN (As := [.int (t.1 0 i 4 (a1.toNatClampNeg)), .int (t.1 0 i 1 (a2.toNatClampNeg))]) (rest := []) X hP hS (c_X7_isIn l g X.2.2.2.2.1 (t.1 0 i 4 (a1.toNatClampNeg)) (t.1 0 i 1 (a2.toNatClampNeg)) t hc_14) ⟨wd_349, wd_347, wd_348, wd_54⟩ hd_X7_isIn ⟨by omega, by decide⟩ rfl hl.1 rfl (Nat.le_of_ble_eq_true rfl) dX0_hoursAmong_12) hS (fun H locs hP hS => ?_)
  refine lv_istore (lv' := [(5, .int r_15), (0, .ref (g.2.2 (0, i, 0))), (1, .int a0), (2, .int a1), (3, .int a2), (4, .int a3)]) X.1.1 X.1.2.1 dX0_hoursAmong_15 hl (by decide) rfl (fun ls hl => ?_)
  refine lv_iload X.1.1 X.1.2.1 dX0_hoursAmong_17 (lv_at hl 0 rfl) ?_
  refine lv_if_eq (tgt := 26) X.1.1 X.1.2.1 dX0_hoursAmong_19 (by decide) (fun c_17 => ?_) (fun c_17 => ?_)
  · have h := o_pos c_17 h
    refine lv_aload_n X.1.1 X.1.2.1 dX0_hoursAmong_26 rfl (lv_at hl 1 rfl) ?_
    refine gt_X0_6 X hP (kyF (by omega) (by decide)) wd_113 dX0_hoursAmong_27 ?_
    refine lv_iload_n X.1.1 X.1.2.1 dX0_hoursAmong_30 rfl (lv_at hl 4 rfl) ?_
    obtain ⟨g_18, h⟩ := o_gd_inv h
    refine x_iald X hP (kyF (by omega) (by decide)) (fun _ _ => rfl) g_18 dX0_hoursAmong_31 ?_
    exact w_X0_hoursAmong_32 i (by omega) X a0 a1 a3 r_15 (t_13.1 0 i 2 (a2.toNatClampNeg)) t_13 _ _ _ hP hS (lv_sub hl [1, 2, 3, 5, 0] rfl) h
  · have h := o_neg c_17 h
    refine lv_iconst (v := 1) X.1.1 X.1.2.1 dX0_hoursAmong_22 (by decide) ?_
    refine lv_goto (tgt := 32) X.1.1 X.1.2.1 dX0_hoursAmong_23 (by decide) ?_
    exact w_X0_hoursAmong_32 i (by omega) X a0 a1 a3 r_15 1 t_13 _ _ _ hP hS (lv_sub hl [1, 2, 3, 5, 0] rfl) h
/-- FordQuestions$Ford.hoursFor(II)I -/
def f_X0_hoursFor (N : Nat) (i : Nat) (a0 : Int32) (a1 : Int32) (t : Mm) : Option (Int32 × Mm) := o_bd (f_X0_thoseWho N i 1 t) fun (r_3, t_1) => o_bd (f_J6_bitCount_0f7a4 (r_3 &&& ((1 <<< (a0 &&& 31)) ^^^ (-1))) t_1) fun (r_7, t_5) => o_bd (f_X0_hoursAmong i r_7 a0 a1 (t_5.1 0 i 0 3) t_5) fun (r_11, t_9) => some (r_11, t_9)
theorem hd_X0_hoursFor : x_hd yX0_hoursFor 2 := by decide +kernel
set_option maxRecDepth 100000 in
set_option maxHeartbeats 4000000 in
theorem c_X0_hoursFor (l : Launch) (g : Ly) (N : Nat) (i : Nat) (hG : XG shC g) (hi : i < 21) (a0 : Int32) (a1 : Int32) (t : Mm) {r : Int32} {t' : Mm} (h : f_X0_hoursFor N i a0 a1 t = some (r, t')) : MI l yX0_hoursFor cX0_hoursFor 4 (some .int) 3 shC g [.ref (g.2.2 (0, i, 0)), .int a0, .int a1] t (XQi shC g r t') := by
  refine x_met hG (by decide +kernel) (Nat.le_of_ble_eq_true rfl) ?_
  intro p e s m below meth c ls X hP hl
  have hS : va_S (XA shC g) s.heap s.heap [] := va_S.rf
  have hl : lv_has ls 4 [(0, .ref (g.2.2 (0, i, 0))), (1, .int a0), (2, .int a1)] := hl
  unfold f_X0_hoursFor at h
  generalize ([.ref (g.2.2 (0, i, 0)), .int a0, .int a1] : List Value).toArray = args at X ⊢
  refine lv_aload_n X.1.1 X.1.2.1 dX0_hoursFor_0 rfl (lv_at hl 0 rfl) ?_
  refine lv_iconst (v := 1) X.1.1 X.1.2.1 dX0_hoursFor_1 (by decide) ?_
  obtain ⟨⟨r_3, t_1⟩, hc_2, h⟩ := o_bd_inv h
  refine x_calli (x_runV (As := [.int 1]) (rest := []) X hP hS (c_X0_thoseWho l g N i X.2.2.2.2.1 (by omega) 1 t hc_2) ⟨wd_369, wd_366, wd_367, wd_368, wd_56⟩ hd_X0_thoseWho ⟨by omega, by decide⟩ (x_recv X hP (ci := 0) rfl (kyF (by omega) (by decide)) rfl) rfl hl.1 rfl (Nat.le_of_ble_eq_true rfl) dX0_hoursFor_2) hS (fun H locs hP hS => ?_)
  refine lv_iconst (v := 1) X.1.1 X.1.2.1 dX0_hoursFor_5 (by decide) ?_
  refine lv_iload_n X.1.1 X.1.2.1 dX0_hoursFor_6 rfl (lv_at hl 1 rfl) ?_
  refine lv_ishl X.1.1 X.1.2.1 dX0_hoursFor_7 ?_
  refine lv_iconst (v := (-1)) X.1.1 X.1.2.1 dX0_hoursFor_8 (by decide) ?_
  refine lv_ixor X.1.1 X.1.2.1 dX0_hoursFor_9 ?_
  refine lv_iand X.1.1 X.1.2.1 dX0_hoursFor_10 ?_
  obtain ⟨⟨r_7, t_5⟩, hc_6, h⟩ := o_bd_inv h
  refine x_calli (x_runS (As := [.int (r_3 &&& ((1 <<< (a0 &&& 31)) ^^^ (-1)))]) (rest := []) X hP hS (c_J6_bitCount_0f7a4 l g X.2.2.2.2.1 (r_3 &&& ((1 <<< (a0 &&& 31)) ^^^ (-1))) t_1 hc_6) ⟨wd_372, wd_370, wd_371, wd_63⟩ hd_J6_bitCount_0f7a4 ⟨by omega, by decide⟩ rfl hl.1 rfl (Nat.le_of_ble_eq_true rfl) dX0_hoursFor_11) hS (fun H locs hP hS => ?_)
  refine lv_istore_n (lv' := [(3, .int r_7), (0, .ref (g.2.2 (0, i, 0))), (1, .int a0), (2, .int a1)]) X.1.1 X.1.2.1 dX0_hoursFor_14 rfl hl (by decide) rfl (fun ls hl => ?_)
  refine lv_aload_n X.1.1 X.1.2.1 dX0_hoursFor_15 rfl (lv_at hl 1 rfl) ?_
  refine lv_iload_n X.1.1 X.1.2.1 dX0_hoursFor_16 rfl (lv_at hl 0 rfl) ?_
  refine lv_iload_n X.1.1 X.1.2.1 dX0_hoursFor_17 rfl (lv_at hl 2 rfl) ?_
  refine lv_iload_n X.1.1 X.1.2.1 dX0_hoursFor_18 rfl (lv_at hl 3 rfl) ?_
  refine lv_aload_n X.1.1 X.1.2.1 dX0_hoursFor_19 rfl (lv_at hl 1 rfl) ?_
  refine gt_X0_3 X hP (kyF (by omega) (by decide)) wd_105 dX0_hoursFor_20 ?_
  obtain ⟨⟨r_11, t_9⟩, hc_10, h⟩ := o_bd_inv h
  refine x_calli (x_runV (As := [.int r_7, .int a0, .int a1, .int (t_5.1 0 i 0 3)]) (rest := []) X hP hS (c_X0_hoursAmong l g i X.2.2.2.2.1 (by omega) r_7 a0 a1 (t_5.1 0 i 0 3) t_5 hc_10) ⟨wd_379, wd_376, wd_377, wd_378, wd_56⟩ hd_X0_hoursAmong ⟨by omega, by decide⟩ (x_recv X hP (ci := 0) rfl (kyF (by omega) (by decide)) rfl) rfl hl.1 rfl (Nat.le_of_ble_eq_true rfl) dX0_hoursFor_23) hS (fun H locs hP hS => ?_)
  obtain ⟨rfl, rfl⟩ := o_ret2 h
  exact x_iret X hP hS dX0_hoursFor_26
def b_X0_firstNotAsked_2 (N : Nat) (i : Nat) (k2 : Int32 × Mm → Option (Int32 × Mm)) (x1 : Int32) (t : Mm) : Option (Int32 × Mm) := if (t.1 0 i 0 0) ≤ x1 then (some ((-4), t)) else (o_bd (f_X0_isAsked i x1 t) fun (r_4, t_2) => if r_4 = 0 then (some (x1, t_2)) else (k2 ((x1 + 1), t_2)))
def f_X0_firstNotAsked_2 (N : Nat) (i : Nat) (x1 : Int32) (t : Mm) : Option (Int32 × Mm) := o_lp (fun k x => b_X0_firstNotAsked_2 N i k x.1 x.2) N (x1, t)
/-- FordQuestions$Ford.firstNotAsked()I -/
def f_X0_firstNotAsked (N : Nat) (i : Nat) (t : Mm) : Option (Int32 × Mm) := f_X0_firstNotAsked_2 N i 0 t
theorem hd_X0_firstNotAsked : x_hd yX0_firstNotAsked 0 := by decide +kernel
set_option maxRecDepth 100000 in
set_option maxHeartbeats 4000000 in
theorem wb_X0_firstNotAsked_2 {l : Launch} {g : Ly} {p : Program} {e : Env} {s : State} {m : MethodId} {args : Array Value} {below : List Frame} {meth : Method} {c : Code} (N : Nat) (i : Nat) (hi : i < 21) (X : XC p m meth c cX0_firstNotAsked 2 s args (.code yX0_firstNotAsked cX0_firstNotAsked 2 (some .int)) RX0 (some .int) shC g) {r : Int32} {t' : Mm} {k2 : Int32 × Mm → Option (Int32 × Mm)} (hk2 : ∀ x : Int32 × Mm, k2 x = some (r, t') → ∀ (H : Heap) (locs : List Loc) (ls : Array Slot), XP shC g x.2 H → va_S (XA shC g) s.heap H locs → lv_has ls 2 [(0, .ref (g.2.2 (0, i, 0))), (1, .int x.1)] → W p l e (rmv 3) s m args below meth c H locs 0 0 (MQ below (XQi shC g r t') args s 0 0 (XA shC g)) (F0 m 2 ls [])) (x1 : Int32) (t : Mm) (H : Heap) (locs : List Loc) (ls : Array Slot) (hP : XP shC g t H) (hS : va_S (XA shC g) s.heap H locs) (hl : lv_has ls 2 [(0, .ref (g.2.2 (0, i, 0))), (1, .int x1)]) (h : b_X0_firstNotAsked_2 N i k2 x1 t = some (r, t')) : W p l e (rmv 3) s m args below meth c H locs 0 0 (MQ below (XQi shC g r t') args s 0 0 (XA shC g)) (F0 m 2 ls []) := by
  unfold b_X0_firstNotAsked_2 at h
  refine lv_iload_n X.1.1 X.1.2.1 dX0_firstNotAsked_2 rfl (lv_at hl 1 rfl) ?_
  refine lv_aload_n X.1.1 X.1.2.1 dX0_firstNotAsked_3 rfl (lv_at hl 0 rfl) ?_
  refine gt_X0_0 X hP (kyF (by omega) (by decide)) wd_92 dX0_firstNotAsked_4 ?_
  refine lv_icmp_ge (tgt := 26) X.1.1 X.1.2.1 dX0_firstNotAsked_7 (by decide) (fun c_1 => ?_) (fun c_1 => ?_)
  · have h := o_pos c_1 h
    refine lv_bipush (v := (-4)) X.1.1 X.1.2.1 dX0_firstNotAsked_26 (by decide) ?_
    obtain ⟨rfl, rfl⟩ := o_ret2 h
    exact x_iret X hP hS dX0_firstNotAsked_28
  · have h := o_neg c_1 h
    refine lv_aload_n X.1.1 X.1.2.1 dX0_firstNotAsked_10 rfl (lv_at hl 0 rfl) ?_
    refine lv_iload_n X.1.1 X.1.2.1 dX0_firstNotAsked_11 rfl (lv_at hl 1 rfl) ?_
    obtain ⟨⟨r_4, t_2⟩, hc_3, h⟩ := o_bd_inv h
    refine x_calli (x_runV (As := [.int x1]) (rest := []) X hP hS (c_X0_isAsked l g i X.2.2.2.2.1 (by omega) x1 t hc_3) ⟨wd_346, wd_590, wd_344, wd_345, wd_56⟩ hd_X0_isAsked ⟨by omega, by decide⟩ (x_recv X hP (ci := 0) rfl (kyF (by omega) (by decide)) rfl) rfl hl.1 rfl (Nat.le_of_ble_eq_true rfl) dX0_firstNotAsked_12) hS (fun H locs hP hS => ?_)
    refine lv_if_ne (tgt := 20) X.1.1 X.1.2.1 dX0_firstNotAsked_15 (by decide) (fun c_6 => ?_) (fun c_6 => ?_)
    · have h := o_neg c_6 h
      refine lv_iinc (v := (x1 + 1)) (lv' := [(1, .int (x1 + 1)), (0, .ref (g.2.2 (0, i, 0)))]) X.1.1 X.1.2.1 dX0_firstNotAsked_20 hl (k := 1) rfl rfl (by decide) rfl (fun ls hl => ?_)
      refine lv_goto (tgt := 2) X.1.1 X.1.2.1 dX0_firstNotAsked_23 (by decide) ?_
      exact hk2 ((x1 + 1), t_2) h _ _ _ hP hS (lv_sub hl [1, 0] rfl)
    · have h := o_pos c_6 h
      refine lv_iload_n X.1.1 X.1.2.1 dX0_firstNotAsked_18 rfl (lv_at hl 1 rfl) ?_
      obtain ⟨rfl, rfl⟩ := o_ret2 h
      exact x_iret X hP hS dX0_firstNotAsked_19
set_option maxRecDepth 100000 in
set_option maxHeartbeats 4000000 in
theorem w_X0_firstNotAsked_2 {l : Launch} {g : Ly} {p : Program} {e : Env} {s : State} {m : MethodId} {args : Array Value} {below : List Frame} {meth : Method} {c : Code} (N : Nat) (i : Nat) (hi : i < 21) (X : XC p m meth c cX0_firstNotAsked 2 s args (.code yX0_firstNotAsked cX0_firstNotAsked 2 (some .int)) RX0 (some .int) shC g) {r : Int32} {t' : Mm} (x1 : Int32) (t : Mm) (H : Heap) (locs : List Loc) (ls : Array Slot) (hP : XP shC g t H) (hS : va_S (XA shC g) s.heap H locs) (hl : lv_has ls 2 [(0, .ref (g.2.2 (0, i, 0))), (1, .int x1)]) (h : f_X0_firstNotAsked_2 N i x1 t = some (r, t')) : W p l e (rmv 3) s m args below meth c H locs 0 0 (MQ below (XQi shC g r t') args s 0 0 (XA shC g)) (F0 m 2 ls []) :=
  o_lp_ind (P := fun x : Int32 × Mm => ∀ (H : Heap) (locs : List Loc) (ls : Array Slot), XP shC g x.2 H → va_S (XA shC g) s.heap H locs → lv_has ls 2 [(0, .ref (g.2.2 (0, i, 0))), (1, .int x.1)] → W p l e (rmv 3) s m args below meth c H locs 0 0 (MQ below (XQi shC g r t') args s 0 0 (XA shC g)) (F0 m 2 ls [])) (fun k hk x h H locs ls hP hS hl => wb_X0_firstNotAsked_2 N i hi X hk x.1 x.2 H locs ls hP hS hl h) N (x1, t) h H locs ls hP hS hl
set_option maxRecDepth 100000 in
set_option maxHeartbeats 4000000 in
theorem c_X0_firstNotAsked (l : Launch) (g : Ly) (N : Nat) (i : Nat) (hG : XG shC g) (hi : i < 21) (t : Mm) {r : Int32} {t' : Mm} (h : f_X0_firstNotAsked N i t = some (r, t')) : MI l yX0_firstNotAsked cX0_firstNotAsked 2 (some .int) 3 shC g [.ref (g.2.2 (0, i, 0))] t (XQi shC g r t') := by
  refine x_met hG (by decide +kernel) (Nat.le_of_ble_eq_true rfl) ?_
  intro p e s m below meth c ls X hP hl
  have hS : va_S (XA shC g) s.heap s.heap [] := va_S.rf
  have hl : lv_has ls 2 [(0, .ref (g.2.2 (0, i, 0)))] := hl
  unfold f_X0_firstNotAsked at h
  generalize ([.ref (g.2.2 (0, i, 0))] : List Value).toArray = args at X ⊢
  refine lv_iconst (v := 0) X.1.1 X.1.2.1 dX0_firstNotAsked_0 (by decide) ?_
  refine lv_istore_n (lv' := [(1, .int 0), (0, .ref (g.2.2 (0, i, 0)))]) X.1.1 X.1.2.1 dX0_firstNotAsked_1 rfl hl (by decide) rfl (fun ls hl => ?_)
  exact w_X0_firstNotAsked_2 N i (by omega) X 0 t _ _ _ hP hS (lv_sub hl [1, 0] rfl) h
/-- FordQuestions$Ford.letIn(I)V -/
def f_X0_letIn (N : Nat) (i : Nat) (a0 : Int32) (t : Mm) : Option (Mm) := o_bd (f_X0_firstNotAsked N i t) fun (r_3, t_1) => if r_3 = (-4) then (if o_inb a0 5 = true then (o_nm (sI t_1 0 i 6 (a0.toNatClampNeg) 2) fun t_27 => some t_27) else none) else (o_bd (f_X0_thoseWho N i 1 t_1) fun (r_8, t_6) => o_bd (f_J6_bitCount_0f7a4 r_8 t_6) fun (r_12, t_10) => o_bd (f_X0_hoursAmong i r_12 a0 r_3 (t_10.1 0 i 0 3) t_10) fun (r_16, t_14) => if o_inb a0 5 = true then (o_nm (sI t_14 0 i 7 (a0.toNatClampNeg) ((t_10.1 0 i 0 3) + r_16)) fun t_19 => if o_inb a0 5 = true then (o_nm (sI t_19 0 i 6 (a0.toNatClampNeg) 1) fun t_22 => o_nm (sI t_22 0 i 0 2 ((t_22.1 0 i 0 2) ||| (1 <<< (r_3 &&& 31)))) fun t_24 => some t_24) else none) else none)
theorem hd_X0_letIn : x_hd yX0_letIn 1 := by decide +kernel
set_option maxRecDepth 100000 in
set_option maxHeartbeats 4000000 in
theorem c_X0_letIn (l : Launch) (g : Ly) (N : Nat) (i : Nat) (hG : XG shC g) (hi : i < 21) (a0 : Int32) (t : Mm) {t' : Mm} (h : f_X0_letIn N i a0 t = some t') : MI l yX0_letIn cX0_letIn 4 none 4 shC g [.ref (g.2.2 (0, i, 0)), .int a0] t (XQv shC g t') := by
  refine x_met hG (by decide +kernel) (Nat.le_of_ble_eq_true rfl) ?_
  intro p e s m below meth c ls X hP hl
  have hS : va_S (XA shC g) s.heap s.heap [] := va_S.rf
  have hl : lv_has ls 4 [(0, .ref (g.2.2 (0, i, 0))), (1, .int a0)] := hl
  unfold f_X0_letIn at h
  generalize ([.ref (g.2.2 (0, i, 0)), .int a0] : List Value).toArray = args at X ⊢
  refine lv_aload_n X.1.1 X.1.2.1 dX0_letIn_0 rfl (lv_at hl 0 rfl) ?_
  obtain ⟨⟨r_3, t_1⟩, hc_2, h⟩ := o_bd_inv h
  refine x_calli (x_runV (As := []) (rest := []) X hP hS (c_X0_firstNotAsked l g N i X.2.2.2.2.1 (by omega) t hc_2) ⟨wd_589, wd_586, wd_588, wd_11, wd_56⟩ hd_X0_firstNotAsked ⟨by omega, by decide⟩ (x_recv X hP (ci := 0) rfl (kyF (by omega) (by decide)) rfl) rfl hl.1 rfl (Nat.le_of_ble_eq_true rfl) dX0_letIn_1) hS (fun H locs hP hS => ?_)
  refine lv_istore_n (lv' := [(2, .int r_3), (0, .ref (g.2.2 (0, i, 0))), (1, .int a0)]) X.1.1 X.1.2.1 dX0_letIn_4 rfl hl (by decide) rfl (fun ls hl => ?_)
  refine lv_iload_n X.1.1 X.1.2.1 dX0_letIn_5 rfl (lv_at hl 0 rfl) ?_
  refine lv_bipush (v := (-4)) X.1.1 X.1.2.1 dX0_letIn_6 (by decide) ?_
  refine lv_icmp_ne (tgt := 19) X.1.1 X.1.2.1 dX0_letIn_8 (by decide) (fun c_5 => ?_) (fun c_5 => ?_)
  · have h := o_neg c_5 h
    refine lv_aload_n X.1.1 X.1.2.1 dX0_letIn_19 rfl (lv_at hl 1 rfl) ?_
    refine lv_iconst (v := 1) X.1.1 X.1.2.1 dX0_letIn_20 (by decide) ?_
    obtain ⟨⟨r_8, t_6⟩, hc_7, h⟩ := o_bd_inv h
    refine x_calli (x_runV (As := [.int 1]) (rest := []) X hP hS (c_X0_thoseWho l g N i X.2.2.2.2.1 (by omega) 1 t_1 hc_7) ⟨wd_369, wd_366, wd_367, wd_368, wd_56⟩ hd_X0_thoseWho ⟨by omega, by decide⟩ (x_recv X hP (ci := 0) rfl (kyF (by omega) (by decide)) rfl) rfl hl.1 rfl (Nat.le_of_ble_eq_true rfl) dX0_letIn_21) hS (fun H locs hP hS => ?_)
    obtain ⟨⟨r_12, t_10⟩, hc_11, h⟩ := o_bd_inv h
    refine x_calli (x_runS (As := [.int r_8]) (rest := []) X hP hS (c_J6_bitCount_0f7a4 l g X.2.2.2.2.1 r_8 t_6 hc_11) ⟨wd_372, wd_370, wd_371, wd_63⟩ hd_J6_bitCount_0f7a4 ⟨by omega, by decide⟩ rfl hl.1 rfl (Nat.le_of_ble_eq_true rfl) dX0_letIn_24) hS (fun H locs hP hS => ?_)
    refine lv_istore_n (lv' := [(3, .int r_12), (2, .int r_3), (0, .ref (g.2.2 (0, i, 0))), (1, .int a0)]) X.1.1 X.1.2.1 dX0_letIn_27 rfl hl (by decide) rfl (fun ls hl => ?_)
    refine lv_aload_n X.1.1 X.1.2.1 dX0_letIn_28 rfl (lv_at hl 2 rfl) ?_
    refine gt_X0_11 X hP (kyF (by omega) (by decide)) wd_129 dX0_letIn_29 ?_
    refine lv_iload_n X.1.1 X.1.2.1 dX0_letIn_32 rfl (lv_at hl 3 rfl) ?_
    refine lv_aload_n X.1.1 X.1.2.1 dX0_letIn_33 rfl (lv_at hl 2 rfl) ?_
    refine gt_X0_3 X hP (kyF (by omega) (by decide)) wd_105 dX0_letIn_34 ?_
    refine lv_aload_n X.1.1 X.1.2.1 dX0_letIn_37 rfl (lv_at hl 2 rfl) ?_
    refine lv_iload_n X.1.1 X.1.2.1 dX0_letIn_38 rfl (lv_at hl 0 rfl) ?_
    refine lv_iload_n X.1.1 X.1.2.1 dX0_letIn_39 rfl (lv_at hl 3 rfl) ?_
    refine lv_iload_n X.1.1 X.1.2.1 dX0_letIn_40 rfl (lv_at hl 1 rfl) ?_
    refine lv_aload_n X.1.1 X.1.2.1 dX0_letIn_41 rfl (lv_at hl 2 rfl) ?_
    refine gt_X0_3 X hP (kyF (by omega) (by decide)) wd_105 dX0_letIn_42 ?_
    obtain ⟨⟨r_16, t_14⟩, hc_15, h⟩ := o_bd_inv h
    refine x_calli (x_runV (As := [.int r_12, .int a0, .int r_3, .int (t_10.1 0 i 0 3)]) (rest := [.int (t_10.1 0 i 0 3), .int a0, .ref (g.2.2 (0, i, 7))]) X hP hS (c_X0_hoursAmong l g i X.2.2.2.2.1 (by omega) r_12 a0 r_3 (t_10.1 0 i 0 3) t_10 hc_15) ⟨wd_379, wd_376, wd_377, wd_378, wd_56⟩ hd_X0_hoursAmong ⟨by omega, by decide⟩ (x_recv X hP (ci := 0) rfl (kyF (by omega) (by decide)) rfl) rfl hl.1 rfl (Nat.le_of_ble_eq_true rfl) dX0_letIn_45) hS (fun H locs hP hS => ?_)
    refine lv_iadd X.1.1 X.1.2.1 dX0_letIn_48 ?_
    obtain ⟨g_18, h⟩ := o_gd_inv h
    obtain ⟨t_19, e_20, h⟩ := o_nm_inv h
    refine x_iast X hP hS (kyF (by omega) (by decide)) (fun _ _ => rfl) g_18 dX0_letIn_49 (fun H locs hP hS => ?_)
    have hP : XP shC g t_19 H := by rw [e_20]; exact hP
    refine lv_aload_n X.1.1 X.1.2.1 dX0_letIn_50 rfl (lv_at hl 2 rfl) ?_
    refine gt_X0_10 X hP (kyF (by omega) (by decide)) wd_125 dX0_letIn_51 ?_
    refine lv_iload_n X.1.1 X.1.2.1 dX0_letIn_54 rfl (lv_at hl 3 rfl) ?_
    refine lv_iconst (v := 1) X.1.1 X.1.2.1 dX0_letIn_55 (by decide) ?_
    obtain ⟨g_21, h⟩ := o_gd_inv h
    obtain ⟨t_22, e_23, h⟩ := o_nm_inv h
    refine x_iast X hP hS (kyF (by omega) (by decide)) (fun _ _ => rfl) g_21 dX0_letIn_56 (fun H locs hP hS => ?_)
    have hP : XP shC g t_22 H := by rw [e_23]; exact hP
    refine lv_aload_n X.1.1 X.1.2.1 dX0_letIn_57 rfl (lv_at hl 2 rfl) ?_
    refine lv_dup X.1.1 X.1.2.1 dX0_letIn_58 rfl ?_
    refine gt_X0_2 X hP (kyF (by omega) (by decide)) wd_100 dX0_letIn_59 ?_
    refine lv_iconst (v := 1) X.1.1 X.1.2.1 dX0_letIn_62 (by decide) ?_
    refine lv_iload_n X.1.1 X.1.2.1 dX0_letIn_63 rfl (lv_at hl 1 rfl) ?_
    refine lv_ishl X.1.1 X.1.2.1 dX0_letIn_64 ?_
    refine lv_ior X.1.1 X.1.2.1 dX0_letIn_65 ?_
    obtain ⟨t_24, e_25, h⟩ := o_nm_inv h
    refine pt_X0_2 (x := ((t_22.1 0 i 0 2) ||| (1 <<< (r_3 &&& 31)))) X hP hS (kyF (by omega) (by decide)) wd_100 dX0_letIn_66 (fun H locs hP hS => ?_)
    have hP : XP shC g t_24 H := by rw [e_25]; exact hP
    obtain rfl := o_ret h
    exact x_vret X hP hS dX0_letIn_69
  · have h := o_pos c_5 h
    refine lv_aload_n X.1.1 X.1.2.1 dX0_letIn_11 rfl (lv_at hl 1 rfl) ?_
    refine gt_X0_10 X hP (kyF (by omega) (by decide)) wd_125 dX0_letIn_12 ?_
    refine lv_iload_n X.1.1 X.1.2.1 dX0_letIn_15 rfl (lv_at hl 2 rfl) ?_
    refine lv_iconst (v := 2) X.1.1 X.1.2.1 dX0_letIn_16 (by decide) ?_
    obtain ⟨g_26, h⟩ := o_gd_inv h
    obtain ⟨t_27, e_28, h⟩ := o_nm_inv h
    refine x_iast X hP hS (kyF (by omega) (by decide)) (fun _ _ => rfl) g_26 dX0_letIn_17 (fun H locs hP hS => ?_)
    have hP : XP shC g t_27 H := by rw [e_28]; exact hP
    obtain rfl := o_ret h
    exact x_vret X hP hS dX0_letIn_18
def f_X0_passHour_93 (N : Nat) (i : Nat) (k55 : Int32 × Mm → Option (Mm)) (x1 : Int32) (t : Mm) : Option (Mm) := k55 ((x1 + 1), t)
def b_X0_passHour_55 (N : Nat) (i : Nat) (k55 : Int32 × Mm → Option (Mm)) (x1 : Int32) (t : Mm) : Option (Mm) := if (t.1 0 i 0 1) ≤ x1 then (some t) else (if o_inb x1 5 = true then (if (t.1 0 i 6 (x1.toNatClampNeg)) = 1 then (if o_inb x1 5 = true then (if (t.1 0 i 0 3) < (t.1 0 i 7 (x1.toNatClampNeg)) then (f_X0_passHour_93 N i k55 x1 t) else (if o_inb x1 5 = true then (o_nm (sI t 0 i 6 (x1.toNatClampNeg) 2) fun t_7 => f_X0_passHour_93 N i k55 x1 t_7) else none)) else none) else (f_X0_passHour_93 N i k55 x1 t)) else none)
def f_X0_passHour_55 (N : Nat) (i : Nat) (x1 : Int32) (t : Mm) : Option (Mm) := o_lp (fun k x => b_X0_passHour_55 N i k x.1 x.2) N (x1, t)
def f_X0_passHour_37 (N : Nat) (i : Nat) (k2 : Int32 × Mm → Option (Mm)) (x1 : Int32) (t : Mm) : Option (Mm) := k2 ((x1 + 1), t)
def b_X0_passHour_2 (N : Nat) (i : Nat) (k2 : Int32 × Mm → Option (Mm)) (x1 : Int32) (t : Mm) : Option (Mm) := if (t.1 0 i 0 1) ≤ x1 then (o_nm (sI t 0 i 0 3 ((t.1 0 i 0 3) + 1)) fun t_10 => f_X0_passHour_55 N i 0 t_10) else (if o_inb x1 5 = true then (if (t.1 0 i 6 (x1.toNatClampNeg)) = 0 then (if o_inb x1 5 = true then (if (t.1 0 i 0 3) < (t.1 0 i 5 (x1.toNatClampNeg)) then (f_X0_passHour_37 N i k2 x1 t) else (o_bd (f_X0_letIn N i x1 t) fun t_16 => f_X0_passHour_37 N i k2 x1 t_16)) else none) else (f_X0_passHour_37 N i k2 x1 t)) else none)
def f_X0_passHour_2 (N : Nat) (i : Nat) (x1 : Int32) (t : Mm) : Option (Mm) := o_lp (fun k x => b_X0_passHour_2 N i k x.1 x.2) N (x1, t)
/-- FordQuestions$Ford.passHour()V -/
def f_X0_passHour (N : Nat) (i : Nat) (t : Mm) : Option (Mm) := f_X0_passHour_2 N i 0 t
theorem hd_X0_passHour : x_hd yX0_passHour 0 := by decide +kernel
set_option maxRecDepth 100000 in
set_option maxHeartbeats 4000000 in
theorem w_X0_passHour_93 {l : Launch} {g : Ly} {p : Program} {e : Env} {s : State} {m : MethodId} {args : Array Value} {below : List Frame} {meth : Method} {c : Code} (N : Nat) (i : Nat) (hi : i < 21) (X : XC p m meth c cX0_passHour 2 s args (.code yX0_passHour cX0_passHour 2 none) RX0 none shC g) {t' : Mm} {k55 : Int32 × Mm → Option (Mm)} (hk55 : ∀ x : Int32 × Mm, k55 x = some t' → ∀ (H : Heap) (locs : List Loc) (ls : Array Slot), XP shC g x.2 H → va_S (XA shC g) s.heap H locs → lv_has ls 2 [(0, .ref (g.2.2 (0, i, 0))), (1, .int x.1)] → W p l e (rmv 5) s m args below meth c H locs 0 0 (MQ below (XQv shC g t') args s 0 0 (XA shC g)) (F0 m 55 ls [])) (x1 : Int32) (t : Mm) (H : Heap) (locs : List Loc) (ls : Array Slot) (hP : XP shC g t H) (hS : va_S (XA shC g) s.heap H locs) (hl : lv_has ls 2 [(0, .ref (g.2.2 (0, i, 0))), (1, .int x1)]) (h : f_X0_passHour_93 N i k55 x1 t = some t') : W p l e (rmv 5) s m args below meth c H locs 0 0 (MQ below (XQv shC g t') args s 0 0 (XA shC g)) (F0 m 93 ls []) := by
  unfold f_X0_passHour_93 at h
  refine lv_iinc (v := (x1 + 1)) (lv' := [(1, .int (x1 + 1)), (0, .ref (g.2.2 (0, i, 0)))]) X.1.1 X.1.2.1 dX0_passHour_93 hl (k := 1) rfl rfl (by decide) rfl (fun ls hl => ?_)
  refine lv_goto (tgt := 55) X.1.1 X.1.2.1 dX0_passHour_96 (by decide) ?_
  exact hk55 ((x1 + 1), t) h _ _ _ hP hS (lv_sub hl [1, 0] rfl)
set_option maxRecDepth 100000 in
set_option maxHeartbeats 4000000 in
theorem wb_X0_passHour_55 {l : Launch} {g : Ly} {p : Program} {e : Env} {s : State} {m : MethodId} {args : Array Value} {below : List Frame} {meth : Method} {c : Code} (N : Nat) (i : Nat) (hi : i < 21) (X : XC p m meth c cX0_passHour 2 s args (.code yX0_passHour cX0_passHour 2 none) RX0 none shC g) {t' : Mm} {k55 : Int32 × Mm → Option (Mm)} (hk55 : ∀ x : Int32 × Mm, k55 x = some t' → ∀ (H : Heap) (locs : List Loc) (ls : Array Slot), XP shC g x.2 H → va_S (XA shC g) s.heap H locs → lv_has ls 2 [(0, .ref (g.2.2 (0, i, 0))), (1, .int x.1)] → W p l e (rmv 5) s m args below meth c H locs 0 0 (MQ below (XQv shC g t') args s 0 0 (XA shC g)) (F0 m 55 ls [])) (x1 : Int32) (t : Mm) (H : Heap) (locs : List Loc) (ls : Array Slot) (hP : XP shC g t H) (hS : va_S (XA shC g) s.heap H locs) (hl : lv_has ls 2 [(0, .ref (g.2.2 (0, i, 0))), (1, .int x1)]) (h : b_X0_passHour_55 N i k55 x1 t = some t') : W p l e (rmv 5) s m args below meth c H locs 0 0 (MQ below (XQv shC g t') args s 0 0 (XA shC g)) (F0 m 55 ls []) := by
  unfold b_X0_passHour_55 at h
  refine lv_iload_n X.1.1 X.1.2.1 dX0_passHour_55 rfl (lv_at hl 1 rfl) ?_
  refine lv_aload_n X.1.1 X.1.2.1 dX0_passHour_56 rfl (lv_at hl 0 rfl) ?_
  refine gt_X0_1 X hP (kyF (by omega) (by decide)) wd_96 dX0_passHour_57 ?_
  refine lv_icmp_ge (tgt := 99) X.1.1 X.1.2.1 dX0_passHour_60 (by decide) (fun c_1 => ?_) (fun c_1 => ?_)
  · have h := o_pos c_1 h
    obtain rfl := o_ret h
    exact x_vret X hP hS dX0_passHour_99
  · have h := o_neg c_1 h
    refine lv_aload_n X.1.1 X.1.2.1 dX0_passHour_63 rfl (lv_at hl 0 rfl) ?_
    refine gt_X0_10 X hP (kyF (by omega) (by decide)) wd_125 dX0_passHour_64 ?_
    refine lv_iload_n X.1.1 X.1.2.1 dX0_passHour_67 rfl (lv_at hl 1 rfl) ?_
    obtain ⟨g_2, h⟩ := o_gd_inv h
    refine x_iald X hP (kyF (by omega) (by decide)) (fun _ _ => rfl) g_2 dX0_passHour_68 ?_
    refine lv_iconst (v := 1) X.1.1 X.1.2.1 dX0_passHour_69 (by decide) ?_
    refine lv_icmp_ne (tgt := 93) X.1.1 X.1.2.1 dX0_passHour_70 (by decide) (fun c_3 => ?_) (fun c_3 => ?_)
    · have h := o_neg c_3 h
      exact w_X0_passHour_93 N i (by omega) X hk55 x1 t _ _ _ hP hS (lv_sub hl [0, 1] rfl) h
    · have h := o_pos c_3 h
      refine lv_aload_n X.1.1 X.1.2.1 dX0_passHour_73 rfl (lv_at hl 0 rfl) ?_
      refine gt_X0_11 X hP (kyF (by omega) (by decide)) wd_129 dX0_passHour_74 ?_
      refine lv_iload_n X.1.1 X.1.2.1 dX0_passHour_77 rfl (lv_at hl 1 rfl) ?_
      obtain ⟨g_4, h⟩ := o_gd_inv h
      refine x_iald X hP (kyF (by omega) (by decide)) (fun _ _ => rfl) g_4 dX0_passHour_78 ?_
      refine lv_aload_n X.1.1 X.1.2.1 dX0_passHour_79 rfl (lv_at hl 0 rfl) ?_
      refine gt_X0_3 X hP (kyF (by omega) (by decide)) wd_105 dX0_passHour_80 ?_
      refine lv_icmp_gt (tgt := 93) X.1.1 X.1.2.1 dX0_passHour_83 (by decide) (fun c_5 => ?_) (fun c_5 => ?_)
      · have h := o_pos c_5 h
        exact w_X0_passHour_93 N i (by omega) X hk55 x1 t _ _ _ hP hS (lv_sub hl [0, 1] rfl) h
      · have h := o_neg c_5 h
        refine lv_aload_n X.1.1 X.1.2.1 dX0_passHour_86 rfl (lv_at hl 0 rfl) ?_
        refine gt_X0_10 X hP (kyF (by omega) (by decide)) wd_125 dX0_passHour_87 ?_
        refine lv_iload_n X.1.1 X.1.2.1 dX0_passHour_90 rfl (lv_at hl 1 rfl) ?_
        refine lv_iconst (v := 2) X.1.1 X.1.2.1 dX0_passHour_91 (by decide) ?_
        obtain ⟨g_6, h⟩ := o_gd_inv h
        obtain ⟨t_7, e_8, h⟩ := o_nm_inv h
        refine x_iast X hP hS (kyF (by omega) (by decide)) (fun _ _ => rfl) g_6 dX0_passHour_92 (fun H locs hP hS => ?_)
        have hP : XP shC g t_7 H := by rw [e_8]; exact hP
        exact w_X0_passHour_93 N i (by omega) X hk55 x1 t_7 _ _ _ hP hS (lv_sub hl [0, 1] rfl) h
set_option maxRecDepth 100000 in
set_option maxHeartbeats 4000000 in
theorem w_X0_passHour_55 {l : Launch} {g : Ly} {p : Program} {e : Env} {s : State} {m : MethodId} {args : Array Value} {below : List Frame} {meth : Method} {c : Code} (N : Nat) (i : Nat) (hi : i < 21) (X : XC p m meth c cX0_passHour 2 s args (.code yX0_passHour cX0_passHour 2 none) RX0 none shC g) {t' : Mm} (x1 : Int32) (t : Mm) (H : Heap) (locs : List Loc) (ls : Array Slot) (hP : XP shC g t H) (hS : va_S (XA shC g) s.heap H locs) (hl : lv_has ls 2 [(0, .ref (g.2.2 (0, i, 0))), (1, .int x1)]) (h : f_X0_passHour_55 N i x1 t = some t') : W p l e (rmv 5) s m args below meth c H locs 0 0 (MQ below (XQv shC g t') args s 0 0 (XA shC g)) (F0 m 55 ls []) :=
  o_lp_ind (P := fun x : Int32 × Mm => ∀ (H : Heap) (locs : List Loc) (ls : Array Slot), XP shC g x.2 H → va_S (XA shC g) s.heap H locs → lv_has ls 2 [(0, .ref (g.2.2 (0, i, 0))), (1, .int x.1)] → W p l e (rmv 5) s m args below meth c H locs 0 0 (MQ below (XQv shC g t') args s 0 0 (XA shC g)) (F0 m 55 ls [])) (fun k hk x h H locs ls hP hS hl => wb_X0_passHour_55 N i hi X hk x.1 x.2 H locs ls hP hS hl h) N (x1, t) h H locs ls hP hS hl
set_option maxRecDepth 100000 in
set_option maxHeartbeats 4000000 in
theorem w_X0_passHour_37 {l : Launch} {g : Ly} {p : Program} {e : Env} {s : State} {m : MethodId} {args : Array Value} {below : List Frame} {meth : Method} {c : Code} (N : Nat) (i : Nat) (hi : i < 21) (X : XC p m meth c cX0_passHour 2 s args (.code yX0_passHour cX0_passHour 2 none) RX0 none shC g) {t' : Mm} {k2 : Int32 × Mm → Option (Mm)} (hk2 : ∀ x : Int32 × Mm, k2 x = some t' → ∀ (H : Heap) (locs : List Loc) (ls : Array Slot), XP shC g x.2 H → va_S (XA shC g) s.heap H locs → lv_has ls 2 [(0, .ref (g.2.2 (0, i, 0))), (1, .int x.1)] → W p l e (rmv 5) s m args below meth c H locs 0 0 (MQ below (XQv shC g t') args s 0 0 (XA shC g)) (F0 m 2 ls [])) (x1 : Int32) (t : Mm) (H : Heap) (locs : List Loc) (ls : Array Slot) (hP : XP shC g t H) (hS : va_S (XA shC g) s.heap H locs) (hl : lv_has ls 2 [(0, .ref (g.2.2 (0, i, 0))), (1, .int x1)]) (h : f_X0_passHour_37 N i k2 x1 t = some t') : W p l e (rmv 5) s m args below meth c H locs 0 0 (MQ below (XQv shC g t') args s 0 0 (XA shC g)) (F0 m 37 ls []) := by
  unfold f_X0_passHour_37 at h
  refine lv_iinc (v := (x1 + 1)) (lv' := [(1, .int (x1 + 1)), (0, .ref (g.2.2 (0, i, 0)))]) X.1.1 X.1.2.1 dX0_passHour_37 hl (k := 1) rfl rfl (by decide) rfl (fun ls hl => ?_)
  refine lv_goto (tgt := 2) X.1.1 X.1.2.1 dX0_passHour_40 (by decide) ?_
  exact hk2 ((x1 + 1), t) h _ _ _ hP hS (lv_sub hl [1, 0] rfl)
set_option maxRecDepth 100000 in
set_option maxHeartbeats 4000000 in
theorem wb_X0_passHour_2 {l : Launch} {g : Ly} {p : Program} {e : Env} {s : State} {m : MethodId} {args : Array Value} {below : List Frame} {meth : Method} {c : Code} (N : Nat) (i : Nat) (hi : i < 21) (X : XC p m meth c cX0_passHour 2 s args (.code yX0_passHour cX0_passHour 2 none) RX0 none shC g) {t' : Mm} {k2 : Int32 × Mm → Option (Mm)} (hk2 : ∀ x : Int32 × Mm, k2 x = some t' → ∀ (H : Heap) (locs : List Loc) (ls : Array Slot), XP shC g x.2 H → va_S (XA shC g) s.heap H locs → lv_has ls 2 [(0, .ref (g.2.2 (0, i, 0))), (1, .int x.1)] → W p l e (rmv 5) s m args below meth c H locs 0 0 (MQ below (XQv shC g t') args s 0 0 (XA shC g)) (F0 m 2 ls [])) (x1 : Int32) (t : Mm) (H : Heap) (locs : List Loc) (ls : Array Slot) (hP : XP shC g t H) (hS : va_S (XA shC g) s.heap H locs) (hl : lv_has ls 2 [(0, .ref (g.2.2 (0, i, 0))), (1, .int x1)]) (h : b_X0_passHour_2 N i k2 x1 t = some t') : W p l e (rmv 5) s m args below meth c H locs 0 0 (MQ below (XQv shC g t') args s 0 0 (XA shC g)) (F0 m 2 ls []) := by
  unfold b_X0_passHour_2 at h
  refine lv_iload_n X.1.1 X.1.2.1 dX0_passHour_2 rfl (lv_at hl 1 rfl) ?_
  refine lv_aload_n X.1.1 X.1.2.1 dX0_passHour_3 rfl (lv_at hl 0 rfl) ?_
  refine gt_X0_1 X hP (kyF (by omega) (by decide)) wd_96 dX0_passHour_4 ?_
  refine lv_icmp_ge (tgt := 43) X.1.1 X.1.2.1 dX0_passHour_7 (by decide) (fun c_9 => ?_) (fun c_9 => ?_)
  · have h := o_pos c_9 h
    refine lv_aload_n X.1.1 X.1.2.1 dX0_passHour_43 rfl (lv_at hl 0 rfl) ?_
    refine lv_dup X.1.1 X.1.2.1 dX0_passHour_44 rfl ?_
    refine gt_X0_3 X hP (kyF (by omega) (by decide)) wd_105 dX0_passHour_45 ?_
    refine lv_iconst (v := 1) X.1.1 X.1.2.1 dX0_passHour_48 (by decide) ?_
    refine lv_iadd X.1.1 X.1.2.1 dX0_passHour_49 ?_
    obtain ⟨t_10, e_11, h⟩ := o_nm_inv h
    refine pt_X0_3 (x := ((t.1 0 i 0 3) + 1)) X hP hS (kyF (by omega) (by decide)) wd_105 dX0_passHour_50 (fun H locs hP hS => ?_)
    have hP : XP shC g t_10 H := by rw [e_11]; exact hP
    refine lv_iconst (v := 0) X.1.1 X.1.2.1 dX0_passHour_53 (by decide) ?_
    refine lv_istore_n (lv' := [(1, .int 0), (0, .ref (g.2.2 (0, i, 0)))]) X.1.1 X.1.2.1 dX0_passHour_54 rfl hl (by decide) rfl (fun ls hl => ?_)
    exact w_X0_passHour_55 N i (by omega) X 0 t_10 _ _ _ hP hS (lv_sub hl [1, 0] rfl) h
  · have h := o_neg c_9 h
    refine lv_aload_n X.1.1 X.1.2.1 dX0_passHour_10 rfl (lv_at hl 0 rfl) ?_
    refine gt_X0_10 X hP (kyF (by omega) (by decide)) wd_125 dX0_passHour_11 ?_
    refine lv_iload_n X.1.1 X.1.2.1 dX0_passHour_14 rfl (lv_at hl 1 rfl) ?_
    obtain ⟨g_12, h⟩ := o_gd_inv h
    refine x_iald X hP (kyF (by omega) (by decide)) (fun _ _ => rfl) g_12 dX0_passHour_15 ?_
    refine lv_if_ne (tgt := 37) X.1.1 X.1.2.1 dX0_passHour_16 (by decide) (fun c_13 => ?_) (fun c_13 => ?_)
    · have h := o_neg c_13 h
      exact w_X0_passHour_37 N i (by omega) X hk2 x1 t _ _ _ hP hS (lv_sub hl [0, 1] rfl) h
    · have h := o_pos c_13 h
      refine lv_aload_n X.1.1 X.1.2.1 dX0_passHour_19 rfl (lv_at hl 0 rfl) ?_
      refine gt_X0_9 X hP (kyF (by omega) (by decide)) wd_121 dX0_passHour_20 ?_
      refine lv_iload_n X.1.1 X.1.2.1 dX0_passHour_23 rfl (lv_at hl 1 rfl) ?_
      obtain ⟨g_14, h⟩ := o_gd_inv h
      refine x_iald X hP (kyF (by omega) (by decide)) (fun _ _ => rfl) g_14 dX0_passHour_24 ?_
      refine lv_aload_n X.1.1 X.1.2.1 dX0_passHour_25 rfl (lv_at hl 0 rfl) ?_
      refine gt_X0_3 X hP (kyF (by omega) (by decide)) wd_105 dX0_passHour_26 ?_
      refine lv_icmp_gt (tgt := 37) X.1.1 X.1.2.1 dX0_passHour_29 (by decide) (fun c_15 => ?_) (fun c_15 => ?_)
      · have h := o_pos c_15 h
        exact w_X0_passHour_37 N i (by omega) X hk2 x1 t _ _ _ hP hS (lv_sub hl [0, 1] rfl) h
      · have h := o_neg c_15 h
        refine lv_aload_n X.1.1 X.1.2.1 dX0_passHour_32 rfl (lv_at hl 0 rfl) ?_
        refine lv_iload_n X.1.1 X.1.2.1 dX0_passHour_33 rfl (lv_at hl 1 rfl) ?_
        obtain ⟨t_16, hc_17, h⟩ := o_bd_inv h
        refine x_callv (x_runV (As := [.int x1]) (rest := []) X hP hS (c_X0_letIn l g N i X.2.2.2.2.1 (by omega) x1 t hc_17) ⟨wd_585, wd_582, wd_584, wd_10, wd_56⟩ hd_X0_letIn ⟨by omega, by decide⟩ (x_recv X hP (ci := 0) rfl (kyF (by omega) (by decide)) rfl) rfl hl.1 rfl (Nat.le_of_ble_eq_true rfl) dX0_passHour_34) hS (fun H locs hP hS => ?_)
        exact w_X0_passHour_37 N i (by omega) X hk2 x1 t_16 _ _ _ hP hS (lv_sub hl [0, 1] rfl) h
set_option maxRecDepth 100000 in
set_option maxHeartbeats 4000000 in
theorem w_X0_passHour_2 {l : Launch} {g : Ly} {p : Program} {e : Env} {s : State} {m : MethodId} {args : Array Value} {below : List Frame} {meth : Method} {c : Code} (N : Nat) (i : Nat) (hi : i < 21) (X : XC p m meth c cX0_passHour 2 s args (.code yX0_passHour cX0_passHour 2 none) RX0 none shC g) {t' : Mm} (x1 : Int32) (t : Mm) (H : Heap) (locs : List Loc) (ls : Array Slot) (hP : XP shC g t H) (hS : va_S (XA shC g) s.heap H locs) (hl : lv_has ls 2 [(0, .ref (g.2.2 (0, i, 0))), (1, .int x1)]) (h : f_X0_passHour_2 N i x1 t = some t') : W p l e (rmv 5) s m args below meth c H locs 0 0 (MQ below (XQv shC g t') args s 0 0 (XA shC g)) (F0 m 2 ls []) :=
  o_lp_ind (P := fun x : Int32 × Mm => ∀ (H : Heap) (locs : List Loc) (ls : Array Slot), XP shC g x.2 H → va_S (XA shC g) s.heap H locs → lv_has ls 2 [(0, .ref (g.2.2 (0, i, 0))), (1, .int x.1)] → W p l e (rmv 5) s m args below meth c H locs 0 0 (MQ below (XQv shC g t') args s 0 0 (XA shC g)) (F0 m 2 ls [])) (fun k hk x h H locs ls hP hS hl => wb_X0_passHour_2 N i hi X hk x.1 x.2 H locs ls hP hS hl h) N (x1, t) h H locs ls hP hS hl
set_option maxRecDepth 100000 in
set_option maxHeartbeats 4000000 in
theorem c_X0_passHour (l : Launch) (g : Ly) (N : Nat) (i : Nat) (hG : XG shC g) (hi : i < 21) (t : Mm) {t' : Mm} (h : f_X0_passHour N i t = some t') : MI l yX0_passHour cX0_passHour 2 none 5 shC g [.ref (g.2.2 (0, i, 0))] t (XQv shC g t') := by
  refine x_met hG (by decide +kernel) (Nat.le_of_ble_eq_true rfl) ?_
  intro p e s m below meth c ls X hP hl
  have hS : va_S (XA shC g) s.heap s.heap [] := va_S.rf
  have hl : lv_has ls 2 [(0, .ref (g.2.2 (0, i, 0)))] := hl
  unfold f_X0_passHour at h
  generalize ([.ref (g.2.2 (0, i, 0))] : List Value).toArray = args at X ⊢
  refine lv_iconst (v := 0) X.1.1 X.1.2.1 dX0_passHour_0 (by decide) ?_
  refine lv_istore_n (lv' := [(1, .int 0), (0, .ref (g.2.2 (0, i, 0)))]) X.1.1 X.1.2.1 dX0_passHour_1 rfl hl (by decide) rfl (fun ls hl => ?_)
  exact w_X0_passHour_2 N i (by omega) X 0 t _ _ _ hP hS (lv_sub hl [1, 0] rfl) h
/-- FordQuestions$Ford.drawQuestion()V -/
def f_X0_drawQuestion (i : Nat) (t : Mm) : Option (Mm) := o_nm (sI t 0 i 0 4 ((((t.1 0 i 0 4) * 1103515245) + 12345) &&& 2147483647)) fun t_1 => if (t_1.1 0 i 0 0) ≤ 0 then (some t_1) else (if (((t_1.1 0 i 0 4) / 128) - ((t_1.1 0 i 0 4) / 128) / 3 * 3) = 0 then (if ¬ ((t_1.1 0 i 0 0) = 0) then (o_bd (f_X0_letAskAgain i (((t_1.1 0 i 0 4) / 65536) - ((t_1.1 0 i 0 4) / 65536) / (t_1.1 0 i 0 0) * (t_1.1 0 i 0 0)) t_1) fun t_6 => some t_6) else none) else (some t_1))
theorem hd_X0_drawQuestion : x_hd yX0_drawQuestion 0 := by decide +kernel
set_option maxRecDepth 100000 in
set_option maxHeartbeats 4000000 in
theorem c_X0_drawQuestion (l : Launch) (g : Ly) (i : Nat) (hG : XG shC g) (hi : i < 21) (t : Mm) {t' : Mm} (h : f_X0_drawQuestion i t = some t') : MI l yX0_drawQuestion cX0_drawQuestion 1 none 2 shC g [.ref (g.2.2 (0, i, 0))] t (XQv shC g t') := by
  refine x_met hG (by decide +kernel) (Nat.le_of_ble_eq_true rfl) ?_
  intro p e s m below meth c ls X hP hl
  have hS : va_S (XA shC g) s.heap s.heap [] := va_S.rf
  have hl : lv_has ls 1 [(0, .ref (g.2.2 (0, i, 0)))] := hl
  unfold f_X0_drawQuestion at h
  generalize ([.ref (g.2.2 (0, i, 0))] : List Value).toArray = args at X ⊢
  refine lv_aload_n X.1.1 X.1.2.1 dX0_drawQuestion_0 rfl (lv_at hl 0 rfl) ?_
  refine lv_aload_n X.1.1 X.1.2.1 dX0_drawQuestion_1 rfl (lv_at hl 0 rfl) ?_
  refine gt_X0_4 X hP (kyF (by omega) (by decide)) wd_109 dX0_drawQuestion_2 ?_
  refine lv_ldc (v := 1103515245) X.1.1 X.1.2.1 X.1.2.2.2.1 (X.1.2.2.2.2 _ (List.mem_cons_of_mem _ wd_571)) dX0_drawQuestion_5 ?_
  refine lv_imul X.1.1 X.1.2.1 dX0_drawQuestion_7 ?_
  refine lv_sipush (v := 12345) X.1.1 X.1.2.1 dX0_drawQuestion_8 (by decide) ?_
  refine lv_iadd X.1.1 X.1.2.1 dX0_drawQuestion_11 ?_
  refine lv_ldc (v := 2147483647) X.1.1 X.1.2.1 X.1.2.2.2.1 (X.1.2.2.2.2 _ (List.mem_cons_of_mem _ wd_572)) dX0_drawQuestion_12 ?_
  refine lv_iand X.1.1 X.1.2.1 dX0_drawQuestion_14 ?_
  obtain ⟨t_1, e_2, h⟩ := o_nm_inv h
  refine pt_X0_4 (x := ((((t.1 0 i 0 4) * 1103515245) + 12345) &&& 2147483647)) X hP hS (kyF (by omega) (by decide)) wd_109 dX0_drawQuestion_15 (fun H locs hP hS => ?_)
  have hP : XP shC g t_1 H := by rw [e_2]; exact hP
  refine lv_aload_n X.1.1 X.1.2.1 dX0_drawQuestion_18 rfl (lv_at hl 0 rfl) ?_
  refine gt_X0_0 X hP (kyF (by omega) (by decide)) wd_92 dX0_drawQuestion_19 ?_
  refine lv_if_le (tgt := 54) X.1.1 X.1.2.1 dX0_drawQuestion_22 (by decide) (fun c_3 => ?_) (fun c_3 => ?_)
  · have h := o_pos c_3 h
    obtain rfl := o_ret h
    exact x_vret X hP hS dX0_drawQuestion_54
  · have h := o_neg c_3 h
    refine lv_aload_n X.1.1 X.1.2.1 dX0_drawQuestion_25 rfl (lv_at hl 0 rfl) ?_
    refine gt_X0_4 X hP (kyF (by omega) (by decide)) wd_109 dX0_drawQuestion_26 ?_
    refine lv_sipush (v := 128) X.1.1 X.1.2.1 dX0_drawQuestion_29 (by decide) ?_
    refine lv_idiv X.1.1 X.1.2.1 dX0_drawQuestion_32 (by decide) ?_
    refine lv_iconst (v := 3) X.1.1 X.1.2.1 dX0_drawQuestion_33 (by decide) ?_
    refine lv_irem X.1.1 X.1.2.1 dX0_drawQuestion_34 (by decide) ?_
    refine lv_if_ne (tgt := 54) X.1.1 X.1.2.1 dX0_drawQuestion_35 (by decide) (fun c_4 => ?_) (fun c_4 => ?_)
    · have h := o_neg c_4 h
      obtain rfl := o_ret h
      exact x_vret X hP hS dX0_drawQuestion_54
    · have h := o_pos c_4 h
      refine lv_aload_n X.1.1 X.1.2.1 dX0_drawQuestion_38 rfl (lv_at hl 0 rfl) ?_
      refine lv_aload_n X.1.1 X.1.2.1 dX0_drawQuestion_39 rfl (lv_at hl 0 rfl) ?_
      refine gt_X0_4 X hP (kyF (by omega) (by decide)) wd_109 dX0_drawQuestion_40 ?_
      refine lv_ldc (v := 65536) X.1.1 X.1.2.1 X.1.2.2.2.1 (X.1.2.2.2.2 _ (List.mem_cons_of_mem _ wd_573)) dX0_drawQuestion_43 ?_
      refine lv_idiv X.1.1 X.1.2.1 dX0_drawQuestion_45 (by decide) ?_
      refine lv_aload_n X.1.1 X.1.2.1 dX0_drawQuestion_46 rfl (lv_at hl 0 rfl) ?_
      refine gt_X0_0 X hP (kyF (by omega) (by decide)) wd_92 dX0_drawQuestion_47 ?_
      obtain ⟨g_5, h⟩ := o_gd_inv h
      refine lv_irem X.1.1 X.1.2.1 dX0_drawQuestion_50 g_5 ?_
      obtain ⟨t_6, hc_7, h⟩ := o_bd_inv h
      refine x_callv (x_runV (As := [.int (((t_1.1 0 i 0 4) / 65536) - ((t_1.1 0 i 0 4) / 65536) / (t_1.1 0 i 0 0) * (t_1.1 0 i 0 0))]) (rest := []) X hP hS (c_X0_letAskAgain l g i X.2.2.2.2.1 (by omega) (((t_1.1 0 i 0 4) / 65536) - ((t_1.1 0 i 0 4) / 65536) / (t_1.1 0 i 0 0) * (t_1.1 0 i 0 0)) t_1 hc_7) ⟨wd_577, wd_574, wd_575, wd_576, wd_56⟩ hd_X0_letAskAgain ⟨by omega, by decide⟩ (x_recv X hP (ci := 0) rfl (kyF (by omega) (by decide)) rfl) rfl hl.1 rfl (Nat.le_of_ble_eq_true rfl) dX0_drawQuestion_51) hS (fun H locs hP hS => ?_)
      obtain rfl := o_ret h
      exact x_vret X hP hS dX0_drawQuestion_54
def f_X0_howManyLeaveNext_40 (N : Nat) (i : Nat) (k4 : Int32 × Int32 × Mm → Option (Int32 × Mm)) (x1 : Int32) (x2 : Int32) (t : Mm) : Option (Int32 × Mm) := k4 (x1, (x2 + 1), t)
def b_X0_howManyLeaveNext_4 (N : Nat) (i : Nat) (k4 : Int32 × Int32 × Mm → Option (Int32 × Mm)) (x1 : Int32) (x2 : Int32) (t : Mm) : Option (Int32 × Mm) := if (t.1 0 i 0 1) ≤ x2 then (some (x1, t)) else (if o_inb x2 5 = true then (if (t.1 0 i 6 (x2.toNatClampNeg)) = 1 then (if o_inb x2 5 = true then (if ((t.1 0 i 0 3) + 1) < (t.1 0 i 7 (x2.toNatClampNeg)) then (f_X0_howManyLeaveNext_40 N i k4 x1 x2 t) else (f_X0_howManyLeaveNext_40 N i k4 (x1 + 1) x2 t)) else none) else (f_X0_howManyLeaveNext_40 N i k4 x1 x2 t)) else none)
def f_X0_howManyLeaveNext_4 (N : Nat) (i : Nat) (x1 : Int32) (x2 : Int32) (t : Mm) : Option (Int32 × Mm) := o_lp (fun k x => b_X0_howManyLeaveNext_4 N i k x.1 x.2.1 x.2.2) N (x1, x2, t)
/-- FordQuestions$Ford.howManyLeaveNext()I -/
def f_X0_howManyLeaveNext (N : Nat) (i : Nat) (t : Mm) : Option (Int32 × Mm) := f_X0_howManyLeaveNext_4 N i 0 0 t
theorem hd_X0_howManyLeaveNext : x_hd yX0_howManyLeaveNext 0 := by decide +kernel
set_option maxRecDepth 100000 in
set_option maxHeartbeats 4000000 in
theorem w_X0_howManyLeaveNext_40 {l : Launch} {g : Ly} {p : Program} {e : Env} {s : State} {m : MethodId} {args : Array Value} {below : List Frame} {meth : Method} {c : Code} (N : Nat) (i : Nat) (hi : i < 21) (X : XC p m meth c cX0_howManyLeaveNext 3 s args (.code yX0_howManyLeaveNext cX0_howManyLeaveNext 3 (some .int)) RX0 (some .int) shC g) {r : Int32} {t' : Mm} {k4 : Int32 × Int32 × Mm → Option (Int32 × Mm)} (hk4 : ∀ x : Int32 × Int32 × Mm, k4 x = some (r, t') → ∀ (H : Heap) (locs : List Loc) (ls : Array Slot), XP shC g x.2.2 H → va_S (XA shC g) s.heap H locs → lv_has ls 3 [(0, .ref (g.2.2 (0, i, 0))), (1, .int x.1), (2, .int x.2.1)] → W p l e (rmv 1) s m args below meth c H locs 0 0 (MQ below (XQi shC g r t') args s 0 0 (XA shC g)) (F0 m 4 ls [])) (x1 : Int32) (x2 : Int32) (t : Mm) (H : Heap) (locs : List Loc) (ls : Array Slot) (hP : XP shC g t H) (hS : va_S (XA shC g) s.heap H locs) (hl : lv_has ls 3 [(0, .ref (g.2.2 (0, i, 0))), (1, .int x1), (2, .int x2)]) (h : f_X0_howManyLeaveNext_40 N i k4 x1 x2 t = some (r, t')) : W p l e (rmv 1) s m args below meth c H locs 0 0 (MQ below (XQi shC g r t') args s 0 0 (XA shC g)) (F0 m 40 ls []) := by
  unfold f_X0_howManyLeaveNext_40 at h
  refine lv_iinc (v := (x2 + 1)) (lv' := [(2, .int (x2 + 1)), (0, .ref (g.2.2 (0, i, 0))), (1, .int x1)]) X.1.1 X.1.2.1 dX0_howManyLeaveNext_40 hl (k := 2) rfl rfl (by decide) rfl (fun ls hl => ?_)
  refine lv_goto (tgt := 4) X.1.1 X.1.2.1 dX0_howManyLeaveNext_43 (by decide) ?_
  exact hk4 (x1, (x2 + 1), t) h _ _ _ hP hS (lv_sub hl [1, 2, 0] rfl)
set_option maxRecDepth 100000 in
set_option maxHeartbeats 4000000 in
theorem wb_X0_howManyLeaveNext_4 {l : Launch} {g : Ly} {p : Program} {e : Env} {s : State} {m : MethodId} {args : Array Value} {below : List Frame} {meth : Method} {c : Code} (N : Nat) (i : Nat) (hi : i < 21) (X : XC p m meth c cX0_howManyLeaveNext 3 s args (.code yX0_howManyLeaveNext cX0_howManyLeaveNext 3 (some .int)) RX0 (some .int) shC g) {r : Int32} {t' : Mm} {k4 : Int32 × Int32 × Mm → Option (Int32 × Mm)} (hk4 : ∀ x : Int32 × Int32 × Mm, k4 x = some (r, t') → ∀ (H : Heap) (locs : List Loc) (ls : Array Slot), XP shC g x.2.2 H → va_S (XA shC g) s.heap H locs → lv_has ls 3 [(0, .ref (g.2.2 (0, i, 0))), (1, .int x.1), (2, .int x.2.1)] → W p l e (rmv 1) s m args below meth c H locs 0 0 (MQ below (XQi shC g r t') args s 0 0 (XA shC g)) (F0 m 4 ls [])) (x1 : Int32) (x2 : Int32) (t : Mm) (H : Heap) (locs : List Loc) (ls : Array Slot) (hP : XP shC g t H) (hS : va_S (XA shC g) s.heap H locs) (hl : lv_has ls 3 [(0, .ref (g.2.2 (0, i, 0))), (1, .int x1), (2, .int x2)]) (h : b_X0_howManyLeaveNext_4 N i k4 x1 x2 t = some (r, t')) : W p l e (rmv 1) s m args below meth c H locs 0 0 (MQ below (XQi shC g r t') args s 0 0 (XA shC g)) (F0 m 4 ls []) := by
  unfold b_X0_howManyLeaveNext_4 at h
  refine lv_iload_n X.1.1 X.1.2.1 dX0_howManyLeaveNext_4 rfl (lv_at hl 2 rfl) ?_
  refine lv_aload_n X.1.1 X.1.2.1 dX0_howManyLeaveNext_5 rfl (lv_at hl 0 rfl) ?_
  refine gt_X0_1 X hP (kyF (by omega) (by decide)) wd_96 dX0_howManyLeaveNext_6 ?_
  refine lv_icmp_ge (tgt := 46) X.1.1 X.1.2.1 dX0_howManyLeaveNext_9 (by decide) (fun c_1 => ?_) (fun c_1 => ?_)
  · have h := o_pos c_1 h
    refine lv_iload_n X.1.1 X.1.2.1 dX0_howManyLeaveNext_46 rfl (lv_at hl 1 rfl) ?_
    obtain ⟨rfl, rfl⟩ := o_ret2 h
    exact x_iret X hP hS dX0_howManyLeaveNext_47
  · have h := o_neg c_1 h
    refine lv_aload_n X.1.1 X.1.2.1 dX0_howManyLeaveNext_12 rfl (lv_at hl 0 rfl) ?_
    refine gt_X0_10 X hP (kyF (by omega) (by decide)) wd_125 dX0_howManyLeaveNext_13 ?_
    refine lv_iload_n X.1.1 X.1.2.1 dX0_howManyLeaveNext_16 rfl (lv_at hl 2 rfl) ?_
    obtain ⟨g_2, h⟩ := o_gd_inv h
    refine x_iald X hP (kyF (by omega) (by decide)) (fun _ _ => rfl) g_2 dX0_howManyLeaveNext_17 ?_
    refine lv_iconst (v := 1) X.1.1 X.1.2.1 dX0_howManyLeaveNext_18 (by decide) ?_
    refine lv_icmp_ne (tgt := 40) X.1.1 X.1.2.1 dX0_howManyLeaveNext_19 (by decide) (fun c_3 => ?_) (fun c_3 => ?_)
    · have h := o_neg c_3 h
      exact w_X0_howManyLeaveNext_40 N i (by omega) X hk4 x1 x2 t _ _ _ hP hS (lv_sub hl [0, 1, 2] rfl) h
    · have h := o_pos c_3 h
      refine lv_aload_n X.1.1 X.1.2.1 dX0_howManyLeaveNext_22 rfl (lv_at hl 0 rfl) ?_
      refine gt_X0_11 X hP (kyF (by omega) (by decide)) wd_129 dX0_howManyLeaveNext_23 ?_
      refine lv_iload_n X.1.1 X.1.2.1 dX0_howManyLeaveNext_26 rfl (lv_at hl 2 rfl) ?_
      obtain ⟨g_4, h⟩ := o_gd_inv h
      refine x_iald X hP (kyF (by omega) (by decide)) (fun _ _ => rfl) g_4 dX0_howManyLeaveNext_27 ?_
      refine lv_aload_n X.1.1 X.1.2.1 dX0_howManyLeaveNext_28 rfl (lv_at hl 0 rfl) ?_
      refine gt_X0_3 X hP (kyF (by omega) (by decide)) wd_105 dX0_howManyLeaveNext_29 ?_
      refine lv_iconst (v := 1) X.1.1 X.1.2.1 dX0_howManyLeaveNext_32 (by decide) ?_
      refine lv_iadd X.1.1 X.1.2.1 dX0_howManyLeaveNext_33 ?_
      refine lv_icmp_gt (tgt := 40) X.1.1 X.1.2.1 dX0_howManyLeaveNext_34 (by decide) (fun c_5 => ?_) (fun c_5 => ?_)
      · have h := o_pos c_5 h
        exact w_X0_howManyLeaveNext_40 N i (by omega) X hk4 x1 x2 t _ _ _ hP hS (lv_sub hl [0, 1, 2] rfl) h
      · have h := o_neg c_5 h
        refine lv_iinc (v := (x1 + 1)) (lv' := [(1, .int (x1 + 1)), (0, .ref (g.2.2 (0, i, 0))), (2, .int x2)]) X.1.1 X.1.2.1 dX0_howManyLeaveNext_37 hl (k := 1) rfl rfl (by decide) rfl (fun ls hl => ?_)
        exact w_X0_howManyLeaveNext_40 N i (by omega) X hk4 (x1 + 1) x2 t _ _ _ hP hS (lv_sub hl [1, 0, 2] rfl) h
set_option maxRecDepth 100000 in
set_option maxHeartbeats 4000000 in
theorem w_X0_howManyLeaveNext_4 {l : Launch} {g : Ly} {p : Program} {e : Env} {s : State} {m : MethodId} {args : Array Value} {below : List Frame} {meth : Method} {c : Code} (N : Nat) (i : Nat) (hi : i < 21) (X : XC p m meth c cX0_howManyLeaveNext 3 s args (.code yX0_howManyLeaveNext cX0_howManyLeaveNext 3 (some .int)) RX0 (some .int) shC g) {r : Int32} {t' : Mm} (x1 : Int32) (x2 : Int32) (t : Mm) (H : Heap) (locs : List Loc) (ls : Array Slot) (hP : XP shC g t H) (hS : va_S (XA shC g) s.heap H locs) (hl : lv_has ls 3 [(0, .ref (g.2.2 (0, i, 0))), (1, .int x1), (2, .int x2)]) (h : f_X0_howManyLeaveNext_4 N i x1 x2 t = some (r, t')) : W p l e (rmv 1) s m args below meth c H locs 0 0 (MQ below (XQi shC g r t') args s 0 0 (XA shC g)) (F0 m 4 ls []) :=
  o_lp_ind (P := fun x : Int32 × Int32 × Mm => ∀ (H : Heap) (locs : List Loc) (ls : Array Slot), XP shC g x.2.2 H → va_S (XA shC g) s.heap H locs → lv_has ls 3 [(0, .ref (g.2.2 (0, i, 0))), (1, .int x.1), (2, .int x.2.1)] → W p l e (rmv 1) s m args below meth c H locs 0 0 (MQ below (XQi shC g r t') args s 0 0 (XA shC g)) (F0 m 4 ls [])) (fun k hk x h H locs ls hP hS hl => wb_X0_howManyLeaveNext_4 N i hi X hk x.1 x.2.1 x.2.2 H locs ls hP hS hl h) N (x1, x2, t) h H locs ls hP hS hl
set_option maxRecDepth 100000 in
set_option maxHeartbeats 4000000 in
theorem c_X0_howManyLeaveNext (l : Launch) (g : Ly) (N : Nat) (i : Nat) (hG : XG shC g) (hi : i < 21) (t : Mm) {r : Int32} {t' : Mm} (h : f_X0_howManyLeaveNext N i t = some (r, t')) : MI l yX0_howManyLeaveNext cX0_howManyLeaveNext 3 (some .int) 1 shC g [.ref (g.2.2 (0, i, 0))] t (XQi shC g r t') := by
  refine x_met hG (by decide +kernel) (Nat.le_of_ble_eq_true rfl) ?_
  intro p e s m below meth c ls X hP hl
  have hS : va_S (XA shC g) s.heap s.heap [] := va_S.rf
  have hl : lv_has ls 3 [(0, .ref (g.2.2 (0, i, 0)))] := hl
  unfold f_X0_howManyLeaveNext at h
  generalize ([.ref (g.2.2 (0, i, 0))] : List Value).toArray = args at X ⊢
  refine lv_iconst (v := 0) X.1.1 X.1.2.1 dX0_howManyLeaveNext_0 (by decide) ?_
  refine lv_istore_n (lv' := [(1, .int 0), (0, .ref (g.2.2 (0, i, 0)))]) X.1.1 X.1.2.1 dX0_howManyLeaveNext_1 rfl hl (by decide) rfl (fun ls hl => ?_)
  refine lv_iconst (v := 0) X.1.1 X.1.2.1 dX0_howManyLeaveNext_2 (by decide) ?_
  refine lv_istore_n (lv' := [(2, .int 0), (1, .int 0), (0, .ref (g.2.2 (0, i, 0)))]) X.1.1 X.1.2.1 dX0_howManyLeaveNext_3 rfl hl (by decide) rfl (fun ls hl => ?_)
  exact w_X0_howManyLeaveNext_4 N i (by omega) X 0 0 t _ _ _ hP hS (lv_sub hl [2, 1, 0] rfl) h
