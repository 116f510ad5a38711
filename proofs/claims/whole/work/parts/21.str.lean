/-- java/lang/String.isLatin1()Z -/
def f_J0_isLatin1_aae02 (t : Mm) : Option (Int32 × Mm) := if (1 : Int32) = 0 then (some (0, t)) else (if (0 : Int32) = 0 then (some (1, t)) else (some (0, t)))
theorem hd_J0_isLatin1_aae02 : x_hd yJ0_isLatin1_aae02 0 := by decide +kernel
set_option maxRecDepth 100000 in
set_option maxHeartbeats 4000000 in
theorem c_J0_isLatin1_aae02 (l : Launch) (g : Ly) (hG : XG shC g) (t : Mm) {r : Int32} {t' : Mm} (h : f_J0_isLatin1_aae02 t = some (r, t')) : MI l yJ0_isLatin1_aae02 cJ0_isLatin1_aae02 1 (some .boolean) 1 shC g [.ref (g.2.2 (7, 0, 0))] t (XQi shC g r t') := by
  refine x_met hG (by decide +kernel) (Nat.le_of_ble_eq_true rfl) ?_
  intro p e s m below meth c ls X hP hl
  have hS : va_S (XA shC g) s.heap s.heap [] := va_S.rf
  have hl : lv_has ls 1 [(0, .ref (g.2.2 (7, 0, 0)))] := hl
  unfold f_J0_isLatin1_aae02 at h
  generalize ([.ref (g.2.2 (7, 0, 0))] : List Value).toArray = args at X ⊢
  refine x_getSt X hS wd_454 dJ0_isLatin1_aae02_0 ?_
  refine lv_if_eq (tgt := 17) X.1.1 X.1.2.1 dJ0_isLatin1_aae02_3 (by decide) (fun c_1 => ?_) (fun c_1 => ?_)
  · have h := o_pos c_1 h
    refine lv_iconst (v := 0) X.1.1 X.1.2.1 dJ0_isLatin1_aae02_17 (by decide) ?_
    obtain ⟨rfl, rfl⟩ := o_ret2 h
    exact x_zret rfl X hP hS dJ0_isLatin1_aae02_18
  · have h := o_neg c_1 h
    refine lv_aload_n X.1.1 X.1.2.1 dJ0_isLatin1_aae02_6 rfl (lv_at hl 0 rfl) ?_
    refine x_strC X hS wd_1267 dJ0_isLatin1_aae02_7 ?_
    refine lv_if_ne (tgt := 17) X.1.1 X.1.2.1 dJ0_isLatin1_aae02_10 (by decide) (fun c_2 => ?_) (fun c_2 => ?_)
    · have h := o_neg c_2 h
      refine lv_iconst (v := 0) X.1.1 X.1.2.1 dJ0_isLatin1_aae02_17 (by decide) ?_
      obtain ⟨rfl, rfl⟩ := o_ret2 h
      exact x_zret rfl X hP hS dJ0_isLatin1_aae02_18
    · have h := o_pos c_2 h
      refine lv_iconst (v := 1) X.1.1 X.1.2.1 dJ0_isLatin1_aae02_13 (by decide) ?_
      refine lv_goto (tgt := 18) X.1.1 X.1.2.1 dJ0_isLatin1_aae02_14 (by decide) ?_
      obtain ⟨rfl, rfl⟩ := o_ret2 h
      exact x_zret rfl X hP hS dJ0_isLatin1_aae02_18
/-- java/lang/String.coder()B -/
def f_J0_coder_7d493 (t : Mm) : Option (Int32 × Mm) := if (1 : Int32) = 0 then (some (1, t)) else (some (0, t))
theorem hd_J0_coder_7d493 : x_hd yJ0_coder_7d493 0 := by decide +kernel
set_option maxRecDepth 100000 in
set_option maxHeartbeats 4000000 in
theorem c_J0_coder_7d493 (l : Launch) (g : Ly) (hG : XG shC g) (t : Mm) {r : Int32} {t' : Mm} (h : f_J0_coder_7d493 t = some (r, t')) : MI l yJ0_coder_7d493 cJ0_coder_7d493 1 (some .byte) 1 shC g [.ref (g.2.2 (7, 0, 0))] t (XQi shC g r t') := by
  refine x_met hG (by decide +kernel) (Nat.le_of_ble_eq_true rfl) ?_
  intro p e s m below meth c ls X hP hl
  have hS : va_S (XA shC g) s.heap s.heap [] := va_S.rf
  have hl : lv_has ls 1 [(0, .ref (g.2.2 (7, 0, 0)))] := hl
  unfold f_J0_coder_7d493 at h
  generalize ([.ref (g.2.2 (7, 0, 0))] : List Value).toArray = args at X ⊢
  refine x_getSt X hS wd_454 dJ0_coder_7d493_0 ?_
  refine lv_if_eq (tgt := 13) X.1.1 X.1.2.1 dJ0_coder_7d493_3 (by decide) (fun c_1 => ?_) (fun c_1 => ?_)
  · have h := o_pos c_1 h
    refine lv_iconst (v := 1) X.1.1 X.1.2.1 dJ0_coder_7d493_13 (by decide) ?_
    obtain ⟨rfl, rfl⟩ := o_ret2 h
    exact x_zret rfl X hP hS dJ0_coder_7d493_14
  · have h := o_neg c_1 h
    refine lv_aload_n X.1.1 X.1.2.1 dJ0_coder_7d493_6 rfl (lv_at hl 0 rfl) ?_
    refine x_strC X hS wd_1267 dJ0_coder_7d493_7 ?_
    refine lv_goto (tgt := 14) X.1.1 X.1.2.1 dJ0_coder_7d493_10 (by decide) ?_
    obtain ⟨rfl, rfl⟩ := o_ret2 h
    exact x_zret rfl X hP hS dJ0_coder_7d493_14
/-- java/lang/String.length()I -/
def f_J0_length_8abf5 (t : Mm) : Option (Int32 × Mm) := o_bd (f_J0_coder_7d493 t) fun (r_3, t_1) => some (((5 : Int32) >>> (r_3 &&& 31)), t_1)
theorem hd_J0_length_8abf5 : x_hd yJ0_length_8abf5 0 := by decide +kernel
set_option maxRecDepth 100000 in
set_option maxHeartbeats 4000000 in
theorem c_J0_length_8abf5 (l : Launch) (g : Ly) (hG : XG shC g) (t : Mm) {r : Int32} {t' : Mm} (h : f_J0_length_8abf5 t = some (r, t')) : MI l yJ0_length_8abf5 cJ0_length_8abf5 1 (some .int) 2 shC g [.ref (g.2.2 (7, 0, 0))] t (XQi shC g r t') := by
  refine x_met hG (by decide +kernel) (Nat.le_of_ble_eq_true rfl) ?_
  intro p e s m below meth c ls X hP hl
  have hS : va_S (XA shC g) s.heap s.heap [] := va_S.rf
  have hl : lv_has ls 1 [(0, .ref (g.2.2 (7, 0, 0)))] := hl
  unfold f_J0_length_8abf5 at h
  generalize ([.ref (g.2.2 (7, 0, 0))] : List Value).toArray = args at X ⊢
  refine lv_aload_n X.1.1 X.1.2.1 dJ0_length_8abf5_0 rfl (lv_at hl 0 rfl) ?_
  refine x_strV X hS wd_1268 dJ0_length_8abf5_1 ?_
  refine x_blen X hS dJ0_length_8abf5_4 ?_
  refine lv_aload_n X.1.1 X.1.2.1 dJ0_length_8abf5_5 rfl (lv_at hl 0 rfl) ?_
  obtain ⟨⟨r_3, t_1⟩, hc_2, h⟩ := o_bd_inv h
  refine x_calli (x_runV (As := []) (rest := [.int 5]) X hP hS (c_J0_coder_7d493 l g X.2.2.2.2.1 t hc_2) ⟨wd_463, wd_460, wd_461, wd_462, wd_65⟩ hd_J0_coder_7d493 ⟨by omega, by decide⟩ (x_recvS X hS) rfl hl.1 rfl (Nat.le_of_ble_eq_true rfl) dJ0_length_8abf5_6) hS (fun H locs hP hS => ?_)
  refine lv_ishr X.1.1 X.1.2.1 dJ0_length_8abf5_9 ?_
  obtain ⟨rfl, rfl⟩ := o_ret2 h
  exact x_iret X hP hS dJ0_length_8abf5_10
/-- java/lang/StringLatin1.canEncode(I)Z -/
def f_J1_canEncode_9a6ad (a0 : Int32) (t : Mm) : Option (Int32 × Mm) := if a0 < 0 then (some (0, t)) else (if 255 < a0 then (some (0, t)) else (some (1, t)))
theorem hd_J1_canEncode_9a6ad : x_hd yJ1_canEncode_9a6ad 1 := by decide +kernel
set_option maxRecDepth 100000 in
set_option maxHeartbeats 4000000 in
theorem c_J1_canEncode_9a6ad (l : Launch) (g : Ly) (hG : XG shC g) (a0 : Int32) (t : Mm) {r : Int32} {t' : Mm} (h : f_J1_canEncode_9a6ad a0 t = some (r, t')) : MI l yJ1_canEncode_9a6ad cJ1_canEncode_9a6ad 1 (some .boolean) 1 shC g [.int a0] t (XQi shC g r t') := by
  refine x_met hG (by decide +kernel) (Nat.le_of_ble_eq_true rfl) ?_
  intro p e s m below meth c ls X hP hl
  have hS : va_S (XA shC g) s.heap s.heap [] := va_S.rf
  have hl : lv_has ls 1 [(0, .int a0)] := hl
  unfold f_J1_canEncode_9a6ad at h
  generalize ([.int a0] : List Value).toArray = args at X ⊢
  refine lv_iload_n X.1.1 X.1.2.1 dJ1_canEncode_9a6ad_0 rfl (lv_at hl 0 rfl) ?_
  refine lv_if_lt (tgt := 15) X.1.1 X.1.2.1 dJ1_canEncode_9a6ad_1 (by decide) (fun c_1 => ?_) (fun c_1 => ?_)
  · have h := o_pos c_1 h
    refine lv_iconst (v := 0) X.1.1 X.1.2.1 dJ1_canEncode_9a6ad_15 (by decide) ?_
    obtain ⟨rfl, rfl⟩ := o_ret2 h
    exact x_zret rfl X hP hS dJ1_canEncode_9a6ad_16
  · have h := o_neg c_1 h
    refine lv_iload_n X.1.1 X.1.2.1 dJ1_canEncode_9a6ad_4 rfl (lv_at hl 0 rfl) ?_
    refine lv_sipush (v := 255) X.1.1 X.1.2.1 dJ1_canEncode_9a6ad_5 (by decide) ?_
    refine lv_icmp_gt (tgt := 15) X.1.1 X.1.2.1 dJ1_canEncode_9a6ad_8 (by decide) (fun c_2 => ?_) (fun c_2 => ?_)
    · have h := o_pos c_2 h
      refine lv_iconst (v := 0) X.1.1 X.1.2.1 dJ1_canEncode_9a6ad_15 (by decide) ?_
      obtain ⟨rfl, rfl⟩ := o_ret2 h
      exact x_zret rfl X hP hS dJ1_canEncode_9a6ad_16
    · have h := o_neg c_2 h
      refine lv_iconst (v := 1) X.1.1 X.1.2.1 dJ1_canEncode_9a6ad_11 (by decide) ?_
      refine lv_goto (tgt := 16) X.1.1 X.1.2.1 dJ1_canEncode_9a6ad_12 (by decide) ?_
      obtain ⟨rfl, rfl⟩ := o_ret2 h
      exact x_zret rfl X hP hS dJ1_canEncode_9a6ad_16
def b_J1_indexOfChar_4cfef_7 (N : Nat) (k7 : Int32 × Int32 × Int32 × Mm → Option (Int32 × Mm)) (x3 : Int32) (x4 : Int32) (x5 : Int32) (t : Mm) : Option (Int32 × Mm) := if x3 ≤ x5 then (some ((-1), t)) else (if o_inb x5 5 = true then (if (psB x5.toNatClampNeg) = x4 then (some (x5, t)) else (k7 (x3, x4, (x5 + 1), t))) else none)
def f_J1_indexOfChar_4cfef_7 (N : Nat) (x3 : Int32) (x4 : Int32) (x5 : Int32) (t : Mm) : Option (Int32 × Mm) := o_lp (fun k x => b_J1_indexOfChar_4cfef_7 N k x.1 x.2.1 x.2.2.1 x.2.2.2) N (x3, x4, x5, t)
/-- java/lang/StringLatin1.indexOfChar([BIII)I -/
def f_J1_indexOfChar_4cfef (N : Nat) (a1 : Int32) (a2 : Int32) (a3 : Int32) (t : Mm) : Option (Int32 × Mm) := f_J1_indexOfChar_4cfef_7 N a3 (a1.toInt8.toInt32) a2 t
theorem hd_J1_indexOfChar_4cfef : x_hd yJ1_indexOfChar_4cfef 4 := by decide +kernel
set_option maxRecDepth 100000 in
set_option maxHeartbeats 4000000 in
theorem wb_J1_indexOfChar_4cfef_7 {l : Launch} {g : Ly} {p : Program} {e : Env} {s : State} {m : MethodId} {args : Array Value} {below : List Frame} {meth : Method} {c : Code} (N : Nat) (X : XC p m meth c cJ1_indexOfChar_4cfef 6 s args (.code yJ1_indexOfChar_4cfef cJ1_indexOfChar_4cfef 6 (some .int)) RJ1 (some .int) shC g) {r : Int32} {t' : Mm} {k7 : Int32 × Int32 × Int32 × Mm → Option (Int32 × Mm)} (hk7 : ∀ x : Int32 × Int32 × Int32 × Mm, k7 x = some (r, t') → ∀ (H : Heap) (locs : List Loc) (ls : Array Slot), XP shC g x.2.2.2 H → va_S (XA shC g) s.heap H locs → lv_has ls 6 [(0, .ref (g.2.2 (7, 0, 1))), (3, .int x.1), (4, .int x.2.1), (5, .int x.2.2.1)] → W p l e (rmv 1) s m args below meth c H locs 0 0 (MQ below (XQi shC g r t') args s 0 0 (XA shC g)) (F0 m 7 ls [])) (x3 : Int32) (x4 : Int32) (x5 : Int32) (t : Mm) (H : Heap) (locs : List Loc) (ls : Array Slot) (hP : XP shC g t H) (hS : va_S (XA shC g) s.heap H locs) (hl : lv_has ls 6 [(0, .ref (g.2.2 (7, 0, 1))), (3, .int x3), (4, .int x4), (5, .int x5)]) (h : b_J1_indexOfChar_4cfef_7 N k7 x3 x4 x5 t = some (r, t')) : W p l e (rmv 1) s m args below meth c H locs 0 0 (MQ below (XQi shC g r t') args s 0 0 (XA shC g)) (F0 m 7 ls []) := by
  unfold b_J1_indexOfChar_4cfef_7 at h
  refine lv_iload X.1.1 X.1.2.1 dJ1_indexOfChar_4cfef_7 (lv_at hl 3 rfl) ?_
  refine lv_iload_n X.1.1 X.1.2.1 dJ1_indexOfChar_4cfef_9 rfl (lv_at hl 1 rfl) ?_
  refine lv_icmp_ge (tgt := 31) X.1.1 X.1.2.1 dJ1_indexOfChar_4cfef_10 (by decide) (fun c_1 => ?_) (fun c_1 => ?_)
  · have h := o_pos c_1 h
    refine lv_iconst (v := (-1)) X.1.1 X.1.2.1 dJ1_indexOfChar_4cfef_31 (by decide) ?_
    obtain ⟨rfl, rfl⟩ := o_ret2 h
    exact x_iret X hP hS dJ1_indexOfChar_4cfef_32
  · have h := o_neg c_1 h
    refine lv_aload_n X.1.1 X.1.2.1 dJ1_indexOfChar_4cfef_13 rfl (lv_at hl 0 rfl) ?_
    refine lv_iload X.1.1 X.1.2.1 dJ1_indexOfChar_4cfef_14 (lv_at hl 3 rfl) ?_
    obtain ⟨g_2, h⟩ := o_gd_inv h
    refine x_bald X hS g_2 dJ1_indexOfChar_4cfef_16 ?_
    refine lv_iload X.1.1 X.1.2.1 dJ1_indexOfChar_4cfef_17 (lv_at hl 2 rfl) ?_
    refine lv_icmp_ne (tgt := 25) X.1.1 X.1.2.1 dJ1_indexOfChar_4cfef_19 (by decide) (fun c_3 => ?_) (fun c_3 => ?_)
    · have h := o_neg c_3 h
      refine lv_iinc (v := (x5 + 1)) (lv' := [(5, .int (x5 + 1)), (0, .ref (g.2.2 (7, 0, 1))), (3, .int x3), (4, .int x4)]) X.1.1 X.1.2.1 dJ1_indexOfChar_4cfef_25 hl (k := 3) rfl rfl (by decide) rfl (fun ls hl => ?_)
      refine lv_goto (tgt := 7) X.1.1 X.1.2.1 dJ1_indexOfChar_4cfef_28 (by decide) ?_
      exact hk7 (x3, x4, (x5 + 1), t) h _ _ _ hP hS (lv_sub hl [1, 2, 3, 0] rfl)
    · have h := o_pos c_3 h
      refine lv_iload X.1.1 X.1.2.1 dJ1_indexOfChar_4cfef_22 (lv_at hl 3 rfl) ?_
      obtain ⟨rfl, rfl⟩ := o_ret2 h
      exact x_iret X hP hS dJ1_indexOfChar_4cfef_24
set_option maxRecDepth 100000 in
set_option maxHeartbeats 4000000 in
theorem w_J1_indexOfChar_4cfef_7 {l : Launch} {g : Ly} {p : Program} {e : Env} {s : State} {m : MethodId} {args : Array Value} {below : List Frame} {meth : Method} {c : Code} (N : Nat) (X : XC p m meth c cJ1_indexOfChar_4cfef 6 s args (.code yJ1_indexOfChar_4cfef cJ1_indexOfChar_4cfef 6 (some .int)) RJ1 (some .int) shC g) {r : Int32} {t' : Mm} (x3 : Int32) (x4 : Int32) (x5 : Int32) (t : Mm) (H : Heap) (locs : List Loc) (ls : Array Slot) (hP : XP shC g t H) (hS : va_S (XA shC g) s.heap H locs) (hl : lv_has ls 6 [(0, .ref (g.2.2 (7, 0, 1))), (3, .int x3), (4, .int x4), (5, .int x5)]) (h : f_J1_indexOfChar_4cfef_7 N x3 x4 x5 t = some (r, t')) : W p l e (rmv 1) s m args below meth c H locs 0 0 (MQ below (XQi shC g r t') args s 0 0 (XA shC g)) (F0 m 7 ls []) :=
  o_lp_ind (P := fun x : Int32 × Int32 × Int32 × Mm => ∀ (H : Heap) (locs : List Loc) (ls : Array Slot), XP shC g x.2.2.2 H → va_S (XA shC g) s.heap H locs → lv_has ls 6 [(0, .ref (g.2.2 (7, 0, 1))), (3, .int x.1), (4, .int x.2.1), (5, .int x.2.2.1)] → W p l e (rmv 1) s m args below meth c H locs 0 0 (MQ below (XQi shC g r t') args s 0 0 (XA shC g)) (F0 m 7 ls [])) (fun k hk x h H locs ls hP hS hl => wb_J1_indexOfChar_4cfef_7 N X hk x.1 x.2.1 x.2.2.1 x.2.2.2 H locs ls hP hS hl h) N (x3, x4, x5, t) h H locs ls hP hS hl
set_option maxRecDepth 100000 in
set_option maxHeartbeats 4000000 in
theorem c_J1_indexOfChar_4cfef (l : Launch) (g : Ly) (N : Nat) (hG : XG shC g) (a1 : Int32) (a2 : Int32) (a3 : Int32) (t : Mm) {r : Int32} {t' : Mm} (h : f_J1_indexOfChar_4cfef N a1 a2 a3 t = some (r, t')) : MI l yJ1_indexOfChar_4cfef cJ1_indexOfChar_4cfef 6 (some .int) 1 shC g [.ref (g.2.2 (7, 0, 1)), .int a1, .int a2, .int a3] t (XQi shC g r t') := by
  refine x_met hG (by decide +kernel) (Nat.le_of_ble_eq_true rfl) ?_
  intro p e s m below meth c ls X hP hl
  have hS : va_S (XA shC g) s.heap s.heap [] := va_S.rf
  have hl : lv_has ls 6 [(0, .ref (g.2.2 (7, 0, 1))), (1, .int a1), (2, .int a2), (3, .int a3)] := hl
  unfold f_J1_indexOfChar_4cfef at h
  generalize ([.ref (g.2.2 (7, 0, 1)), .int a1, .int a2, .int a3] : List Value).toArray = args at X ⊢
  refine lv_iload_n X.1.1 X.1.2.1 dJ1_indexOfChar_4cfef_0 rfl (lv_at hl 1 rfl) ?_
  refine lv_i2b (v := (a1.toInt8.toInt32)) X.1.1 X.1.2.1 dJ1_indexOfChar_4cfef_1 rfl ?_
  refine lv_istore (lv' := [(4, .int (a1.toInt8.toInt32)), (0, .ref (g.2.2 (7, 0, 1))), (1, .int a1), (2, .int a2), (3, .int a3)]) X.1.1 X.1.2.1 dJ1_indexOfChar_4cfef_2 hl (by decide) rfl (fun ls hl => ?_)
  refine lv_iload_n X.1.1 X.1.2.1 dJ1_indexOfChar_4cfef_4 rfl (lv_at hl 3 rfl) ?_
  refine lv_istore (lv' := [(5, .int a2), (4, .int (a1.toInt8.toInt32)), (0, .ref (g.2.2 (7, 0, 1))), (1, .int a1), (2, .int a2), (3, .int a3)]) X.1.1 X.1.2.1 dJ1_indexOfChar_4cfef_5 hl (by decide) rfl (fun ls hl => ?_)
  exact w_J1_indexOfChar_4cfef_7 N X a3 (a1.toInt8.toInt32) a2 t _ _ _ hP hS (lv_sub hl [2, 5, 1, 0] rfl) h
/-- java/lang/StringLatin1.indexOf([BIII)I -/
def f_J1_indexOf_4cfef (N : Nat) (a1 : Int32) (a2 : Int32) (a3 : Int32) (t : Mm) : Option (Int32 × Mm) := o_bd (f_J1_canEncode_9a6ad a1 t) fun (r_3, t_1) => if r_3 = 0 then (some ((-1), t_1)) else (o_nm ((if a2 < 0 then 0 else a2)) fun x_6 => o_nm ((if 5 < a3 then 5 else a3)) fun x_8 => if x_6 < x_8 then (o_bd (f_J1_indexOfChar_4cfef N a1 x_6 x_8 t_1) fun (r_13, t_11) => some (r_13, t_11)) else (some ((-1), t_1)))
theorem hd_J1_indexOf_4cfef : x_hd yJ1_indexOf_4cfef 4 := by decide +kernel
set_option maxRecDepth 100000 in
set_option maxHeartbeats 4000000 in
theorem c_J1_indexOf_4cfef (l : Launch) (g : Ly) (N : Nat) (hG : XG shC g) (a1 : Int32) (a2 : Int32) (a3 : Int32) (t : Mm) {r : Int32} {t' : Mm} (h : f_J1_indexOf_4cfef N a1 a2 a3 t = some (r, t')) : MI l yJ1_indexOf_4cfef cJ1_indexOf_4cfef 4 (some .int) 2 shC g [.ref (g.2.2 (7, 0, 1)), .int a1, .int a2, .int a3] t (XQi shC g r t') := by
  refine x_met hG (by decide +kernel) (Nat.le_of_ble_eq_true rfl) ?_
  intro p e s m below meth c ls X hP hl
  have hS : va_S (XA shC g) s.heap s.heap [] := va_S.rf
  have hl : lv_has ls 4 [(0, .ref (g.2.2 (7, 0, 1))), (1, .int a1), (2, .int a2), (3, .int a3)] := hl
  unfold f_J1_indexOf_4cfef at h
  generalize ([.ref (g.2.2 (7, 0, 1)), .int a1, .int a2, .int a3] : List Value).toArray = args at X ⊢
  refine lv_iload_n X.1.1 X.1.2.1 dJ1_indexOf_4cfef_0 rfl (lv_at hl 1 rfl) ?_
  obtain ⟨⟨r_3, t_1⟩, hc_2, h⟩ := o_bd_inv h
  refine x_calli (x_runS (As := [.int a1]) (rest := []) X hP hS (c_J1_canEncode_9a6ad l g X.2.2.2.2.1 a1 t hc_2) ⟨wd_469, wd_467, wd_468, wd_66⟩ hd_J1_canEncode_9a6ad ⟨by omega, by decide⟩ rfl hl.1 rfl (Nat.le_of_ble_eq_true rfl) dJ1_indexOf_4cfef_1) hS (fun H locs hP hS => ?_)
  refine lv_if_ne (tgt := 9) X.1.1 X.1.2.1 dJ1_indexOf_4cfef_4 (by decide) (fun c_5 => ?_) (fun c_5 => ?_)
  · have h := o_neg c_5 h
    refine lv_iload_n X.1.1 X.1.2.1 dJ1_indexOf_4cfef_9 rfl (lv_at hl 2 rfl) ?_
    refine lv_iconst (v := 0) X.1.1 X.1.2.1 dJ1_indexOf_4cfef_10 (by decide) ?_
    refine x_max X ⟨wd_470, wd_384, wd_64, wd_385⟩ hl.1 (by omega) (Nat.le_of_ble_eq_true rfl) dJ1_indexOf_4cfef_11 ?_
    refine lv_topi (fun x_6 e_7 => ?_)
    have h := o_nm_to e_7 h
    refine lv_istore_n (lv' := [(2, .int x_6), (0, .ref (g.2.2 (7, 0, 1))), (1, .int a1), (3, .int a3)]) X.1.1 X.1.2.1 dJ1_indexOf_4cfef_14 rfl hl (by decide) rfl (fun ls hl => ?_)
    refine lv_iload_n X.1.1 X.1.2.1 dJ1_indexOf_4cfef_15 rfl (lv_at hl 3 rfl) ?_
    refine lv_aload_n X.1.1 X.1.2.1 dJ1_indexOf_4cfef_16 rfl (lv_at hl 1 rfl) ?_
    refine x_blen X hS dJ1_indexOf_4cfef_17 ?_
    refine x_min X ⟨wd_471, wd_381, wd_64, wd_382⟩ hl.1 (by omega) (Nat.le_of_ble_eq_true rfl) dJ1_indexOf_4cfef_18 ?_
    refine lv_topi (fun x_8 e_9 => ?_)
    have h := o_nm_to e_9 h
    refine lv_istore_n (lv' := [(3, .int x_8), (2, .int x_6), (0, .ref (g.2.2 (7, 0, 1))), (1, .int a1)]) X.1.1 X.1.2.1 dJ1_indexOf_4cfef_21 rfl hl (by decide) rfl (fun ls hl => ?_)
    refine lv_iload_n X.1.1 X.1.2.1 dJ1_indexOf_4cfef_22 rfl (lv_at hl 1 rfl) ?_
    refine lv_iload_n X.1.1 X.1.2.1 dJ1_indexOf_4cfef_23 rfl (lv_at hl 0 rfl) ?_
    refine lv_icmp_lt (tgt := 29) X.1.1 X.1.2.1 dJ1_indexOf_4cfef_24 (by decide) (fun c_10 => ?_) (fun c_10 => ?_)
    · have h := o_pos c_10 h
      refine lv_aload_n X.1.1 X.1.2.1 dJ1_indexOf_4cfef_29 rfl (lv_at hl 2 rfl) ?_
      refine lv_iload_n X.1.1 X.1.2.1 dJ1_indexOf_4cfef_30 rfl (lv_at hl 3 rfl) ?_
      refine lv_iload_n X.1.1 X.1.2.1 dJ1_indexOf_4cfef_31 rfl (lv_at hl 1 rfl) ?_
      refine lv_iload_n X.1.1 X.1.2.1 dJ1_indexOf_4cfef_32 rfl (lv_at hl 0 rfl) ?_
      obtain ⟨⟨r_13, t_11⟩, hc_12, h⟩ := o_bd_inv h
      refine x_calli (x_runS (As := [.ref (g.2.2 (7, 0, 1)), .int a1, .int x_6, .int x_8]) (rest := []) X hP hS (c_J1_indexOfChar_4cfef l g N X.2.2.2.2.1 a1 x_6 x_8 t_1 hc_12) ⟨wd_474, wd_472, wd_473, wd_66⟩ hd_J1_indexOfChar_4cfef ⟨by omega, by decide⟩ rfl hl.1 rfl (Nat.le_of_ble_eq_true rfl) dJ1_indexOf_4cfef_33) hS (fun H locs hP hS => ?_)
      obtain ⟨rfl, rfl⟩ := o_ret2 h
      exact x_iret X hP hS dJ1_indexOf_4cfef_36
    · have h := o_neg c_10 h
      refine lv_iconst (v := (-1)) X.1.1 X.1.2.1 dJ1_indexOf_4cfef_27 (by decide) ?_
      obtain ⟨rfl, rfl⟩ := o_ret2 h
      exact x_iret X hP hS dJ1_indexOf_4cfef_28
  · have h := o_pos c_5 h
    refine lv_iconst (v := (-1)) X.1.1 X.1.2.1 dJ1_indexOf_4cfef_7 (by decide) ?_
    obtain ⟨rfl, rfl⟩ := o_ret2 h
    exact x_iret X hP hS dJ1_indexOf_4cfef_8
/-- java/lang/String.indexOf(II)I -/
def f_J0_indexOf_7cf53 (N : Nat) (a0 : Int32) (a1 : Int32) (t : Mm) : Option (Int32 × Mm) := o_bd (f_J0_isLatin1_aae02 t) fun (r_3, t_1) => if r_3 = 0 then (o_bd (f_J0_length_8abf5 t_1) fun (r_8, t_6) => none) else (o_bd (f_J0_length_8abf5 t_1) fun (r_12, t_10) => o_bd (f_J1_indexOf_4cfef N a0 a1 r_12 t_10) fun (r_16, t_14) => some (r_16, t_14))
theorem hd_J0_indexOf_7cf53 : x_hd yJ0_indexOf_7cf53 2 := by decide +kernel
set_option maxRecDepth 100000 in
set_option maxHeartbeats 4000000 in
theorem c_J0_indexOf_7cf53 (l : Launch) (g : Ly) (N : Nat) (hG : XG shC g) (a0 : Int32) (a1 : Int32) (t : Mm) {r : Int32} {t' : Mm} (h : f_J0_indexOf_7cf53 N a0 a1 t = some (r, t')) : MI l yJ0_indexOf_7cf53 cJ0_indexOf_7cf53 3 (some .int) 3 shC g [.ref (g.2.2 (7, 0, 0)), .int a0, .int a1] t (XQi shC g r t') := by
  refine x_met hG (by decide +kernel) (Nat.le_of_ble_eq_true rfl) ?_
  intro p e s m below meth c ls X hP hl
  have hS : va_S (XA shC g) s.heap s.heap [] := va_S.rf
  have hl : lv_has ls 3 [(0, .ref (g.2.2 (7, 0, 0))), (1, .int a0), (2, .int a1)] := hl
  unfold f_J0_indexOf_7cf53 at h
  generalize ([.ref (g.2.2 (7, 0, 0)), .int a0, .int a1] : List Value).toArray = args at X ⊢
  refine lv_aload_n X.1.1 X.1.2.1 dJ0_indexOf_7cf53_0 rfl (lv_at hl 0 rfl) ?_
  obtain ⟨⟨r_3, t_1⟩, hc_2, h⟩ := o_bd_inv h
  refine x_calli (x_runV (As := []) (rest := []) X hP hS (c_J0_isLatin1_aae02 l g X.2.2.2.2.1 t hc_2) ⟨wd_453, wd_450, wd_451, wd_452, wd_65⟩ hd_J0_isLatin1_aae02 ⟨by omega, by decide⟩ (x_recvS X hS) rfl hl.1 rfl (Nat.le_of_ble_eq_true rfl) dJ0_indexOf_7cf53_1) hS (fun H locs hP hS => ?_)
  refine lv_if_eq (tgt := 23) X.1.1 X.1.2.1 dJ0_indexOf_7cf53_4 (by decide) (fun c_5 => ?_) (fun c_5 => ?_)
  · have h := o_pos c_5 h
    refine lv_aload_n X.1.1 X.1.2.1 dJ0_indexOf_7cf53_23 rfl (lv_at hl 0 rfl) ?_
    refine x_strV X hS wd_1268 dJ0_indexOf_7cf53_24 ?_
    refine lv_iload_n X.1.1 X.1.2.1 dJ0_indexOf_7cf53_27 rfl (lv_at hl 1 rfl) ?_
    refine lv_iload_n X.1.1 X.1.2.1 dJ0_indexOf_7cf53_28 rfl (lv_at hl 2 rfl) ?_
    refine lv_aload_n X.1.1 X.1.2.1 dJ0_indexOf_7cf53_29 rfl (lv_at hl 0 rfl) ?_
    obtain ⟨⟨r_8, t_6⟩, hc_7, h⟩ := o_bd_inv h
    refine x_calli (x_runV (As := []) (rest := [.int a1, .int a0, .ref (g.2.2 (7, 0, 1))]) X hP hS (c_J0_length_8abf5 l g X.2.2.2.2.1 t_1 hc_7) ⟨wd_459, wd_456, wd_457, wd_458, wd_65⟩ hd_J0_length_8abf5 ⟨by omega, by decide⟩ (x_recvS X hS) rfl hl.1 rfl (Nat.le_of_ble_eq_true rfl) dJ0_indexOf_7cf53_30) hS (fun H locs hP hS => ?_)
    cases h
  · have h := o_neg c_5 h
    refine lv_aload_n X.1.1 X.1.2.1 dJ0_indexOf_7cf53_7 rfl (lv_at hl 0 rfl) ?_
    refine x_strV X hS wd_1268 dJ0_indexOf_7cf53_8 ?_
    refine lv_iload_n X.1.1 X.1.2.1 dJ0_indexOf_7cf53_11 rfl (lv_at hl 1 rfl) ?_
    refine lv_iload_n X.1.1 X.1.2.1 dJ0_indexOf_7cf53_12 rfl (lv_at hl 2 rfl) ?_
    refine lv_aload_n X.1.1 X.1.2.1 dJ0_indexOf_7cf53_13 rfl (lv_at hl 0 rfl) ?_
    obtain ⟨⟨r_12, t_10⟩, hc_11, h⟩ := o_bd_inv h
    refine x_calli (x_runV (As := []) (rest := [.int a1, .int a0, .ref (g.2.2 (7, 0, 1))]) X hP hS (c_J0_length_8abf5 l g X.2.2.2.2.1 t_1 hc_11) ⟨wd_459, wd_456, wd_457, wd_458, wd_65⟩ hd_J0_length_8abf5 ⟨by omega, by decide⟩ (x_recvS X hS) rfl hl.1 rfl (Nat.le_of_ble_eq_true rfl) dJ0_indexOf_7cf53_14) hS (fun H locs hP hS => ?_)
    obtain ⟨⟨r_16, t_14⟩, hc_15, h⟩ := o_bd_inv h
    refine x_calli (x_runS (As := [.ref (g.2.2 (7, 0, 1)), .int a0, .int a1, .int r_12]) (rest := []) X hP hS (c_J1_indexOf_4cfef l g N X.2.2.2.2.1 a0 a1 r_12 t_10 hc_15) ⟨wd_466, wd_464, wd_465, wd_66⟩ hd_J1_indexOf_4cfef ⟨by omega, by decide⟩ rfl hl.1 rfl (Nat.le_of_ble_eq_true rfl) dJ0_indexOf_7cf53_17) hS (fun H locs hP hS => ?_)
    refine lv_goto (tgt := 36) X.1.1 X.1.2.1 dJ0_indexOf_7cf53_20 (by decide) ?_
    obtain ⟨rfl, rfl⟩ := o_ret2 h
    exact x_iret X hP hS dJ0_indexOf_7cf53_36
/-- java/lang/String.indexOf(I)I -/
def f_J0_indexOf_0f7a4 (N : Nat) (a0 : Int32) (t : Mm) : Option (Int32 × Mm) := o_bd (f_J0_indexOf_7cf53 N a0 0 t) fun (r_3, t_1) => some (r_3, t_1)
theorem hd_J0_indexOf_0f7a4 : x_hd yJ0_indexOf_0f7a4 1 := by decide +kernel
set_option maxRecDepth 100000 in
set_option maxHeartbeats 4000000 in
theorem c_J0_indexOf_0f7a4 (l : Launch) (g : Ly) (N : Nat) (hG : XG shC g) (a0 : Int32) (t : Mm) {r : Int32} {t' : Mm} (h : f_J0_indexOf_0f7a4 N a0 t = some (r, t')) : MI l yJ0_indexOf_0f7a4 cJ0_indexOf_0f7a4 2 (some .int) 4 shC g [.ref (g.2.2 (7, 0, 0)), .int a0] t (XQi shC g r t') := by
  refine x_met hG (by decide +kernel) (Nat.le_of_ble_eq_true rfl) ?_
  intro p e s m below meth c ls X hP hl
  have hS : va_S (XA shC g) s.heap s.heap [] := va_S.rf
  have hl : lv_has ls 2 [(0, .ref (g.2.2 (7, 0, 0))), (1, .int a0)] := hl
  unfold f_J0_indexOf_0f7a4 at h
  generalize ([.ref (g.2.2 (7, 0, 0)), .int a0] : List Value).toArray = args at X ⊢
  refine lv_aload_n X.1.1 X.1.2.1 dJ0_indexOf_0f7a4_0 rfl (lv_at hl 0 rfl) ?_
  refine lv_iload_n X.1.1 X.1.2.1 dJ0_indexOf_0f7a4_1 rfl (lv_at hl 1 rfl) ?_
  refine lv_iconst (v := 0) X.1.1 X.1.2.1 dJ0_indexOf_0f7a4_2 (by decide) ?_
  obtain ⟨⟨r_3, t_1⟩, hc_2, h⟩ := o_bd_inv h
  refine x_calli (x_runV (As := [.int a0, .int 0]) (rest := []) X hP hS (c_J0_indexOf_7cf53 l g N X.2.2.2.2.1 a0 0 t hc_2) ⟨wd_449, wd_446, wd_447, wd_448, wd_65⟩ hd_J0_indexOf_7cf53 ⟨by omega, by decide⟩ (x_recvS X hS) rfl hl.1 rfl (Nat.le_of_ble_eq_true rfl) dJ0_indexOf_0f7a4_3) hS (fun H locs hP hS => ?_)
  obtain ⟨rfl, rfl⟩ := o_ret2 h
  exact x_iret X hP hS dJ0_indexOf_0f7a4_6
