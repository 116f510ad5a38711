theorem la_7 (i : Nat) : nI i + Int32.ofInt 7 = nI (i + 7) := by
  rw [show Int32.ofInt 7 = nI 7 from rfl, nI_add]
set_option maxRecDepth 100000 in
set_option maxHeartbeats 8000000 in
theorem law_loop (N : Nat) {Rel : Mm → Mm → Prop} (hops : Ops N Rel) {p : Program} {l : Launch} {e : Env} {s : State} {m : MethodId} {below : List Frame} {meth : Method} {c : Code} {D : va_G} {cA : Nat → ClassId} {a0 a1 b L : Nat} {xs : Nat → Int32} (hL : L ≤ 3584) (C0 : lw_At p s m meth c b L xs) (hK : XK (D, cA, adL s.heap.size a0 a1) s) (hZC : XZ shC (D, cA, adL s.heap.size a0 a1) s s.heap) (hZR : XZ shR (D, cA, adL s.heap.size a0 a1) s s.heap) : ∀ (n i : Nat) (u v : Mm) (H : Heap) (locs : List Loc) (ls : Array Slot), i ≤ L + 6 → L + 7 ≤ i + n → Rel u v → XP shC (D, cA, adL s.heap.size a0 a1) u H → XP shR (D, cA, adL s.heap.size a0 a1) v H → va_S (CA s.heap.size) s.heap H locs → lv_has ls 4 [(0, .ref b), (1, .ref (adL s.heap.size a0 a1 (3, 0, 0))), (2, .ref (adL s.heap.size a0 a1 (9, 0, 0))), (3, .int (nI i))] → W p l e room_1 s m #[Value.ref b] below meth c H locs 207 2270 (lw_Z below #[Value.ref b] s) (F0 m 18 ls []) := by
  obtain ⟨hx, hb, hr, hml, hown, hts, hX, hbl, hlocks, hgv⟩ := id C0
  have hbA : ¬ CA s.heap.size b := Nat.not_le.mpr hbl
  obtain ⟨o_question, o_crosser, o_of, o_at, o_takes, o_type, o_ford, o_count, o_hours, o_teach, o_later, o_again, o_put, o_drift, o_undo, o_seed, o_then, o_crosses, o_last, o_most, o_best, o_teaches, o_spare, o_before, o_cramp, o_image, o_restore, o_seen, o_film, o_sheet, o_drop, o_item, o_copy⟩ := hops
  intro n
  induction n with
  | zero =>
    intro i u v H locs ls h1 h2
    exact absurd h2 (by omega)
  | succ n ih =>
    intro i u v H locs ls hi1 hi2 hrel hPC hPR hS hl
    refine lv_iload_n hx hb dL_law_18 rfl (lv_at hl 3 rfl) ?_
    refine lv_aload_n hx hb dL_law_19 rfl (lv_at hl 0 rfl) ?_
    refine va_slen (A := CA s.heap.size) hx hb hX hbl hbA hS dL_law_20 ?_
    refine lv_bipush (v := 7) hx hb dL_law_21 (by decide) ?_
    refine lv_isub hx hb dL_law_23 ?_
    refine lv_icmp_gt (tgt := 1217) hx hb dL_law_24 (by decide) (fun c1 => ?_) (fun c1 => ?_)
    · refine lv_iconst (v := 1) hx hb dL_law_1217 (by decide) ?_
      refine va_forget (fun q hq => hS.2.2 q hq) ?_
      refine W.widen (k := 600000) (n := 7302250) (by decide) (by decide) ?_
      exact lw_ret hx hb hr hlocks dL_law_1218
    · have hi : i + 7 ≤ L := by
        rcases Nat.lt_or_ge L (i + 7) with q | q
        · exact absurd ((la_end hL hi1).mpr q) c1
        · exact q
      have hnext : ∀ (u v : Mm) (H : Heap) (locs : List Loc) (ls : Array Slot), Rel u v → XP shC (D, cA, adL s.heap.size a0 a1) u H → XP shR (D, cA, adL s.heap.size a0 a1) v H → va_S (CA s.heap.size) s.heap H locs → lv_has ls 4 [(0, .ref b), (1, .ref (adL s.heap.size a0 a1 (3, 0, 0))), (2, .ref (adL s.heap.size a0 a1 (9, 0, 0))), (3, .int (nI i))] → W p l e room_1 s m #[Value.ref b] below meth c H locs 207 2270 (lw_Z below #[Value.ref b] s) (F0 m 1211 ls []) := by
        intro u v H locs ls hrel hPC hPR hS hl
        refine lv_iinc (v := nI (i + 7)) (lv' := [(3, .int (nI (i + 7))), (0, .ref b), (1, .ref (adL s.heap.size a0 a1 (3, 0, 0))), (2, .ref (adL s.heap.size a0 a1 (9, 0, 0)))]) hx hb dL_law_1211 hl (k := 3) rfl (la_7 i) (by decide) rfl (fun ls hl => ?_)
        refine lv_goto (tgt := 18) hx hb dL_law_1214 (by decide) ?_
        exact ih (i + 7) u v H locs ls (by omega) (by omega) hrel hPC hPR hS (lv_sub hl [1, 2, 3, 0] rfl)
      refine lv_aload_n hx hb dL_law_27 rfl (lv_at hl 0 rfl) ?_
      refine lv_iload_n hx hb dL_law_28 rfl (lv_at hl 3 rfl) ?_
      refine va_sld (A := CA s.heap.size) hx hb hX hbl hbA hS (la_in0 hi hL) dL_law_29 ?_
      refine lv_bipush (v := 63) hx hb dL_law_30 (by decide) ?_
      refine lv_iand hx hb dL_law_32 ?_
      refine lv_topi (fun w _ => ?_)
      by_cases c_0 : w = 0
      · refine lv_tableIn (off := 147) (tgt := 180) hx hb dL_law_33 (by rw [c_0]; decide) (by rw [c_0]; decide) (by rw [c_0]; rfl) (by decide) ?_
        exact law_question N o_question hL C0 hK hZC hZR hi hnext hrel hPC hPR hS hl
      by_cases c_1 : w = 1
      · refine lv_tableIn (off := 180) (tgt := 213) hx hb dL_law_33 (by rw [c_1]; decide) (by rw [c_1]; decide) (by rw [c_1]; rfl) (by decide) ?_
        exact law_crosser N o_crosser hL C0 hK hZC hZR hi hnext hrel hPC hPR hS hl
      by_cases c_2 : w = 2
      · refine lv_tableIn (off := 223) (tgt := 256) hx hb dL_law_33 (by rw [c_2]; decide) (by rw [c_2]; decide) (by rw [c_2]; rfl) (by decide) ?_
        exact law_of N o_of hL C0 hK hZC hZR hi hnext hrel hPC hPR hS hl
      by_cases c_3 : w = 3
      · refine lv_tableIn (off := 256) (tgt := 289) hx hb dL_law_33 (by rw [c_3]; decide) (by rw [c_3]; decide) (by rw [c_3]; rfl) (by decide) ?_
        exact law_at N o_at hL C0 hK hZC hZR hi hnext hrel hPC hPR hS hl
      by_cases c_4 : w = 4
      · refine lv_tableIn (off := 289) (tgt := 322) hx hb dL_law_33 (by rw [c_4]; decide) (by rw [c_4]; decide) (by rw [c_4]; rfl) (by decide) ?_
        exact law_takes N o_takes hL C0 hK hZC hZR hi hnext hrel hPC hPR hS hl
      by_cases c_5 : w = 5
      · refine lv_tableIn (off := 322) (tgt := 355) hx hb dL_law_33 (by rw [c_5]; decide) (by rw [c_5]; decide) (by rw [c_5]; rfl) (by decide) ?_
        exact law_type N o_type hL C0 hK hZC hZR hi hnext hrel hPC hPR hS hl
      by_cases c_6 : w = 6
      · refine lv_tableIn (off := 345) (tgt := 378) hx hb dL_law_33 (by rw [c_6]; decide) (by rw [c_6]; decide) (by rw [c_6]; rfl) (by decide) ?_
        exact law_ford N o_ford hL C0 hK hZC hZR hi hnext hrel hPC hPR hS hl
      by_cases c_7 : w = 7
      · refine lv_tableIn (off := 358) (tgt := 391) hx hb dL_law_33 (by rw [c_7]; decide) (by rw [c_7]; decide) (by rw [c_7]; rfl) (by decide) ?_
        exact law_count N o_count hL C0 hK hZC hZR hi hnext hrel hPC hPR hS hl
      by_cases c_8 : w = 8
      · refine lv_tableIn (off := 381) (tgt := 414) hx hb dL_law_33 (by rw [c_8]; decide) (by rw [c_8]; decide) (by rw [c_8]; rfl) (by decide) ?_
        exact law_hours N o_hours hL C0 hK hZC hZR hi hnext hrel hPC hPR hS hl
      by_cases c_9 : w = 9
      · refine lv_tableIn (off := 404) (tgt := 437) hx hb dL_law_33 (by rw [c_9]; decide) (by rw [c_9]; decide) (by rw [c_9]; rfl) (by decide) ?_
        exact law_teach N o_teach hL C0 hK hZC hZR hi hnext hrel hPC hPR hS hl
      by_cases c_10 : w = 10
      · refine lv_tableIn (off := 437) (tgt := 470) hx hb dL_law_33 (by rw [c_10]; decide) (by rw [c_10]; decide) (by rw [c_10]; rfl) (by decide) ?_
        exact law_later N o_later hL C0 hK hZC hZR hi hnext hrel hPC hPR hS hl
      by_cases c_11 : w = 11
      · refine lv_tableIn (off := 470) (tgt := 503) hx hb dL_law_33 (by rw [c_11]; decide) (by rw [c_11]; decide) (by rw [c_11]; rfl) (by decide) ?_
        exact law_again N o_again hL C0 hK hZC hZR hi hnext hrel hPC hPR hS hl
      by_cases c_12 : w = 12
      · refine lv_tableIn (off := 493) (tgt := 526) hx hb dL_law_33 (by rw [c_12]; decide) (by rw [c_12]; decide) (by rw [c_12]; rfl) (by decide) ?_
        exact law_put N o_put hL C0 hK hZC hZR hi hnext hrel hPC hPR hS hl
      by_cases c_13 : w = 13
      · refine lv_tableIn (off := 526) (tgt := 559) hx hb dL_law_33 (by rw [c_13]; decide) (by rw [c_13]; decide) (by rw [c_13]; rfl) (by decide) ?_
        exact law_drift N o_drift hL C0 hK hZC hZR hi hnext hrel hPC hPR hS hl
      by_cases c_14 : w = 14
      · refine lv_tableIn (off := 549) (tgt := 582) hx hb dL_law_33 (by rw [c_14]; decide) (by rw [c_14]; decide) (by rw [c_14]; rfl) (by decide) ?_
        exact law_undo N o_undo hL C0 hK hZC hZR hi hnext hrel hPC hPR hS hl
      by_cases c_15 : w = 15
      · refine lv_tableIn (off := 562) (tgt := 595) hx hb dL_law_33 (by rw [c_15]; decide) (by rw [c_15]; decide) (by rw [c_15]; rfl) (by decide) ?_
        exact law_seed N o_seed hL C0 hK hZC hZR hi hnext hrel hPC hPR hS hl
      by_cases c_16 : w = 16
      · refine lv_tableIn (off := 585) (tgt := 618) hx hb dL_law_33 (by rw [c_16]; decide) (by rw [c_16]; decide) (by rw [c_16]; rfl) (by decide) ?_
        exact law_then N o_then hL C0 hK hZC hZR hi hnext hrel hPC hPR hS hl
      by_cases c_17 : w = 17
      · refine lv_tableIn (off := 618) (tgt := 651) hx hb dL_law_33 (by rw [c_17]; decide) (by rw [c_17]; decide) (by rw [c_17]; rfl) (by decide) ?_
        exact law_crosses N o_crosses hL C0 hK hZC hZR hi hnext hrel hPC hPR hS hl
      by_cases c_18 : w = 18
      · refine lv_tableIn (off := 641) (tgt := 674) hx hb dL_law_33 (by rw [c_18]; decide) (by rw [c_18]; decide) (by rw [c_18]; rfl) (by decide) ?_
        exact law_last N o_last hL C0 hK hZC hZR hi hnext hrel hPC hPR hS hl
      by_cases c_19 : w = 19
      · refine lv_tableIn (off := 654) (tgt := 687) hx hb dL_law_33 (by rw [c_19]; decide) (by rw [c_19]; decide) (by rw [c_19]; rfl) (by decide) ?_
        exact law_most N o_most hL C0 hK hZC hZR hi hnext hrel hPC hPR hS hl
      by_cases c_20 : w = 20
      · refine lv_tableIn (off := 677) (tgt := 710) hx hb dL_law_33 (by rw [c_20]; decide) (by rw [c_20]; decide) (by rw [c_20]; rfl) (by decide) ?_
        exact law_best N o_best hL C0 hK hZC hZR hi hnext hrel hPC hPR hS hl
      by_cases c_21 : w = 21
      · refine lv_tableIn (off := 700) (tgt := 733) hx hb dL_law_33 (by rw [c_21]; decide) (by rw [c_21]; decide) (by rw [c_21]; rfl) (by decide) ?_
        exact law_teaches N o_teaches hL C0 hK hZC hZR hi hnext hrel hPC hPR hS hl
      by_cases c_22 : w = 22
      · refine lv_tableIn (off := 723) (tgt := 756) hx hb dL_law_33 (by rw [c_22]; decide) (by rw [c_22]; decide) (by rw [c_22]; rfl) (by decide) ?_
        exact law_spare N o_spare hL C0 hK hZC hZR hi hnext hrel hPC hPR hS hl
      by_cases c_23 : w = 23
      · refine lv_tableIn (off := 746) (tgt := 779) hx hb dL_law_33 (by rw [c_23]; decide) (by rw [c_23]; decide) (by rw [c_23]; rfl) (by decide) ?_
        exact law_before N o_before hL C0 hK hZC hZR hi hnext hrel hPC hPR hS hl
      by_cases c_24 : w = 24
      · refine lv_tableIn (off := 769) (tgt := 802) hx hb dL_law_33 (by rw [c_24]; decide) (by rw [c_24]; decide) (by rw [c_24]; rfl) (by decide) ?_
        exact law_cramp N o_cramp hL C0 hK hZC hZR hi hnext hrel hPC hPR hS hl
      by_cases c_25 : w = 25
      · refine lv_tableIn (off := 812) (tgt := 845) hx hb dL_law_33 (by rw [c_25]; decide) (by rw [c_25]; decide) (by rw [c_25]; rfl) (by decide) ?_
        exact law_image N o_image hL C0 hK hZC hZR hi hnext hrel hPC hPR hS hl
      by_cases c_26 : w = 26
      · refine lv_tableIn (off := 825) (tgt := 858) hx hb dL_law_33 (by rw [c_26]; decide) (by rw [c_26]; decide) (by rw [c_26]; rfl) (by decide) ?_
        exact law_restore N o_restore hL C0 hK hZC hZR hi hnext hrel hPC hPR hS hl
      by_cases c_27 : w = 27
      · refine lv_tableIn (off := 838) (tgt := 871) hx hb dL_law_33 (by rw [c_27]; decide) (by rw [c_27]; decide) (by rw [c_27]; rfl) (by decide) ?_
        exact law_seen N o_seen hL C0 hK hZC hZR hi hnext hrel hPC hPR hS hl
      by_cases c_28 : w = 28
      · refine lv_tableIn (off := 913) (tgt := 946) hx hb dL_law_33 (by rw [c_28]; decide) (by rw [c_28]; decide) (by rw [c_28]; rfl) (by decide) ?_
        exact law_film N o_film hL C0 hK hZC hZR hi hnext hrel hPC hPR hS hl
      by_cases c_29 : w = 29
      · refine lv_tableIn (off := 966) (tgt := 999) hx hb dL_law_33 (by rw [c_29]; decide) (by rw [c_29]; decide) (by rw [c_29]; rfl) (by decide) ?_
        exact law_sheet N o_sheet hL C0 hK hZC hZR hi hnext hrel hPC hPR hS hl
      by_cases c_30 : w = 30
      · refine lv_tableIn (off := 1009) (tgt := 1042) hx hb dL_law_33 (by rw [c_30]; decide) (by rw [c_30]; decide) (by rw [c_30]; rfl) (by decide) ?_
        exact law_drop N o_drop hL C0 hK hZC hZR hi hnext hrel hPC hPR hS hl
      by_cases c_31 : w = 31
      · refine lv_tableIn (off := 1032) (tgt := 1065) hx hb dL_law_33 (by rw [c_31]; decide) (by rw [c_31]; decide) (by rw [c_31]; rfl) (by decide) ?_
        exact law_item N o_item hL C0 hK hZC hZR hi hnext hrel hPC hPR hS hl
      by_cases c_32 : w = 32
      · refine lv_tableIn (off := 1115) (tgt := 1148) hx hb dL_law_33 (by rw [c_32]; decide) (by rw [c_32]; decide) (by rw [c_32]; rfl) (by decide) ?_
        exact law_copy N o_copy hL C0 hK hZC hZR hi hnext hrel hPC hPR hS hl
      have q_0 := x_ne (n := 0) c_0 (by decide)
      have q_1 := x_ne (n := 1) c_1 (by decide)
      have q_2 := x_ne (n := 2) c_2 (by decide)
      have q_3 := x_ne (n := 3) c_3 (by decide)
      have q_4 := x_ne (n := 4) c_4 (by decide)
      have q_5 := x_ne (n := 5) c_5 (by decide)
      have q_6 := x_ne (n := 6) c_6 (by decide)
      have q_7 := x_ne (n := 7) c_7 (by decide)
      have q_8 := x_ne (n := 8) c_8 (by decide)
      have q_9 := x_ne (n := 9) c_9 (by decide)
      have q_10 := x_ne (n := 10) c_10 (by decide)
      have q_11 := x_ne (n := 11) c_11 (by decide)
      have q_12 := x_ne (n := 12) c_12 (by decide)
      have q_13 := x_ne (n := 13) c_13 (by decide)
      have q_14 := x_ne (n := 14) c_14 (by decide)
      have q_15 := x_ne (n := 15) c_15 (by decide)
      have q_16 := x_ne (n := 16) c_16 (by decide)
      have q_17 := x_ne (n := 17) c_17 (by decide)
      have q_18 := x_ne (n := 18) c_18 (by decide)
      have q_19 := x_ne (n := 19) c_19 (by decide)
      have q_20 := x_ne (n := 20) c_20 (by decide)
      have q_21 := x_ne (n := 21) c_21 (by decide)
      have q_22 := x_ne (n := 22) c_22 (by decide)
      have q_23 := x_ne (n := 23) c_23 (by decide)
      have q_24 := x_ne (n := 24) c_24 (by decide)
      have q_25 := x_ne (n := 25) c_25 (by decide)
      have q_26 := x_ne (n := 26) c_26 (by decide)
      have q_27 := x_ne (n := 27) c_27 (by decide)
      have q_28 := x_ne (n := 28) c_28 (by decide)
      have q_29 := x_ne (n := 29) c_29 (by decide)
      have q_30 := x_ne (n := 30) c_30 (by decide)
      have q_31 := x_ne (n := 31) c_31 (by decide)
      have q_32 := x_ne (n := 32) c_32 (by decide)
      refine lv_tableOut (tgt := 1211) hx hb dL_law_33 (by omega) (by decide) ?_
      exact hnext u v H locs ls hrel hPC hPR hS hl
