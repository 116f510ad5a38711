section LA2
variable {p : Program} {l : Launch} {e : Env} {s : State} {m : MethodId} {args : Array Value} {below : List Frame} {meth : Method} {c : Code} {H : Heap} {locs : List Loc} {cells slots : Nat} {Q : State → Prop}
variable {pc : Nat} {ls : Array Slot} {rest : List Value} {D : va_G} {cA : Nat → ClassId} {index sz n : Nat} {f : Nat → va_E}
theorem la_new {C : String} {T : u_T} {N ci : Nat} {ty : Nat → FieldType} {fs : List Value} (S : CallFix p m c code 4 s args lw_tbl RL) (hK : va_K D vwCl (x_tys cA) s) (hP : CP D sz n f H) (hS : va_S (CA sz) s.heap H locs) (hin : ∀ w ∈ u_ws C T N, w ∈ gw) (hty : ∀ k, k < N → parseFieldDescriptor (T k).2.2.1 = some (ty k)) (hcl : vwCl[ci]? = some (C, T, N)) (hfs : ∀ j, j < N → defaultValue (ty j) = vp_V fs j) (hw : Cond.classLink RL index C ∈ gw ∧ Cond.instantiable C N ∈ gw ∧ Cond.initialized C ∈ gw) (hcells : cells + 1 ≤ 600000) (hslots : slots + N ≤ 7302250) (hdg : decode code pc = .ok (.new index, 3))
    (kk : ∀ H1 : Heap, CP D sz (n + 1) (va_up f n (.inr (ci, fs))) H1 → va_S (CA sz) s.heap H1 locs → W p l e room_1 s m args below meth c H1 locs (cells + 1) (slots + N) Q (F0 m (pc + 3) ls (.ref (sz + n) :: rest))) : W p l e room_1 s m args below meth c H locs cells slots Q (F0 m pc ls rest) := by
  have ok : ∀ w ∈ gw, w.before args s = true := fun w h => S.2.2.2.2 w (gw_sub h)
  have hKn := hK.1 ci _ hcl
  refine W.newcK S.1 S.2.1 S.2.2.2.1 (ok _ hw.1) (ok _ hw.2.1) (ok _ hw.2.2) rfl hdg hcells hslots hKn.2.1 hP.1 fun H1 kC hkC e1 z1 o1 => ?_
  have o1 : ∀ q : Nat, q < H.size → H1[q]? = H[q]? := fun q hq => o1 q (by rw [← hP.1]; exact hq)
  have z1 : H1.size = H.size + 1 := by rw [z1, hP.1]
  refine kk H1 (y_push hP ⟨_, hcl, (u_born ty ok hin hKn hkC e1 hty).to hfs⟩ z1 o1) ⟨Nat.le_trans hS.1 (by omega), fun x h1 h2 => (o1 x (Nat.lt_of_lt_of_le h1 hS.1)).trans (hS.2.1 x h1 h2), hS.2.2⟩
theorem la_init {y : MethodName} {bytes : ByteArray} {maxL d' mc ms k nA : Nat} {As : List Value} {P : Nat → (Nat → va_E) → Prop} (S : CallFix p m c code 4 s args lw_tbl RL) (hK : YK D cA s) (hP : CP D sz n f H) (hS : va_S (CA sz) s.heap H locs) (hM : MC l y bytes maxL d' mc ms D cA sz n f (.ref (sz + k) :: As) P) (hw : Cond.code y bytes maxL none ∈ gw ∧ Cond.methodLink RL index y ∈ gw ∧ Cond.instanceMethod y ∈ gw ∧ Cond.initialized y.cls ∈ gw) (hy1 : y.name = "<init>") (hy : x_hd y nA) (hd : d' + 1 ≤ 2048 ∧ 8 + (maxL + 11) + 40 * d' ≤ 84000) (hn : As.length = nA) (hsize : ls.size = 4) {st : List Value} (hstack : st = As.reverse ++ .ref (sz + k) :: rest) (hW : (rest.map fun v => v.category).sum ≤ 8) (hdg : decode code pc = .ok (.invokespecial index, 3)) (hf : cells + mc ≤ 600000 ∧ slots + ms ≤ 7302250)
    (kk : ∀ (n' : Nat) (f' : Nat → va_E) (H1 : Heap) (locs1 : List Loc), P n' f' → CP D sz n' f' H1 → va_S (CA sz) s.heap H1 locs1 → W p l e room_1 s m args below meth c H1 locs1 (cells + mc) (slots + ms) Q (F0 m (pc + 3) ls rest)) : W p l e room_1 s m args below meth c H locs cells slots Q (F0 m pc ls st) := by
  have ok : ∀ w ∈ gw, w.before args s = true := fun w h => S.2.2.2.2 w (gw_sub h)
  obtain ⟨w1, w2, w3, w5⟩ := hw
  refine va_callv (A0 := CA sz) (va_runI S hM ⟨callB_of nA S.2.2.2.2 (gw_law w1) rfl rfl rfl (ok _ w5) (ok _ w2) hy ⟨hd.1, hd.2⟩, hy1, ok _ w3⟩ ⟨fun a U gf mk q => ⟨q.1, q.2.1, va_K.moved (u := U) (U := U.calling gf mk a) (Vm.Alike.refl U.vm) q.2.2.1, va_AO.moved (u := U) (U := U.calling gf mk a) (Vm.Alike.refl U.vm) q.2.2.2.1, va_AO.moved (u := U) (U := U.calling gf mk a) (Vm.Alike.refl U.vm) q.2.2.2.2⟩, fun U hU hW => ⟨rfl, by rw [hU]; exact hP, va_K.moved hW.alike hK.1, va_AO.moved hW.alike hK.2.1, va_AO.moved hW.alike hK.2.2⟩⟩ rfl hn hsize hstack (lv_room (m := m) (pc := pc) (ls := ls) (rest := st) hW) hdg hf) hS (fun q _ h => h) (fun q h => h) (fun u T H1 locs1 hT _ hp hB _ _ hS1 => ?_)
  exact kk u.1 u.2 H1 locs1 hp (hT ▸ hB) hS1
end LA2
theorem lw_in {w : Cond} (i : Nat) (h : lw_tbl[i]? = some w) : w ∈ lw_tbl := List.mem_of_getElem? h
/-- the tables at the law's entry -/
theorem la_tab {s : State} {b : Nat} (hts : ∀ w ∈ lw_tbl, w.before #[Value.ref b] s = true) : ∃ (D : va_G) (cA : Nat → ClassId), YK D cA s ∧ ∀ w ∈ nw, va_Nw w s := by
  have hg : ∀ w ∈ gw, w.before #[Value.ref b] s = true := fun w h => hts w (gw_sub h)
  obtain ⟨c0, i0, k0⟩ := u_known (C := RX0) (T := TX0) (N := 12) (n := 12) hg inX0 (hts (.instantiable RX0 12) (by decide +kernel))
  obtain ⟨c1, i1, k1⟩ := u_known (C := RX1) (T := TX1) (N := 4) (n := 4) hg inX1 (hts (.instantiable RX1 4) (by decide +kernel))
  obtain ⟨c2, i2, k2⟩ := u_known (C := RX2) (T := TX2) (N := 3) (n := 3) hg inX2 (hts (.instantiable RX2 3) (by decide +kernel))
  obtain ⟨c3, i3, k3⟩ := u_known (C := RX3) (T := TX3) (N := 3) (n := 3) hg inX3 (hts (.instantiable RX3 3) (by decide +kernel))
  obtain ⟨c4, i4, k4⟩ := u_known (C := RX4) (T := TX4) (N := 4) (n := 4) hg inX4 (hts (.instantiable RX4 4) (by decide +kernel))
  obtain ⟨c5, i5, k5⟩ := u_known (C := RX5) (T := TX5) (N := 2) (n := 2) hg inX5 (hts (.instantiable RX5 2) (by decide +kernel))
  obtain ⟨c6, i6, k6⟩ := u_known (C := RX6) (T := TX6) (N := 7) (n := 7) hg inX6 (hts (.instantiable RX6 7) (by decide +kernel))
  obtain ⟨c7, i7, k7⟩ := u_known (C := RX7) (T := TX7) (N := 8) (n := 8) hg inX7 (hts (.instantiable RX7 8) (by decide +kernel))
  obtain ⟨c8, i8, k8⟩ := u_known (C := RX8) (T := TX8) (N := 31) (n := 31) hg inX8 (hts (.instantiable RX8 31) (by decide +kernel))
  obtain ⟨aI, kI, mI, f1, f2, f3⟩ := Cond.arrayClass_spec (hts (.arrayClass .int) (by decide +kernel))
  obtain ⟨aC, kC, mC, g1, g2, g3⟩ := Cond.arrayClass_spec (hts (.arrayClass .char) (by decide +kernel))
  obtain ⟨aJ, kJ, mJ, j1, j2, j3⟩ := Cond.arrayClass_spec (hts (.arrayClass .long) (by decide +kernel))
  have hoF := hts (.arrayOver (.object "FordQuestions$Ford")) (by decide +kernel)
  have hoS := hts (.arrayOver (.object "FordQuestions$Sheet")) (by decide +kernel)
  obtain ⟨mF, aF, kF, p1, p2, p3, p4, p5⟩ := Cond.arrayOver_spec hoF
  obtain ⟨mS, aS, kS, q1, q2, q3, q4, q5⟩ := Cond.arrayOver_spec hoS
  refine ⟨(fun k => match k with | 0 => c0 | 1 => c1 | 2 => c2 | 3 => c3 | 4 => c4 | 5 => c5 | 6 => c6 | 7 => c7 | _ => c8, fun k => match k with | 0 => i0 | 1 => i1 | 2 => i2 | 3 => i3 | 4 => i4 | 5 => i5 | 6 => i6 | 7 => i7 | _ => i8), fun k => match k with | 0 => aI | 1 => aC | 2 => aJ | 3 => aF | _ => aS, ⟨⟨?_, ?_⟩, va_AO.of hoF, va_AO.of hoS⟩, fun w hw => va_Nw.of (x_onT hw) (hts w (List.mem_filter.mp hw).1)⟩
  · intro k q hq
    match k, hq with
    | 0, hq => cases hq; exact k0
    | 1, hq => cases hq; exact k1
    | 2, hq => cases hq; exact k2
    | 3, hq => cases hq; exact k3
    | 4, hq => cases hq; exact k4
    | 5, hq => cases hq; exact k5
    | 6, hq => cases hq; exact k6
    | 7, hq => cases hq; exact k7
    | 8, hq => cases hq; exact k8
    | k + 9, hq => simp [vwCl] at hq
  · intro k q hq
    match k, hq with
    | 0, hq => cases hq; exact ⟨fun n z => ⟨(fun k h => by cases h), kI, f2, mI, f3⟩, f1⟩
    | 1, hq => cases hq; exact ⟨fun n z => ⟨(fun k h => by cases h), kC, g2, mC, g3⟩, g1⟩
    | 2, hq => cases hq; exact ⟨fun n z => ⟨(fun k h => by cases h), kJ, j2, mJ, j3⟩, j1⟩
    | 3, hq => cases hq; exact ⟨fun n z => ⟨(fun k h => by cases h), kF, p3, mF, p4⟩, kF, mF, p3, p4, p1, p5⟩
    | 4, hq => cases hq; exact ⟨fun n z => ⟨(fun k h => by cases h), kS, q3, mS, q4⟩, kS, mS, q3, q4, q1, q5⟩
    | k + 5, hq => simp [x_tys] at hq
/-- the text constant at the law's entry -/
theorem la_txt {s : State} {b : Nat} (hts : ∀ w ∈ lw_tbl, w.before #[Value.ref b] s = true) (hgv : (Jvm.Cond.and given_1 narrow_1).before #[Value.ref b] s = true) : ∃ a0 a1 : Nat, vk_R "FordQuestions$Reader" 90 "psrdg" a0 s ∧ vk_S 1 [5] [[112, 115, 114, 100, 103]] (fun _ => a0) (fun _ => a1) (CA s.heap.size) s s.heap ∧ va_Z "java/lang/String" "COMPACT_STRINGS" "Z" (.int 1) (CA s.heap.size) s s.heap := by
  have hs := flat_of_before _ hgv
  have hA : ∀ a : Nat, a < s.heap.size → ¬ CA s.heap.size a := fun a h => Nat.not_le.mpr h
  obtain ⟨adK, adV, h1, h2⟩ := vk_Sof (args := #[Value.ref b]) (s := s) (N := 1) (tm := fun _ => Term.string "FordQuestions$Reader" 90) (len := [5]) (byt := [[112, 115, 114, 100, 103]]) (A := CA s.heap.size)
    (fun i hi => by rw [show i = 0 by omega]; decide) (fun i _ => hs _ (by decide +kernel)) (fun i _ => hs _ (by decide +kernel)) (fun i _ => hs _ (by decide +kernel)) (fun i hi => by rw [show i = 0 by omega]; exact hs _ (by decide +kernel))
    (fun i hi j hj => by
      obtain rfl : i = 0 := by omega
      have hj : j < 5 := hj
      rcases (show j = 0 ∨ j = 1 ∨ j = 2 ∨ j = 3 ∨ j = 4 by omega) with rfl | rfl | rfl | rfl | rfl
      · exact hs _ (by decide +kernel)
      · exact hs _ (by decide +kernel)
      · exact hs _ (by decide +kernel)
      · exact hs _ (by decide +kernel)
      · exact hs _ (by decide +kernel))
    (fun i j hi hj h => absurd (show i = j by omega) h) hA
  refine ⟨adK 0, adV 0, vk_R.of (A := #[]) (hts (.stringRef "FordQuestions$Reader" 90 "psrdg") (by decide +kernel)) (h2 0 (by decide)), ⟨fun i hi => by rw [show i = 0 by omega]; exact h1.1 0 (by decide), fun i j hi hj _ => by omega⟩, va_Zof (args := #[Value.ref b]) (hts (.laysStatic "java/lang/String" "COMPACT_STRINGS" "Z") (by decide +kernel)) (hts (.initialized "java/lang/String") (by decide +kernel)) (va_eqi (hs _ (by decide +kernel))) hA⟩
