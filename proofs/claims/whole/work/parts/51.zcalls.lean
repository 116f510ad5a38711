/-! calls from the law -/
section LAW
variable {p : Program} {l : Launch} {e : Env} {s : State} {m : MethodId} {args : Array Value} {below : List Frame} {meth : Method} {c : Code} {H : Heap} {locs : List Loc} {cells slots : Nat} {Q : State → Prop}
variable {pc : Nat} {ls : Array Slot} {rest : List Value} {g : Ly} {sh sh' : Sh} {t t' tt : Mm} {index : Nat}
variable {y : MethodName} {bytes : ByteArray} {maxL d n a b k ci N : Nat} {As fs : List Value} {r : Int32} {C : String} {T : u_T}
theorem gw_sub {w : Cond} (h : w ∈ gw) : w ∈ lw_tbl := (List.mem_filter.mp h).1
theorem gw_law {cw : Cond} (h : cw ∈ gw) : GoodIn lw_tbl (cw :: gw) := by
  have key : ∀ w ∈ gw, w ∈ lw_tbl ∧ ((w.onTables && w.keeps) = true ∨ ∃ ty, w = .arrayClass ty) := fun w hw => ⟨gw_sub hw, good_of_word (List.mem_filter.mp hw).2⟩
  intro w hw
  rcases List.mem_cons.mp hw with e | e
  · subst e; exact key _ h
  · exact key _ e
theorem la_call (S : CallFix p m c code 4 s args lw_tbl RL) (hK : XK g s) (hZ : XZ sh g s s.heap) (hsub : ∀ q, XA sh g q → CA s.heap.size q) (hdis : ∀ k ∈ sh'.2, ¬ XA sh g (g.2.2 k)) (hP : XP sh g t H) (hP' : XP sh' g tt H) (hS : va_S (CA s.heap.size) s.heap H locs)
    (hM : MI l y bytes maxL (some .int) d sh g (.ref (g.2.2 (a, b, k)) :: As) t (XQi sh g r t')) (hw : x_wV RL index y bytes maxL (some .int)) (hy : x_hd y n) (hd : d + 1 ≤ 2048 ∧ 8 + (maxL + 11) + 40 * d ≤ 84000) (hcl : vwCl[ci]? = some (y.cls, T, N)) (hk : (a, b, k) ∈ sh.2) (hc : x_ct sh g t (a, b, k) = .inr (ci, fs))
    (hn : As.length = n) (hsize : ls.size = 4) {st : List Value} (hstack : st = As.reverse ++ .ref (g.2.2 (a, b, k)) :: rest) (hW : (rest.map fun v => v.category).sum ≤ 8) (hdg : decode code pc = .ok (.invokevirtual index, 3)) (hcs : cells ≤ 600000 ∧ slots ≤ 7302250)
    (kk : ∀ (H1 : Heap) (locs1 : List Loc), XP sh g t' H1 → XP sh' g tt H1 → va_S (CA s.heap.size) s.heap H1 locs1 → W p l e room_1 s m args below meth c H1 locs1 cells slots Q (F0 m (pc + 3) ls (.int r :: rest))) : W p l e room_1 s m args below meth c H locs cells slots Q (F0 m pc ls st) := by
  obtain ⟨w1, w2, w3, w4, w5⟩ := hw
  have ok : ∀ w ∈ gw, w.before args s = true := fun w h => S.2.2.2.2 w (gw_sub h)
  have hrecv : ∃ cell : Cell, H[g.2.2 (a, b, k)]? = some cell ∧ cell.vm.isStatics = false ∧ s.vm.findClass y.cls = some cell.cls := by
    obtain ⟨q, -, hq⟩ := x_at (g := g) (t := t) hk
    rw [hc] at hq
    exact va_recv hK.1 hP hcl hq
  have hkeep : ∀ q : Nat, q < s.heap.size → ¬ XA sh g q → H[q]? = s.heap[q]? := fun q h1 _ => hS.2.1 q h1 (Nat.not_le.mpr h1)
  refine va_calli (A0 := CA s.heap.size) (A1 := XA sh g) (va_runV S hM ⟨callB_of n S.2.2.2.2 (gw_law w1) rfl rfl rfl (ok _ w5) (ok _ w2) hy ⟨hd.1, hd.2⟩, ok _ w3, ok _ w4⟩ ⟨x_blind, hrecv, fun U hU hW => ⟨rfl, by rw [hU]; exact hP, hK.warm hW, by rw [hU]; exact (hZ.kept hkeep).warm hW⟩⟩ rfl hn hsize hstack (lv_room (m := m) (pc := pc) (ls := ls) (rest := st) hW) hdg hcs) hS (fun q _ h => hsub q h) (fun q h => hsub q h) (fun r' u T1 H1 locs1 hT _ hp hB hz hk1 hS1 => ?_)
  obtain ⟨rfl, rfl⟩ := hp
  refine kk H1 locs1 (hT ▸ hB) ?_ hS1
  refine va_P.kept hP' (fun i q hq => ?_)
  have hlt := (hP' i q hq).lt
  refine hk1 q.1 hlt ?_
  simp only [x_ws, List.getElem?_map, Option.map_eq_some_iff] at hq
  obtain ⟨kk', hk', rfl⟩ := hq
  exact hdis kk' (List.mem_of_getElem? hk')
end LAW
theorem la_subC {D : va_G} {cA : Nat → ClassId} {sz a0 a1 : Nat} : ∀ q, XA shC (D, cA, adL sz a0 a1) q → CA sz q := by
  intro q ⟨k, hk, h⟩
  have h : adL sz a0 a1 k = q := h
  rw [ad_ne7 (posC_lt k hk).2] at h
  show sz ≤ q
  omega
theorem la_subR {D : va_G} {cA : Nat → ClassId} {sz a0 a1 : Nat} : ∀ q, XA shR (D, cA, adL sz a0 a1) q → CA sz q := by
  intro q ⟨k, hk, h⟩
  have h : adL sz a0 a1 k = q := h
  rw [ad_ne7 (posR_lt k hk).2.2] at h
  show sz ≤ q
  omega
theorem la_disC {D : va_G} {cA : Nat → ClassId} {sz a0 a1 : Nat} : ∀ k ∈ shR.2, ¬ XA shC (D, cA, adL sz a0 a1) (adL sz a0 a1 k) := by
  intro k hk ⟨k', hk', h⟩
  have h : adL sz a0 a1 k' = adL sz a0 a1 k := h
  have h1 := posC_lt k' hk'
  have h2 := posR_lt k hk
  rw [ad_ne7 h1.2, ad_ne7 h2.2.2] at h
  omega
theorem la_disR {D : va_G} {cA : Nat → ClassId} {sz a0 a1 : Nat} : ∀ k ∈ shC.2, ¬ XA shR (D, cA, adL sz a0 a1) (adL sz a0 a1 k) := by
  intro k hk ⟨k', hk', h⟩
  have h : adL sz a0 a1 k' = adL sz a0 a1 k := h
  have h1 := posR_lt k' hk'
  have h2 := posC_lt k hk
  rw [ad_ne7 h1.2.2, ad_ne7 h2.2] at h
  omega
