section XS
variable {p : Program} {l : Launch} {e : Env} {d : Nat} {s : State} {m : MethodId} {args : Array Value} {below : List Frame} {meth : Method} {c : Code} {H : Heap} {locs : List Loc} {Q : State → Prop}
variable {cc : ByteArray} {nL pc : Nat} {ls : Array Slot} {rest : List Value} {cw : Cond} {own : String} {ret : Option FieldType} {sh : Sh} {g : Ly} {t : Mm} {index : Nat}
/-- the ends of a method -/
theorem x_iret {x : Int32} (X : XC p m meth c cc nL s args cw own (some .int) sh g) (hP : XP sh g t H) (hS : va_S (XA sh g) s.heap H locs) (hdg : decode cc pc = .ok (.ireturn, 1)) : W p l e (rmv d) s m args below meth c H locs 0 0 (MQ below (XQi sh g x t) args s 0 0 (XA sh g)) (F0 m pc ls [.int x]) :=
  W.iret (hlocks := X.2.2.1) X.1.1 X.1.2.1 X.2.1 (fun T hT _ => ⟨⟨x, t, rfl, ⟨rfl, rfl⟩, show XP sh g t T.heap by rw [hT]; exact hP⟩, hS.F hT⟩) hS.2.2 hdg
theorem x_zret {x : Int32} {ty : FieldType} (hn : narrow ty (.int x) = .int x) (X : XC p m meth c cc nL s args cw own (some ty) sh g) (hP : XP sh g t H) (hS : va_S (XA sh g) s.heap H locs) (hdg : decode cc pc = .ok (.ireturn, 1)) : W p l e (rmv d) s m args below meth c H locs 0 0 (MQ below (XQi sh g x t) args s 0 0 (XA sh g)) (F0 m pc ls [.int x]) :=
  W.zret (hlocks := X.2.2.1) X.1.1 X.1.2.1 X.2.1 hn (fun T hT _ => ⟨⟨x, t, rfl, ⟨rfl, rfl⟩, show XP sh g t T.heap by rw [hT]; exact hP⟩, hS.F hT⟩) hS.2.2 hdg
theorem x_lret {x : Int64} (X : XC p m meth c cc nL s args cw own (some .long) sh g) (hP : XP sh g t H) (hS : va_S (XA sh g) s.heap H locs) (hdg : decode cc pc = .ok (.lreturn, 1)) : W p l e (rmv d) s m args below meth c H locs 0 0 (MQ below (XQl sh g x t) args s 0 0 (XA sh g)) (F0 m pc ls [.long x]) :=
  W.lret (hlocks := X.2.2.1) X.1.1 X.1.2.1 X.2.1 (fun T hT _ => ⟨⟨x, t, rfl, ⟨rfl, rfl⟩, show XP sh g t T.heap by rw [hT]; exact hP⟩, hS.F hT⟩) hS.2.2 hdg
theorem x_vret (X : XC p m meth c cc nL s args cw own none sh g) (hP : XP sh g t H) (hS : va_S (XA sh g) s.heap H locs) (hdg : decode cc pc = .ok (.return_, 1)) : W p l e (rmv d) s m args below meth c H locs 0 0 (MQ below (XQv sh g t) args s 0 0 (XA sh g)) (F0 m pc ls []) :=
  W.vret (hlocks := X.2.2.1) X.1.1 X.1.2.1 X.2.1 (fun T hT _ => ⟨⟨t, rfl, rfl, show XP sh g t T.heap by rw [hT]; exact hP⟩, hS.F hT⟩) hS.2.2 hdg
theorem x_aret {a : Nat} {nm : String} (X : XC p m meth c cc nL s args cw own (some (.object nm)) sh g) (hP : XP sh g t H) (hS : va_S (XA sh g) s.heap H locs) (hdg : decode cc pc = .ok (.areturn, 1)) : W p l e (rmv d) s m args below meth c H locs 0 0 (MQ below (XQr sh g a t) args s 0 0 (XA sh g)) (F0 m pc ls [.ref a]) :=
  W.aret (hlocks := X.2.2.1) X.1.1 X.1.2.1 X.2.1 (Or.inl ⟨_, rfl⟩) (Or.inr ⟨_, rfl⟩) (fun T hT _ => ⟨⟨t, a, rfl, rfl, rfl, show XP sh g t T.heap by rw [hT]; exact hP⟩, hS.F hT⟩) hS.2.2 hdg
/-- how a call is run: virtual (also private), static; of a nest mate -/
abbrev x_Run (p : Program) (l : Launch) (e : Env) (d : Nat) (s : State) (m : MethodId) (args : Array Value) (below : List Frame) (meth : Method) (c : Code) (H : Heap) (locs : List Loc) (g : JFrame) (rest : List Value) (Qa : State → Outcome → State → Prop) (free : Addr → Prop) : Prop :=
  va_Run p l e (rmv d) s m args below meth c H locs 0 0 0 0 g rest Qa free
theorem x_blind {as : List Value} : FrameBlind (va_Pc as (XPre sh g t)) := fun _ _ _ _ h => ⟨h.1, h.2.1, h.2.2.1.call, h.2.2.2.call⟩
theorem x_preS (X : XC p m meth c cc nL s args cw own ret sh g) (hP : XP sh g t H) (hS : va_S (XA sh g) s.heap H locs) (as : List Value) : PreS s H (va_Pc as (XPre sh g t)) as :=
  ⟨x_blind, fun U hU hW => ⟨rfl, by rw [hU]; exact hP, X.2.2.2.1.warm hW, by rw [hU]; exact (X.2.2.2.2.2.kept hS.2.1).warm hW⟩⟩
theorem x_recv {C : String} {T : u_T} {N ci a b k : Nat} {fs : List Value} (X : XC p m meth c cc nL s args cw own ret sh g) (hP : XP sh g t H) (hcl : vwCl[ci]? = some (C, T, N)) (hk : (a, b, k) ∈ sh.2) (hc : x_ct sh g t (a, b, k) = .inr (ci, fs)) : ∃ cell : Cell, H[g.2.2 (a, b, k)]? = some cell ∧ cell.vm.isStatics = false ∧ s.vm.findClass C = some cell.cls := by
  obtain ⟨q, -, hq⟩ := x_at (g := g) (t := t) hk
  rw [hc] at hq
  exact va_recv X.2.2.2.1.1 hP hcl hq
variable {y : MethodName} {bytes : ByteArray} {maxL d' n b : Nat} {ret' : Option FieldType} {As : List Value} {Qc : Array Value → State → Outcome → State → Prop}
/-- a callee's words -/
abbrev x_wV (own : String) (index : Nat) (y : MethodName) (bytes : ByteArray) (maxL : Nat) (ret' : Option FieldType) : Prop := Cond.code y bytes maxL ret' ∈ gw ∧ Cond.methodLink own index y ∈ gw ∧ Cond.instanceMethod y ∈ gw ∧ Cond.selects y.cls y y ∈ gw ∧ Cond.initialized y.cls ∈ gw
abbrev x_wS (own : String) (index : Nat) (y : MethodName) (bytes : ByteArray) (maxL : Nat) (ret' : Option FieldType) : Prop := Cond.code y bytes maxL ret' ∈ gw ∧ Cond.methodLink own index y ∈ gw ∧ Cond.static y ∈ gw ∧ Cond.initialized y.cls ∈ gw
abbrev x_wSN (own : String) (index : Nat) (y : MethodName) (host : String) (bytes : ByteArray) (maxL : Nat) (ret' : Option FieldType) : Prop := Cond.code y bytes maxL ret' ∈ gw ∧ Cond.methodLinkNest own index y host ∈ nw ∧ Cond.static y ∈ gw ∧ Cond.initialized y.cls ∈ gw
abbrev x_hd (y : MethodName) (n : Nat) : Prop := y.cls ≠ "java/lang/invoke/MethodHandle" ∧ y.cls ≠ "java/lang/invoke/VarHandle" ∧ (parseMethodDescriptor y.desc).map (fun d => d.parameters.length) = some n
theorem x_rm (hd : d' + 1 ≤ d) (hL : maxL ≤ 21) : (rmv d').frames + 1 ≤ (rmv d).frames ∧ 8 + (maxL + 11) + (rmv d').locals ≤ (rmv d).locals := by
  refine ⟨hd, ?_⟩
  show 8 + (maxL + 11) + 40 * d' ≤ 40 * d
  omega
theorem x_runV (X : XC p m meth c cc nL s args cw own ret sh g) (hP : XP sh g t H) (hS : va_S (XA sh g) s.heap H locs) (hM : MI l y bytes maxL ret' d' sh g (.ref b :: As) t Qc) (hw : x_wV own index y bytes maxL ret') (hy : x_hd y n) (hd : d' + 1 ≤ d ∧ maxL ≤ 21) (hr : ∃ cell : Cell, H[b]? = some cell ∧ cell.vm.isStatics = false ∧ s.vm.findClass y.cls = some cell.cls)
    (hn : As.length = n) (hsize : ls.size = nL) {st : List Value} (hstack : st = As.reverse ++ .ref b :: rest) (hW : (rest.map fun v => v.category).sum ≤ 8) (hdg : decode cc pc = .ok (.invokevirtual index, 3)) :
    x_Run p l e d s m args below meth c H locs (F0 m pc ls st) rest (Qc (Value.ref b :: As).toArray) (XA sh g) := by
  obtain ⟨w1, w2, w3, w4, w5⟩ := hw
  have ok : ∀ w ∈ gw, w.before args s = true := fun w h => X.1.2.2.2.2 w (List.mem_cons_of_mem _ h)
  refine va_runV X.1 hM ⟨callB_of n X.1.2.2.2.2 (gw_good w1) rfl rfl rfl (ok _ w5) (ok _ w2) hy (x_rm hd.1 hd.2), ok _ w3, ok _ w4⟩ ⟨x_blind, hr, (x_preS X hP hS _).2⟩ rfl hn hsize hstack (lv_room (m := m) (pc := pc) (ls := ls) (rest := st) hW) hdg ⟨Nat.le_refl 0, Nat.le_refl 0⟩
theorem x_runS (X : XC p m meth c cc nL s args cw own ret sh g) (hP : XP sh g t H) (hS : va_S (XA sh g) s.heap H locs) (hM : MI l y bytes maxL ret' d' sh g As t Qc) (hw : x_wS own index y bytes maxL ret') (hy : x_hd y n) (hd : d' + 1 ≤ d ∧ maxL ≤ 21)
    (hn : As.length = n) (hsize : ls.size = nL) {st : List Value} (hstack : st = As.reverse ++ rest) (hW : (rest.map fun v => v.category).sum ≤ 8) (hdg : decode cc pc = .ok (.invokestatic index, 3)) :
    x_Run p l e d s m args below meth c H locs (F0 m pc ls st) rest (Qc As.toArray) (XA sh g) := by
  obtain ⟨w1, w2, w3, w5⟩ := hw
  have ok : ∀ w ∈ gw, w.before args s = true := fun w h => X.1.2.2.2.2 w (List.mem_cons_of_mem _ h)
  exact va_runS X.1 hM ⟨callB_of n X.1.2.2.2.2 (gw_good w1) rfl rfl rfl (ok _ w5) (ok _ w2) hy (x_rm hd.1 hd.2), ok _ w3⟩ (x_preS X hP hS _) rfl hn hsize hstack (lv_room (m := m) (pc := pc) (ls := ls) (rest := st) hW) hdg ⟨Nat.le_refl 0, Nat.le_refl 0⟩
theorem x_runSN {host : String} (X : XC p m meth c cc nL s args cw own ret sh g) (hP : XP sh g t H) (hS : va_S (XA sh g) s.heap H locs) (hM : MI l y bytes maxL ret' d' sh g As t Qc) (hw : x_wSN own index y host bytes maxL ret') (hy : x_hd y n) (hd : d' + 1 ≤ d ∧ maxL ≤ 21)
    (hn : As.length = n) (hsize : ls.size = nL) {st : List Value} (hstack : st = As.reverse ++ rest) (hW : (rest.map fun v => v.category).sum ≤ 8) (hdg : decode cc pc = .ok (.invokestatic index, 3)) :
    x_Run p l e d s m args below meth c H locs (F0 m pc ls st) rest (Qc As.toArray) (XA sh g) := by
  obtain ⟨w1, w2, w3, w5⟩ := hw
  have ok : ∀ w ∈ gw, w.before args s = true := fun w h => X.1.2.2.2.2 w (List.mem_cons_of_mem _ h)
  exact va_runSN (host := host) X.1 hM ⟨va_cnB n X.1.2.2.2.2 (gw_good w1) rfl rfl rfl (X.2.2.2.1.2 _ w2) (ok _ w5) hy (x_rm hd.1 hd.2), ok _ w3, trivial⟩ (x_preS X hP hS _) rfl hn hsize hstack (lv_room (m := m) (pc := pc) (ls := ls) (rest := st) hW) hdg ⟨Nat.le_refl 0, Nat.le_refl 0⟩
/-- behind a call -/
theorem x_calli {r : Int32} {t' : Mm} {st : List Value} {as : Array Value} (hr : x_Run p l e d s m args below meth c H locs (F0 m pc ls st) rest (XQi sh g r t' as) (XA sh g)) (hS : va_S (XA sh g) s.heap H locs)
    (kk : ∀ (H1 : Heap) (locs1 : List Loc), XP sh g t' H1 → va_S (XA sh g) s.heap H1 locs1 → W p l e (rmv d) s m args below meth c H1 locs1 0 0 Q (F0 m (pc + 3) ls (.int r :: rest))) : W p l e (rmv d) s m args below meth c H locs 0 0 Q (F0 m pc ls st) := by
  refine va_calli hr hS (fun q _ h => h) (fun q h => h) (fun r' u T H1 locs1 hT _ hp hB _ _ hS1 => ?_)
  obtain ⟨rfl, rfl⟩ := hp
  exact kk H1 locs1 (hT ▸ hB) hS1
theorem x_calll {r : Int64} {t' : Mm} {st : List Value} {as : Array Value} (hr : x_Run p l e d s m args below meth c H locs (F0 m pc ls st) rest (XQl sh g r t' as) (XA sh g)) (hS : va_S (XA sh g) s.heap H locs)
    (kk : ∀ (H1 : Heap) (locs1 : List Loc), XP sh g t' H1 → va_S (XA sh g) s.heap H1 locs1 → W p l e (rmv d) s m args below meth c H1 locs1 0 0 Q (F0 m (pc + 3) ls (.long r :: rest))) : W p l e (rmv d) s m args below meth c H locs 0 0 Q (F0 m pc ls st) := by
  refine va_calll hr hS (fun q _ h => h) (fun q h => h) (fun r' u T H1 locs1 hT _ hp hB _ _ hS1 => ?_)
  obtain ⟨rfl, rfl⟩ := hp
  exact kk H1 locs1 (hT ▸ hB) hS1
theorem x_callv {t' : Mm} {st : List Value} {as : Array Value} (hr : x_Run p l e d s m args below meth c H locs (F0 m pc ls st) rest (XQv sh g t' as) (XA sh g)) (hS : va_S (XA sh g) s.heap H locs)
    (kk : ∀ (H1 : Heap) (locs1 : List Loc), XP sh g t' H1 → va_S (XA sh g) s.heap H1 locs1 → W p l e (rmv d) s m args below meth c H1 locs1 0 0 Q (F0 m (pc + 3) ls rest)) : W p l e (rmv d) s m args below meth c H locs 0 0 Q (F0 m pc ls st) := by
  refine va_callv hr hS (fun q _ h => h) (fun q h => h) (fun u T H1 locs1 hT _ hp hB _ _ hS1 => ?_)
  have hp : u = t' := hp
  subst hp
  exact kk H1 locs1 (hT ▸ hB) hS1
theorem x_callr {a : Nat} {t' : Mm} {st : List Value} {as : Array Value} (hr : x_Run p l e d s m args below meth c H locs (F0 m pc ls st) rest (XQr sh g a t' as) (XA sh g)) (hS : va_S (XA sh g) s.heap H locs)
    (kk : ∀ (H1 : Heap) (locs1 : List Loc), XP sh g t' H1 → va_S (XA sh g) s.heap H1 locs1 → W p l e (rmv d) s m args below meth c H1 locs1 0 0 Q (F0 m (pc + 3) ls (.ref a :: rest))) : W p l e (rmv d) s m args below meth c H locs 0 0 Q (F0 m pc ls st) := by
  refine va_callr hr hS (fun q _ h => h) (fun q h => h) (fun u a' T H1 locs1 hT _ hp hB _ _ hS1 => ?_)
  have hp : u = t' := hp
  subst hp
  obtain ⟨rfl, hB⟩ := hB
  exact kk H1 locs1 (hT ▸ hB) hS1
/-- System.arraycopy of ints, of longs; Math.max, Math.min -/
theorem x_copyi {a b k a' b' k' n0 n1 : Nat} {sp dp n : Int32} (X : XC p m meth c cc nL s args cw own ret sh g) (hP : XP sh g t H) (hS : va_S (XA sh g) s.heap H locs) (hw : Cond.methodLink own index arraycopyName ∈ gw ∧ Cond.native arraycopyName ∈ gw ∧ Cond.static arraycopyName ∈ gw ∧ Cond.initialized "java/lang/System" ∈ gw) (hk : (a, b, k) ∈ sh.2) (hc : ∀ f h, sh.1 g a b k f h = .inl (g.2.1 0, n0, .inl f)) (hk' : (a', b', k') ∈ sh.2) (hc' : ∀ f h, sh.1 g a' b' k' f h = .inl (g.2.1 0, n1, .inl f))
    (hr : (decide (¬ sp < 0) && decide (¬ dp < 0) && decide (¬ n < 0) && decide (sp.toNatClampNeg + n.toNatClampNeg ≤ n0) && decide (dp.toNatClampNeg + n.toNatClampNeg ≤ n1)) = true) (hsize : ls.size = nL) (hd : 1 ≤ d) (hrest : (rest.map fun v => v.category).sum ≤ 8) (hdg : decode cc pc = .ok (.invokestatic index, 3))
    (kk : ∀ (H1 : Heap) (locs1 : List Loc), XP sh g (sR t a' b' k' (va_cpy (t.1 a b k) (t.1 a' b' k') sp.toNatClampNeg dp.toNatClampNeg n.toNatClampNeg)) H1 → va_S (XA sh g) s.heap H1 locs1 → W p l e (rmv d) s m args below meth c H1 locs1 0 0 Q (F0 m (pc + 3) ls rest)) : W p l e (rmv d) s m args below meth c H locs 0 0 Q (F0 m pc ls (.int n :: .int dp :: .ref (g.2.2 (a', b', k')) :: .int sp :: .ref (g.2.2 (a, b, k)) :: rest)) := by
  obtain ⟨w1, w2, w3, w4⟩ := hw
  have ok : ∀ w ∈ gw, w.before args s = true := fun w h => X.1.2.2.2.2 w (List.mem_cons_of_mem _ h)
  obtain ⟨q, hq0, hq⟩ := x_at (g := g) (t := t) hk
  obtain ⟨q', hq0', hq'⟩ := x_at (g := g) (t := t) hk'
  rw [show x_ct sh g t (a, b, k) = .inl (g.2.1 0, n0, .inl (t.1 a b k)) from hc _ _] at hq
  rw [show x_ct sh g t (a', b', k') = .inl (g.2.1 0, n1, .inl (t.1 a' b' k')) from hc' _ _] at hq'
  simp only [Bool.and_eq_true, decide_eq_true_eq] at hr
  obtain ⟨⟨⟨⟨h1, h2⟩, h3⟩, h4⟩, h5⟩ := hr
  refine va_copyi (D := g.1) X.1.1 X.1.2.1 (X.1.2.2.1.trans hsize.symm) X.1.2.2.2.1 (ok _ w1) (ok _ w2) (ok _ w3) (ok _ w4) X.2.2.2.1.1 hP (x_D X.2.2.2.2.1.1 X.2.2.2.2.1.2) hS q q' 0 0 hq hq' rfl rfl rfl h1 h2 h3 h4 h5 (fun _ _ => rfl) hd ?_ hdg (fun H1 locs1 hP1 _ hS1 => kk H1 locs1 ?_ hS1)
  · show _ + (nativeFrameWords "java/lang/System" "arraycopy" 5 + 11) ≤ 40 * d
    have : nativeFrameWords "java/lang/System" "arraycopy" 5 + 11 ≤ 32 := by decide +kernel
    omega
  · exact x_upd X.2.2.2.2.1 hq0' (by rw [x_ct_sR, hc']) (fun k' hk' => by rw [x_ct_sR_ne hk']) hP1
theorem x_copyl {a b k b' n0 n1 : Nat} {sp dp n : Int32} (X : XC p m meth c cc nL s args cw own ret sh g) (hP : XP sh g t H) (hS : va_S (XA sh g) s.heap H locs) (hw : Cond.methodLink own index arraycopyName ∈ gw ∧ Cond.native arraycopyName ∈ gw ∧ Cond.static arraycopyName ∈ gw ∧ Cond.initialized "java/lang/System" ∈ gw) (hk : (a, b, k) ∈ sh.2) (hc : ∀ f h, sh.1 g a b k f h = .inl (g.2.1 2, n0, .inr (.inl h))) (hk' : (a, b', k) ∈ sh.2) (hc' : ∀ f h, sh.1 g a b' k f h = .inl (g.2.1 2, n1, .inr (.inl h))) (hL : ∀ g a' b' k' f' h h', ¬ (a' = a ∧ k' = k) → sh.1 g a' b' k' f' h = sh.1 g a' b' k' f' h')
    (hr : (decide (¬ sp < 0) && decide (¬ dp < 0) && decide (¬ n < 0) && decide (sp.toNatClampNeg + n.toNatClampNeg ≤ n0) && decide (dp.toNatClampNeg + n.toNatClampNeg ≤ n1)) = true) (hsize : ls.size = nL) (hd : 1 ≤ d) (hrest : (rest.map fun v => v.category).sum ≤ 8) (hdg : decode cc pc = .ok (.invokestatic index, 3))
    (kk : ∀ (H1 : Heap) (locs1 : List Loc), XP sh g (sL t b' (va_cpy (t.2 b) (t.2 b') sp.toNatClampNeg dp.toNatClampNeg n.toNatClampNeg)) H1 → va_S (XA sh g) s.heap H1 locs1 → W p l e (rmv d) s m args below meth c H1 locs1 0 0 Q (F0 m (pc + 3) ls rest)) : W p l e (rmv d) s m args below meth c H locs 0 0 Q (F0 m pc ls (.int n :: .int dp :: .ref (g.2.2 (a, b', k)) :: .int sp :: .ref (g.2.2 (a, b, k)) :: rest)) := by
  obtain ⟨w1, w2, w3, w4⟩ := hw
  have ok : ∀ w ∈ gw, w.before args s = true := fun w h => X.1.2.2.2.2 w (List.mem_cons_of_mem _ h)
  obtain ⟨q, hq0, hq⟩ := x_at (g := g) (t := t) hk
  obtain ⟨q', hq0', hq'⟩ := x_at (g := g) (t := t) hk'
  rw [show x_ct sh g t (a, b, k) = .inl (g.2.1 2, n0, .inr (.inl (t.2 b))) from hc _ _] at hq
  rw [show x_ct sh g t (a, b', k) = .inl (g.2.1 2, n1, .inr (.inl (t.2 b'))) from hc' _ _] at hq'
  simp only [Bool.and_eq_true, decide_eq_true_eq] at hr
  obtain ⟨⟨⟨⟨h1, h2⟩, h3⟩, h4⟩, h5⟩ := hr
  refine va_copyl (D := g.1) X.1.1 X.1.2.1 (X.1.2.2.1.trans hsize.symm) X.1.2.2.2.1 (ok _ w1) (ok _ w2) (ok _ w3) (ok _ w4) X.2.2.2.1.1 hP (x_D X.2.2.2.2.1.1 X.2.2.2.2.1.2) hS q q' 2 2 hq hq' rfl rfl rfl h1 h2 h3 h4 h5 (fun _ _ => rfl) hd ?_ hdg (fun H1 locs1 hP1 _ hS1 => kk H1 locs1 ?_ hS1)
  · show _ + (nativeFrameWords "java/lang/System" "arraycopy" 5 + 11) ≤ 40 * d
    have : nativeFrameWords "java/lang/System" "arraycopy" 5 + 11 ≤ 32 := by decide +kernel
    omega
  · exact x_upd X.2.2.2.2.1 hq0' (by rw [x_ct_sL, hc']) (fun k' hk' => by rw [x_ct_sL_ne hL hk']) hP1
theorem x_max {x y : Int32} (X : XC p m meth c cc nL s args cw own ret sh g) (hw : Cond.methodLink own index Lib.Math.max.name ∈ gw ∧ Cond.static Lib.Math.max.name ∈ gw ∧ Cond.initialized "java/lang/Math" ∈ gw ∧ Cond.code Lib.Math.max.name Lib.Math.max.code 2 (some .int) ∈ gw) (hsize : ls.size = nL) (hd : 1 ≤ d) (hrest : (rest.map fun v => v.category).sum ≤ 8) (hdg : decode cc pc = .ok (.invokestatic index, 3))
    (kk : W p l e (rmv d) s m args below meth c H locs 0 0 Q (F0 m (pc + 3) ls (.int (if x < y then y else x) :: rest))) : W p l e (rmv d) s m args below meth c H locs 0 0 Q (F0 m pc ls (.int y :: .int x :: rest)) := by
  obtain ⟨w1, w2, w3, w4⟩ := hw
  have ok : ∀ w ∈ gw, w.before args s = true := fun w h => X.1.2.2.2.2 w (List.mem_cons_of_mem _ h)
  exact va_mmax X.1.1 X.1.2.1 (X.1.2.2.1.trans hsize.symm) X.1.2.2.2.1 (ok _ w1) (ok _ w2) (ok _ w3) (ok _ w4) hd (by show _ + 13 ≤ 40 * d; omega) (Nat.le_refl 0) (Nat.le_refl 0) hdg kk
theorem x_min {x y : Int32} (X : XC p m meth c cc nL s args cw own ret sh g) (hw : Cond.methodLink own index Lib.Math.min.name ∈ gw ∧ Cond.static Lib.Math.min.name ∈ gw ∧ Cond.initialized "java/lang/Math" ∈ gw ∧ Cond.code Lib.Math.min.name Lib.Math.min.code 2 (some .int) ∈ gw) (hsize : ls.size = nL) (hd : 1 ≤ d) (hrest : (rest.map fun v => v.category).sum ≤ 8) (hdg : decode cc pc = .ok (.invokestatic index, 3))
    (kk : W p l e (rmv d) s m args below meth c H locs 0 0 Q (F0 m (pc + 3) ls (.int (if y < x then y else x) :: rest))) : W p l e (rmv d) s m args below meth c H locs 0 0 Q (F0 m pc ls (.int y :: .int x :: rest)) := by
  obtain ⟨w1, w2, w3, w4⟩ := hw
  have ok : ∀ w ∈ gw, w.before args s = true := fun w h => X.1.2.2.2.2 w (List.mem_cons_of_mem _ h)
  exact va_mmin X.1.1 X.1.2.1 (X.1.2.2.1.trans hsize.symm) X.1.2.2.2.1 (ok _ w1) (ok _ w2) (ok _ w3) (ok _ w4) hd (by show _ + 13 ≤ 40 * d; omega) (Nat.le_refl 0) (Nat.le_refl 0) hdg kk
/-- a branch, a number at a switch -/
theorem x_fix {g1 g2 : JFrame} (h : g1 = g2) (k : W p l e (rmv d) s m args below meth c H locs 0 0 Q g2) : W p l e (rmv d) s m args below meth c H locs 0 0 Q g1 := W.eq h k
end XS
/-- a loop with a budget -/
def o_lp {σ ρ : Type} (body : (σ → Option ρ) → σ → Option ρ) : Nat → σ → Option ρ
  | 0, _ => none
  | n + 1, x => body (o_lp body n) x
theorem o_lp_ind {σ ρ : Type} {y : ρ} {P : σ → Prop} {body : (σ → Option ρ) → σ → Option ρ} (hb : ∀ k : σ → Option ρ, (∀ x, k x = some y → P x) → ∀ x, body k x = some y → P x) : ∀ (n : Nat) (x : σ), o_lp body n x = some y → P x
  | 0, _, h => by cases h
  | n + 1, x, h => hb (o_lp body n) (o_lp_ind hb n) x h
