/-! the tables' words: those that a call hands on (gw), and the nest mates' (nw) -/
def gw : List Cond := lw_tbl.filter goodWord
def x_isN : Cond → Bool
  | .fieldLinkNest .. => true
  | .methodLinkNest .. => true
  | _ => false
def nw : List Cond := lw_tbl.filter x_isN
theorem gw_in {w : Cond} (i : Nat) (h : lw_tbl[i]? = some w) (hg : goodWord w = true) : w ∈ gw := List.mem_filter.mpr ⟨List.mem_of_getElem? h, hg⟩
theorem nw_in {w : Cond} (i : Nat) (h : lw_tbl[i]? = some w) (hg : x_isN w = true) : w ∈ nw := List.mem_filter.mpr ⟨List.mem_of_getElem? h, hg⟩
theorem gw_good {cw cw' : Cond} (h : cw' ∈ gw) : GoodIn (cw :: gw) (cw' :: gw) := by
  have key : ∀ w ∈ gw, w ∈ cw :: gw ∧ ((w.onTables && w.keeps) = true ∨ ∃ ty, w = .arrayClass ty) := fun w hw => ⟨List.mem_cons_of_mem _ hw, good_of_word (List.mem_filter.mp hw).2⟩
  intro w hw
  rcases List.mem_cons.mp hw with e | e
  · subst e; exact key _ h
  · exact key _ e
def x_tys (cA : Nat → ClassId) : List (ClassId × FieldType) := [(cA 0, .int), (cA 1, .char), (cA 2, .long), (cA 3, .object "FordQuestions$Ford"), (cA 4, .object "FordQuestions$Sheet")]
def XK (g : Ly) (U : State) : Prop := va_K g.1 vwCl (x_tys g.2.1) U ∧ ∀ w ∈ nw, va_Nw w U
theorem x_onT {w : Cond} (h : w ∈ nw) : w.onTables = true := by
  have h2 := (List.mem_filter.mp h).2
  cases w <;> first | rfl | (simp [x_isN] at h2)
theorem XK.warm {g : Ly} {s U : State} (hW : s.WarmedH U.vm) (h : XK g s) : XK g U := by
  refine ⟨va_K.moved hW.alike h.1, fun w hw => ?_⟩
  have h2 := (List.mem_filter.mp hw).2
  have h3 := h.2 w hw
  cases w <;> first | exact va_Nw.warmF hW h3 | exact va_Nw.warmM hW h3 | (simp [x_isN] at h2)
theorem XK.call {g : Ly} {U : State} {gf : JFrame} {mk : MethodId} {a : Array Value} (h : XK g U) : XK g (U.calling gf mk a) :=
  ⟨va_K.moved (u := U) (U := U.calling gf mk a) (Vm.Alike.refl U.vm) h.1, fun w hw => va_Nw.same (u := U) (U := U.calling gf mk a) (x_onT hw) rfl (h.2 w hw)⟩
/-- the text "psrdg" and its bytes, at addresses of their own -/
def XZ (sh : Sh) (g : Ly) (U : State) (H : Heap) : Prop := vk_R "FordQuestions$Reader" 90 "psrdg" (g.2.2 (7, 0, 0)) U ∧ vk_S 1 [5] [[112, 115, 114, 100, 103]] (fun _ => g.2.2 (7, 0, 0)) (fun _ => g.2.2 (7, 0, 1)) (XA sh g) U H ∧ va_Z "java/lang/String" "COMPACT_STRINGS" "Z" (.int 1) (XA sh g) U H
theorem XZ.warm {sh : Sh} {g : Ly} {s U : State} {H : Heap} (hW : s.WarmedH U.vm) (h : XZ sh g s H) : XZ sh g U H := ⟨vk_R.warm hW h.1, vk_S.moved hW.alike h.2.1, va_Z.moved hW.alike h.2.2⟩
theorem XZ.call {sh : Sh} {g : Ly} {U : State} {H : Heap} {gf : JFrame} {mk : MethodId} {a : Array Value} (h : XZ sh g U H) : XZ sh g (U.calling gf mk a) H := ⟨vk_R.same (u := U) (U := U.calling gf mk a) rfl h.1, vk_S.moved (u := U) (U := U.calling gf mk a) (Vm.Alike.refl U.vm) h.2.1, va_Z.moved (u := U) (U := U.calling gf mk a) (Vm.Alike.refl U.vm) h.2.2⟩
theorem XZ.kept {sh : Sh} {g : Ly} {U : State} {H H1 : Heap} (h : XZ sh g U H) (hq : ∀ a : Nat, a < H.size → ¬ XA sh g a → H1[a]? = H[a]?) : XZ sh g U H1 := ⟨h.1, h.2.1.kept hq, h.2.2.kept hq⟩
def XPre (sh : Sh) (g : Ly) (t : Mm) (U : State) : Prop := XP sh g t U.heap ∧ XK g U ∧ XZ sh g U U.heap
def rmv (d : Nat) : Room := { frames := d, cells := 0, slots := 0, locals := 40 * d }
def XQi (sh : Sh) (g : Ly) (r : Int32) (t : Mm) : Array Value → State → Outcome → State → Prop := va_Qi (fun r' (u : Mm) => r' = r ∧ u = t) (fun u T => XP sh g u T.heap) (XA sh g)
def XQl (sh : Sh) (g : Ly) (r : Int64) (t : Mm) : Array Value → State → Outcome → State → Prop := va_Ql (fun r' (u : Mm) => r' = r ∧ u = t) (fun u T => XP sh g u T.heap) (XA sh g)
def XQv (sh : Sh) (g : Ly) (t : Mm) : Array Value → State → Outcome → State → Prop := va_Qv (fun (u : Mm) => u = t) (fun u T => XP sh g u T.heap) (XA sh g)
def XQr (sh : Sh) (g : Ly) (a : Nat) (t : Mm) : Array Value → State → Outcome → State → Prop := va_Qr (fun (u : Mm) => u = t) (fun u a' T => a' = a ∧ XP sh g u T.heap) (XA sh g)
/-- the contract of a method y over a world of the shape sh, started in the memory t: it answers r and leaves t' -/
def MI (l : Launch) (y : MethodName) (cc : ByteArray) (maxL : Nat) (ret : Option FieldType) (d : Nat) (sh : Sh) (g : Ly) (as : List Value) (t : Mm) (Qc : Array Value → State → Outcome → State → Prop) : Prop :=
  Met l y (.code y cc maxL ret :: gw) (rmv d) (va_Pc as (XPre sh g t)) Qc 0 0 (XA sh g)
abbrev XG (sh : Sh) (g : Ly) : Prop := sh.2.Nodup ∧ XD sh g
/-- what stands while a method's body runs -/
abbrev XC (p : Program) (m : MethodId) (meth : Method) (c : Code) (cc : ByteArray) (nL : Nat) (s : State) (args : Array Value) (cw : Cond) (own : String) (ret : Option FieldType) (sh : Sh) (g : Ly) : Prop :=
  CallFix p m c cc nL s args (cw :: gw) own ∧ meth.sig.returnType = ret ∧ meth.locks = false ∧ XK g s ∧ XG sh g ∧ XZ sh g s s.heap
theorem x_met {l : Launch} {y : MethodName} {cc : ByteArray} {maxL : Nat} {ret : Option FieldType} {d : Nat} {sh : Sh} {g : Ly} {as : List Value} {t : Mm} {Qc : Array Value → State → Outcome → State → Prop} (hG : XG sh g) (hy : plainName y.cls = true) (hn : (lg_sl as).length ≤ maxL)
    (body : ∀ (p : Program) (e : Env) (s : State) (m : MethodId) (below : List Frame) (meth : Method) (c : Code) (ls : Array Slot), XC p m meth c cc maxL s as.toArray (.code y cc maxL ret) y.cls ret sh g → XP sh g t s.heap → lv_has ls maxL (lv_args 0 as) →
      W p l e (rmv d) s m as.toArray below meth c s.heap [] 0 0 (MQ below Qc as.toArray s 0 0 (XA sh g)) (F0 m 0 ls [])) : MI l y cc maxL ret d sh g as t Qc := by
  refine Met.ofW (cc := cc) (maxL := maxL) (ret := ret) hy rfl ?_
  intro p e s m args below meth c s₁ B hml hv
  obtain ⟨rfl, hP, hK, hZ⟩ := hv
  have hl := lv_entry as (n := maxL) hn
  rw [lg_entry_eq]
  exact body p e s m below meth c _ ⟨⟨B.exec, B.bytes, hml, findClass_of_methodNamed B.named, atoms_spec (ws := .code y cc maxL ret :: gw) B.pre⟩, B.returns, B.notSynchronized, hK, hG, hZ⟩ hP hl
section XR
variable {p : Program} {l : Launch} {e : Env} {d : Nat} {s : State} {m : MethodId} {args : Array Value} {below : List Frame} {meth : Method} {c : Code} {H : Heap} {locs : List Loc} {Q : State → Prop}
variable {cc : ByteArray} {nL pc : Nat} {ls : Array Slot} {rest : List Value} {cw : Cond} {own : String} {ret : Option FieldType} {sh : Sh} {g : Ly} {t : Mm} {index : Nat}
theorem x_get {C ref nm ds : String} {T : u_T} {N ci a b k : Nat} {fs : List Value} {v : Value} (X : XC p m meth c cc nL s args cw own ret sh g) (hP : XP sh g t H) (hin : ∀ w ∈ u_ws C T N, w ∈ gw) (hcl : vwCl[ci]? = some (C, T, N)) (hk : (a, b, k) ∈ sh.2) (hc : x_ct sh g t (a, b, k) = .inr (ci, fs)) (j : Nat) (hj : j < N) (hT : T j = (ref, nm, ds, (T j).2.2.2)) (hv : fs[j]? = some v) (hl : Cond.fieldLink own index ref nm ds ∈ gw) (hdg : decode cc pc = .ok (.getfield index, 3))
    (kk : W p l e (rmv d) s m args below meth c H locs 0 0 Q (F0 m (pc + 3) ls (v :: rest))) : W p l e (rmv d) s m args below meth c H locs 0 0 Q (F0 m pc ls (.ref (g.2.2 (a, b, k)) :: rest)) := by
  obtain ⟨q, -, hq⟩ := x_at (g := g) (t := t) hk
  rw [hc] at hq
  exact va_get (D := g.1) (ref := ref) X.1.1 X.1.2.1 X.1.2.2.2.2 (fun w h => List.mem_cons_of_mem _ (hin w h)) X.1.2.2.2.1 X.2.2.2.1.1 hP q hq hcl j hj (by rw [hT]; exact X.1.2.2.2.2 _ (List.mem_cons_of_mem _ hl)) (fun x h => by rw [hT] at h ⊢; exact h) hv hdg kk
theorem x_getN {C ref nm ds host : String} {T : u_T} {N ci a b k : Nat} {fs : List Value} {v : Value} (X : XC p m meth c cc nL s args cw own ret sh g) (hP : XP sh g t H) (hin : ∀ w ∈ u_ws C T N, w ∈ gw) (hcl : vwCl[ci]? = some (C, T, N)) (hk : (a, b, k) ∈ sh.2) (hc : x_ct sh g t (a, b, k) = .inr (ci, fs)) (j : Nat) (hj : j < N) (hT : T j = (ref, nm, ds, (T j).2.2.2)) (hv : fs[j]? = some v) (hl : Cond.fieldLinkNest own index ref nm ds host ∈ nw) (hdg : decode cc pc = .ok (.getfield index, 3))
    (kk : W p l e (rmv d) s m args below meth c H locs 0 0 Q (F0 m (pc + 3) ls (v :: rest))) : W p l e (rmv d) s m args below meth c H locs 0 0 Q (F0 m pc ls (.ref (g.2.2 (a, b, k)) :: rest)) := by
  obtain ⟨q, -, hq⟩ := x_at (g := g) (t := t) hk
  rw [hc] at hq
  exact va_getN (D := g.1) (ref := ref) X.1.1 X.1.2.1 X.1.2.2.2.2 (fun w h => List.mem_cons_of_mem _ (hin w h)) X.1.2.2.2.1 X.2.2.2.1.1 hP q hq hcl j hj (by rw [hT]; exact va_Nw.use rfl (X.2.2.2.1.2 _ hl)) (fun x h => by rw [hT] at h ⊢; exact h) hv hdg kk
theorem x_upd {k : Ky} {q : Nat} {e' : va_E} {t' : Mm} {H1 : Heap} (hG : XG sh g) (hq : sh.2[q]? = some k) (he : x_ct sh g t' k = e') (ho : ∀ k' : Ky, k' ≠ k → x_ct sh g t' k' = x_ct sh g t k') (hP : va_P g.1 vwCl ((x_ws sh g t).set q (g.2.2 k, e')) H1) : XP sh g t' H1 := by
  rw [x_set hG.1 hq he ho] at hP
  exact hP
theorem x_put {C ref nm ds : String} {T : u_T} {N ci a b k : Nat} {fs : List Value} {x : Int32} {ty : FieldType} {ty0 : Nat → FieldType} (X : XC p m meth c cc nL s args cw own ret sh g) (hP : XP sh g t H) (hS : va_S (XA sh g) s.heap H locs) (hin : ∀ w ∈ u_ws C T N, w ∈ gw) (hty : ∀ k, k < N → parseFieldDescriptor (T k).2.2.1 = some (ty0 k)) (hnm : ∀ a, a < N → ∀ b, b < N → a ≠ b → (T a).2.1 ≠ (T b).2.1) (hcl : vwCl[ci]? = some (C, T, N)) (hk : (a, b, k) ∈ sh.2) (hc : x_ct sh g t (a, b, k) = .inr (ci, fs)) (j : Nat) (hj : j < N) (hT : T j = (ref, nm, ds, false)) (hty0 : ty0 j = ty) (hc2 : sh.1 g a b k (upd (t.1 a b k) j x) (t.2 b) = .inr (ci, fs.set j (.int x))) (hlen : j < fs.length) (hn : narrow ty (.int x) = .int x) (hfit : fits ty (.int x) = true) (hl : Cond.fieldLink own index ref nm ds ∈ gw) (hdg : decode cc pc = .ok (.putfield index, 3))
    (kk : ∀ (H1 : Heap) (locs1 : List Loc), XP sh g (sI t a b k j x) H1 → va_S (XA sh g) s.heap H1 locs1 → W p l e (rmv d) s m args below meth c H1 locs1 0 0 Q (F0 m (pc + 3) ls rest)) : W p l e (rmv d) s m args below meth c H locs 0 0 Q (F0 m pc ls (.int x :: .ref (g.2.2 (a, b, k)) :: rest)) := by
  obtain ⟨q, hq0, hq⟩ := x_at (g := g) (t := t) hk
  rw [hc] at hq
  refine va_put (D := g.1) (ref := ref) (ty := ty) X.1.1 X.1.2.1 X.1.2.2.2.2 (fun w h => List.mem_cons_of_mem _ (hin w h)) ty0 hty hnm X.1.2.2.2.1 X.2.2.2.1.1 hP (x_D X.2.2.2.2.1.1 X.2.2.2.2.1.2) hS q hq hcl j hj (by rw [hT]; exact X.1.2.2.2.2 _ (List.mem_cons_of_mem _ hl)) (fun x h => by rw [hT] at h ⊢; exact h) (by rw [hT]) (by rw [hty j hj, hty0]) hn hfit hlen hdg (fun H1 locs1 hP1 _ hS1 => kk H1 locs1 ?_ hS1)
  exact x_upd X.2.2.2.2.1 hq0 (by rw [sI, x_ct_sR]; exact hc2) (fun k' hk' => by rw [sI, x_ct_sR_ne hk']) hP1
theorem x_putN {C ref nm ds host : String} {T : u_T} {N ci a b k : Nat} {fs : List Value} {x : Int32} {ty : FieldType} {ty0 : Nat → FieldType} (X : XC p m meth c cc nL s args cw own ret sh g) (hP : XP sh g t H) (hS : va_S (XA sh g) s.heap H locs) (hin : ∀ w ∈ u_ws C T N, w ∈ gw) (hty : ∀ k, k < N → parseFieldDescriptor (T k).2.2.1 = some (ty0 k)) (hnm : ∀ a, a < N → ∀ b, b < N → a ≠ b → (T a).2.1 ≠ (T b).2.1) (hcl : vwCl[ci]? = some (C, T, N)) (hk : (a, b, k) ∈ sh.2) (hc : x_ct sh g t (a, b, k) = .inr (ci, fs)) (j : Nat) (hj : j < N) (hT : T j = (ref, nm, ds, false)) (hty0 : ty0 j = ty) (hc2 : sh.1 g a b k (upd (t.1 a b k) j x) (t.2 b) = .inr (ci, fs.set j (.int x))) (hlen : j < fs.length) (hn : narrow ty (.int x) = .int x) (hfit : fits ty (.int x) = true) (hl : Cond.fieldLinkNest own index ref nm ds host ∈ nw) (hdg : decode cc pc = .ok (.putfield index, 3))
    (kk : ∀ (H1 : Heap) (locs1 : List Loc), XP sh g (sI t a b k j x) H1 → va_S (XA sh g) s.heap H1 locs1 → W p l e (rmv d) s m args below meth c H1 locs1 0 0 Q (F0 m (pc + 3) ls rest)) : W p l e (rmv d) s m args below meth c H locs 0 0 Q (F0 m pc ls (.int x :: .ref (g.2.2 (a, b, k)) :: rest)) := by
  obtain ⟨q, hq0, hq⟩ := x_at (g := g) (t := t) hk
  rw [hc] at hq
  refine va_putN (D := g.1) (ref := ref) (ty := ty) X.1.1 X.1.2.1 X.1.2.2.2.2 (fun w h => List.mem_cons_of_mem _ (hin w h)) ty0 hty hnm X.1.2.2.2.1 X.2.2.2.1.1 hP (x_D X.2.2.2.2.1.1 X.2.2.2.2.1.2) hS q hq hcl j hj (by rw [hT]; exact va_Nw.use rfl (X.2.2.2.1.2 _ hl)) (fun x h => by rw [hT] at h ⊢; exact h) (by rw [hT]) (by rw [hty j hj, hty0]) hn hfit hlen hdg (fun H1 locs1 hP1 _ hS1 => kk H1 locs1 ?_ hS1)
  exact x_upd X.2.2.2.2.1 hq0 (by rw [sI, x_ct_sR]; exact hc2) (fun k' hk' => by rw [sI, x_ct_sR_ne hk']) hP1
theorem x_iald {a b k n : Nat} {i : Int32} (X : XC p m meth c cc nL s args cw own ret sh g) (hP : XP sh g t H) (hk : (a, b, k) ∈ sh.2) (hc : ∀ f h, sh.1 g a b k f h = .inl (g.2.1 0, n, .inl f)) (hi : o_inb i n = true) (hdg : decode cc pc = .ok (.iaload, 1))
    (kk : W p l e (rmv d) s m args below meth c H locs 0 0 Q (F0 m (pc + 1) ls (.int (t.1 a b k i.toNatClampNeg) :: rest))) : W p l e (rmv d) s m args below meth c H locs 0 0 Q (F0 m pc ls (.int i :: .ref (g.2.2 (a, b, k)) :: rest)) := by
  obtain ⟨q, -, hq⟩ := x_at (g := g) (t := t) hk
  rw [show x_ct sh g t (a, b, k) = .inl (g.2.1 0, n, .inl (t.1 a b k)) from hc _ _] at hq
  exact va_iald (D := g.1) X.1.1 X.1.2.1 X.2.2.2.1.1 hP q 0 hq rfl (o_inb_in hi) hdg kk
theorem x_iast {a b k n : Nat} {i x : Int32} (X : XC p m meth c cc nL s args cw own ret sh g) (hP : XP sh g t H) (hS : va_S (XA sh g) s.heap H locs) (hk : (a, b, k) ∈ sh.2) (hc : ∀ f h, sh.1 g a b k f h = .inl (g.2.1 0, n, .inl f)) (hi : o_inb i n = true) (hdg : decode cc pc = .ok (.iastore, 1))
    (kk : ∀ (H1 : Heap) (locs1 : List Loc), XP sh g (sI t a b k i.toNatClampNeg x) H1 → va_S (XA sh g) s.heap H1 locs1 → W p l e (rmv d) s m args below meth c H1 locs1 0 0 Q (F0 m (pc + 1) ls rest)) : W p l e (rmv d) s m args below meth c H locs 0 0 Q (F0 m pc ls (.int x :: .int i :: .ref (g.2.2 (a, b, k)) :: rest)) := by
  obtain ⟨q, hq0, hq⟩ := x_at (g := g) (t := t) hk
  rw [show x_ct sh g t (a, b, k) = .inl (g.2.1 0, n, .inl (t.1 a b k)) from hc _ _] at hq
  refine va_iast (D := g.1) X.1.1 X.1.2.1 X.2.2.2.1.1 hP (x_D X.2.2.2.2.1.1 X.2.2.2.2.1.2) hS q 0 hq rfl (o_inb_in hi) hdg (fun H1 locs1 hP1 _ hS1 => kk H1 locs1 ?_ hS1)
  exact x_upd X.2.2.2.2.1 hq0 (by rw [sI, x_ct_sR, hc]) (fun k' hk' => by rw [sI, x_ct_sR_ne hk']) hP1
theorem x_cald {a b k n : Nat} {i : Int32} (X : XC p m meth c cc nL s args cw own ret sh g) (hP : XP sh g t H) (hk : (a, b, k) ∈ sh.2) (hc : ∀ f h, sh.1 g a b k f h = .inl (g.2.1 1, n, .inl f)) (hi : o_inb i n = true) (hdg : decode cc pc = .ok (.caload, 1))
    (kk : W p l e (rmv d) s m args below meth c H locs 0 0 Q (F0 m (pc + 1) ls (.int (t.1 a b k i.toNatClampNeg) :: rest))) : W p l e (rmv d) s m args below meth c H locs 0 0 Q (F0 m pc ls (.int i :: .ref (g.2.2 (a, b, k)) :: rest)) := by
  obtain ⟨q, -, hq⟩ := x_at (g := g) (t := t) hk
  rw [show x_ct sh g t (a, b, k) = .inl (g.2.1 1, n, .inl (t.1 a b k)) from hc _ _] at hq
  exact va_cald (D := g.1) X.1.1 X.1.2.1 X.2.2.2.1.1 hP q 1 hq rfl (o_inb_in hi) hdg kk
theorem x_cast {a b k n : Nat} {i x : Int32} (X : XC p m meth c cc nL s args cw own ret sh g) (hP : XP sh g t H) (hS : va_S (XA sh g) s.heap H locs) (hk : (a, b, k) ∈ sh.2) (hc : ∀ f h, sh.1 g a b k f h = .inl (g.2.1 1, n, .inl f)) (hi : o_inb i n = true) (hdg : decode cc pc = .ok (.castore, 1))
    (kk : ∀ (H1 : Heap) (locs1 : List Loc), XP sh g (sI t a b k i.toNatClampNeg (vp_nar .char x)) H1 → va_S (XA sh g) s.heap H1 locs1 → W p l e (rmv d) s m args below meth c H1 locs1 0 0 Q (F0 m (pc + 1) ls rest)) : W p l e (rmv d) s m args below meth c H locs 0 0 Q (F0 m pc ls (.int x :: .int i :: .ref (g.2.2 (a, b, k)) :: rest)) := by
  obtain ⟨q, hq0, hq⟩ := x_at (g := g) (t := t) hk
  rw [show x_ct sh g t (a, b, k) = .inl (g.2.1 1, n, .inl (t.1 a b k)) from hc _ _] at hq
  refine va_cast (D := g.1) X.1.1 X.1.2.1 X.2.2.2.1.1 hP (x_D X.2.2.2.2.1.1 X.2.2.2.2.1.2) hS q 1 hq rfl (o_inb_in hi) hdg (fun H1 locs1 hP1 _ hS1 => kk H1 locs1 ?_ hS1)
  exact x_upd X.2.2.2.2.1 hq0 (by rw [sI, x_ct_sR, hc]) (fun k' hk' => by rw [sI, x_ct_sR_ne hk']) hP1
theorem x_ct_sL {b : Nat} {f : Nat → Int64} {a k : Nat} : x_ct sh g (sL t b f) (a, b, k) = sh.1 g a b k (t.1 a b k) f := by simp [x_ct, sL]
theorem x_ct_sL_ne {b a k : Nat} {f : Nat → Int64} (hL : ∀ g a' b' k' f' h h', ¬ (a' = a ∧ k' = k) → sh.1 g a' b' k' f' h = sh.1 g a' b' k' f' h') {k' : Ky} (h : k' ≠ (a, b, k)) : x_ct sh g (sL t b f) k' = x_ct sh g t k' := by
  obtain ⟨x, y, z⟩ := k'
  by_cases h1 : y = b
  · subst h1
    refine hL _ _ _ _ _ _ _ (fun ⟨h2, h3⟩ => h ?_)
    have h2 : x = a := h2
    have h3 : z = k := h3
    rw [h2, h3]
  · simp [x_ct, sL, h1]
theorem x_lald {a b k n : Nat} {i : Int32} (X : XC p m meth c cc nL s args cw own ret sh g) (hP : XP sh g t H) (hk : (a, b, k) ∈ sh.2) (hc : ∀ f h, sh.1 g a b k f h = .inl (g.2.1 2, n, .inr (.inl h))) (hi : o_inb i n = true) (hdg : decode cc pc = .ok (.laload, 1))
    (kk : W p l e (rmv d) s m args below meth c H locs 0 0 Q (F0 m (pc + 1) ls (.long (t.2 b i.toNatClampNeg) :: rest))) : W p l e (rmv d) s m args below meth c H locs 0 0 Q (F0 m pc ls (.int i :: .ref (g.2.2 (a, b, k)) :: rest)) := by
  obtain ⟨q, -, hq⟩ := x_at (g := g) (t := t) hk
  rw [show x_ct sh g t (a, b, k) = .inl (g.2.1 2, n, .inr (.inl (t.2 b))) from hc _ _] at hq
  exact va_lald (D := g.1) X.1.1 X.1.2.1 X.2.2.2.1.1 hP q 2 hq rfl (o_inb_in hi) hdg kk
theorem x_last {a b k n : Nat} {i : Int32} {x : Int64} (X : XC p m meth c cc nL s args cw own ret sh g) (hP : XP sh g t H) (hS : va_S (XA sh g) s.heap H locs) (hk : (a, b, k) ∈ sh.2) (hc : ∀ f h, sh.1 g a b k f h = .inl (g.2.1 2, n, .inr (.inl h))) (hL : ∀ g a' b' k' f' h h', ¬ (a' = a ∧ k' = k) → sh.1 g a' b' k' f' h = sh.1 g a' b' k' f' h') (hi : o_inb i n = true) (hdg : decode cc pc = .ok (.lastore, 1))
    (kk : ∀ (H1 : Heap) (locs1 : List Loc), XP sh g (sJ t b i.toNatClampNeg x) H1 → va_S (XA sh g) s.heap H1 locs1 → W p l e (rmv d) s m args below meth c H1 locs1 0 0 Q (F0 m (pc + 1) ls rest)) : W p l e (rmv d) s m args below meth c H locs 0 0 Q (F0 m pc ls (.long x :: .int i :: .ref (g.2.2 (a, b, k)) :: rest)) := by
  obtain ⟨q, hq0, hq⟩ := x_at (g := g) (t := t) hk
  rw [show x_ct sh g t (a, b, k) = .inl (g.2.1 2, n, .inr (.inl (t.2 b))) from hc _ _] at hq
  refine va_last (D := g.1) X.1.1 X.1.2.1 X.2.2.2.1.1 hP (x_D X.2.2.2.2.1.1 X.2.2.2.2.1.2) hS q 2 hq rfl (o_inb_in hi) hdg (fun H1 locs1 hP1 _ hS1 => kk H1 locs1 ?_ hS1)
  exact x_upd X.2.2.2.2.1 hq0 (by rw [sJ, x_ct_sL, hc]) (fun k' hk' => by rw [sJ, x_ct_sL_ne hL hk']) hP1
theorem x_aald {C : String} {a b k n ti : Nat} {i : Int32} {f : Nat → Option Nat} {z : Nat} (X : XC p m meth c cc nL s args cw own ret sh g) (hP : XP sh g t H) (hk : (a, b, k) ∈ sh.2) (ht : (x_tys g.2.1)[ti]? = some (g.2.1 ti, .object C)) (hc : x_ct sh g t (a, b, k) = .inl (g.2.1 ti, n, .inr (.inr (.inr (.inr f))))) (hi : o_inb i n = true) (hz : f i.toNatClampNeg = some z) (hdg : decode cc pc = .ok (.aaload, 1))
    (kk : W p l e (rmv d) s m args below meth c H locs 0 0 Q (F0 m (pc + 1) ls (.ref z :: rest))) : W p l e (rmv d) s m args below meth c H locs 0 0 Q (F0 m pc ls (.int i :: .ref (g.2.2 (a, b, k)) :: rest)) := by
  obtain ⟨q, -, hq⟩ := x_at (g := g) (t := t) hk
  rw [hc] at hq
  exact va_aldq (D := g.1) X.1.1 X.1.2.1 X.2.2.2.1.1 hP q ti hq ht (o_inb_in hi) hdg (by rw [hz]; exact kk)
end XR
