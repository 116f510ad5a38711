/-! constructors: the cells that they make lie one behind the other from sz on; f tells what the k-th of n holds -/
def CP (D : va_G) (sz n : Nat) (f : Nat → va_E) (H : Heap) : Prop := H.size = sz + n ∧ ∀ k, k < n → va_at D vwCl (sz + k, f k) H
def CA (sz : Nat) : Nat → Prop := fun q => sz ≤ q
def rmc (d mc ms : Nat) : Room := { frames := d, cells := mc, slots := ms, locals := 40 * d }
abbrev YK (D : va_G) (cA : Nat → ClassId) (U : State) : Prop := va_K D vwCl (x_tys cA) U ∧ va_AO "FordQuestions$Ford" U ∧ va_AO "FordQuestions$Sheet" U
abbrev YC (p : Program) (m : MethodId) (meth : Method) (c : Code) (cc : ByteArray) (nL : Nat) (s : State) (args : Array Value) (cw : Cond) (own : String) (D : va_G) (cA : Nat → ClassId) : Prop :=
  CallFix p m c cc nL s args (cw :: gw) own ∧ meth.sig.returnType = none ∧ meth.locks = false ∧ YK D cA s ∧ meth.name = "<init>"
def MC (l : Launch) (y : MethodName) (cc : ByteArray) (maxL d mc ms : Nat) (D : va_G) (cA : Nat → ClassId) (sz n : Nat) (f : Nat → va_E) (as : List Value) (P : Nat → (Nat → va_E) → Prop) : Prop :=
  Met l y (.code y cc maxL none :: gw) (rmc d mc ms) (va_Pc as (fun U => CP D sz n f U.heap ∧ YK D cA U)) (va_Qv (fun u : Nat × (Nat → va_E) => P u.1 u.2) (fun u T => CP D sz u.1 u.2 T.heap) (CA sz)) mc ms (CA sz)
theorem y_met {l : Launch} {y : MethodName} {cc : ByteArray} {maxL d mc ms : Nat} {D : va_G} {cA : Nat → ClassId} {sz n : Nat} {f : Nat → va_E} {as : List Value} {P : Nat → (Nat → va_E) → Prop} (hy : plainName y.cls = true) (hin : y.name = "<init>") (hn : (lg_sl as).length ≤ maxL)
    (body : ∀ (p : Program) (e : Env) (s : State) (m : MethodId) (below : List Frame) (meth : Method) (c : Code) (ls : Array Slot) (args : Array Value), YC p m meth c cc maxL s args (.code y cc maxL none) y.cls D cA → CP D sz n f s.heap → lv_has ls maxL (lv_args 0 as) →
      W p l e (rmc d mc ms) s m args below meth c s.heap [] 0 0 (MQ below (va_Qv (fun u : Nat × (Nat → va_E) => P u.1 u.2) (fun u T => CP D sz u.1 u.2 T.heap) (CA sz)) args s mc ms (CA sz)) (F0 m 0 ls [])) : MC l y cc maxL d mc ms D cA sz n f as P := by
  refine Met.ofW (cc := cc) (maxL := maxL) (ret := none) hy rfl ?_
  intro p e s m args below meth c s₁ B hml hv
  obtain ⟨rfl, hP, hK⟩ := hv
  have hl := lv_entry as (n := maxL) hn
  rw [lg_entry_eq]
  exact body p e s m below meth c _ _ ⟨⟨B.exec, B.bytes, hml, findClass_of_methodNamed B.named, atoms_spec (ws := .code y cc maxL none :: gw) B.pre⟩, B.returns, B.notSynchronized, hK, by rw [← hin]; exact (name_of_methodNamed B.named B.method).1⟩ hP hl
section YR
variable {p : Program} {l : Launch} {e : Env} {d mc0 ms0 : Nat} {s : State} {m : MethodId} {args : Array Value} {below : List Frame} {meth : Method} {c : Code} {H : Heap} {locs : List Loc} {cells slots : Nat} {Q : State → Prop}
variable {cc : ByteArray} {nL pc : Nat} {ls : Array Slot} {rest : List Value} {cw : Cond} {own : String} {D : va_G} {cA : Nat → ClassId} {index sz n : Nat} {f : Nat → va_E}
theorem y_up {k : Nat} {x : va_E} {H1 : Heap} (hP : CP D sz n f H) (hx : va_at D vwCl (sz + k, x) H1) (z : H1.size = H.size) (oq : ∀ q : Nat, q ≠ sz + k → H1[q]? = H[q]?) : CP D sz n (va_up f k x) H1 := by
  refine ⟨z.trans hP.1, fun j hj => ?_⟩
  by_cases h : j = k
  · subst h
    simpa [va_up] using hx
  · have h2 := (hP.2 j hj).kept (H1 := H1) (oq (sz + j) (by omega))
    simpa [va_up, h] using h2
theorem y_push {x : va_E} {H1 : Heap} (hP : CP D sz n f H) (hx : va_at D vwCl (sz + n, x) H1) (z : H1.size = H.size + 1) (oq : ∀ q : Nat, q < H.size → H1[q]? = H[q]?) : CP D sz (n + 1) (va_up f n x) H1 := by
  refine ⟨by rw [z, hP.1]; omega, fun j hj => ?_⟩
  by_cases h : j = n
  · subst h
    simpa [va_up] using hx
  · have h2 := (hP.2 j (by omega)).kept (H1 := H1) (oq (sz + j) (by rw [hP.1]; omega))
    simpa [va_up, h] using h2
theorem y_new {C : String} {T : u_T} {N ci : Nat} {ty : Nat → FieldType} {fs : List Value} (Y : YC p m meth c cc nL s args cw own D cA) (hP : CP D sz n f H) (hS : va_S (CA sz) s.heap H locs) (hin : ∀ w ∈ u_ws C T N, w ∈ gw) (hty : ∀ k, k < N → parseFieldDescriptor (T k).2.2.1 = some (ty k)) (hcl : vwCl[ci]? = some (C, T, N)) (hfs : ∀ j, j < N → defaultValue (ty j) = vp_V fs j) (hw : Cond.classLink own index C ∈ gw ∧ Cond.instantiable C N ∈ gw ∧ Cond.initialized C ∈ gw) (hcells : cells + 1 ≤ mc0) (hslots : slots + N ≤ ms0) (hdg : decode cc pc = .ok (.new index, 3))
    (kk : ∀ H1 : Heap, CP D sz (n + 1) (va_up f n (.inr (ci, fs))) H1 → va_S (CA sz) s.heap H1 locs → W p l e (rmc d mc0 ms0) s m args below meth c H1 locs (cells + 1) (slots + N) Q (F0 m (pc + 3) ls (.ref (sz + n) :: rest))) : W p l e (rmc d mc0 ms0) s m args below meth c H locs cells slots Q (F0 m pc ls rest) := by
  have ok : ∀ w ∈ gw, w.before args s = true := fun w h => Y.1.2.2.2.2 w (List.mem_cons_of_mem _ h)
  have hKn := Y.2.2.2.1.1.1 ci _ hcl
  refine W.newcK Y.1.1 Y.1.2.1 Y.1.2.2.2.1 (ok _ hw.1) (ok _ hw.2.1) (ok _ hw.2.2) rfl hdg hcells hslots hKn.2.1 hP.1 fun H1 kC hkC e1 z1 o1 => ?_
  have o1 : ∀ q : Nat, q < H.size → H1[q]? = H[q]? := fun q hq => o1 q (by rw [← hP.1]; exact hq)
  have z1 : H1.size = H.size + 1 := by rw [z1, hP.1]
  refine kk H1 (y_push hP ⟨_, hcl, (u_born ty ok hin hKn hkC e1 hty).to hfs⟩ z1 o1) ⟨Nat.le_trans hS.1 (by omega), fun x h1 h2 => (o1 x (Nat.lt_of_lt_of_le h1 hS.1)).trans (hS.2.1 x h1 h2), hS.2.2⟩
theorem y_newa {atype : ArrayType} {ti : Nat} {k : Int32} {N' : Nat} {a0 : vp_A} (Y : YC p m meth c cc nL s args cw own D cA) (hP : CP D sz n f H) (hS : va_S (CA sz) s.heap H locs) (hti : (x_tys cA)[ti]? = some (cA ti, newarray.typeOf atype)) (hra : va_RA s (cA ti) (newarray.typeOf atype) = (s.vm.findClass ("[" ++ (newarray.typeOf atype).toString) = some (cA ti))) (hw : Cond.arrayClass (newarray.typeOf atype) ∈ gw) (ha : ∀ cA : ClassId, vp_cell cA a0 = arrV cA N' (fun _ => defaultValue (newarray.typeOf atype))) (hn : ¬ k < 0) (hN : k.toNatClampNeg = N') (hbytes : N' * componentBytes (newarray.typeOf atype) ≤ 536870912) (hcells : cells + 1 ≤ mc0) (hslots : slots + N' ≤ ms0) (hdg : decode cc pc = .ok (.newarray atype, 2))
    (kk : ∀ H1 : Heap, CP D sz (n + 1) (va_up f n (.inl (cA ti, a0))) H1 → va_S (CA sz) s.heap H1 locs → W p l e (rmc d mc0 ms0) s m args below meth c H1 locs (cells + 1) (slots + N') Q (F0 m (pc + 2) ls (.ref (sz + n) :: rest))) : W p l e (rmc d mc0 ms0) s m args below meth c H locs cells slots Q (F0 m pc ls (.int k :: rest)) := by
  have ok : ∀ w ∈ gw, w.before args s = true := fun w h => Y.1.2.2.2.2 w (List.mem_cons_of_mem _ h)
  refine va_newaK Y.1.1 Y.1.2.1 (ok _ hw) rfl hdg rfl hn hN hbytes hcells hslots hP.1 fun H1 cB e1 z1 o1 hAr hNm => ?_
  have hc : cB = cA ti := by
    have h1 := (Y.2.2.2.1.1.2 ti _ hti).2
    rw [hra] at h1
    exact Option.some.inj (hNm.symm.trans h1)
  subst hc
  have o1 : ∀ q : Nat, q < H.size → H1[q]? = H[q]? := fun q hq => o1 q (by rw [← hP.1]; exact hq)
  have z1 : H1.size = H.size + 1 := by rw [z1, hP.1]
  refine kk H1 (y_push hP (show H1[sz + n]? = some (vp_cell _ _) by rw [e1, ha]) z1 o1) ⟨Nat.le_trans hS.1 (by omega), fun x h1 h2 => (o1 x (Nat.lt_of_lt_of_le h1 hS.1)).trans (hS.2.1 x h1 h2), hS.2.2⟩
theorem y_anew {C : String} {ti : Nat} {k : Int32} {N' : Nat} (Y : YC p m meth c cc nL s args cw own D cA) (hP : CP D sz n f H) (hS : va_S (CA sz) s.heap H locs) (hti : (x_tys cA)[ti]? = some (cA ti, .object C)) (hao : va_AO C s) (hw : Cond.classLink own index C ∈ gw) (hn : ¬ k < 0) (hN : k.toNatClampNeg = N') (hbytes : N' * 4 ≤ 536870912) (hcells : cells + 1 ≤ mc0) (hslots : slots + N' ≤ ms0) (hdg : decode cc pc = .ok (.anewarray index, 3))
    (kk : ∀ H1 : Heap, CP D sz (n + 1) (va_up f n (.inl (cA ti, N', .inr (.inr (.inr (.inr (fun _ => none))))))) H1 → va_S (CA sz) s.heap H1 locs → W p l e (rmc d mc0 ms0) s m args below meth c H1 locs (cells + 1) (slots + N') Q (F0 m (pc + 3) ls (.ref (sz + n) :: rest))) : W p l e (rmc d mc0 ms0) s m args below meth c H locs cells slots Q (F0 m pc ls (.int k :: rest)) := by
  have ok : ∀ w ∈ gw, w.before args s = true := fun w h => Y.1.2.2.2.2 w (List.mem_cons_of_mem _ h)
  subst hN
  refine W.anew Y.1.1 Y.1.2.1 Y.1.2.2.2.1 (ok _ hw) (va_AO.use hao) rfl hdg rfl hn hbytes hcells hslots fun cB kA comp f1 f2 f3 f4 => ?_
  have hc : cB = cA ti := by
    obtain ⟨kA', comp', h1, h2, h3, h4⟩ := (Y.2.2.2.1.1.2 ti _ hti).2
    exact Option.some.inj (f1.symm.trans h4)
  subst hc
  generalize hH1 : H.push ({ cls := cA ti, slots := Array.replicate k.toNatClampNeg .null, vm := .none } : Cell) = H1
  have z1 : H1.size = H.size + 1 := by rw [← hH1, Array.size_push]
  have e1 : H1[H.size]? = some (arrV (cA ti) k.toNatClampNeg (fun _ => .null)) := by rw [← hH1, Array.getElem?_push_size, ← arrV_new]
  have o1 : ∀ q : Nat, q < H.size → H1[q]? = H[q]? := fun q hq => by rw [← hH1, Array.getElem?_push, if_neg (Nat.ne_of_lt hq)]
  have hh : H.size = sz + n := hP.1
  have k2 := kk H1 (y_push hP (show H1[sz + n]? = some (vp_cell _ _) by rw [← hh, e1, vp_cell_q]; rfl) z1 o1) ⟨Nat.le_trans hS.1 (by omega), fun x h1 h2 => (o1 x (Nat.lt_of_lt_of_le h1 hS.1)).trans (hS.2.1 x h1 h2), hS.2.2⟩
  rw [← hh] at k2
  exact k2
theorem y_get {C ref nm ds : String} {T : u_T} {N ci k : Nat} {fs : List Value} {v : Value} (Y : YC p m meth c cc nL s args cw own D cA) (hP : CP D sz n f H) (hin : ∀ w ∈ u_ws C T N, w ∈ gw) (hcl : vwCl[ci]? = some (C, T, N)) (hk : k < n) (hc : f k = .inr (ci, fs)) (j : Nat) (hj : j < N) (hT : T j = (ref, nm, ds, (T j).2.2.2)) (hv : fs[j]? = some v) (hl : Cond.fieldLink own index ref nm ds ∈ gw) (hdg : decode cc pc = .ok (.getfield index, 3))
    (kk : W p l e (rmc d mc0 ms0) s m args below meth c H locs cells slots Q (F0 m (pc + 3) ls (v :: rest))) : W p l e (rmc d mc0 ms0) s m args below meth c H locs cells slots Q (F0 m pc ls (.ref (sz + k) :: rest)) := by
  have hq : va_P D vwCl [(sz + k, .inr (ci, fs))] H := by
    intro i q hi
    cases i with
    | zero => cases hi; have := hP.2 k hk; rw [hc] at this; exact this
    | succ i => simp at hi
  exact va_get (D := D) (ref := ref) Y.1.1 Y.1.2.1 Y.1.2.2.2.2 (fun w h => List.mem_cons_of_mem _ (hin w h)) Y.1.2.2.2.1 Y.2.2.2.1.1 hq 0 rfl hcl j hj (by rw [hT]; exact Y.1.2.2.2.2 _ (List.mem_cons_of_mem _ hl)) (fun x h => by rw [hT] at h ⊢; exact h) hv hdg kk
theorem y_putF {C : String} {nm ds : String} {T : u_T} {N ci k : Nat} {fs : List Value} {v : Value} {ty : FieldType} {ty0 : Nat → FieldType} (Y : YC p m meth c cc nL s args cw C D cA) (hP : CP D sz n f H) (hS : va_S (CA sz) s.heap H locs) (hin : ∀ w ∈ u_ws C T N, w ∈ gw) (hty : ∀ k, k < N → parseFieldDescriptor (T k).2.2.1 = some (ty0 k)) (hnm : ∀ a, a < N → ∀ b, b < N → a ≠ b → (T a).2.1 ≠ (T b).2.1) (hcl : vwCl[ci]? = some (C, T, N)) (hk : k < n) (hc : f k = .inr (ci, fs)) (j : Nat) (hj : j < N) (hT : T j = (C, nm, ds, true)) (hty0 : ty0 j = ty) (hlen : j < fs.length) (hn : narrow ty v = v) (hfit : fits ty v = true) (hl : Cond.fieldLink C index C nm ds ∈ gw) (hdg : decode cc pc = .ok (.putfield index, 3))
    (kk : ∀ (H1 : Heap) (locs1 : List Loc), CP D sz n (va_up f k (.inr (ci, fs.set j v))) H1 → va_S (CA sz) s.heap H1 locs1 → W p l e (rmc d mc0 ms0) s m args below meth c H1 locs1 cells slots Q (F0 m (pc + 3) ls rest)) : W p l e (rmc d mc0 ms0) s m args below meth c H locs cells slots Q (F0 m pc ls (v :: .ref (sz + k) :: rest)) := by
  have ok : ∀ w ∈ gw, w.before args s = true := fun w h => Y.1.2.2.2.2 w (List.mem_cons_of_mem _ h)
  have hap := va_apart (own := C) ok hin ty0 hty hnm Y.2.2.2.1.1 hcl
  have hq := hP.2 k hk
  rw [hc] at hq
  obtain ⟨r, h1, cell, q1, q2, q3, q4⟩ := hq
  have hr : r = (C, T, N) := Option.some.inj (h1.symm.trans hcl)
  subst hr
  obtain ⟨hS', hfc, kC, hkC, hkind⟩ := Y.2.2.2.1.1.1 ci _ hcl
  obtain ⟨cf, kf, fi, f', hi, hsl⟩ := hS' j hj
  have hi2 : s.fieldFound? C nm ds = some (cf, kf, fi, f') := by
    have h2 : s.fieldFound? (T j).1 (T j).2.1 (T j).2.2.1 = some (cf, kf, fi, f') := hi
    rw [hT] at h2
    exact h2
  have hlay := ok _ (hin _ (u_in_lay hj))
  unfold u_lay at hlay
  rw [if_pos (by rw [hT])] at hlay
  have hst := (u_facts hfc hkC (u_lays ok hin hj) hi).1
  have hcf : m.cls = cf := by
    obtain ⟨_, _, c', _, _, _, -, -, hf', -, -, -, hown2, -⟩ := Cond.laysFinal_spec hlay
    have e1 : c' = cf := by have := hi.symm.trans hf'; simp at this; exact this.1.symm
    rw [hT] at hown2
    rw [← e1]; exact Option.some.inj (Y.1.2.2.2.1.symm.trans hown2)
  have h6 := u_fits hfc hkC hkind (Or.inr hlay) hi (by rw [hty j hj, hty0]) hn hfit
  refine W.putFinK Y.1.1 Y.1.2.1 Y.1.2.2.2.1 (ok _ hl) hi2 hst hcf Y.2.2.2.2 (by rw [q2]; exact h6) q1 q3 (by rw [hsl]; exact k2_hasslot (q4 j hj)) rfl rfl hdg fun H' e1 e2 e3 => ?_
  rw [hsl] at e1 ⊢
  exact kk H' _ (y_up hP ⟨_, hcl, t_OB.to (V := updV (vp_V fs) j v) ⟨_, e1, q2, q3, t_set q4 hap hj v⟩ (fun i _ => vp_updV_set hlen v i)⟩ e2 e3) (hS.put e2 e3 (Nat.le_add_right sz k))
theorem y_put {C : String} {nm ds : String} {T : u_T} {N ci k : Nat} {fs : List Value} {v : Value} {ty : FieldType} {ty0 : Nat → FieldType} (Y : YC p m meth c cc nL s args cw C D cA) (hP : CP D sz n f H) (hS : va_S (CA sz) s.heap H locs) (hin : ∀ w ∈ u_ws C T N, w ∈ gw) (hty : ∀ k, k < N → parseFieldDescriptor (T k).2.2.1 = some (ty0 k)) (hnm : ∀ a, a < N → ∀ b, b < N → a ≠ b → (T a).2.1 ≠ (T b).2.1) (hcl : vwCl[ci]? = some (C, T, N)) (hk : k < n) (hc : f k = .inr (ci, fs)) (j : Nat) (hj : j < N) (hT : T j = (C, nm, ds, false)) (hty0 : ty0 j = ty) (hlen : j < fs.length) (hn : narrow ty v = v) (hfit : fits ty v = true) (hl : Cond.fieldLink C index C nm ds ∈ gw) (hdg : decode cc pc = .ok (.putfield index, 3))
    (kk : ∀ (H1 : Heap) (locs1 : List Loc), CP D sz n (va_up f k (.inr (ci, fs.set j v))) H1 → va_S (CA sz) s.heap H1 locs1 → W p l e (rmc d mc0 ms0) s m args below meth c H1 locs1 cells slots Q (F0 m (pc + 3) ls rest)) : W p l e (rmc d mc0 ms0) s m args below meth c H locs cells slots Q (F0 m pc ls (v :: .ref (sz + k) :: rest)) := by
  have ok : ∀ w ∈ gw, w.before args s = true := fun w h => Y.1.2.2.2.2 w (List.mem_cons_of_mem _ h)
  have hap := va_apart (own := C) ok hin ty0 hty hnm Y.2.2.2.1.1 hcl
  have hq := hP.2 k hk
  rw [hc] at hq
  obtain ⟨r, h1, cell, q1, q2, q3, q4⟩ := hq
  have hr : r = (C, T, N) := Option.some.inj (h1.symm.trans hcl)
  subst hr
  obtain ⟨hS', hfc, kC, hkC, hkind⟩ := Y.2.2.2.1.1.1 ci _ hcl
  obtain ⟨cf, kf, fi, f', hi, hsl⟩ := hS' j hj
  have hi2 : s.fieldFound? C nm ds = some (cf, kf, fi, f') := by
    have h2 : s.fieldFound? (T j).1 (T j).2.1 (T j).2.2.1 = some (cf, kf, fi, f') := hi
    rw [hT] at h2
    exact h2
  have hlay := ok _ (hin _ (u_in_lay hj))
  unfold u_lay at hlay
  rw [if_neg (by rw [hT]; exact Bool.false_ne_true)] at hlay
  have hst := (u_facts hfc hkC (u_lays ok hin hj) hi).1
  have h6 := u_store hfc hkC hkind hlay hi (by rw [hty j hj, hty0]) hn hfit
  refine W.putK Y.1.1 Y.1.2.1 (f := f') ⟨Y.1.2.2.2.1, ok _ hl, ⟨_, _, _, hi2⟩, hst⟩ (by rw [q2]; exact h6) q1 q3 (by rw [hsl]; exact k2_hasslot (q4 j hj)) rfl rfl hdg fun H' e1 e2 e3 => ?_
  rw [hsl] at e1 ⊢
  exact kk H' _ (y_up hP ⟨_, hcl, t_OB.to (V := updV (vp_V fs) j v) ⟨_, e1, q2, q3, t_set q4 hap hj v⟩ (fun i _ => vp_updV_set hlen v i)⟩ e2 e3) (hS.put e2 e3 (Nat.le_add_right sz k))
theorem y_aast {r : vw_C} {ti ka kb ci N : Nat} {vs : List Value} {g : Nat → Option Nat} {i : Int32} (Y : YC p m meth c cc nL s args cw own D cA) (hP : CP D sz n f H) (hS : va_S (CA sz) s.heap H locs) (hti : (x_tys cA)[ti]? = some (cA ti, .object r.1)) (hcl : vwCl[ci]? = some r) (hka : ka < n) (ha : f ka = .inl (cA ti, N, .inr (.inr (.inr (.inr g))))) (hkb : kb < n) (hb : f kb = .inr (ci, vs)) (hin : vp_in i N) (hdg : decode cc pc = .ok (.aastore, 1))
    (kk : ∀ (H1 : Heap) (locs1 : List Loc), CP D sz n (va_up f ka (.inl (cA ti, N, .inr (.inr (.inr (.inr (va_up g i.toNatClampNeg (some (sz + kb))))))))) H1 → va_S (CA sz) s.heap H1 locs1 → W p l e (rmc d mc0 ms0) s m args below meth c H1 locs1 cells slots Q (F0 m (pc + 1) ls rest)) : W p l e (rmc d mc0 ms0) s m args below meth c H locs cells slots Q (F0 m pc ls (.ref (sz + kb) :: .int i :: .ref (sz + ka) :: rest)) := by
  have hlt : i.toNatClampNeg < N := Nat.not_le.mp fun q => hin (Or.inr q)
  have h0 : ¬ i < 0 := fun q => hin (Or.inl q)
  have hqa := hP.2 ka hka
  rw [ha] at hqa
  have hqb := hP.2 kb hkb
  rw [hb] at hqb
  obtain ⟨r', hr', cellV, g1, g2, g3, -⟩ := hqb
  have hcls := (Y.2.2.2.1.1.1 ci r hcl).2
  obtain ⟨kA, comp, k1, k2, k3, -⟩ := (Y.2.2.2.1.1.2 ti _ hti).2
  have hcomp : comp = D.1 ci := Option.some.inj (k3.symm.trans hcls.1)
  subst hcomp
  obtain ⟨kC, hkC, -⟩ := hcls.2
  refine W.aast Y.1.1 Y.1.2.1 hqa (fun q h => by cases h) (fun h => by cases h) k1 k2 rfl hkC ⟨h0, by show _ < (arrV _ _ _).slots.size; rw [arrV_size]; exact hlt⟩ g1 (fun q h => by rw [g3] at h; cases h) (by rw [g2]; exact hkC) (by rw [g2]; exact va_assign hcls) rfl rfl hdg fun H1 e z oq => ?_
  refine kk H1 _ (y_up hP ?_ z oq) (hS.put z oq (Nat.le_add_right sz ka))
  show H1[sz + ka]? = some (vp_cell _ _)
  rw [e]
  rw [vp_cell_q, vp_cell_q, arrV_store]
  congr 2
  funext q
  by_cases hq : q = i.toNatClampNeg
  · subst hq
    simp [updV, va_up, va_rf]
  · simp [updV, va_up, hq]
theorem y_obj {a : Nat} (Y : YC p m meth c cc nL s args cw own D cA) (hw : Cond.methodLink own index Lib.objectInit ∈ gw ∧ Cond.instanceMethod Lib.objectInit ∈ gw ∧ Cond.code Lib.objectInit ⟨#[0xb1]⟩ 1 none ∈ gw) (hsize : ls.size = nL) (hd : 1 ≤ d) (hrest : (rest.map fun v => v.category).sum ≤ 8) (hdg : decode cc pc = .ok (.invokespecial index, 3))
    (kk : W p l e (rmc d mc0 ms0) s m args below meth c H locs cells slots Q (F0 m (pc + 3) ls rest)) : W p l e (rmc d mc0 ms0) s m args below meth c H locs cells slots Q (F0 m pc ls (.ref a :: rest)) := by
  have ok : ∀ w ∈ gw, w.before args s = true := fun w h => Y.1.2.2.2.2 w (List.mem_cons_of_mem _ h)
  refine W.objInit Y.1.1 Y.1.2.1 Y.1.2.2.2.1 (ok _ hw.1) (ok _ hw.2.1) (ok _ hw.2.2) rfl (hsize.trans Y.1.2.2.1.symm) rfl hdg hd ?_ kk
  show 2 * 0 + _ + 12 ≤ 40 * d
  omega
theorem y_call {y : MethodName} {bytes : ByteArray} {maxL d' mc ms k nA : Nat} {As : List Value} {P : Nat → (Nat → va_E) → Prop} (Y : YC p m meth c cc nL s args cw own D cA) (hP : CP D sz n f H) (hS : va_S (CA sz) s.heap H locs) (hM : MC l y bytes maxL d' mc ms D cA sz n f (.ref (sz + k) :: As) P) (hw : Cond.code y bytes maxL none ∈ gw ∧ Cond.methodLink own index y ∈ gw ∧ Cond.instanceMethod y ∈ gw ∧ Cond.initialized y.cls ∈ gw) (hy1 : y.name = "<init>") (hy : x_hd y nA) (hd : d' + 1 ≤ d ∧ maxL ≤ 21) (hn : As.length = nA) (hsize : ls.size = nL) {st : List Value} (hstack : st = As.reverse ++ .ref (sz + k) :: rest) (hW : (rest.map fun v => v.category).sum ≤ 8) (hdg : decode cc pc = .ok (.invokespecial index, 3)) (hf : cells + mc ≤ mc0 ∧ slots + ms ≤ ms0)
    (kk : ∀ (n' : Nat) (f' : Nat → va_E) (H1 : Heap) (locs1 : List Loc), P n' f' → CP D sz n' f' H1 → va_S (CA sz) s.heap H1 locs1 → W p l e (rmc d mc0 ms0) s m args below meth c H1 locs1 (cells + mc) (slots + ms) Q (F0 m (pc + 3) ls rest)) : W p l e (rmc d mc0 ms0) s m args below meth c H locs cells slots Q (F0 m pc ls st) := by
  have ok : ∀ w ∈ gw, w.before args s = true := fun w h => Y.1.2.2.2.2 w (List.mem_cons_of_mem _ h)
  obtain ⟨w1, w2, w3, w5⟩ := hw
  have hrm : (rmc d' mc ms).frames + 1 ≤ (rmc d mc0 ms0).frames ∧ 8 + (maxL + 11) + (rmc d' mc ms).locals ≤ (rmc d mc0 ms0).locals := by
    refine ⟨hd.1, ?_⟩
    show 8 + (maxL + 11) + 40 * d' ≤ 40 * d
    have := hd.1; have := hd.2
    omega
  refine va_callv (A0 := CA sz) (va_runI Y.1 hM ⟨callB_of nA Y.1.2.2.2.2 (gw_good w1) rfl rfl rfl (ok _ w5) (ok _ w2) hy hrm, hy1, ok _ w3⟩ ⟨fun a U gf mk q => ⟨q.1, q.2.1, va_K.moved (u := U) (U := U.calling gf mk a) (Vm.Alike.refl U.vm) q.2.2.1, va_AO.moved (u := U) (U := U.calling gf mk a) (Vm.Alike.refl U.vm) q.2.2.2.1, va_AO.moved (u := U) (U := U.calling gf mk a) (Vm.Alike.refl U.vm) q.2.2.2.2⟩, fun U hU hW => ⟨rfl, by rw [hU]; exact hP, va_K.moved hW.alike Y.2.2.2.1.1, va_AO.moved hW.alike Y.2.2.2.1.2.1, va_AO.moved hW.alike Y.2.2.2.1.2.2⟩⟩ rfl hn hsize hstack (lv_room (m := m) (pc := pc) (ls := ls) (rest := st) hW) hdg hf) hS (fun q _ h => h) (fun q h => h) (fun u T H1 locs1 hT _ hp hB _ _ hS1 => ?_)
  exact kk u.1 u.2 H1 locs1 hp (hT ▸ hB) hS1
theorem y_vret {P : Nat → (Nat → va_E) → Prop} (Y : YC p m meth c cc nL s args cw own D cA) (hP : CP D sz n f H) (hS : va_S (CA sz) s.heap H locs) (hp : P n f) (hc : cells ≤ mc0) (hs : slots ≤ ms0) (hdg : decode cc pc = .ok (.return_, 1)) : W p l e (rmc d mc0 ms0) s m args below meth c H locs cells slots (MQ below (va_Qv (fun u : Nat × (Nat → va_E) => P u.1 u.2) (fun u T => CP D sz u.1 u.2 T.heap) (CA sz)) args s mc0 ms0 (CA sz)) (F0 m pc ls []) := by
  refine W.widen (k := mc0) (n := ms0) hc hs ?_
  exact W.vret (hlocks := Y.2.2.1) Y.1.1 Y.1.2.1 Y.2.1 (fun T hT _ => ⟨⟨(n, f), rfl, hp, show CP D sz n f T.heap by rw [hT]; exact hP⟩, hS.F hT⟩) hS.2.2 hdg
end YR
