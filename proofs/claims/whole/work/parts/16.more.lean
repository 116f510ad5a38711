theorem o_ret2 {α β : Type} {x r : α} {t t' : β} (h : some (x, t) = some (r, t')) : r = x ∧ t' = t := by
  have h1 := Option.some.inj h
  exact ⟨(congrArg Prod.fst h1).symm, (congrArg Prod.snd h1).symm⟩
def psB (j : Nat) : Int32 := ([112, 115, 114, 100, 103] : List Int32).getD j 0
section XU
variable {p : Program} {l : Launch} {e : Env} {d : Nat} {s : State} {m : MethodId} {args : Array Value} {below : List Frame} {meth : Method} {c : Code} {H : Heap} {locs : List Loc} {Q : State → Prop}
variable {cc : ByteArray} {nL pc : Nat} {ls : Array Slot} {rest : List Value} {cw : Cond} {own : String} {ret : Option FieldType} {sh : Sh} {g : Ly} {index : Nat}
theorem x_ldcS (X : XC p m meth c cc nL s args cw RX2 ret sh g) (hdg : decode cc pc = .ok (.ldc 90, 2)) (kk : W p l e (rmv d) s m args below meth c H locs 0 0 Q (F0 m (pc + 2) ls (.ref (g.2.2 (7, 0, 0)) :: rest))) : W p l e (rmv d) s m args below meth c H locs 0 0 Q (F0 m pc ls rest) :=
  va_ldcS (own := RX2) X.1.1 X.1.2.1 X.1.2.2.2.1 X.2.2.2.2.2.1 hdg kk
theorem x_getSt (X : XC p m meth c cc nL s args cw own ret sh g) (hS : va_S (XA sh g) s.heap H locs) (hl : Cond.fieldLink own index "java/lang/String" "COMPACT_STRINGS" "Z" ∈ gw) (hdg : decode cc pc = .ok (.getstatic index, 3)) (kk : W p l e (rmv d) s m args below meth c H locs 0 0 Q (F0 m (pc + 3) ls (.int 1 :: rest))) : W p l e (rmv d) s m args below meth c H locs 0 0 Q (F0 m pc ls rest) :=
  va_gets X.1.1 X.1.2.1 X.2.2.2.2.2.2.2 hS X.1.2.2.2.1 (X.1.2.2.2.2 _ (List.mem_cons_of_mem _ hl)) (fun _ h => h) hdg kk
theorem x_strC (X : XC p m meth c cc nL s args cw own ret sh g) (hS : va_S (XA sh g) s.heap H locs) (hl : Cond.fieldLink own index "java/lang/String" "coder" "B" ∈ gw) (hdg : decode cc pc = .ok (.getfield index, 3)) (kk : W p l e (rmv d) s m args below meth c H locs 0 0 Q (F0 m (pc + 3) ls (.int 0 :: rest))) : W p l e (rmv d) s m args below meth c H locs 0 0 Q (F0 m pc ls (.ref (g.2.2 (7, 0, 0)) :: rest)) :=
  vk_getf X.1.1 X.1.2.1 (X.2.2.2.2.2.2.1.1 0 (by decide)).2.1 hS X.1.2.2.2.1 (X.1.2.2.2.2 _ (List.mem_cons_of_mem _ hl)) (fun _ h => h) hdg kk
theorem x_strV (X : XC p m meth c cc nL s args cw own ret sh g) (hS : va_S (XA sh g) s.heap H locs) (hl : Cond.fieldLink own index "java/lang/String" "value" "[B" ∈ gw) (hdg : decode cc pc = .ok (.getfield index, 3)) (kk : W p l e (rmv d) s m args below meth c H locs 0 0 Q (F0 m (pc + 3) ls (.ref (g.2.2 (7, 0, 1)) :: rest))) : W p l e (rmv d) s m args below meth c H locs 0 0 Q (F0 m pc ls (.ref (g.2.2 (7, 0, 0)) :: rest)) :=
  vk_getf X.1.1 X.1.2.1 (X.2.2.2.2.2.2.1.1 0 (by decide)).2.2.1 hS X.1.2.2.2.1 (X.1.2.2.2.2 _ (List.mem_cons_of_mem _ hl)) (fun _ h => h) hdg kk
theorem x_blen (X : XC p m meth c cc nL s args cw own ret sh g) (hS : va_S (XA sh g) s.heap H locs) (hdg : decode cc pc = .ok (.arraylength, 1)) (kk : W p l e (rmv d) s m args below meth c H locs 0 0 Q (F0 m (pc + 1) ls (.int 5 :: rest))) : W p l e (rmv d) s m args below meth c H locs 0 0 Q (F0 m pc ls (.ref (g.2.2 (7, 0, 1)) :: rest)) :=
  va_tlen X.1.1 X.1.2.1 (X.2.2.2.2.2.2.1.1 0 (by decide)).2.2.2 hS (by rfl) hdg kk
theorem x_bald {i : Int32} (X : XC p m meth c cc nL s args cw own ret sh g) (hS : va_S (XA sh g) s.heap H locs) (hi : o_inb i 5 = true) (hdg : decode cc pc = .ok (.baload, 1)) (kk : W p l e (rmv d) s m args below meth c H locs 0 0 Q (F0 m (pc + 1) ls (.int (psB i.toNatClampNeg) :: rest))) : W p l e (rmv d) s m args below meth c H locs 0 0 Q (F0 m pc ls (.int i :: .ref (g.2.2 (7, 0, 1)) :: rest)) :=
  va_tb X.1.1 X.1.2.1 (X.2.2.2.2.2.2.1.1 0 (by decide)).2.2.2 hS (o_inb_in hi) rfl hdg kk
theorem x_recvS (X : XC p m meth c cc nL s args cw own ret sh g) (hS : va_S (XA sh g) s.heap H locs) : ∃ cell : Cell, H[g.2.2 (7, 0, 0)]? = some cell ∧ cell.vm.isStatics = false ∧ s.vm.findClass "java/lang/String" = some cell.cls :=
  vk_recv (i := 0) X.2.2.2.2.2.2.1 (by decide) hS
end XU
