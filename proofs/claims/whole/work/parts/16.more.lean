theorem o_ret2 {α β : Type} {x r : α} {t t' : β} (h : some (x, t) = some (r, t')) : r = x ∧ t' = t := by
  have h1 := Option.some.inj h
  exact ⟨(congrArg Prod.fst h1).symm, (congrArg Prod.snd h1).symm⟩
