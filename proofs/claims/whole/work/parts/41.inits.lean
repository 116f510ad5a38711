theorem wd_91 : Cond.methodLink RX0 3 Lib.objectInit ∈ gw := gw_in 91 (by decide +kernel) (by decide +kernel)
theorem wd_78 : Cond.instanceMethod Lib.objectInit ∈ gw := gw_in 78 (by decide +kernel) (by decide +kernel)
theorem wd_79 : Cond.code Lib.objectInit ⟨#[0xb1]⟩ 1 none ∈ gw := gw_in 79 (by decide +kernel) (by decide +kernel)
theorem wd_157 : Cond.arrayClass .int ∈ gw := gw_in 157 (by decide +kernel) (by decide +kernel)
theorem wd_272 : Cond.methodLink RX3 3 Lib.objectInit ∈ gw := gw_in 272 (by decide +kernel) (by decide +kernel)
theorem wd_286 : Cond.arrayClass .long ∈ gw := gw_in 286 (by decide +kernel) (by decide +kernel)
theorem wd_179 : Cond.methodLink RX5 3 Lib.objectInit ∈ gw := gw_in 179 (by decide +kernel) (by decide +kernel)
theorem wd_190 : Cond.arrayClass .char ∈ gw := gw_in 190 (by decide +kernel) (by decide +kernel)
theorem wd_216 : Cond.methodLink RX1 3 Lib.objectInit ∈ gw := gw_in 216 (by decide +kernel) (by decide +kernel)
theorem wd_217 : Cond.classLink RX1 9 RX0 ∈ gw := gw_in 217 (by decide +kernel) (by decide +kernel)
theorem wd_87 : Cond.instantiable RX0 12 ∈ gw := gw_in 87 (by decide +kernel) (by decide +kernel)
theorem wd_90 : Cond.code yX0_init cX0_init 1 none ∈ gw := gw_in 90 (by decide +kernel) (by decide +kernel)
theorem wd_218 : Cond.methodLink RX1 11 yX0_init ∈ gw := gw_in 218 (by decide +kernel) (by decide +kernel)
theorem wd_89 : Cond.instanceMethod yX0_init ∈ gw := gw_in 89 (by decide +kernel) (by decide +kernel)
theorem wd_196 : Cond.methodLink RX2 3 Lib.objectInit ∈ gw := gw_in 196 (by decide +kernel) (by decide +kernel)
theorem wd_197 : Cond.classLink RX2 15 RX0 ∈ gw := gw_in 197 (by decide +kernel) (by decide +kernel)
theorem wd_198 : Cond.methodLink RX2 17 yX0_init ∈ gw := gw_in 198 (by decide +kernel) (by decide +kernel)
theorem wd_240 : Cond.methodLink RX6 5 Lib.objectInit ∈ gw := gw_in 240 (by decide +kernel) (by decide +kernel)
theorem wd_241 : Cond.classLink RX6 11 RX0 ∈ gw := gw_in 241 (by decide +kernel) (by decide +kernel)
theorem wd_242 : Cond.methodLink RX6 13 yX0_init ∈ gw := gw_in 242 (by decide +kernel) (by decide +kernel)
theorem wd_85 : Cond.methodLink RX4 3 Lib.objectInit ∈ gw := gw_in 85 (by decide +kernel) (by decide +kernel)
theorem wd_86 : Cond.classLink RX4 9 RX0 ∈ gw := gw_in 86 (by decide +kernel) (by decide +kernel)
theorem wd_88 : Cond.methodLink RX4 11 yX0_init ∈ gw := gw_in 88 (by decide +kernel) (by decide +kernel)
theorem wd_77 : Cond.methodLink RX7 3 Lib.objectInit ∈ gw := gw_in 77 (by decide +kernel) (by decide +kernel)
theorem wd_80 : Cond.classLink RX7 9 RX4 ∈ gw := gw_in 80 (by decide +kernel) (by decide +kernel)
theorem wd_81 : Cond.instantiable RX4 4 ∈ gw := gw_in 81 (by decide +kernel) (by decide +kernel)
theorem wd_84 : Cond.code yX4_init cX4_init 2 none ∈ gw := gw_in 84 (by decide +kernel) (by decide +kernel)
theorem wd_82 : Cond.methodLink RX7 11 yX4_init ∈ gw := gw_in 82 (by decide +kernel) (by decide +kernel)
theorem wd_83 : Cond.instanceMethod yX4_init ∈ gw := gw_in 83 (by decide +kernel) (by decide +kernel)
theorem wd_174 : Cond.classLink RX7 23 RX5 ∈ gw := gw_in 174 (by decide +kernel) (by decide +kernel)
theorem wd_175 : Cond.instantiable RX5 2 ∈ gw := gw_in 175 (by decide +kernel) (by decide +kernel)
theorem wd_178 : Cond.code yX5_init cX5_init 1 none ∈ gw := gw_in 178 (by decide +kernel) (by decide +kernel)
theorem wd_176 : Cond.methodLink RX7 25 yX5_init ∈ gw := gw_in 176 (by decide +kernel) (by decide +kernel)
theorem wd_177 : Cond.instanceMethod yX5_init ∈ gw := gw_in 177 (by decide +kernel) (by decide +kernel)
theorem wd_191 : Cond.classLink RX7 30 RX2 ∈ gw := gw_in 191 (by decide +kernel) (by decide +kernel)
theorem wd_192 : Cond.instantiable RX2 3 ∈ gw := gw_in 192 (by decide +kernel) (by decide +kernel)
theorem wd_195 : Cond.code yX2_init cX2_init 2 none ∈ gw := gw_in 195 (by decide +kernel) (by decide +kernel)
theorem wd_193 : Cond.methodLink RX7 32 yX2_init ∈ gw := gw_in 193 (by decide +kernel) (by decide +kernel)
theorem wd_194 : Cond.instanceMethod yX2_init ∈ gw := gw_in 194 (by decide +kernel) (by decide +kernel)
theorem wd_211 : Cond.classLink RX7 39 RX1 ∈ gw := gw_in 211 (by decide +kernel) (by decide +kernel)
theorem wd_212 : Cond.instantiable RX1 4 ∈ gw := gw_in 212 (by decide +kernel) (by decide +kernel)
theorem wd_215 : Cond.code yX1_init cX1_init 1 none ∈ gw := gw_in 215 (by decide +kernel) (by decide +kernel)
theorem wd_213 : Cond.methodLink RX7 41 yX1_init ∈ gw := gw_in 213 (by decide +kernel) (by decide +kernel)
theorem wd_214 : Cond.instanceMethod yX1_init ∈ gw := gw_in 214 (by decide +kernel) (by decide +kernel)
theorem wd_235 : Cond.classLink RX7 46 RX6 ∈ gw := gw_in 235 (by decide +kernel) (by decide +kernel)
theorem wd_236 : Cond.instantiable RX6 7 ∈ gw := gw_in 236 (by decide +kernel) (by decide +kernel)
theorem wd_239 : Cond.code yX6_init cX6_init 1 none ∈ gw := gw_in 239 (by decide +kernel) (by decide +kernel)
theorem wd_237 : Cond.methodLink RX7 48 yX6_init ∈ gw := gw_in 237 (by decide +kernel) (by decide +kernel)
theorem wd_238 : Cond.instanceMethod yX6_init ∈ gw := gw_in 238 (by decide +kernel) (by decide +kernel)
theorem wd_266 : Cond.classLink RX7 53 RX3 ∈ gw := gw_in 266 (by decide +kernel) (by decide +kernel)
theorem wd_268 : Cond.instantiable RX3 3 ∈ gw := gw_in 268 (by decide +kernel) (by decide +kernel)
theorem wd_271 : Cond.code yX3_init cX3_init 1 none ∈ gw := gw_in 271 (by decide +kernel) (by decide +kernel)
theorem wd_269 : Cond.methodLink RX7 59 yX3_init ∈ gw := gw_in 269 (by decide +kernel) (by decide +kernel)
theorem wd_270 : Cond.instanceMethod yX3_init ∈ gw := gw_in 270 (by decide +kernel) (by decide +kernel)
theorem wd_879 : Cond.methodLink RX8 1 Lib.objectInit ∈ gw := gw_in 879 (by decide +kernel) (by decide +kernel)
theorem va_upn {α : Type} {f : Nat → α} {k j : Nat} {x : α} (h : j ≠ k) : va_up f k x j = f j := if_neg h
theorem va_ups {α : Type} {f : Nat → α} {k : Nat} {x : α} : va_up f k x k = x := if_pos rfl
section YW
variable {p : Program} {l : Launch} {e : Env} {R : Room} {s : State} {m : MethodId} {args : Array Value} {below : List Frame} {meth : Method} {c : Code} {H : Heap} {locs : List Loc} {cells slots : Nat} {Q : State → Prop}
theorem W.eqn {k n : Nat} {g : JFrame} (h1 : cells = k) (h2 : slots = n) (kk : W p l e R s m args below meth c H locs k n Q g) : W p l e R s m args below meth c H locs cells slots Q g := by
  subst h1; subst h2; exact kk
variable {d mc0 ms0 nL pc sz n : Nat} {cc : ByteArray} {ls : Array Slot} {rest : List Value} {cw : Cond} {own : String} {D : va_G} {cA : Nat → ClassId} {f : Nat → va_E}
theorem y_iast {ka N : Nat} {g : Nat → Int32} {i x : Int32} (Y : YC p m meth c cc nL s args cw own D cA) (hP : CP D sz n f H) (hS : va_S (CA sz) s.heap H locs) (hka : ka < n) (ha : f ka = .inl (cA 0, N, .inl g)) (hi : o_inb i N = true) (hdg : decode cc pc = .ok (.iastore, 1))
    (kk : ∀ (H1 : Heap) (locs1 : List Loc), CP D sz n (va_up f ka (.inl (cA 0, N, .inl (upd g i.toNatClampNeg x)))) H1 → va_S (CA sz) s.heap H1 locs1 → W p l e (rmc d mc0 ms0) s m args below meth c H1 locs1 cells slots Q (F0 m (pc + 1) ls rest)) : W p l e (rmc d mc0 ms0) s m args below meth c H locs cells slots Q (F0 m pc ls (.int x :: .int i :: .ref (sz + ka) :: rest)) := by
  have hin := o_inb_in hi
  have hqa := hP.2 ka hka
  rw [ha] at hqa
  refine W.iast Y.1.1 Y.1.2.1 hqa ((Y.2.2.2.1.1.2 0 _ rfl).1 N (fun j => .int (g j))) (fun q => by cases q) (by show ¬ (i < 0 ∨ (arrV _ _ _).slots.size ≤ _); rw [arrV_size]; exact hin) rfl rfl hdg fun H1 e z oq => ?_
  refine kk H1 _ (y_up hP ?_ z oq) (hS.put z oq (Nat.le_add_right sz ka))
  show H1[sz + ka]? = some (vp_cell _ _)
  rw [e]
  rw [vp_cell_i, vp_cell_i, arrV_store]
  congr 2
  funext q
  by_cases hq : q = i.toNatClampNeg
  · subst hq
    simp [updV, upd]
  · simp [updV, upd, hq]
end YW
def fdL : Nat → Nat
  | 0 => 8
  | 1 => 8
  | _ => 5
def fdA (cA : Nat → ClassId) (sz : Nat) (f : Nat → va_E) (k b : Nat) : Prop := f k = .inr (0, [.int 0, .int 0, .int 0, .int 0, .int 1, .ref (sz + b), .ref (sz + (b + 1)), .ref (sz + (b + 2)), .ref (sz + (b + 3)), .ref (sz + (b + 4)), .ref (sz + (b + 5)), .ref (sz + (b + 6))]) ∧ ∀ r, r < 7 → f (b + r) = .inl (cA 0, fdL r, .inl (fun _ => 0))
theorem fdA_kept {cA : Nat → ClassId} {sz : Nat} {f f' : Nat → va_E} {k b : Nat} (h : fdA cA sz f k b) (h2 : ∀ q, q = k ∨ (b ≤ q ∧ q < b + 7) → f' q = f q) : fdA cA sz f' k b := ⟨by rw [h2 k (Or.inl rfl)]; exact h.1, fun r hr => by rw [h2 (b + r) (Or.inr ⟨by omega, by omega⟩)]; exact h.2 r hr⟩
def sheA (cA : Nat → ClassId) (sz : Nat) (f : Nat → va_E) (k b : Nat) : Prop := f k = .inr (3, [.int 0, .int (-1), .ref (sz + b)]) ∧ f b = .inl (cA 2, 24, .inr (.inl (fun _ => 0)))
theorem sheA_kept {cA : Nat → ClassId} {sz : Nat} {f f' : Nat → va_E} {k b : Nat} (h : sheA cA sz f k b) (h2 : ∀ q, q = k ∨ q = b → f' q = f q) : sheA cA sz f' k b := ⟨by rw [h2 k (Or.inl rfl)]; exact h.1, by rw [h2 b (Or.inr rfl)]; exact h.2⟩
def tpA (cA : Nat → ClassId) (sz : Nat) (f : Nat → va_E) (k b : Nat) : Prop := f k = .inr (5, [.ref (sz + b), .int 0]) ∧ f b = .inl (cA 1, 90, .inl (fun _ => 0))
theorem tpA_kept {cA : Nat → ClassId} {sz : Nat} {f f' : Nat → va_E} {k b : Nat} (h : tpA cA sz f k b) (h2 : ∀ q, q = k ∨ q = b → f' q = f q) : tpA cA sz f' k b := ⟨by rw [h2 k (Or.inl rfl)]; exact h.1, by rw [h2 b (Or.inr rfl)]; exact h.2⟩
def olA (cA : Nat → ClassId) (sz : Nat) (f : Nat → va_E) (k b : Nat) : Prop := f k = .inr (1, [.ref (sz + b), .int 0, .int 0, .int 0]) ∧ fdA cA sz f b (b + 1)
theorem olA_kept {cA : Nat → ClassId} {sz : Nat} {f f' : Nat → va_E} {k b : Nat} (h : olA cA sz f k b) (h2 : ∀ q, q = k ∨ (b ≤ q ∧ q < b + 8) → f' q = f q) : olA cA sz f' k b := ⟨by rw [h2 k (Or.inl rfl)]; exact h.1, fdA_kept h.2 (fun q hq => h2 q (by omega))⟩
def rdA (cA : Nat → ClassId) (sz : Nat) (f : Nat → va_E) (k b tp : Nat) : Prop := f k = .inr (2, [.ref (sz + tp), .ref (sz + b), .int 0]) ∧ fdA cA sz f b (b + 1)
theorem rdA_kept {cA : Nat → ClassId} {sz : Nat} {f f' : Nat → va_E} {k b tp : Nat} (h : rdA cA sz f k b tp) (h2 : ∀ q, q = k ∨ (b ≤ q ∧ q < b + 8) → f' q = f q) : rdA cA sz f' k b tp := ⟨by rw [h2 k (Or.inl rfl)]; exact h.1, fdA_kept h.2 (fun q hq => h2 q (by omega))⟩
def tlA (cA : Nat → ClassId) (sz : Nat) (f : Nat → va_E) (k b : Nat) : Prop := f k = .inr (6, [.ref (sz + b), .ref (sz + (b + 8)), .int 0, .int 0, .ref (sz + (b + 9)), .int 0, .int 0]) ∧ fdA cA sz f b (b + 1) ∧ f (b + 8) = .inl (cA 0, 5, .inl (fun _ => 0)) ∧ f (b + 9) = .inl (cA 0, 5, .inl (fun _ => 0))
theorem tlA_kept {cA : Nat → ClassId} {sz : Nat} {f f' : Nat → va_E} {k b : Nat} (h : tlA cA sz f k b) (h2 : ∀ q, q = k ∨ (b ≤ q ∧ q < b + 10) → f' q = f q) : tlA cA sz f' k b := ⟨by rw [h2 k (Or.inl rfl)]; exact h.1, fdA_kept h.2.1 (fun q hq => h2 q (by omega)), by rw [h2 _ (by omega)]; exact h.2.2.1, by rw [h2 _ (by omega)]; exact h.2.2.2⟩
def stA (cA : Nat → ClassId) (sz : Nat) (f : Nat → va_E) (k b : Nat) : Prop := f k = .inr (4, [.ref (sz + b), .ref (sz + (b + 8)), .int 0, .int 0]) ∧ fdA cA sz f b (b + 1) ∧ (∃ g : Nat → Option Nat, f (b + 8) = .inl (cA 3, 8, .inr (.inr (.inr (.inr g)))) ∧ ∀ j, j < 8 → g j = some (sz + (b + 9 + 8 * j))) ∧ ∀ j, j < 8 → fdA cA sz f (b + 9 + 8 * j) (b + 9 + 8 * j + 1)
theorem stA_kept {cA : Nat → ClassId} {sz : Nat} {f f' : Nat → va_E} {k b : Nat} (h : stA cA sz f k b) (h2 : ∀ q, q = k ∨ (b ≤ q ∧ q < b + 73) → f' q = f q) : stA cA sz f' k b := ⟨by rw [h2 k (Or.inl rfl)]; exact h.1, fdA_kept h.2.1 (fun q hq => h2 q (by omega)), by
  obtain ⟨g, h3, h4⟩ := h.2.2.1
  exact ⟨g, by rw [h2 _ (by omega)]; exact h3, h4⟩, fun j hj => fdA_kept (h.2.2.2 j hj) (fun q hq => h2 q (by omega))⟩
theorem dvX0 : ∀ j, j < 12 → defaultValue (tyX0 j) = vp_V [.int 0, .int 0, .int 0, .int 0, .int 0, .null, .null, .null, .null, .null, .null, .null] j := by
  intro j hj
  rcases (show j = 0 ∨ j = 1 ∨ j = 2 ∨ j = 3 ∨ j = 4 ∨ j = 5 ∨ j = 6 ∨ j = 7 ∨ j = 8 ∨ j = 9 ∨ j = 10 ∨ j = 11 by omega) with rfl | rfl | rfl | rfl | rfl | rfl | rfl | rfl | rfl | rfl | rfl | rfl <;> rfl
theorem hd_X0_init : x_hd yX0_init 0 := by decide +kernel
theorem dvX1 : ∀ j, j < 4 → defaultValue (tyX1 j) = vp_V [.null, .int 0, .int 0, .int 0] j := by
  intro j hj
  rcases (show j = 0 ∨ j = 1 ∨ j = 2 ∨ j = 3 by omega) with rfl | rfl | rfl | rfl <;> rfl
theorem hd_X1_init : x_hd yX1_init 0 := by decide +kernel
theorem dvX2 : ∀ j, j < 3 → defaultValue (tyX2 j) = vp_V [.null, .null, .int 0] j := by
  intro j hj
  rcases (show j = 0 ∨ j = 1 ∨ j = 2 by omega) with rfl | rfl | rfl <;> rfl
theorem hd_X2_init : x_hd yX2_init 1 := by decide +kernel
theorem dvX3 : ∀ j, j < 3 → defaultValue (tyX3 j) = vp_V [.int 0, .int 0, .null] j := by
  intro j hj
  rcases (show j = 0 ∨ j = 1 ∨ j = 2 by omega) with rfl | rfl | rfl <;> rfl
theorem hd_X3_init : x_hd yX3_init 0 := by decide +kernel
theorem dvX4 : ∀ j, j < 4 → defaultValue (tyX4 j) = vp_V [.null, .null, .int 0, .int 0] j := by
  intro j hj
  rcases (show j = 0 ∨ j = 1 ∨ j = 2 ∨ j = 3 by omega) with rfl | rfl | rfl | rfl <;> rfl
theorem hd_X4_init : x_hd yX4_init 0 := by decide +kernel
theorem dvX5 : ∀ j, j < 2 → defaultValue (tyX5 j) = vp_V [.null, .int 0] j := by
  intro j hj
  rcases (show j = 0 ∨ j = 1 by omega) with rfl | rfl <;> rfl
theorem hd_X5_init : x_hd yX5_init 0 := by decide +kernel
theorem dvX6 : ∀ j, j < 7 → defaultValue (tyX6 j) = vp_V [.null, .null, .int 0, .int 0, .null, .int 0, .int 0] j := by
  intro j hj
  rcases (show j = 0 ∨ j = 1 ∨ j = 2 ∨ j = 3 ∨ j = 4 ∨ j = 5 ∨ j = 6 by omega) with rfl | rfl | rfl | rfl | rfl | rfl | rfl <;> rfl
theorem hd_X6_init : x_hd yX6_init 0 := by decide +kernel
theorem dvX7 : ∀ j, j < 8 → defaultValue (tyX7 j) = vp_V [.null, .null, .int 0, .null, .null, .null, .null, .null] j := by
  intro j hj
  rcases (show j = 0 ∨ j = 1 ∨ j = 2 ∨ j = 3 ∨ j = 4 ∨ j = 5 ∨ j = 6 ∨ j = 7 by omega) with rfl | rfl | rfl | rfl | rfl | rfl | rfl | rfl <;> rfl
theorem hd_X7_init : x_hd yX7_init 0 := by decide +kernel
theorem dvX8 : ∀ j, j < 31 → defaultValue (tyX8 j) = vp_V [.int 0, .int 0, .null, .null, .null, .null, .null, .int 0, .int 0, .null, .null, .null, .null, .null, .null, .int 0, .null, .int 0, .int 0, .int 0, .null, .int 0, .int 0, .int 0, .int 0, .null, .null, .null, .int 0, .int 0, .null] j := by
  intro j hj
  rcases (show j = 0 ∨ j = 1 ∨ j = 2 ∨ j = 3 ∨ j = 4 ∨ j = 5 ∨ j = 6 ∨ j = 7 ∨ j = 8 ∨ j = 9 ∨ j = 10 ∨ j = 11 ∨ j = 12 ∨ j = 13 ∨ j = 14 ∨ j = 15 ∨ j = 16 ∨ j = 17 ∨ j = 18 ∨ j = 19 ∨ j = 20 ∨ j = 21 ∨ j = 22 ∨ j = 23 ∨ j = 24 ∨ j = 25 ∨ j = 26 ∨ j = 27 ∨ j = 28 ∨ j = 29 ∨ j = 30 by omega) with rfl | rfl | rfl | rfl | rfl | rfl | rfl | rfl | rfl | rfl | rfl | rfl | rfl | rfl | rfl | rfl | rfl | rfl | rfl | rfl | rfl | rfl | rfl | rfl | rfl | rfl | rfl | rfl | rfl | rfl | rfl <;> rfl
theorem hd_X8_init : x_hd yX8_init 0 := by decide +kernel
set_option maxRecDepth 100000 in
set_option maxHeartbeats 8000000 in
theorem c_X0_init (l : Launch) (D : va_G) (cA : Nat → ClassId) (sz : Nat) (n : Nat) (f : Nat → va_E) (k : Nat) (hk : k < n) (hf : f k = .inr (0, [.int 0, .int 0, .int 0, .int 0, .int 0, .null, .null, .null, .null, .null, .null, .null])) : MC l yX0_init cX0_init 1 2 7 41 D cA sz n f [.ref (sz + k)] (fun n' f' => n' = n + 7 ∧ fdA cA sz f' k n ∧ ∀ q, q < n → q ≠ k → f' q = f q) := by
  refine y_met (by decide +kernel) rfl (Nat.le_of_ble_eq_true rfl) ?_
  intro p e s m below meth c ls args Y hP hl
  have hS : va_S (CA sz) s.heap s.heap [] := va_S.rf
  have hl : lv_has ls 1 [(0, .ref (sz + k))] := hl
  have hfr0 : ∀ q, q < n → q ≠ k → f q = f q := fun _ _ _ => rfl
  refine lv_aload_n Y.1.1 Y.1.2.1 dX0_init_0 rfl (lv_at hl 0 rfl) ?_
  refine y_obj Y ⟨wd_91, wd_78, wd_79⟩ hl.1 (by decide) (Nat.le_of_ble_eq_true rfl) dX0_init_1 ?_
  refine lv_aload_n Y.1.1 Y.1.2.1 dX0_init_4 rfl (lv_at hl 0 rfl) ?_
  refine lv_bipush (v := 8) Y.1.1 Y.1.2.1 dX0_init_5 (by decide) ?_
  refine y_newa (atype := .int) (ti := 0) (k := 8) (a0 := (8, .inl (fun _ => 0))) (N' := 8) Y hP hS rfl rfl wd_157 (fun _ => rfl) (by decide) (by decide) (by decide) (by decide) (by decide) dX0_init_7 (fun H hP hS => ?_)
  refine W.eqn (k := 1) (n := 8) rfl rfl ?_
  obtain ⟨f1, ef2⟩ : ∃ z, z = va_up f (n) (.inl (cA 0, 8, .inl (fun _ => 0))) := ⟨_, rfl⟩
  have hP : CP D sz (n + 1) f1 H := by rw [ef2]; exact hP
  have h3 : f1 (k) = .inr (0, [.int 0, .int 0, .int 0, .int 0, .int 0, .null, .null, .null, .null, .null, .null, .null]) := by rw [ef2]; exact (va_upn (by omega)).trans hf
  have h4 : f1 (n) = .inl (cA 0, 8, .inl (fun _ => 0)) := by rw [ef2]; exact va_ups
  have hfr5 : ∀ q, q < n → q ≠ k → f1 q = f q := fun q h1 h2 => by rw [ef2]; exact (va_upn (by omega)).trans (hfr0 q h1 h2)
  clear hfr0 ef2
  refine y_putF (C := RX0) (T := TX0) (N := 12) (ci := 0) (ty := .array .int) Y hP hS inX0 tyX0_ok nmX0 rfl (by omega) h3 5 (by decide) rfl rfl (Nat.le_of_ble_eq_true rfl) rfl rfl wd_111 dX0_init_9 (fun H locs hP hS => ?_)
  obtain ⟨f6, ef7⟩ : ∃ z, z = va_up f1 (k) (.inr (0, [.int 0, .int 0, .int 0, .int 0, .int 0, .ref (sz + n), .null, .null, .null, .null, .null, .null])) := ⟨_, rfl⟩
  have hP : CP D sz (n + 1) f6 H := by rw [ef7]; exact hP
  have h8 : f6 (n) = .inl (cA 0, 8, .inl (fun _ => 0)) := by rw [ef7]; exact (va_upn (by omega)).trans h4
  have h9 : f6 (k) = .inr (0, [.int 0, .int 0, .int 0, .int 0, .int 0, .ref (sz + n), .null, .null, .null, .null, .null, .null]) := by rw [ef7]; exact va_ups
  have hfr10 : ∀ q, q < n → q ≠ k → f6 q = f q := fun q h1 h2 => by rw [ef7]; exact (va_upn (by omega)).trans (hfr5 q h1 h2)
  clear h3 h4 hfr5 ef7
  refine lv_aload_n Y.1.1 Y.1.2.1 dX0_init_12 rfl (lv_at hl 0 rfl) ?_
  refine lv_bipush (v := 8) Y.1.1 Y.1.2.1 dX0_init_13 (by decide) ?_
  refine y_newa (atype := .int) (ti := 0) (k := 8) (a0 := (8, .inl (fun _ => 0))) (N' := 8) Y hP hS rfl rfl wd_157 (fun _ => rfl) (by decide) (by decide) (by decide) (by decide) (by decide) dX0_init_15 (fun H hP hS => ?_)
  refine W.eqn (k := 2) (n := 16) rfl rfl ?_
  obtain ⟨f11, ef12⟩ : ∃ z, z = va_up f6 (n + 1) (.inl (cA 0, 8, .inl (fun _ => 0))) := ⟨_, rfl⟩
  have hP : CP D sz (n + 2) f11 H := by rw [ef12]; exact hP
  have h13 : f11 (n) = .inl (cA 0, 8, .inl (fun _ => 0)) := by rw [ef12]; exact (va_upn (by omega)).trans h8
  have h14 : f11 (k) = .inr (0, [.int 0, .int 0, .int 0, .int 0, .int 0, .ref (sz + n), .null, .null, .null, .null, .null, .null]) := by rw [ef12]; exact (va_upn (by omega)).trans h9
  have h15 : f11 (n + 1) = .inl (cA 0, 8, .inl (fun _ => 0)) := by rw [ef12]; exact va_ups
  have hfr16 : ∀ q, q < n → q ≠ k → f11 q = f q := fun q h1 h2 => by rw [ef12]; exact (va_upn (by omega)).trans (hfr10 q h1 h2)
  clear h8 h9 hfr10 ef12
  refine y_putF (C := RX0) (T := TX0) (N := 12) (ci := 0) (ty := .array .int) Y hP hS inX0 tyX0_ok nmX0 rfl (by omega) h14 6 (by decide) rfl rfl (Nat.le_of_ble_eq_true rfl) rfl rfl wd_113 dX0_init_17 (fun H locs hP hS => ?_)
  obtain ⟨f17, ef18⟩ : ∃ z, z = va_up f11 (k) (.inr (0, [.int 0, .int 0, .int 0, .int 0, .int 0, .ref (sz + n), .ref (sz + (n + 1)), .null, .null, .null, .null, .null])) := ⟨_, rfl⟩
  have hP : CP D sz (n + 2) f17 H := by rw [ef18]; exact hP
  have h19 : f17 (n) = .inl (cA 0, 8, .inl (fun _ => 0)) := by rw [ef18]; exact (va_upn (by omega)).trans h13
  have h20 : f17 (n + 1) = .inl (cA 0, 8, .inl (fun _ => 0)) := by rw [ef18]; exact (va_upn (by omega)).trans h15
  have h21 : f17 (k) = .inr (0, [.int 0, .int 0, .int 0, .int 0, .int 0, .ref (sz + n), .ref (sz + (n + 1)), .null, .null, .null, .null, .null]) := by rw [ef18]; exact va_ups
  have hfr22 : ∀ q, q < n → q ≠ k → f17 q = f q := fun q h1 h2 => by rw [ef18]; exact (va_upn (by omega)).trans (hfr16 q h1 h2)
  clear h13 h14 h15 hfr16 ef18
  refine lv_aload_n Y.1.1 Y.1.2.1 dX0_init_20 rfl (lv_at hl 0 rfl) ?_
  refine lv_iconst (v := 5) Y.1.1 Y.1.2.1 dX0_init_21 (by decide) ?_
  refine y_newa (atype := .int) (ti := 0) (k := 5) (a0 := (5, .inl (fun _ => 0))) (N' := 5) Y hP hS rfl rfl wd_157 (fun _ => rfl) (by decide) (by decide) (by decide) (by decide) (by decide) dX0_init_22 (fun H hP hS => ?_)
  refine W.eqn (k := 3) (n := 21) rfl rfl ?_
  obtain ⟨f23, ef24⟩ : ∃ z, z = va_up f17 (n + 2) (.inl (cA 0, 5, .inl (fun _ => 0))) := ⟨_, rfl⟩
  have hP : CP D sz (n + 3) f23 H := by rw [ef24]; exact hP
  have h25 : f23 (n) = .inl (cA 0, 8, .inl (fun _ => 0)) := by rw [ef24]; exact (va_upn (by omega)).trans h19
  have h26 : f23 (n + 1) = .inl (cA 0, 8, .inl (fun _ => 0)) := by rw [ef24]; exact (va_upn (by omega)).trans h20
  have h27 : f23 (k) = .inr (0, [.int 0, .int 0, .int 0, .int 0, .int 0, .ref (sz + n), .ref (sz + (n + 1)), .null, .null, .null, .null, .null]) := by rw [ef24]; exact (va_upn (by omega)).trans h21
  have h28 : f23 (n + 2) = .inl (cA 0, 5, .inl (fun _ => 0)) := by rw [ef24]; exact va_ups
  have hfr29 : ∀ q, q < n → q ≠ k → f23 q = f q := fun q h1 h2 => by rw [ef24]; exact (va_upn (by omega)).trans (hfr22 q h1 h2)
  clear h19 h20 h21 hfr22 ef24
  refine y_putF (C := RX0) (T := TX0) (N := 12) (ci := 0) (ty := .array .int) Y hP hS inX0 tyX0_ok nmX0 rfl (by omega) h27 7 (by decide) rfl rfl (Nat.le_of_ble_eq_true rfl) rfl rfl wd_115 dX0_init_24 (fun H locs hP hS => ?_)
  obtain ⟨f30, ef31⟩ : ∃ z, z = va_up f23 (k) (.inr (0, [.int 0, .int 0, .int 0, .int 0, .int 0, .ref (sz + n), .ref (sz + (n + 1)), .ref (sz + (n + 2)), .null, .null, .null, .null])) := ⟨_, rfl⟩
  have hP : CP D sz (n + 3) f30 H := by rw [ef31]; exact hP
  have h32 : f30 (n) = .inl (cA 0, 8, .inl (fun _ => 0)) := by rw [ef31]; exact (va_upn (by omega)).trans h25
  have h33 : f30 (n + 1) = .inl (cA 0, 8, .inl (fun _ => 0)) := by rw [ef31]; exact (va_upn (by omega)).trans h26
  have h34 : f30 (n + 2) = .inl (cA 0, 5, .inl (fun _ => 0)) := by rw [ef31]; exact (va_upn (by omega)).trans h28
  have h35 : f30 (k) = .inr (0, [.int 0, .int 0, .int 0, .int 0, .int 0, .ref (sz + n), .ref (sz + (n + 1)), .ref (sz + (n + 2)), .null, .null, .null, .null]) := by rw [ef31]; exact va_ups
  have hfr36 : ∀ q, q < n → q ≠ k → f30 q = f q := fun q h1 h2 => by rw [ef31]; exact (va_upn (by omega)).trans (hfr29 q h1 h2)
  clear h25 h26 h27 h28 hfr29 ef31
  refine lv_aload_n Y.1.1 Y.1.2.1 dX0_init_27 rfl (lv_at hl 0 rfl) ?_
  refine lv_iconst (v := 5) Y.1.1 Y.1.2.1 dX0_init_28 (by decide) ?_
  refine y_newa (atype := .int) (ti := 0) (k := 5) (a0 := (5, .inl (fun _ => 0))) (N' := 5) Y hP hS rfl rfl wd_157 (fun _ => rfl) (by decide) (by decide) (by decide) (by decide) (by decide) dX0_init_29 (fun H hP hS => ?_)
  refine W.eqn (k := 4) (n := 26) rfl rfl ?_
  obtain ⟨f37, ef38⟩ : ∃ z, z = va_up f30 (n + 3) (.inl (cA 0, 5, .inl (fun _ => 0))) := ⟨_, rfl⟩
  have hP : CP D sz (n + 4) f37 H := by rw [ef38]; exact hP
  have h39 : f37 (n) = .inl (cA 0, 8, .inl (fun _ => 0)) := by rw [ef38]; exact (va_upn (by omega)).trans h32
  have h40 : f37 (n + 1) = .inl (cA 0, 8, .inl (fun _ => 0)) := by rw [ef38]; exact (va_upn (by omega)).trans h33
  have h41 : f37 (n + 2) = .inl (cA 0, 5, .inl (fun _ => 0)) := by rw [ef38]; exact (va_upn (by omega)).trans h34
  have h42 : f37 (k) = .inr (0, [.int 0, .int 0, .int 0, .int 0, .int 0, .ref (sz + n), .ref (sz + (n + 1)), .ref (sz + (n + 2)), .null, .null, .null, .null]) := by rw [ef38]; exact (va_upn (by omega)).trans h35
  have h43 : f37 (n + 3) = .inl (cA 0, 5, .inl (fun _ => 0)) := by rw [ef38]; exact va_ups
  have hfr44 : ∀ q, q < n → q ≠ k → f37 q = f q := fun q h1 h2 => by rw [ef38]; exact (va_upn (by omega)).trans (hfr36 q h1 h2)
  clear h32 h33 h34 h35 hfr36 ef38
  refine y_putF (C := RX0) (T := TX0) (N := 12) (ci := 0) (ty := .array .int) Y hP hS inX0 tyX0_ok nmX0 rfl (by omega) h42 8 (by decide) rfl rfl (Nat.le_of_ble_eq_true rfl) rfl rfl wd_118 dX0_init_31 (fun H locs hP hS => ?_)
  obtain ⟨f45, ef46⟩ : ∃ z, z = va_up f37 (k) (.inr (0, [.int 0, .int 0, .int 0, .int 0, .int 0, .ref (sz + n), .ref (sz + (n + 1)), .ref (sz + (n + 2)), .ref (sz + (n + 3)), .null, .null, .null])) := ⟨_, rfl⟩
  have hP : CP D sz (n + 4) f45 H := by rw [ef46]; exact hP
  have h47 : f45 (n) = .inl (cA 0, 8, .inl (fun _ => 0)) := by rw [ef46]; exact (va_upn (by omega)).trans h39
  have h48 : f45 (n + 1) = .inl (cA 0, 8, .inl (fun _ => 0)) := by rw [ef46]; exact (va_upn (by omega)).trans h40
  have h49 : f45 (n + 2) = .inl (cA 0, 5, .inl (fun _ => 0)) := by rw [ef46]; exact (va_upn (by omega)).trans h41
  have h50 : f45 (n + 3) = .inl (cA 0, 5, .inl (fun _ => 0)) := by rw [ef46]; exact (va_upn (by omega)).trans h43
  have h51 : f45 (k) = .inr (0, [.int 0, .int 0, .int 0, .int 0, .int 0, .ref (sz + n), .ref (sz + (n + 1)), .ref (sz + (n + 2)), .ref (sz + (n + 3)), .null, .null, .null]) := by rw [ef46]; exact va_ups
  have hfr52 : ∀ q, q < n → q ≠ k → f45 q = f q := fun q h1 h2 => by rw [ef46]; exact (va_upn (by omega)).trans (hfr44 q h1 h2)
  clear h39 h40 h41 h42 h43 hfr44 ef46
  refine lv_aload_n Y.1.1 Y.1.2.1 dX0_init_34 rfl (lv_at hl 0 rfl) ?_
  refine lv_iconst (v := 5) Y.1.1 Y.1.2.1 dX0_init_35 (by decide) ?_
  refine y_newa (atype := .int) (ti := 0) (k := 5) (a0 := (5, .inl (fun _ => 0))) (N' := 5) Y hP hS rfl rfl wd_157 (fun _ => rfl) (by decide) (by decide) (by decide) (by decide) (by decide) dX0_init_36 (fun H hP hS => ?_)
  refine W.eqn (k := 5) (n := 31) rfl rfl ?_
  obtain ⟨f53, ef54⟩ : ∃ z, z = va_up f45 (n + 4) (.inl (cA 0, 5, .inl (fun _ => 0))) := ⟨_, rfl⟩
  have hP : CP D sz (n + 5) f53 H := by rw [ef54]; exact hP
  have h55 : f53 (n) = .inl (cA 0, 8, .inl (fun _ => 0)) := by rw [ef54]; exact (va_upn (by omega)).trans h47
  have h56 : f53 (n + 1) = .inl (cA 0, 8, .inl (fun _ => 0)) := by rw [ef54]; exact (va_upn (by omega)).trans h48
  have h57 : f53 (n + 2) = .inl (cA 0, 5, .inl (fun _ => 0)) := by rw [ef54]; exact (va_upn (by omega)).trans h49
  have h58 : f53 (n + 3) = .inl (cA 0, 5, .inl (fun _ => 0)) := by rw [ef54]; exact (va_upn (by omega)).trans h50
  have h59 : f53 (k) = .inr (0, [.int 0, .int 0, .int 0, .int 0, .int 0, .ref (sz + n), .ref (sz + (n + 1)), .ref (sz + (n + 2)), .ref (sz + (n + 3)), .null, .null, .null]) := by rw [ef54]; exact (va_upn (by omega)).trans h51
  have h60 : f53 (n + 4) = .inl (cA 0, 5, .inl (fun _ => 0)) := by rw [ef54]; exact va_ups
  have hfr61 : ∀ q, q < n → q ≠ k → f53 q = f q := fun q h1 h2 => by rw [ef54]; exact (va_upn (by omega)).trans (hfr52 q h1 h2)
  clear h47 h48 h49 h50 h51 hfr52 ef54
  refine y_putF (C := RX0) (T := TX0) (N := 12) (ci := 0) (ty := .array .int) Y hP hS inX0 tyX0_ok nmX0 rfl (by omega) h59 9 (by decide) rfl rfl (Nat.le_of_ble_eq_true rfl) rfl rfl wd_121 dX0_init_38 (fun H locs hP hS => ?_)
  obtain ⟨f62, ef63⟩ : ∃ z, z = va_up f53 (k) (.inr (0, [.int 0, .int 0, .int 0, .int 0, .int 0, .ref (sz + n), .ref (sz + (n + 1)), .ref (sz + (n + 2)), .ref (sz + (n + 3)), .ref (sz + (n + 4)), .null, .null])) := ⟨_, rfl⟩
  have hP : CP D sz (n + 5) f62 H := by rw [ef63]; exact hP
  have h64 : f62 (n) = .inl (cA 0, 8, .inl (fun _ => 0)) := by rw [ef63]; exact (va_upn (by omega)).trans h55
  have h65 : f62 (n + 1) = .inl (cA 0, 8, .inl (fun _ => 0)) := by rw [ef63]; exact (va_upn (by omega)).trans h56
  have h66 : f62 (n + 2) = .inl (cA 0, 5, .inl (fun _ => 0)) := by rw [ef63]; exact (va_upn (by omega)).trans h57
  have h67 : f62 (n + 3) = .inl (cA 0, 5, .inl (fun _ => 0)) := by rw [ef63]; exact (va_upn (by omega)).trans h58
  have h68 : f62 (n + 4) = .inl (cA 0, 5, .inl (fun _ => 0)) := by rw [ef63]; exact (va_upn (by omega)).trans h60
  have h69 : f62 (k) = .inr (0, [.int 0, .int 0, .int 0, .int 0, .int 0, .ref (sz + n), .ref (sz + (n + 1)), .ref (sz + (n + 2)), .ref (sz + (n + 3)), .ref (sz + (n + 4)), .null, .null]) := by rw [ef63]; exact va_ups
  have hfr70 : ∀ q, q < n → q ≠ k → f62 q = f q := fun q h1 h2 => by rw [ef63]; exact (va_upn (by omega)).trans (hfr61 q h1 h2)
  clear h55 h56 h57 h58 h59 h60 hfr61 ef63
  refine lv_aload_n Y.1.1 Y.1.2.1 dX0_init_41 rfl (lv_at hl 0 rfl) ?_
  refine lv_iconst (v := 5) Y.1.1 Y.1.2.1 dX0_init_42 (by decide) ?_
  refine y_newa (atype := .int) (ti := 0) (k := 5) (a0 := (5, .inl (fun _ => 0))) (N' := 5) Y hP hS rfl rfl wd_157 (fun _ => rfl) (by decide) (by decide) (by decide) (by decide) (by decide) dX0_init_43 (fun H hP hS => ?_)
  refine W.eqn (k := 6) (n := 36) rfl rfl ?_
  obtain ⟨f71, ef72⟩ : ∃ z, z = va_up f62 (n + 5) (.inl (cA 0, 5, .inl (fun _ => 0))) := ⟨_, rfl⟩
  have hP : CP D sz (n + 6) f71 H := by rw [ef72]; exact hP
  have h73 : f71 (n) = .inl (cA 0, 8, .inl (fun _ => 0)) := by rw [ef72]; exact (va_upn (by omega)).trans h64
  have h74 : f71 (n + 1) = .inl (cA 0, 8, .inl (fun _ => 0)) := by rw [ef72]; exact (va_upn (by omega)).trans h65
  have h75 : f71 (n + 2) = .inl (cA 0, 5, .inl (fun _ => 0)) := by rw [ef72]; exact (va_upn (by omega)).trans h66
  have h76 : f71 (n + 3) = .inl (cA 0, 5, .inl (fun _ => 0)) := by rw [ef72]; exact (va_upn (by omega)).trans h67
  have h77 : f71 (n + 4) = .inl (cA 0, 5, .inl (fun _ => 0)) := by rw [ef72]; exact (va_upn (by omega)).trans h68
  have h78 : f71 (k) = .inr (0, [.int 0, .int 0, .int 0, .int 0, .int 0, .ref (sz + n), .ref (sz + (n + 1)), .ref (sz + (n + 2)), .ref (sz + (n + 3)), .ref (sz + (n + 4)), .null, .null]) := by rw [ef72]; exact (va_upn (by omega)).trans h69
  have h79 : f71 (n + 5) = .inl (cA 0, 5, .inl (fun _ => 0)) := by rw [ef72]; exact va_ups
  have hfr80 : ∀ q, q < n → q ≠ k → f71 q = f q := fun q h1 h2 => by rw [ef72]; exact (va_upn (by omega)).trans (hfr70 q h1 h2)
  clear h64 h65 h66 h67 h68 h69 hfr70 ef72
  refine y_putF (C := RX0) (T := TX0) (N := 12) (ci := 0) (ty := .array .int) Y hP hS inX0 tyX0_ok nmX0 rfl (by omega) h78 10 (by decide) rfl rfl (Nat.le_of_ble_eq_true rfl) rfl rfl wd_125 dX0_init_45 (fun H locs hP hS => ?_)
  obtain ⟨f81, ef82⟩ : ∃ z, z = va_up f71 (k) (.inr (0, [.int 0, .int 0, .int 0, .int 0, .int 0, .ref (sz + n), .ref (sz + (n + 1)), .ref (sz + (n + 2)), .ref (sz + (n + 3)), .ref (sz + (n + 4)), .ref (sz + (n + 5)), .null])) := ⟨_, rfl⟩
  have hP : CP D sz (n + 6) f81 H := by rw [ef82]; exact hP
  have h83 : f81 (n) = .inl (cA 0, 8, .inl (fun _ => 0)) := by rw [ef82]; exact (va_upn (by omega)).trans h73
  have h84 : f81 (n + 1) = .inl (cA 0, 8, .inl (fun _ => 0)) := by rw [ef82]; exact (va_upn (by omega)).trans h74
  have h85 : f81 (n + 2) = .inl (cA 0, 5, .inl (fun _ => 0)) := by rw [ef82]; exact (va_upn (by omega)).trans h75
  have h86 : f81 (n + 3) = .inl (cA 0, 5, .inl (fun _ => 0)) := by rw [ef82]; exact (va_upn (by omega)).trans h76
  have h87 : f81 (n + 4) = .inl (cA 0, 5, .inl (fun _ => 0)) := by rw [ef82]; exact (va_upn (by omega)).trans h77
  have h88 : f81 (n + 5) = .inl (cA 0, 5, .inl (fun _ => 0)) := by rw [ef82]; exact (va_upn (by omega)).trans h79
  have h89 : f81 (k) = .inr (0, [.int 0, .int 0, .int 0, .int 0, .int 0, .ref (sz + n), .ref (sz + (n + 1)), .ref (sz + (n + 2)), .ref (sz + (n + 3)), .ref (sz + (n + 4)), .ref (sz + (n + 5)), .null]) := by rw [ef82]; exact va_ups
  have hfr90 : ∀ q, q < n → q ≠ k → f81 q = f q := fun q h1 h2 => by rw [ef82]; exact (va_upn (by omega)).trans (hfr80 q h1 h2)
  clear h73 h74 h75 h76 h77 h78 h79 hfr80 ef82
  refine lv_aload_n Y.1.1 Y.1.2.1 dX0_init_48 rfl (lv_at hl 0 rfl) ?_
  refine lv_iconst (v := 5) Y.1.1 Y.1.2.1 dX0_init_49 (by decide) ?_
  refine y_newa (atype := .int) (ti := 0) (k := 5) (a0 := (5, .inl (fun _ => 0))) (N' := 5) Y hP hS rfl rfl wd_157 (fun _ => rfl) (by decide) (by decide) (by decide) (by decide) (by decide) dX0_init_50 (fun H hP hS => ?_)
  refine W.eqn (k := 7) (n := 41) rfl rfl ?_
  obtain ⟨f91, ef92⟩ : ∃ z, z = va_up f81 (n + 6) (.inl (cA 0, 5, .inl (fun _ => 0))) := ⟨_, rfl⟩
  have hP : CP D sz (n + 7) f91 H := by rw [ef92]; exact hP
  have h93 : f91 (n) = .inl (cA 0, 8, .inl (fun _ => 0)) := by rw [ef92]; exact (va_upn (by omega)).trans h83
  have h94 : f91 (n + 1) = .inl (cA 0, 8, .inl (fun _ => 0)) := by rw [ef92]; exact (va_upn (by omega)).trans h84
  have h95 : f91 (n + 2) = .inl (cA 0, 5, .inl (fun _ => 0)) := by rw [ef92]; exact (va_upn (by omega)).trans h85
  have h96 : f91 (n + 3) = .inl (cA 0, 5, .inl (fun _ => 0)) := by rw [ef92]; exact (va_upn (by omega)).trans h86
  have h97 : f91 (n + 4) = .inl (cA 0, 5, .inl (fun _ => 0)) := by rw [ef92]; exact (va_upn (by omega)).trans h87
  have h98 : f91 (n + 5) = .inl (cA 0, 5, .inl (fun _ => 0)) := by rw [ef92]; exact (va_upn (by omega)).trans h88
  have h99 : f91 (k) = .inr (0, [.int 0, .int 0, .int 0, .int 0, .int 0, .ref (sz + n), .ref (sz + (n + 1)), .ref (sz + (n + 2)), .ref (sz + (n + 3)), .ref (sz + (n + 4)), .ref (sz + (n + 5)), .null]) := by rw [ef92]; exact (va_upn (by omega)).trans h89
  have h100 : f91 (n + 6) = .inl (cA 0, 5, .inl (fun _ => 0)) := by rw [ef92]; exact va_ups
  have hfr101 : ∀ q, q < n → q ≠ k → f91 q = f q := fun q h1 h2 => by rw [ef92]; exact (va_upn (by omega)).trans (hfr90 q h1 h2)
  clear h83 h84 h85 h86 h87 h88 h89 hfr90 ef92
  refine y_putF (C := RX0) (T := TX0) (N := 12) (ci := 0) (ty := .array .int) Y hP hS inX0 tyX0_ok nmX0 rfl (by omega) h99 11 (by decide) rfl rfl (Nat.le_of_ble_eq_true rfl) rfl rfl wd_129 dX0_init_52 (fun H locs hP hS => ?_)
  obtain ⟨f102, ef103⟩ : ∃ z, z = va_up f91 (k) (.inr (0, [.int 0, .int 0, .int 0, .int 0, .int 0, .ref (sz + n), .ref (sz + (n + 1)), .ref (sz + (n + 2)), .ref (sz + (n + 3)), .ref (sz + (n + 4)), .ref (sz + (n + 5)), .ref (sz + (n + 6))])) := ⟨_, rfl⟩
  have hP : CP D sz (n + 7) f102 H := by rw [ef103]; exact hP
  have h104 : f102 (n) = .inl (cA 0, 8, .inl (fun _ => 0)) := by rw [ef103]; exact (va_upn (by omega)).trans h93
  have h105 : f102 (n + 1) = .inl (cA 0, 8, .inl (fun _ => 0)) := by rw [ef103]; exact (va_upn (by omega)).trans h94
  have h106 : f102 (n + 2) = .inl (cA 0, 5, .inl (fun _ => 0)) := by rw [ef103]; exact (va_upn (by omega)).trans h95
  have h107 : f102 (n + 3) = .inl (cA 0, 5, .inl (fun _ => 0)) := by rw [ef103]; exact (va_upn (by omega)).trans h96
  have h108 : f102 (n + 4) = .inl (cA 0, 5, .inl (fun _ => 0)) := by rw [ef103]; exact (va_upn (by omega)).trans h97
  have h109 : f102 (n + 5) = .inl (cA 0, 5, .inl (fun _ => 0)) := by rw [ef103]; exact (va_upn (by omega)).trans h98
  have h110 : f102 (n + 6) = .inl (cA 0, 5, .inl (fun _ => 0)) := by rw [ef103]; exact (va_upn (by omega)).trans h100
  have h111 : f102 (k) = .inr (0, [.int 0, .int 0, .int 0, .int 0, .int 0, .ref (sz + n), .ref (sz + (n + 1)), .ref (sz + (n + 2)), .ref (sz + (n + 3)), .ref (sz + (n + 4)), .ref (sz + (n + 5)), .ref (sz + (n + 6))]) := by rw [ef103]; exact va_ups
  have hfr112 : ∀ q, q < n → q ≠ k → f102 q = f q := fun q h1 h2 => by rw [ef103]; exact (va_upn (by omega)).trans (hfr101 q h1 h2)
  clear h93 h94 h95 h96 h97 h98 h99 h100 hfr101 ef103
  refine lv_aload_n Y.1.1 Y.1.2.1 dX0_init_55 rfl (lv_at hl 0 rfl) ?_
  refine lv_iconst (v := 1) Y.1.1 Y.1.2.1 dX0_init_56 (by decide) ?_
  refine y_put (C := RX0) (T := TX0) (N := 12) (ci := 0) (ty := .int) Y hP hS inX0 tyX0_ok nmX0 rfl (by omega) h111 4 (by decide) rfl rfl (Nat.le_of_ble_eq_true rfl) rfl rfl wd_109 dX0_init_57 (fun H locs hP hS => ?_)
  obtain ⟨f113, ef114⟩ : ∃ z, z = va_up f102 (k) (.inr (0, [.int 0, .int 0, .int 0, .int 0, .int 1, .ref (sz + n), .ref (sz + (n + 1)), .ref (sz + (n + 2)), .ref (sz + (n + 3)), .ref (sz + (n + 4)), .ref (sz + (n + 5)), .ref (sz + (n + 6))])) := ⟨_, rfl⟩
  have hP : CP D sz (n + 7) f113 H := by rw [ef114]; exact hP
  have h115 : f113 (n) = .inl (cA 0, 8, .inl (fun _ => 0)) := by rw [ef114]; exact (va_upn (by omega)).trans h104
  have h116 : f113 (n + 1) = .inl (cA 0, 8, .inl (fun _ => 0)) := by rw [ef114]; exact (va_upn (by omega)).trans h105
  have h117 : f113 (n + 2) = .inl (cA 0, 5, .inl (fun _ => 0)) := by rw [ef114]; exact (va_upn (by omega)).trans h106
  have h118 : f113 (n + 3) = .inl (cA 0, 5, .inl (fun _ => 0)) := by rw [ef114]; exact (va_upn (by omega)).trans h107
  have h119 : f113 (n + 4) = .inl (cA 0, 5, .inl (fun _ => 0)) := by rw [ef114]; exact (va_upn (by omega)).trans h108
  have h120 : f113 (n + 5) = .inl (cA 0, 5, .inl (fun _ => 0)) := by rw [ef114]; exact (va_upn (by omega)).trans h109
  have h121 : f113 (n + 6) = .inl (cA 0, 5, .inl (fun _ => 0)) := by rw [ef114]; exact (va_upn (by omega)).trans h110
  have h122 : f113 (k) = .inr (0, [.int 0, .int 0, .int 0, .int 0, .int 1, .ref (sz + n), .ref (sz + (n + 1)), .ref (sz + (n + 2)), .ref (sz + (n + 3)), .ref (sz + (n + 4)), .ref (sz + (n + 5)), .ref (sz + (n + 6))]) := by rw [ef114]; exact va_ups
  have hfr123 : ∀ q, q < n → q ≠ k → f113 q = f q := fun q h1 h2 => by rw [ef114]; exact (va_upn (by omega)).trans (hfr112 q h1 h2)
  clear h104 h105 h106 h107 h108 h109 h110 h111 hfr112 ef114
  refine y_vret (mc0 := 7) (ms0 := 41) (cells := 7) (slots := 41) (P := fun n' f' => n' = n + 7 ∧ fdA cA sz f' k n ∧ ∀ q, q < n → q ≠ k → f' q = f q) Y hP hS ⟨rfl, ?_, hfr123⟩ (by decide) (by decide) dX0_init_60
  refine ⟨h122, (fun r hr => by
    rcases (show r = 0 ∨ r = 1 ∨ r = 2 ∨ r = 3 ∨ r = 4 ∨ r = 5 ∨ r = 6 by omega) with rfl | rfl | rfl | rfl | rfl | rfl | rfl
    · exact h115
    · exact h116
    · exact h117
    · exact h118
    · exact h119
    · exact h120
    · exact h121)⟩
set_option maxRecDepth 100000 in
set_option maxHeartbeats 8000000 in
theorem c_X3_init (l : Launch) (D : va_G) (cA : Nat → ClassId) (sz : Nat) (n : Nat) (f : Nat → va_E) (k : Nat) (hk : k < n) (hf : f k = .inr (3, [.int 0, .int 0, .null])) : MC l yX3_init cX3_init 1 2 1 24 D cA sz n f [.ref (sz + k)] (fun n' f' => n' = n + 1 ∧ sheA cA sz f' k n ∧ ∀ q, q < n → q ≠ k → f' q = f q) := by
  refine y_met (by decide +kernel) rfl (Nat.le_of_ble_eq_true rfl) ?_
  intro p e s m below meth c ls args Y hP hl
  have hS : va_S (CA sz) s.heap s.heap [] := va_S.rf
  have hl : lv_has ls 1 [(0, .ref (sz + k))] := hl
  have hfr0 : ∀ q, q < n → q ≠ k → f q = f q := fun _ _ _ => rfl
  refine lv_aload_n Y.1.1 Y.1.2.1 dX3_init_0 rfl (lv_at hl 0 rfl) ?_
  refine y_obj Y ⟨wd_272, wd_78, wd_79⟩ hl.1 (by decide) (Nat.le_of_ble_eq_true rfl) dX3_init_1 ?_
  refine lv_aload_n Y.1.1 Y.1.2.1 dX3_init_4 rfl (lv_at hl 0 rfl) ?_
  refine lv_iconst (v := (-1)) Y.1.1 Y.1.2.1 dX3_init_5 (by decide) ?_
  refine y_put (C := RX3) (T := TX3) (N := 3) (ci := 3) (ty := .int) Y hP hS inX3 tyX3_ok nmX3 rfl (by omega) hf 1 (by decide) rfl rfl (Nat.le_of_ble_eq_true rfl) rfl rfl wd_275 dX3_init_6 (fun H locs hP hS => ?_)
  obtain ⟨f1, ef2⟩ : ∃ z, z = va_up f (k) (.inr (3, [.int 0, .int (-1), .null])) := ⟨_, rfl⟩
  have hP : CP D sz (n) f1 H := by rw [ef2]; exact hP
  have h3 : f1 (k) = .inr (3, [.int 0, .int (-1), .null]) := by rw [ef2]; exact va_ups
  have hfr4 : ∀ q, q < n → q ≠ k → f1 q = f q := fun q h1 h2 => by rw [ef2]; exact (va_upn (by omega)).trans (hfr0 q h1 h2)
  clear hfr0 ef2
  refine lv_aload_n Y.1.1 Y.1.2.1 dX3_init_9 rfl (lv_at hl 0 rfl) ?_
  refine lv_bipush (v := 24) Y.1.1 Y.1.2.1 dX3_init_10 (by decide) ?_
  refine y_newa (atype := .long) (ti := 2) (k := 24) (a0 := (24, .inr (.inl (fun _ => 0)))) (N' := 24) Y hP hS rfl rfl wd_286 (fun _ => rfl) (by decide) (by decide) (by decide) (by decide) (by decide) dX3_init_12 (fun H hP hS => ?_)
  refine W.eqn (k := 1) (n := 24) rfl rfl ?_
  obtain ⟨f5, ef6⟩ : ∃ z, z = va_up f1 (n) (.inl (cA 2, 24, .inr (.inl (fun _ => 0)))) := ⟨_, rfl⟩
  have hP : CP D sz (n + 1) f5 H := by rw [ef6]; exact hP
  have h7 : f5 (k) = .inr (3, [.int 0, .int (-1), .null]) := by rw [ef6]; exact (va_upn (by omega)).trans h3
  have h8 : f5 (n) = .inl (cA 2, 24, .inr (.inl (fun _ => 0))) := by rw [ef6]; exact va_ups
  have hfr9 : ∀ q, q < n → q ≠ k → f5 q = f q := fun q h1 h2 => by rw [ef6]; exact (va_upn (by omega)).trans (hfr4 q h1 h2)
  clear h3 hfr4 ef6
  refine y_putF (C := RX3) (T := TX3) (N := 3) (ci := 3) (ty := .array .long) Y hP hS inX3 tyX3_ok nmX3 rfl (by omega) h7 2 (by decide) rfl rfl (Nat.le_of_ble_eq_true rfl) rfl rfl wd_276 dX3_init_14 (fun H locs hP hS => ?_)
  obtain ⟨f10, ef11⟩ : ∃ z, z = va_up f5 (k) (.inr (3, [.int 0, .int (-1), .ref (sz + n)])) := ⟨_, rfl⟩
  have hP : CP D sz (n + 1) f10 H := by rw [ef11]; exact hP
  have h12 : f10 (n) = .inl (cA 2, 24, .inr (.inl (fun _ => 0))) := by rw [ef11]; exact (va_upn (by omega)).trans h8
  have h13 : f10 (k) = .inr (3, [.int 0, .int (-1), .ref (sz + n)]) := by rw [ef11]; exact va_ups
  have hfr14 : ∀ q, q < n → q ≠ k → f10 q = f q := fun q h1 h2 => by rw [ef11]; exact (va_upn (by omega)).trans (hfr9 q h1 h2)
  clear h7 h8 hfr9 ef11
  refine y_vret (mc0 := 1) (ms0 := 24) (cells := 1) (slots := 24) (P := fun n' f' => n' = n + 1 ∧ sheA cA sz f' k n ∧ ∀ q, q < n → q ≠ k → f' q = f q) Y hP hS ⟨rfl, ?_, hfr14⟩ (by decide) (by decide) dX3_init_17
  exact ⟨h13, h12⟩
set_option maxRecDepth 100000 in
set_option maxHeartbeats 8000000 in
theorem c_X5_init (l : Launch) (D : va_G) (cA : Nat → ClassId) (sz : Nat) (n : Nat) (f : Nat → va_E) (k : Nat) (hk : k < n) (hf : f k = .inr (5, [.null, .int 0])) : MC l yX5_init cX5_init 1 2 1 90 D cA sz n f [.ref (sz + k)] (fun n' f' => n' = n + 1 ∧ tpA cA sz f' k n ∧ ∀ q, q < n → q ≠ k → f' q = f q) := by
  refine y_met (by decide +kernel) rfl (Nat.le_of_ble_eq_true rfl) ?_
  intro p e s m below meth c ls args Y hP hl
  have hS : va_S (CA sz) s.heap s.heap [] := va_S.rf
  have hl : lv_has ls 1 [(0, .ref (sz + k))] := hl
  have hfr0 : ∀ q, q < n → q ≠ k → f q = f q := fun _ _ _ => rfl
  refine lv_aload_n Y.1.1 Y.1.2.1 dX5_init_0 rfl (lv_at hl 0 rfl) ?_
  refine y_obj Y ⟨wd_179, wd_78, wd_79⟩ hl.1 (by decide) (Nat.le_of_ble_eq_true rfl) dX5_init_1 ?_
  refine lv_aload_n Y.1.1 Y.1.2.1 dX5_init_4 rfl (lv_at hl 0 rfl) ?_
  refine lv_bipush (v := 90) Y.1.1 Y.1.2.1 dX5_init_5 (by decide) ?_
  refine y_newa (atype := .char) (ti := 1) (k := 90) (a0 := (90, .inl (fun _ => 0))) (N' := 90) Y hP hS rfl rfl wd_190 (fun _ => rfl) (by decide) (by decide) (by decide) (by decide) (by decide) dX5_init_7 (fun H hP hS => ?_)
  refine W.eqn (k := 1) (n := 90) rfl rfl ?_
  obtain ⟨f1, ef2⟩ : ∃ z, z = va_up f (n) (.inl (cA 1, 90, .inl (fun _ => 0))) := ⟨_, rfl⟩
  have hP : CP D sz (n + 1) f1 H := by rw [ef2]; exact hP
  have h3 : f1 (k) = .inr (5, [.null, .int 0]) := by rw [ef2]; exact (va_upn (by omega)).trans hf
  have h4 : f1 (n) = .inl (cA 1, 90, .inl (fun _ => 0)) := by rw [ef2]; exact va_ups
  have hfr5 : ∀ q, q < n → q ≠ k → f1 q = f q := fun q h1 h2 => by rw [ef2]; exact (va_upn (by omega)).trans (hfr0 q h1 h2)
  clear hfr0 ef2
  refine y_putF (C := RX5) (T := TX5) (N := 2) (ci := 5) (ty := .array .char) Y hP hS inX5 tyX5_ok nmX5 rfl (by omega) h3 0 (by decide) rfl rfl (Nat.le_of_ble_eq_true rfl) rfl rfl wd_180 dX5_init_9 (fun H locs hP hS => ?_)
  obtain ⟨f6, ef7⟩ : ∃ z, z = va_up f1 (k) (.inr (5, [.ref (sz + n), .int 0])) := ⟨_, rfl⟩
  have hP : CP D sz (n + 1) f6 H := by rw [ef7]; exact hP
  have h8 : f6 (n) = .inl (cA 1, 90, .inl (fun _ => 0)) := by rw [ef7]; exact (va_upn (by omega)).trans h4
  have h9 : f6 (k) = .inr (5, [.ref (sz + n), .int 0]) := by rw [ef7]; exact va_ups
  have hfr10 : ∀ q, q < n → q ≠ k → f6 q = f q := fun q h1 h2 => by rw [ef7]; exact (va_upn (by omega)).trans (hfr5 q h1 h2)
  clear h3 h4 hfr5 ef7
  refine y_vret (mc0 := 1) (ms0 := 90) (cells := 1) (slots := 90) (P := fun n' f' => n' = n + 1 ∧ tpA cA sz f' k n ∧ ∀ q, q < n → q ≠ k → f' q = f q) Y hP hS ⟨rfl, ?_, hfr10⟩ (by decide) (by decide) dX5_init_12
  exact ⟨h9, h8⟩
set_option maxRecDepth 100000 in
set_option maxHeartbeats 8000000 in
theorem c_X1_init (l : Launch) (D : va_G) (cA : Nat → ClassId) (sz : Nat) (n : Nat) (f : Nat → va_E) (k : Nat) (hk : k < n) (hf : f k = .inr (1, [.null, .int 0, .int 0, .int 0])) : MC l yX1_init cX1_init 1 3 8 53 D cA sz n f [.ref (sz + k)] (fun n' f' => n' = n + 8 ∧ olA cA sz f' k n ∧ ∀ q, q < n → q ≠ k → f' q = f q) := by
  refine y_met (by decide +kernel) rfl (Nat.le_of_ble_eq_true rfl) ?_
  intro p e s m below meth c ls args Y hP hl
  have hS : va_S (CA sz) s.heap s.heap [] := va_S.rf
  have hl : lv_has ls 1 [(0, .ref (sz + k))] := hl
  have hfr0 : ∀ q, q < n → q ≠ k → f q = f q := fun _ _ _ => rfl
  refine lv_aload_n Y.1.1 Y.1.2.1 dX1_init_0 rfl (lv_at hl 0 rfl) ?_
  refine y_obj Y ⟨wd_216, wd_78, wd_79⟩ hl.1 (by decide) (Nat.le_of_ble_eq_true rfl) dX1_init_1 ?_
  refine lv_aload_n Y.1.1 Y.1.2.1 dX1_init_4 rfl (lv_at hl 0 rfl) ?_
  refine y_new (C := RX0) (T := TX0) (N := 12) (ci := 0) (fs := [.int 0, .int 0, .int 0, .int 0, .int 0, .null, .null, .null, .null, .null, .null, .null]) Y hP hS inX0 tyX0_ok rfl dvX0 ⟨wd_217, wd_87, wd_56⟩ (by decide) (by decide) dX1_init_5 (fun H hP hS => ?_)
  refine W.eqn (k := 1) (n := 12) rfl rfl ?_
  obtain ⟨f1, ef2⟩ : ∃ z, z = va_up f (n) (.inr (0, [.int 0, .int 0, .int 0, .int 0, .int 0, .null, .null, .null, .null, .null, .null, .null])) := ⟨_, rfl⟩
  have hP : CP D sz (n + 1) f1 H := by rw [ef2]; exact hP
  have h3 : f1 (k) = .inr (1, [.null, .int 0, .int 0, .int 0]) := by rw [ef2]; exact (va_upn (by omega)).trans hf
  have h4 : f1 (n) = .inr (0, [.int 0, .int 0, .int 0, .int 0, .int 0, .null, .null, .null, .null, .null, .null, .null]) := by rw [ef2]; exact va_ups
  have hfr5 : ∀ q, q < n → q ≠ k → f1 q = f q := fun q h1 h2 => by rw [ef2]; exact (va_upn (by omega)).trans (hfr0 q h1 h2)
  clear hfr0 ef2
  refine lv_dup Y.1.1 Y.1.2.1 dX1_init_8 rfl ?_
  refine y_call (As := []) (rest := [.ref (sz + n), .ref (sz + k)]) Y hP hS (c_X0_init l D cA sz (n + 1) f1 (n) (by omega) h4) ⟨wd_90, wd_218, wd_89, wd_56⟩ rfl hd_X0_init ⟨by decide, by decide⟩ rfl hl.1 rfl (Nat.le_of_ble_eq_true rfl) dX1_init_9 ⟨by decide, by decide⟩ (fun nx f6 H locs hp7 hP hS => ?_)
  obtain ⟨rfl, hp7a, hp7b⟩ := hp7
  have hP : CP D sz (n + 8) f6 H := hP
  refine W.eqn (k := 8) (n := 53) rfl rfl ?_
  have h8 : f6 (k) = .inr (1, [.null, .int 0, .int 0, .int 0]) := (hp7b _ (by omega) (by omega)).trans h3
  have hfr9 : ∀ q, q < n → q ≠ k → f6 q = f q := fun q h1 h2 => (hp7b q (by omega) (by omega)).trans (hfr5 q h1 h2)
  clear h3 h4 hfr5 hp7b
  refine y_putF (C := RX1) (T := TX1) (N := 4) (ci := 1) (ty := .object "FordQuestions$Ford") Y hP hS inX1 tyX1_ok nmX1 rfl (by omega) h8 0 (by decide) rfl rfl (Nat.le_of_ble_eq_true rfl) rfl rfl wd_219 dX1_init_12 (fun H locs hP hS => ?_)
  obtain ⟨f10, ef11⟩ : ∃ z, z = va_up f6 (k) (.inr (1, [.ref (sz + n), .int 0, .int 0, .int 0])) := ⟨_, rfl⟩
  have hP : CP D sz (n + 8) f10 H := by rw [ef11]; exact hP
  have h12 : fdA cA sz f10 (n) (n + 1) := fdA_kept hp7a (fun q hq => by rw [ef11]; exact va_upn (by omega))
  have h13 : f10 (k) = .inr (1, [.ref (sz + n), .int 0, .int 0, .int 0]) := by rw [ef11]; exact va_ups
  have hfr14 : ∀ q, q < n → q ≠ k → f10 q = f q := fun q h1 h2 => by rw [ef11]; exact (va_upn (by omega)).trans (hfr9 q h1 h2)
  clear h8 hp7a hfr9 ef11
  refine y_vret (mc0 := 8) (ms0 := 53) (cells := 8) (slots := 53) (P := fun n' f' => n' = n + 8 ∧ olA cA sz f' k n ∧ ∀ q, q < n → q ≠ k → f' q = f q) Y hP hS ⟨rfl, ?_, hfr14⟩ (by decide) (by decide) dX1_init_15
  exact ⟨h13, h12⟩
set_option maxRecDepth 100000 in
set_option maxHeartbeats 8000000 in
theorem c_X2_init (l : Launch) (D : va_G) (cA : Nat → ClassId) (sz : Nat) (n : Nat) (f : Nat → va_E) (k : Nat) (tp : Nat) (hk : k < n) (hf : f k = .inr (2, [.null, .null, .int 0])) : MC l yX2_init cX2_init 2 3 8 53 D cA sz n f [.ref (sz + k), .ref (sz + tp)] (fun n' f' => n' = n + 8 ∧ rdA cA sz f' k n tp ∧ ∀ q, q < n → q ≠ k → f' q = f q) := by
  refine y_met (by decide +kernel) rfl (Nat.le_of_ble_eq_true rfl) ?_
  intro p e s m below meth c ls args Y hP hl
  have hS : va_S (CA sz) s.heap s.heap [] := va_S.rf
  have hl : lv_has ls 2 [(0, .ref (sz + k)), (1, .ref (sz + tp))] := hl
  have hfr0 : ∀ q, q < n → q ≠ k → f q = f q := fun _ _ _ => rfl
  refine lv_aload_n Y.1.1 Y.1.2.1 dX2_init_0 rfl (lv_at hl 0 rfl) ?_
  refine y_obj Y ⟨wd_196, wd_78, wd_79⟩ hl.1 (by decide) (Nat.le_of_ble_eq_true rfl) dX2_init_1 ?_
  refine lv_aload_n Y.1.1 Y.1.2.1 dX2_init_4 rfl (lv_at hl 0 rfl) ?_
  refine lv_aload_n Y.1.1 Y.1.2.1 dX2_init_5 rfl (lv_at hl 1 rfl) ?_
  refine y_putF (C := RX2) (T := TX2) (N := 3) (ci := 2) (ty := .object "FordQuestions$Tape") Y hP hS inX2 tyX2_ok nmX2 rfl (by omega) hf 0 (by decide) rfl rfl (Nat.le_of_ble_eq_true rfl) rfl rfl wd_199 dX2_init_6 (fun H locs hP hS => ?_)
  obtain ⟨f1, ef2⟩ : ∃ z, z = va_up f (k) (.inr (2, [.ref (sz + tp), .null, .int 0])) := ⟨_, rfl⟩
  have hP : CP D sz (n) f1 H := by rw [ef2]; exact hP
  have h3 : f1 (k) = .inr (2, [.ref (sz + tp), .null, .int 0]) := by rw [ef2]; exact va_ups
  have hfr4 : ∀ q, q < n → q ≠ k → f1 q = f q := fun q h1 h2 => by rw [ef2]; exact (va_upn (by omega)).trans (hfr0 q h1 h2)
  clear hfr0 ef2
  refine lv_aload_n Y.1.1 Y.1.2.1 dX2_init_9 rfl (lv_at hl 0 rfl) ?_
  refine y_new (C := RX0) (T := TX0) (N := 12) (ci := 0) (fs := [.int 0, .int 0, .int 0, .int 0, .int 0, .null, .null, .null, .null, .null, .null, .null]) Y hP hS inX0 tyX0_ok rfl dvX0 ⟨wd_197, wd_87, wd_56⟩ (by decide) (by decide) dX2_init_10 (fun H hP hS => ?_)
  refine W.eqn (k := 1) (n := 12) rfl rfl ?_
  obtain ⟨f5, ef6⟩ : ∃ z, z = va_up f1 (n) (.inr (0, [.int 0, .int 0, .int 0, .int 0, .int 0, .null, .null, .null, .null, .null, .null, .null])) := ⟨_, rfl⟩
  have hP : CP D sz (n + 1) f5 H := by rw [ef6]; exact hP
  have h7 : f5 (k) = .inr (2, [.ref (sz + tp), .null, .int 0]) := by rw [ef6]; exact (va_upn (by omega)).trans h3
  have h8 : f5 (n) = .inr (0, [.int 0, .int 0, .int 0, .int 0, .int 0, .null, .null, .null, .null, .null, .null, .null]) := by rw [ef6]; exact va_ups
  have hfr9 : ∀ q, q < n → q ≠ k → f5 q = f q := fun q h1 h2 => by rw [ef6]; exact (va_upn (by omega)).trans (hfr4 q h1 h2)
  clear h3 hfr4 ef6
  refine lv_dup Y.1.1 Y.1.2.1 dX2_init_13 rfl ?_
  refine y_call (As := []) (rest := [.ref (sz + n), .ref (sz + k)]) Y hP hS (c_X0_init l D cA sz (n + 1) f5 (n) (by omega) h8) ⟨wd_90, wd_198, wd_89, wd_56⟩ rfl hd_X0_init ⟨by decide, by decide⟩ rfl hl.1 rfl (Nat.le_of_ble_eq_true rfl) dX2_init_14 ⟨by decide, by decide⟩ (fun nx f10 H locs hp11 hP hS => ?_)
  obtain ⟨rfl, hp11a, hp11b⟩ := hp11
  have hP : CP D sz (n + 8) f10 H := hP
  refine W.eqn (k := 8) (n := 53) rfl rfl ?_
  have h12 : f10 (k) = .inr (2, [.ref (sz + tp), .null, .int 0]) := (hp11b _ (by omega) (by omega)).trans h7
  have hfr13 : ∀ q, q < n → q ≠ k → f10 q = f q := fun q h1 h2 => (hp11b q (by omega) (by omega)).trans (hfr9 q h1 h2)
  clear h7 h8 hfr9 hp11b
  refine y_putF (C := RX2) (T := TX2) (N := 3) (ci := 2) (ty := .object "FordQuestions$Ford") Y hP hS inX2 tyX2_ok nmX2 rfl (by omega) h12 1 (by decide) rfl rfl (Nat.le_of_ble_eq_true rfl) rfl rfl wd_200 dX2_init_17 (fun H locs hP hS => ?_)
  obtain ⟨f14, ef15⟩ : ∃ z, z = va_up f10 (k) (.inr (2, [.ref (sz + tp), .ref (sz + n), .int 0])) := ⟨_, rfl⟩
  have hP : CP D sz (n + 8) f14 H := by rw [ef15]; exact hP
  have h16 : fdA cA sz f14 (n) (n + 1) := fdA_kept hp11a (fun q hq => by rw [ef15]; exact va_upn (by omega))
  have h17 : f14 (k) = .inr (2, [.ref (sz + tp), .ref (sz + n), .int 0]) := by rw [ef15]; exact va_ups
  have hfr18 : ∀ q, q < n → q ≠ k → f14 q = f q := fun q h1 h2 => by rw [ef15]; exact (va_upn (by omega)).trans (hfr13 q h1 h2)
  clear h12 hp11a hfr13 ef15
  refine y_vret (mc0 := 8) (ms0 := 53) (cells := 8) (slots := 53) (P := fun n' f' => n' = n + 8 ∧ rdA cA sz f' k n tp ∧ ∀ q, q < n → q ≠ k → f' q = f q) Y hP hS ⟨rfl, ?_, hfr18⟩ (by decide) (by decide) dX2_init_20
  exact ⟨h17, h16⟩
set_option maxRecDepth 100000 in
set_option maxHeartbeats 8000000 in
theorem c_X6_init (l : Launch) (D : va_G) (cA : Nat → ClassId) (sz : Nat) (n : Nat) (f : Nat → va_E) (k : Nat) (hk : k < n) (hf : f k = .inr (6, [.null, .null, .int 0, .int 0, .null, .int 0, .int 0])) : MC l yX6_init cX6_init 1 3 10 63 D cA sz n f [.ref (sz + k)] (fun n' f' => n' = n + 10 ∧ tlA cA sz f' k n ∧ ∀ q, q < n → q ≠ k → f' q = f q) := by
  refine y_met (by decide +kernel) rfl (Nat.le_of_ble_eq_true rfl) ?_
  intro p e s m below meth c ls args Y hP hl
  have hS : va_S (CA sz) s.heap s.heap [] := va_S.rf
  have hl : lv_has ls 1 [(0, .ref (sz + k))] := hl
  have hfr0 : ∀ q, q < n → q ≠ k → f q = f q := fun _ _ _ => rfl
  refine lv_aload_n Y.1.1 Y.1.2.1 dX6_init_0 rfl (lv_at hl 0 rfl) ?_
  refine y_obj Y ⟨wd_240, wd_78, wd_79⟩ hl.1 (by decide) (Nat.le_of_ble_eq_true rfl) dX6_init_1 ?_
  refine lv_aload_n Y.1.1 Y.1.2.1 dX6_init_4 rfl (lv_at hl 0 rfl) ?_
  refine y_new (C := RX0) (T := TX0) (N := 12) (ci := 0) (fs := [.int 0, .int 0, .int 0, .int 0, .int 0, .null, .null, .null, .null, .null, .null, .null]) Y hP hS inX0 tyX0_ok rfl dvX0 ⟨wd_241, wd_87, wd_56⟩ (by decide) (by decide) dX6_init_5 (fun H hP hS => ?_)
  refine W.eqn (k := 1) (n := 12) rfl rfl ?_
  obtain ⟨f1, ef2⟩ : ∃ z, z = va_up f (n) (.inr (0, [.int 0, .int 0, .int 0, .int 0, .int 0, .null, .null, .null, .null, .null, .null, .null])) := ⟨_, rfl⟩
  have hP : CP D sz (n + 1) f1 H := by rw [ef2]; exact hP
  have h3 : f1 (k) = .inr (6, [.null, .null, .int 0, .int 0, .null, .int 0, .int 0]) := by rw [ef2]; exact (va_upn (by omega)).trans hf
  have h4 : f1 (n) = .inr (0, [.int 0, .int 0, .int 0, .int 0, .int 0, .null, .null, .null, .null, .null, .null, .null]) := by rw [ef2]; exact va_ups
  have hfr5 : ∀ q, q < n → q ≠ k → f1 q = f q := fun q h1 h2 => by rw [ef2]; exact (va_upn (by omega)).trans (hfr0 q h1 h2)
  clear hfr0 ef2
  refine lv_dup Y.1.1 Y.1.2.1 dX6_init_8 rfl ?_
  refine y_call (As := []) (rest := [.ref (sz + n), .ref (sz + k)]) Y hP hS (c_X0_init l D cA sz (n + 1) f1 (n) (by omega) h4) ⟨wd_90, wd_242, wd_89, wd_56⟩ rfl hd_X0_init ⟨by decide, by decide⟩ rfl hl.1 rfl (Nat.le_of_ble_eq_true rfl) dX6_init_9 ⟨by decide, by decide⟩ (fun nx f6 H locs hp7 hP hS => ?_)
  obtain ⟨rfl, hp7a, hp7b⟩ := hp7
  have hP : CP D sz (n + 8) f6 H := hP
  refine W.eqn (k := 8) (n := 53) rfl rfl ?_
  have h8 : f6 (k) = .inr (6, [.null, .null, .int 0, .int 0, .null, .int 0, .int 0]) := (hp7b _ (by omega) (by omega)).trans h3
  have hfr9 : ∀ q, q < n → q ≠ k → f6 q = f q := fun q h1 h2 => (hp7b q (by omega) (by omega)).trans (hfr5 q h1 h2)
  clear h3 h4 hfr5 hp7b
  refine y_putF (C := RX6) (T := TX6) (N := 7) (ci := 6) (ty := .object "FordQuestions$Ford") Y hP hS inX6 tyX6_ok nmX6 rfl (by omega) h8 0 (by decide) rfl rfl (Nat.le_of_ble_eq_true rfl) rfl rfl wd_243 dX6_init_12 (fun H locs hP hS => ?_)
  obtain ⟨f10, ef11⟩ : ∃ z, z = va_up f6 (k) (.inr (6, [.ref (sz + n), .null, .int 0, .int 0, .null, .int 0, .int 0])) := ⟨_, rfl⟩
  have hP : CP D sz (n + 8) f10 H := by rw [ef11]; exact hP
  have h12 : fdA cA sz f10 (n) (n + 1) := fdA_kept hp7a (fun q hq => by rw [ef11]; exact va_upn (by omega))
  have h13 : f10 (k) = .inr (6, [.ref (sz + n), .null, .int 0, .int 0, .null, .int 0, .int 0]) := by rw [ef11]; exact va_ups
  have hfr14 : ∀ q, q < n → q ≠ k → f10 q = f q := fun q h1 h2 => by rw [ef11]; exact (va_upn (by omega)).trans (hfr9 q h1 h2)
  clear h8 hp7a hfr9 ef11
  refine lv_aload_n Y.1.1 Y.1.2.1 dX6_init_15 rfl (lv_at hl 0 rfl) ?_
  refine lv_iconst (v := 5) Y.1.1 Y.1.2.1 dX6_init_16 (by decide) ?_
  refine y_newa (atype := .int) (ti := 0) (k := 5) (a0 := (5, .inl (fun _ => 0))) (N' := 5) Y hP hS rfl rfl wd_157 (fun _ => rfl) (by decide) (by decide) (by decide) (by decide) (by decide) dX6_init_17 (fun H hP hS => ?_)
  refine W.eqn (k := 9) (n := 58) rfl rfl ?_
  obtain ⟨f15, ef16⟩ : ∃ z, z = va_up f10 (n + 8) (.inl (cA 0, 5, .inl (fun _ => 0))) := ⟨_, rfl⟩
  have hP : CP D sz (n + 9) f15 H := by rw [ef16]; exact hP
  have h17 : fdA cA sz f15 (n) (n + 1) := fdA_kept h12 (fun q hq => by rw [ef16]; exact va_upn (by omega))
  have h18 : f15 (k) = .inr (6, [.ref (sz + n), .null, .int 0, .int 0, .null, .int 0, .int 0]) := by rw [ef16]; exact (va_upn (by omega)).trans h13
  have h19 : f15 (n + 8) = .inl (cA 0, 5, .inl (fun _ => 0)) := by rw [ef16]; exact va_ups
  have hfr20 : ∀ q, q < n → q ≠ k → f15 q = f q := fun q h1 h2 => by rw [ef16]; exact (va_upn (by omega)).trans (hfr14 q h1 h2)
  clear h12 h13 hfr14 ef16
  refine y_putF (C := RX6) (T := TX6) (N := 7) (ci := 6) (ty := .array .int) Y hP hS inX6 tyX6_ok nmX6 rfl (by omega) h18 1 (by decide) rfl rfl (Nat.le_of_ble_eq_true rfl) rfl rfl wd_244 dX6_init_19 (fun H locs hP hS => ?_)
  obtain ⟨f21, ef22⟩ : ∃ z, z = va_up f15 (k) (.inr (6, [.ref (sz + n), .ref (sz + (n + 8)), .int 0, .int 0, .null, .int 0, .int 0])) := ⟨_, rfl⟩
  have hP : CP D sz (n + 9) f21 H := by rw [ef22]; exact hP
  have h23 : fdA cA sz f21 (n) (n + 1) := fdA_kept h17 (fun q hq => by rw [ef22]; exact va_upn (by omega))
  have h24 : f21 (n + 8) = .inl (cA 0, 5, .inl (fun _ => 0)) := by rw [ef22]; exact (va_upn (by omega)).trans h19
  have h25 : f21 (k) = .inr (6, [.ref (sz + n), .ref (sz + (n + 8)), .int 0, .int 0, .null, .int 0, .int 0]) := by rw [ef22]; exact va_ups
  have hfr26 : ∀ q, q < n → q ≠ k → f21 q = f q := fun q h1 h2 => by rw [ef22]; exact (va_upn (by omega)).trans (hfr20 q h1 h2)
  clear h17 h18 h19 hfr20 ef22
  refine lv_aload_n Y.1.1 Y.1.2.1 dX6_init_22 rfl (lv_at hl 0 rfl) ?_
  refine lv_iconst (v := 5) Y.1.1 Y.1.2.1 dX6_init_23 (by decide) ?_
  refine y_newa (atype := .int) (ti := 0) (k := 5) (a0 := (5, .inl (fun _ => 0))) (N' := 5) Y hP hS rfl rfl wd_157 (fun _ => rfl) (by decide) (by decide) (by decide) (by decide) (by decide) dX6_init_24 (fun H hP hS => ?_)
  refine W.eqn (k := 10) (n := 63) rfl rfl ?_
  obtain ⟨f27, ef28⟩ : ∃ z, z = va_up f21 (n + 9) (.inl (cA 0, 5, .inl (fun _ => 0))) := ⟨_, rfl⟩
  have hP : CP D sz (n + 10) f27 H := by rw [ef28]; exact hP
  have h29 : fdA cA sz f27 (n) (n + 1) := fdA_kept h23 (fun q hq => by rw [ef28]; exact va_upn (by omega))
  have h30 : f27 (n + 8) = .inl (cA 0, 5, .inl (fun _ => 0)) := by rw [ef28]; exact (va_upn (by omega)).trans h24
  have h31 : f27 (k) = .inr (6, [.ref (sz + n), .ref (sz + (n + 8)), .int 0, .int 0, .null, .int 0, .int 0]) := by rw [ef28]; exact (va_upn (by omega)).trans h25
  have h32 : f27 (n + 9) = .inl (cA 0, 5, .inl (fun _ => 0)) := by rw [ef28]; exact va_ups
  have hfr33 : ∀ q, q < n → q ≠ k → f27 q = f q := fun q h1 h2 => by rw [ef28]; exact (va_upn (by omega)).trans (hfr26 q h1 h2)
  clear h23 h24 h25 hfr26 ef28
  refine y_putF (C := RX6) (T := TX6) (N := 7) (ci := 6) (ty := .array .int) Y hP hS inX6 tyX6_ok nmX6 rfl (by omega) h31 4 (by decide) rfl rfl (Nat.le_of_ble_eq_true rfl) rfl rfl wd_247 dX6_init_26 (fun H locs hP hS => ?_)
  obtain ⟨f34, ef35⟩ : ∃ z, z = va_up f27 (k) (.inr (6, [.ref (sz + n), .ref (sz + (n + 8)), .int 0, .int 0, .ref (sz + (n + 9)), .int 0, .int 0])) := ⟨_, rfl⟩
  have hP : CP D sz (n + 10) f34 H := by rw [ef35]; exact hP
  have h36 : fdA cA sz f34 (n) (n + 1) := fdA_kept h29 (fun q hq => by rw [ef35]; exact va_upn (by omega))
  have h37 : f34 (n + 8) = .inl (cA 0, 5, .inl (fun _ => 0)) := by rw [ef35]; exact (va_upn (by omega)).trans h30
  have h38 : f34 (n + 9) = .inl (cA 0, 5, .inl (fun _ => 0)) := by rw [ef35]; exact (va_upn (by omega)).trans h32
  have h39 : f34 (k) = .inr (6, [.ref (sz + n), .ref (sz + (n + 8)), .int 0, .int 0, .ref (sz + (n + 9)), .int 0, .int 0]) := by rw [ef35]; exact va_ups
  have hfr40 : ∀ q, q < n → q ≠ k → f34 q = f q := fun q h1 h2 => by rw [ef35]; exact (va_upn (by omega)).trans (hfr33 q h1 h2)
  clear h29 h30 h31 h32 hfr33 ef35
  refine y_vret (mc0 := 10) (ms0 := 63) (cells := 10) (slots := 63) (P := fun n' f' => n' = n + 10 ∧ tlA cA sz f' k n ∧ ∀ q, q < n → q ≠ k → f' q = f q) Y hP hS ⟨rfl, ?_, hfr40⟩ (by decide) (by decide) dX6_init_29
  exact ⟨h39, h36, h37, h38⟩
