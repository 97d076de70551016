/-! ===== the G layer: a judgement over the cells alone, a row an instruction ===== -/
abbrev kT (cI cZ : ClassId) : List (ClassId × FieldType) := [(cI, .int), (cZ, .boolean)]
abbrev kG : Type := Nat → Nat → va_W → List (Nat × Value) → Nat → List Value → Prop
/-- private methods and fields that a class of the nest uses of another one -/
def nestM : List (String × Nat × MethodName) := [(RX7, 9, yX11_within), (RX9, 19, yX11_setCell), (RX9, 112, yX11_cell), (RX9, 105, yX11_within), (RX0, 9, yX11_hasBit), (RX1, 15, yX11_hasBit), (RX1, 52, yX11_isDesk), (RX7, 37, yX11_cell), (RX7, 41, yX11_setCell), (RX10, 15, yX11_setCell), (RX10, 33, yX11_cell), (RX8, 38, yX11_setCell), (RX8, 28, yX11_cell), (RX3, 35, yX11_setCell), (RX3, 43, yX11_hasBit), (RX3, 47, yX11_cell)]
def nestF : List (String × Nat × String × String × String) := [(RX11, 73, RX6, "clerks", "LClerkChains$Rows;"), (RX9, 41, RX6, "clerks", "LClerkChains$Rows;"), (RX11, 106, RX6, "magnets", "LClerkChains$Rows;"), (RX9, 66, RX6, "magnets", "LClerkChains$Rows;"), (RX11, 220, RX6, "told", "LClerkChains$Rows;"), (RX11, 235, RX6, "notes", "LClerkChains$Rows;"), (RX11, 241, RX6, "marks", "LClerkChains$Rows;"), (RX11, 164, RX6, "past", "LClerkChains$Rows;"), (RX11, 170, RX6, "day", "I"), (RX11, 291, RX2, "above", "J"), (RX11, 295, RX2, "below", "J")]
def Nst (U : State) : Prop := (∀ q ∈ nestM, va_Nw (.methodLinkNest q.1 q.2.1 q.2.2 "ClerkChains") U) ∧ ∀ q ∈ nestF, va_Nw (.fieldLinkNest q.1 q.2.1 q.2.2.1 q.2.2.2.1 q.2.2.2.2 "ClerkChains") U
theorem Nst.warm {s U : State} (hW : s.WarmedH U.vm) (h : Nst s) : Nst U := ⟨fun q hq => va_Nw.warmM hW (h.1 q hq), fun q hq => va_Nw.warmF hW (h.2 q hq)⟩
theorem Nst.same {u U : State} (e : u.vm = U.vm) (h : Nst u) : Nst U := ⟨fun q hq => va_Nw.same rfl e (h.1 q hq), fun q hq => va_Nw.same rfl e (h.2 q hq)⟩
/-- the class's texts: where they lie, where their bytes lie -/
abbrev kS : Type := Option ((Nat → Nat) × (Nat → Nat))
def kLen : List Nat := [6, 5, 6, 4, 4]
def kByt : List (List Int32) := [[111, 102, 102, 105, 99, 101], [99, 108, 101, 114, 107], [109, 97, 103, 110, 101, 116], [104, 111, 111, 107], [100, 97, 121, 115]]
def kTx : List (Nat × String) := [(116, "office"), (122, "clerk"), (124, "magnet"), (126, "hook"), (128, "days")]
def StrO (z : kS) (A : Nat → Prop) (U : State) (H : Heap) : Prop := match z with
  | none => True
  | some q => vk_S 5 kLen kByt q.1 q.2 A U H ∧ ∀ i, i < 5 → vk_R RX9 (kTx.getD i (0, "")).1 (kTx.getD i (0, "")).2 (q.1 i) U
def GG (p : Program) (l : Launch) (e : Env) (R : Room) (s : State) (m : MethodId) (args : Array Value) (below : List Frame) (meth : Method) (c : Code) (D : va_G) (A B : Nat → Prop) (nL : Nat) (Q : State → Prop) (ce sl : Nat) (ws : va_W) (lv : List (Nat × Value)) (pc : Nat) (st : List Value) : Prop :=
  ∀ (H : Heap) (locs : List Loc) (ls : Array Slot), va_P D vwCl ws H → va_D B ws → va_S A s.heap H locs → lv_has ls nL lv → W p l e R s m args below meth c H locs ce sl Q (F0 m pc ls st)
/-- what a walk stands on: hA: the world's cells may be written -/
def Ok (G : kG) (l : Launch) (D : va_G) (cI cZ : ClassId) (cc : ByteArray) (Ts : List Cond) (own : String) (nL : Nat) (R : Room) (rw ini : Bool) (z : kS) : Prop :=
  ∃ (p : Program) (e : Env) (s : State) (m : MethodId) (args : Array Value) (below : List Frame) (meth : Method) (c : Code) (A B : Nat → Prop) (Q : State → Prop), G = GG p l e R s m args below meth c D A B nL Q ∧ p.tables.exec = Jvm.exec ∧ c.code = cc ∧ c.maxLocals = nL ∧ s.vm.findClass own = some m.cls ∧ (∀ w ∈ Ts, w.before args s = true) ∧ va_K D vwCl (kT cI cZ) s ∧ Nst s ∧ (∀ q, s.heap.size ≤ q → A q) ∧ (rw = true → B = A) ∧ (ini = true → meth.name = "<init>") ∧ StrO z A s s.heap
section GL
variable {G : kG} {l : Launch} {D : va_G} {cI cZ : ClassId} {cc : ByteArray} {Ts : List Cond} {own : String} {nL : Nat} {R : Room} {rw ini : Bool} {z : kS} {ce sl : Nat} {ws ws' : va_W} {lv lv' : List (Nat × Value)} {pc : Nat} {st : List Value}
theorem g_iconst (X : Ok G l D cI cZ cc Ts own nL R rw ini z) {n : Int} {v : Int32} (hd : decode cc pc = .ok (.iconst n, 1)) (hv : Int32.ofInt n = v) (k : G ce sl ws lv (pc + 1) (.int v :: st)) : G ce sl ws lv pc (st) := by
  obtain ⟨p, e, s, m, args, below, meth, c, A, B, Q, rfl, hx, hb, hml, hown, hts, hK, hN, hA, hrw, hin, hZ⟩ := X
  intro H locs ls hP hD hS hl
  exact lv_iconst hx hb hd hv (k H locs ls hP hD hS hl)
theorem g_bipush (X : Ok G l D cI cZ cc Ts own nL R rw ini z) {n : Int} {v : Int32} (hd : decode cc pc = .ok (.bipush n, 2)) (hv : (Int8.ofInt n).toInt32 = v) (k : G ce sl ws lv (pc + 2) (.int v :: st)) : G ce sl ws lv pc (st) := by
  obtain ⟨p, e, s, m, args, below, meth, c, A, B, Q, rfl, hx, hb, hml, hown, hts, hK, hN, hA, hrw, hin, hZ⟩ := X
  intro H locs ls hP hD hS hl
  exact lv_bipush hx hb hd hv (k H locs ls hP hD hS hl)
theorem g_sipush (X : Ok G l D cI cZ cc Ts own nL R rw ini z) {n : Int} {v : Int32} (hd : decode cc pc = .ok (.sipush n, 3)) (hv : (Int16.ofInt n).toInt32 = v) (k : G ce sl ws lv (pc + 3) (.int v :: st)) : G ce sl ws lv pc (st) := by
  obtain ⟨p, e, s, m, args, below, meth, c, A, B, Q, rfl, hx, hb, hml, hown, hts, hK, hN, hA, hrw, hin, hZ⟩ := X
  intro H locs ls hP hD hS hl
  exact lv_sipush hx hb hd hv (k H locs ls hP hD hS hl)
theorem g_lconst (X : Ok G l D cI cZ cc Ts own nL R rw ini z) {n : Fin 2} {v : Int64} (hd : decode cc pc = .ok (.lconst n, 1)) (hv : Int64.ofNat (n : Nat) = v) (k : G ce sl ws lv (pc + 1) (.long v :: st)) : G ce sl ws lv pc (st) := by
  obtain ⟨p, e, s, m, args, below, meth, c, A, B, Q, rfl, hx, hb, hml, hown, hts, hK, hN, hA, hrw, hin, hZ⟩ := X
  intro H locs ls hP hD hS hl
  exact lv_lconst hx hb hd hv (k H locs ls hP hD hS hl)
theorem g_ldc (X : Ok G l D cI cZ cc Ts own nL R rw ini z) {index : Nat} {v : Int32} (hd : decode cc pc = .ok (.ldc index, 2)) (hc : Jvm.Cond.constant own index v ∈ Ts) (k : G ce sl ws lv (pc + 2) (.int v :: st)) : G ce sl ws lv pc (st) := by
  obtain ⟨p, e, s, m, args, below, meth, c, A, B, Q, rfl, hx, hb, hml, hown, hts, hK, hN, hA, hrw, hin, hZ⟩ := X
  intro H locs ls hP hD hS hl
  exact lv_ldc hx hb hown (hts _ hc) hd (k H locs ls hP hD hS hl)
theorem g_ldcw (X : Ok G l D cI cZ cc Ts own nL R rw ini z) {index : Nat} {v : Int32} (hd : decode cc pc = .ok (.ldc_w index, 3)) (hc : Jvm.Cond.constant own index v ∈ Ts) (k : G ce sl ws lv (pc + 3) (.int v :: st)) : G ce sl ws lv pc (st) := by
  obtain ⟨p, e, s, m, args, below, meth, c, A, B, Q, rfl, hx, hb, hml, hown, hts, hK, hN, hA, hrw, hin, hZ⟩ := X
  intro H locs ls hP hD hS hl
  exact lv_ldcw hx hb hown (hts _ hc) hd (k H locs ls hP hD hS hl)
theorem g_ldc2 (X : Ok G l D cI cZ cc Ts own nL R rw ini z) {index : Nat} {v : Int64} (hd : decode cc pc = .ok (.ldc2_w index, 3)) (hc : Jvm.Cond.constantLong own index v ∈ Ts) (k : G ce sl ws lv (pc + 3) (.long v :: st)) : G ce sl ws lv pc (st) := by
  obtain ⟨p, e, s, m, args, below, meth, c, A, B, Q, rfl, hx, hb, hml, hown, hts, hK, hN, hA, hrw, hin, hZ⟩ := X
  intro H locs ls hP hD hS hl
  exact lv_ldc2 hx hb hown (hts _ hc) hd (k H locs ls hP hD hS hl)
theorem g_iload_n (X : Ok G l D cI cZ cc Ts own nL R rw ini z) {k4 : Fin 4} {i : Nat} {x : Int32} (hd : decode cc pc = .ok (.iload_n k4, 1)) (hi : (k4 : Nat) = i) (q : Nat) (hq : lv[q]? = some (i, .int x)) (k : G ce sl ws lv (pc + 1) (.int x :: st)) : G ce sl ws lv pc (st) := by
  obtain ⟨p, e, s, m, args, below, meth, c, A, B, Q, rfl, hx, hb, hml, hown, hts, hK, hN, hA, hrw, hin, hZ⟩ := X
  intro H locs ls hP hD hS hl
  exact lv_iload_n hx hb hd hi (lv_at hl q hq) (k H locs ls hP hD hS hl)
theorem g_iload (X : Ok G l D cI cZ cc Ts own nL R rw ini z) {i : Nat} {x : Int32} (hd : decode cc pc = .ok (.iload i, 2)) (q : Nat) (hq : lv[q]? = some (i, .int x)) (k : G ce sl ws lv (pc + 2) (.int x :: st)) : G ce sl ws lv pc (st) := by
  obtain ⟨p, e, s, m, args, below, meth, c, A, B, Q, rfl, hx, hb, hml, hown, hts, hK, hN, hA, hrw, hin, hZ⟩ := X
  intro H locs ls hP hD hS hl
  exact lv_iload hx hb hd (lv_at hl q hq) (k H locs ls hP hD hS hl)
theorem g_lload_n (X : Ok G l D cI cZ cc Ts own nL R rw ini z) {k4 : Fin 4} {i : Nat} {x : Int64} (hd : decode cc pc = .ok (.lload_n k4, 1)) (hi : (k4 : Nat) = i) (q : Nat) (hq : lv[q]? = some (i, .long x)) (k : G ce sl ws lv (pc + 1) (.long x :: st)) : G ce sl ws lv pc (st) := by
  obtain ⟨p, e, s, m, args, below, meth, c, A, B, Q, rfl, hx, hb, hml, hown, hts, hK, hN, hA, hrw, hin, hZ⟩ := X
  intro H locs ls hP hD hS hl
  exact lv_lload_n hx hb hd hi (lv_at hl q hq) (k H locs ls hP hD hS hl)
theorem g_lload (X : Ok G l D cI cZ cc Ts own nL R rw ini z) {i : Nat} {x : Int64} (hd : decode cc pc = .ok (.lload i, 2)) (q : Nat) (hq : lv[q]? = some (i, .long x)) (k : G ce sl ws lv (pc + 2) (.long x :: st)) : G ce sl ws lv pc (st) := by
  obtain ⟨p, e, s, m, args, below, meth, c, A, B, Q, rfl, hx, hb, hml, hown, hts, hK, hN, hA, hrw, hin, hZ⟩ := X
  intro H locs ls hP hD hS hl
  exact lv_lload hx hb hd (lv_at hl q hq) (k H locs ls hP hD hS hl)
theorem g_aload_n (X : Ok G l D cI cZ cc Ts own nL R rw ini z) {k4 : Fin 4} {i : Nat} {x : Nat} (hd : decode cc pc = .ok (.aload_n k4, 1)) (hi : (k4 : Nat) = i) (q : Nat) (hq : lv[q]? = some (i, .ref x)) (k : G ce sl ws lv (pc + 1) (.ref x :: st)) : G ce sl ws lv pc (st) := by
  obtain ⟨p, e, s, m, args, below, meth, c, A, B, Q, rfl, hx, hb, hml, hown, hts, hK, hN, hA, hrw, hin, hZ⟩ := X
  intro H locs ls hP hD hS hl
  exact lv_aload_n hx hb hd hi (lv_at hl q hq) (k H locs ls hP hD hS hl)
theorem g_aload (X : Ok G l D cI cZ cc Ts own nL R rw ini z) {i : Nat} {x : Nat} (hd : decode cc pc = .ok (.aload i, 2)) (q : Nat) (hq : lv[q]? = some (i, .ref x)) (k : G ce sl ws lv (pc + 2) (.ref x :: st)) : G ce sl ws lv pc (st) := by
  obtain ⟨p, e, s, m, args, below, meth, c, A, B, Q, rfl, hx, hb, hml, hown, hts, hK, hN, hA, hrw, hin, hZ⟩ := X
  intro H locs ls hP hD hS hl
  exact lv_aload hx hb hd (lv_at hl q hq) (k H locs ls hP hD hS hl)
theorem g_istore_n (X : Ok G l D cI cZ cc Ts own nL R rw ini z) {k4 : Fin 4} {i : Nat} {x : Int32} (hd : decode cc pc = .ok (.istore_n k4, 1)) (hi : (k4 : Nat) = i) (hn : i < nL) (ks : List Nat) (he : lv_pick ((i, Value.int x) :: lv.filter (fun q => !(q.1 == i) && !(q.1 + 1 == i && q.2.category == 2))) ks = lv') (k : G ce sl ws lv' (pc + 1) st) : G ce sl ws lv pc (.int x :: st) := by
  obtain ⟨p, e, s, m, args, below, meth, c, A, B, Q, rfl, hx, hb, hml, hown, hts, hK, hN, hA, hrw, hin, hZ⟩ := X
  intro H locs ls hP hD hS hl
  exact lv_istore_n hx hb hd hi hl hn rfl (fun ls' hl' => k H locs ls' hP hD hS (lv_sub hl' ks he))
theorem g_istore (X : Ok G l D cI cZ cc Ts own nL R rw ini z) {i : Nat} {x : Int32} (hd : decode cc pc = .ok (.istore i, 2)) (hn : i < nL) (ks : List Nat) (he : lv_pick ((i, Value.int x) :: lv.filter (fun q => !(q.1 == i) && !(q.1 + 1 == i && q.2.category == 2))) ks = lv') (k : G ce sl ws lv' (pc + 2) st) : G ce sl ws lv pc (.int x :: st) := by
  obtain ⟨p, e, s, m, args, below, meth, c, A, B, Q, rfl, hx, hb, hml, hown, hts, hK, hN, hA, hrw, hin, hZ⟩ := X
  intro H locs ls hP hD hS hl
  exact lv_istore hx hb hd hl hn rfl (fun ls' hl' => k H locs ls' hP hD hS (lv_sub hl' ks he))
theorem g_lstore_n (X : Ok G l D cI cZ cc Ts own nL R rw ini z) {k4 : Fin 4} {i : Nat} {x : Int64} (hd : decode cc pc = .ok (.lstore_n k4, 1)) (hi : (k4 : Nat) = i) (hn : i + 1 < nL) (ks : List Nat) (he : lv_pick ((i, Value.long x) :: lv.filter (fun q => !(q.1 == i) && (!(q.1 == i + 1) && !(q.1 + 1 == i && q.2.category == 2)))) ks = lv') (k : G ce sl ws lv' (pc + 1) st) : G ce sl ws lv pc (.long x :: st) := by
  obtain ⟨p, e, s, m, args, below, meth, c, A, B, Q, rfl, hx, hb, hml, hown, hts, hK, hN, hA, hrw, hin, hZ⟩ := X
  intro H locs ls hP hD hS hl
  exact lv_lstore_n hx hb hd hi hl hn rfl (fun ls' hl' => k H locs ls' hP hD hS (lv_sub hl' ks he))
theorem g_lstore (X : Ok G l D cI cZ cc Ts own nL R rw ini z) {i : Nat} {x : Int64} (hd : decode cc pc = .ok (.lstore i, 2)) (hn : i + 1 < nL) (ks : List Nat) (he : lv_pick ((i, Value.long x) :: lv.filter (fun q => !(q.1 == i) && (!(q.1 == i + 1) && !(q.1 + 1 == i && q.2.category == 2)))) ks = lv') (k : G ce sl ws lv' (pc + 2) st) : G ce sl ws lv pc (.long x :: st) := by
  obtain ⟨p, e, s, m, args, below, meth, c, A, B, Q, rfl, hx, hb, hml, hown, hts, hK, hN, hA, hrw, hin, hZ⟩ := X
  intro H locs ls hP hD hS hl
  exact lv_lstore hx hb hd hl hn rfl (fun ls' hl' => k H locs ls' hP hD hS (lv_sub hl' ks he))
theorem g_astore_n (X : Ok G l D cI cZ cc Ts own nL R rw ini z) {k4 : Fin 4} {i : Nat} {x : Nat} (hd : decode cc pc = .ok (.astore_n k4, 1)) (hi : (k4 : Nat) = i) (hn : i < nL) (ks : List Nat) (he : lv_pick ((i, Value.ref x) :: lv.filter (fun q => !(q.1 == i) && !(q.1 + 1 == i && q.2.category == 2))) ks = lv') (k : G ce sl ws lv' (pc + 1) st) : G ce sl ws lv pc (.ref x :: st) := by
  obtain ⟨p, e, s, m, args, below, meth, c, A, B, Q, rfl, hx, hb, hml, hown, hts, hK, hN, hA, hrw, hin, hZ⟩ := X
  intro H locs ls hP hD hS hl
  exact lv_astore_n hx hb hd hi hl hn rfl (fun ls' hl' => k H locs ls' hP hD hS (lv_sub hl' ks he))
theorem g_astore (X : Ok G l D cI cZ cc Ts own nL R rw ini z) {i : Nat} {x : Nat} (hd : decode cc pc = .ok (.astore i, 2)) (hn : i < nL) (ks : List Nat) (he : lv_pick ((i, Value.ref x) :: lv.filter (fun q => !(q.1 == i) && !(q.1 + 1 == i && q.2.category == 2))) ks = lv') (k : G ce sl ws lv' (pc + 2) st) : G ce sl ws lv pc (.ref x :: st) := by
  obtain ⟨p, e, s, m, args, below, meth, c, A, B, Q, rfl, hx, hb, hml, hown, hts, hK, hN, hA, hrw, hin, hZ⟩ := X
  intro H locs ls hP hD hS hl
  exact lv_astore hx hb hd hl hn rfl (fun ls' hl' => k H locs ls' hP hD hS (lv_sub hl' ks he))
theorem g_iinc (X : Ok G l D cI cZ cc Ts own nL R rw ini z) {i : Nat} {n : Int} {x v : Int32} (hd : decode cc pc = .ok (.iinc i n, 3)) (q : Nat) (hq : lv[q]? = some (i, .int x)) (hv : x + Int32.ofInt n = v) (hn : i < nL) (ks : List Nat) (he : lv_pick ((i, Value.int v) :: lv.filter (fun q => !(q.1 == i) && !(q.1 + 1 == i && q.2.category == 2))) ks = lv') (k : G ce sl ws lv' (pc + 3) st) : G ce sl ws lv pc (st) := by
  obtain ⟨p, e, s, m, args, below, meth, c, A, B, Q, rfl, hx, hb, hml, hown, hts, hK, hN, hA, hrw, hin, hZ⟩ := X
  intro H locs ls hP hD hS hl
  exact lv_iinc hx hb hd hl hq hv hn rfl (fun ls' hl' => k H locs ls' hP hD hS (lv_sub hl' ks he))
theorem g_iadd (X : Ok G l D cI cZ cc Ts own nL R rw ini z) {x y : Int32} (hd : decode cc pc = .ok (.iadd, 1))  (k : G ce sl ws lv (pc + 1) (.int (x + y) :: st)) : G ce sl ws lv pc (.int y :: .int x :: st) := by
  obtain ⟨p, e, s, m, args, below, meth, c, A, B, Q, rfl, hx, hb, hml, hown, hts, hK, hN, hA, hrw, hin, hZ⟩ := X
  intro H locs ls hP hD hS hl
  exact lv_iadd hx hb hd (k H locs ls hP hD hS hl)
theorem g_isub (X : Ok G l D cI cZ cc Ts own nL R rw ini z) {x y : Int32} (hd : decode cc pc = .ok (.isub, 1))  (k : G ce sl ws lv (pc + 1) (.int (x - y) :: st)) : G ce sl ws lv pc (.int y :: .int x :: st) := by
  obtain ⟨p, e, s, m, args, below, meth, c, A, B, Q, rfl, hx, hb, hml, hown, hts, hK, hN, hA, hrw, hin, hZ⟩ := X
  intro H locs ls hP hD hS hl
  exact lv_isub hx hb hd (k H locs ls hP hD hS hl)
theorem g_imul (X : Ok G l D cI cZ cc Ts own nL R rw ini z) {x y : Int32} (hd : decode cc pc = .ok (.imul, 1))  (k : G ce sl ws lv (pc + 1) (.int (x * y) :: st)) : G ce sl ws lv pc (.int y :: .int x :: st) := by
  obtain ⟨p, e, s, m, args, below, meth, c, A, B, Q, rfl, hx, hb, hml, hown, hts, hK, hN, hA, hrw, hin, hZ⟩ := X
  intro H locs ls hP hD hS hl
  exact lv_imul hx hb hd (k H locs ls hP hD hS hl)
theorem g_iand (X : Ok G l D cI cZ cc Ts own nL R rw ini z) {x y : Int32} (hd : decode cc pc = .ok (.iand, 1))  (k : G ce sl ws lv (pc + 1) (.int (x &&& y) :: st)) : G ce sl ws lv pc (.int y :: .int x :: st) := by
  obtain ⟨p, e, s, m, args, below, meth, c, A, B, Q, rfl, hx, hb, hml, hown, hts, hK, hN, hA, hrw, hin, hZ⟩ := X
  intro H locs ls hP hD hS hl
  exact lv_iand hx hb hd (k H locs ls hP hD hS hl)
theorem g_ior (X : Ok G l D cI cZ cc Ts own nL R rw ini z) {x y : Int32} (hd : decode cc pc = .ok (.ior, 1))  (k : G ce sl ws lv (pc + 1) (.int (x ||| y) :: st)) : G ce sl ws lv pc (.int y :: .int x :: st) := by
  obtain ⟨p, e, s, m, args, below, meth, c, A, B, Q, rfl, hx, hb, hml, hown, hts, hK, hN, hA, hrw, hin, hZ⟩ := X
  intro H locs ls hP hD hS hl
  exact lv_ior hx hb hd (k H locs ls hP hD hS hl)
theorem g_ixor (X : Ok G l D cI cZ cc Ts own nL R rw ini z) {x y : Int32} (hd : decode cc pc = .ok (.ixor, 1))  (k : G ce sl ws lv (pc + 1) (.int (x ^^^ y) :: st)) : G ce sl ws lv pc (.int y :: .int x :: st) := by
  obtain ⟨p, e, s, m, args, below, meth, c, A, B, Q, rfl, hx, hb, hml, hown, hts, hK, hN, hA, hrw, hin, hZ⟩ := X
  intro H locs ls hP hD hS hl
  exact lv_ixor hx hb hd (k H locs ls hP hD hS hl)
theorem g_ishl (X : Ok G l D cI cZ cc Ts own nL R rw ini z) {x y : Int32} (hd : decode cc pc = .ok (.ishl, 1))  (k : G ce sl ws lv (pc + 1) (.int (x <<< (y &&& 31)) :: st)) : G ce sl ws lv pc (.int y :: .int x :: st) := by
  obtain ⟨p, e, s, m, args, below, meth, c, A, B, Q, rfl, hx, hb, hml, hown, hts, hK, hN, hA, hrw, hin, hZ⟩ := X
  intro H locs ls hP hD hS hl
  exact lv_ishl hx hb hd (k H locs ls hP hD hS hl)
theorem g_ishr (X : Ok G l D cI cZ cc Ts own nL R rw ini z) {x y : Int32} (hd : decode cc pc = .ok (.ishr, 1))  (k : G ce sl ws lv (pc + 1) (.int (x >>> (y &&& 31)) :: st)) : G ce sl ws lv pc (.int y :: .int x :: st) := by
  obtain ⟨p, e, s, m, args, below, meth, c, A, B, Q, rfl, hx, hb, hml, hown, hts, hK, hN, hA, hrw, hin, hZ⟩ := X
  intro H locs ls hP hD hS hl
  exact lv_ishr hx hb hd (k H locs ls hP hD hS hl)
theorem g_idiv (X : Ok G l D cI cZ cc Ts own nL R rw ini z) {x y : Int32} (hd : decode cc pc = .ok (.idiv, 1)) (hne : ¬ y = 0) (k : G ce sl ws lv (pc + 1) (.int (x / y) :: st)) : G ce sl ws lv pc (.int y :: .int x :: st) := by
  obtain ⟨p, e, s, m, args, below, meth, c, A, B, Q, rfl, hx, hb, hml, hown, hts, hK, hN, hA, hrw, hin, hZ⟩ := X
  intro H locs ls hP hD hS hl
  exact lv_idiv hx hb hd hne (k H locs ls hP hD hS hl)
theorem g_irem (X : Ok G l D cI cZ cc Ts own nL R rw ini z) {x y : Int32} (hd : decode cc pc = .ok (.irem, 1)) (hne : ¬ y = 0) (k : G ce sl ws lv (pc + 1) (.int (x - x / y * y) :: st)) : G ce sl ws lv pc (.int y :: .int x :: st) := by
  obtain ⟨p, e, s, m, args, below, meth, c, A, B, Q, rfl, hx, hb, hml, hown, hts, hK, hN, hA, hrw, hin, hZ⟩ := X
  intro H locs ls hP hD hS hl
  exact lv_irem hx hb hd hne (k H locs ls hP hD hS hl)
theorem g_ineg (X : Ok G l D cI cZ cc Ts own nL R rw ini z) {x : Int32} (hd : decode cc pc = .ok (.ineg, 1))  (k : G ce sl ws lv (pc + 1) (.int (-x) :: st)) : G ce sl ws lv pc (.int x :: st) := by
  obtain ⟨p, e, s, m, args, below, meth, c, A, B, Q, rfl, hx, hb, hml, hown, hts, hK, hN, hA, hrw, hin, hZ⟩ := X
  intro H locs ls hP hD hS hl
  exact lv_ineg hx hb hd (k H locs ls hP hD hS hl)
theorem g_iushr (X : Ok G l D cI cZ cc Ts own nL R rw ini z) {x y v : Int32} (hd : decode cc pc = .ok (.iushr, 1)) (hv : (x.toUInt32 >>> (y.toUInt32 &&& Int32.toUInt32 31)).toInt32 = v) (k : G ce sl ws lv (pc + 1) (.int v :: st)) : G ce sl ws lv pc (.int y :: .int x :: st) := by
  obtain ⟨p, e, s, m, args, below, meth, c, A, B, Q, rfl, hx, hb, hml, hown, hts, hK, hN, hA, hrw, hin, hZ⟩ := X
  intro H locs ls hP hD hS hl
  exact lv_iushr hx hb hd hv (k H locs ls hP hD hS hl)
theorem g_ladd (X : Ok G l D cI cZ cc Ts own nL R rw ini z) {x y : Int64} (hd : decode cc pc = .ok (.ladd, 1))  (k : G ce sl ws lv (pc + 1) (.long (x + y) :: st)) : G ce sl ws lv pc (.long y :: .long x :: st) := by
  obtain ⟨p, e, s, m, args, below, meth, c, A, B, Q, rfl, hx, hb, hml, hown, hts, hK, hN, hA, hrw, hin, hZ⟩ := X
  intro H locs ls hP hD hS hl
  exact lv_ladd hx hb hd (k H locs ls hP hD hS hl)
theorem g_lsub (X : Ok G l D cI cZ cc Ts own nL R rw ini z) {x y : Int64} (hd : decode cc pc = .ok (.lsub, 1))  (k : G ce sl ws lv (pc + 1) (.long (x - y) :: st)) : G ce sl ws lv pc (.long y :: .long x :: st) := by
  obtain ⟨p, e, s, m, args, below, meth, c, A, B, Q, rfl, hx, hb, hml, hown, hts, hK, hN, hA, hrw, hin, hZ⟩ := X
  intro H locs ls hP hD hS hl
  exact lv_lsub hx hb hd (k H locs ls hP hD hS hl)
theorem g_lmul (X : Ok G l D cI cZ cc Ts own nL R rw ini z) {x y : Int64} (hd : decode cc pc = .ok (.lmul, 1))  (k : G ce sl ws lv (pc + 1) (.long (x * y) :: st)) : G ce sl ws lv pc (.long y :: .long x :: st) := by
  obtain ⟨p, e, s, m, args, below, meth, c, A, B, Q, rfl, hx, hb, hml, hown, hts, hK, hN, hA, hrw, hin, hZ⟩ := X
  intro H locs ls hP hD hS hl
  exact lv_lmul hx hb hd (k H locs ls hP hD hS hl)
theorem g_ldiv (X : Ok G l D cI cZ cc Ts own nL R rw ini z) {x y : Int64} (hd : decode cc pc = .ok (.ldiv, 1)) (hne : ¬ y = 0) (k : G ce sl ws lv (pc + 1) (.long (x / y) :: st)) : G ce sl ws lv pc (.long y :: .long x :: st) := by
  obtain ⟨p, e, s, m, args, below, meth, c, A, B, Q, rfl, hx, hb, hml, hown, hts, hK, hN, hA, hrw, hin, hZ⟩ := X
  intro H locs ls hP hD hS hl
  exact lv_ldiv hx hb hd hne (k H locs ls hP hD hS hl)
theorem g_lrem (X : Ok G l D cI cZ cc Ts own nL R rw ini z) {x y : Int64} (hd : decode cc pc = .ok (.lrem, 1)) (hne : ¬ y = 0) (k : G ce sl ws lv (pc + 1) (.long (x - x / y * y) :: st)) : G ce sl ws lv pc (.long y :: .long x :: st) := by
  obtain ⟨p, e, s, m, args, below, meth, c, A, B, Q, rfl, hx, hb, hml, hown, hts, hK, hN, hA, hrw, hin, hZ⟩ := X
  intro H locs ls hP hD hS hl
  exact lv_lrem hx hb hd hne (k H locs ls hP hD hS hl)
theorem g_lcmp (X : Ok G l D cI cZ cc Ts own nL R rw ini z) {x y : Int64} (hd : decode cc pc = .ok (.lcmp, 1))  (k : G ce sl ws lv (pc + 1) (.int (lg_cmp x y) :: st)) : G ce sl ws lv pc (.long y :: .long x :: st) := by
  obtain ⟨p, e, s, m, args, below, meth, c, A, B, Q, rfl, hx, hb, hml, hown, hts, hK, hN, hA, hrw, hin, hZ⟩ := X
  intro H locs ls hP hD hS hl
  exact W.lcmp hx hb hd (k H locs ls hP hD hS hl)
theorem g_i2l (X : Ok G l D cI cZ cc Ts own nL R rw ini z) {x : Int32} (hd : decode cc pc = .ok (.i2l, 1))  (k : G ce sl ws lv (pc + 1) (.long x.toInt64 :: st)) : G ce sl ws lv pc (.int x :: st) := by
  obtain ⟨p, e, s, m, args, below, meth, c, A, B, Q, rfl, hx, hb, hml, hown, hts, hK, hN, hA, hrw, hin, hZ⟩ := X
  intro H locs ls hP hD hS hl
  exact lv_i2l hx hb hd rfl (k H locs ls hP hD hS hl)
theorem g_l2i (X : Ok G l D cI cZ cc Ts own nL R rw ini z) {x : Int64} (hd : decode cc pc = .ok (.l2i, 1))  (k : G ce sl ws lv (pc + 1) (.int x.toInt32 :: st)) : G ce sl ws lv pc (.long x :: st) := by
  obtain ⟨p, e, s, m, args, below, meth, c, A, B, Q, rfl, hx, hb, hml, hown, hts, hK, hN, hA, hrw, hin, hZ⟩ := X
  intro H locs ls hP hD hS hl
  exact lv_l2i hx hb hd rfl (k H locs ls hP hD hS hl)
theorem g_dup (X : Ok G l D cI cZ cc Ts own nL R rw ini z) {va : Value} (hd : decode cc pc = .ok (.dup, 1)) (hva : va.category = 1) (k : G ce sl ws lv (pc + 1) (va :: va :: st)) : G ce sl ws lv pc (va :: st) := by
  obtain ⟨p, e, s, m, args, below, meth, c, A, B, Q, rfl, hx, hb, hml, hown, hts, hK, hN, hA, hrw, hin, hZ⟩ := X
  intro H locs ls hP hD hS hl
  exact lv_dup hx hb hd hva (k H locs ls hP hD hS hl)
theorem g_pop (X : Ok G l D cI cZ cc Ts own nL R rw ini z) {va : Value} (hd : decode cc pc = .ok (.pop, 1)) (hva : va.category = 1) (k : G ce sl ws lv (pc + 1) (st)) : G ce sl ws lv pc (va :: st) := by
  obtain ⟨p, e, s, m, args, below, meth, c, A, B, Q, rfl, hx, hb, hml, hown, hts, hK, hN, hA, hrw, hin, hZ⟩ := X
  intro H locs ls hP hD hS hl
  exact lv_pop hx hb hd hva (k H locs ls hP hD hS hl)
theorem g_dup2_11 (X : Ok G l D cI cZ cc Ts own nL R rw ini z) {va vb : Value} (hd : decode cc pc = .ok (.dup2, 1)) (hva : va.category = 1) (hvb : vb.category = 1) (k : G ce sl ws lv (pc + 1) (va :: vb :: va :: vb :: st)) : G ce sl ws lv pc (va :: vb :: st) := by
  obtain ⟨p, e, s, m, args, below, meth, c, A, B, Q, rfl, hx, hb, hml, hown, hts, hK, hN, hA, hrw, hin, hZ⟩ := X
  intro H locs ls hP hD hS hl
  exact lv_dup2_11 hx hb hd hva hvb (k H locs ls hP hD hS hl)
theorem g_dup_x1 (X : Ok G l D cI cZ cc Ts own nL R rw ini z) {va vb : Value} (hd : decode cc pc = .ok (.dup_x1, 1)) (hva : va.category = 1) (hvb : vb.category = 1) (k : G ce sl ws lv (pc + 1) (va :: vb :: va :: st)) : G ce sl ws lv pc (va :: vb :: st) := by
  obtain ⟨p, e, s, m, args, below, meth, c, A, B, Q, rfl, hx, hb, hml, hown, hts, hK, hN, hA, hrw, hin, hZ⟩ := X
  intro H locs ls hP hD hS hl
  exact lv_dup_x1 hx hb hd hva hvb (k H locs ls hP hD hS hl)
theorem g_if_eq (X : Ok G l D cI cZ cc Ts own nL R rw ini z) {x : Int32} {off : Int} {tgt : Nat} (hd : decode cc pc = .ok (.ifCond .eq off, 3)) (ht : (pc : Int) + off = (tgt : Int)) (kt : x = 0 → G ce sl ws lv tgt st) (kf : ¬ x = 0 → G ce sl ws lv (pc + 3) st) : G ce sl ws lv pc (.int x :: st) := by
  obtain ⟨p, e, s, m, args, below, meth, c, A, B, Q, rfl, hx, hb, hml, hown, hts, hK, hN, hA, hrw, hin, hZ⟩ := X
  intro H locs ls hP hD hS hl
  exact lv_if_eq hx hb hd ht (fun h => kt h H locs ls hP hD hS hl) (fun h => kf h H locs ls hP hD hS hl)
theorem g_icmp_eq (X : Ok G l D cI cZ cc Ts own nL R rw ini z) {x y : Int32} {off : Int} {tgt : Nat} (hd : decode cc pc = .ok (.if_icmp .eq off, 3)) (ht : (pc : Int) + off = (tgt : Int)) (kt : x = y → G ce sl ws lv tgt st) (kf : ¬ x = y → G ce sl ws lv (pc + 3) st) : G ce sl ws lv pc (.int y :: .int x :: st) := by
  obtain ⟨p, e, s, m, args, below, meth, c, A, B, Q, rfl, hx, hb, hml, hown, hts, hK, hN, hA, hrw, hin, hZ⟩ := X
  intro H locs ls hP hD hS hl
  exact lv_icmp_eq hx hb hd ht (fun h => kt h H locs ls hP hD hS hl) (fun h => kf h H locs ls hP hD hS hl)
theorem g_if_ne (X : Ok G l D cI cZ cc Ts own nL R rw ini z) {x : Int32} {off : Int} {tgt : Nat} (hd : decode cc pc = .ok (.ifCond .ne off, 3)) (ht : (pc : Int) + off = (tgt : Int)) (kt : ¬ x = 0 → G ce sl ws lv tgt st) (kf : x = 0 → G ce sl ws lv (pc + 3) st) : G ce sl ws lv pc (.int x :: st) := by
  obtain ⟨p, e, s, m, args, below, meth, c, A, B, Q, rfl, hx, hb, hml, hown, hts, hK, hN, hA, hrw, hin, hZ⟩ := X
  intro H locs ls hP hD hS hl
  exact lv_if_ne hx hb hd ht (fun h => kt h H locs ls hP hD hS hl) (fun h => kf h H locs ls hP hD hS hl)
theorem g_icmp_ne (X : Ok G l D cI cZ cc Ts own nL R rw ini z) {x y : Int32} {off : Int} {tgt : Nat} (hd : decode cc pc = .ok (.if_icmp .ne off, 3)) (ht : (pc : Int) + off = (tgt : Int)) (kt : ¬ x = y → G ce sl ws lv tgt st) (kf : x = y → G ce sl ws lv (pc + 3) st) : G ce sl ws lv pc (.int y :: .int x :: st) := by
  obtain ⟨p, e, s, m, args, below, meth, c, A, B, Q, rfl, hx, hb, hml, hown, hts, hK, hN, hA, hrw, hin, hZ⟩ := X
  intro H locs ls hP hD hS hl
  exact lv_icmp_ne hx hb hd ht (fun h => kt h H locs ls hP hD hS hl) (fun h => kf h H locs ls hP hD hS hl)
theorem g_if_lt (X : Ok G l D cI cZ cc Ts own nL R rw ini z) {x : Int32} {off : Int} {tgt : Nat} (hd : decode cc pc = .ok (.ifCond .lt off, 3)) (ht : (pc : Int) + off = (tgt : Int)) (kt : x < 0 → G ce sl ws lv tgt st) (kf : ¬ x < 0 → G ce sl ws lv (pc + 3) st) : G ce sl ws lv pc (.int x :: st) := by
  obtain ⟨p, e, s, m, args, below, meth, c, A, B, Q, rfl, hx, hb, hml, hown, hts, hK, hN, hA, hrw, hin, hZ⟩ := X
  intro H locs ls hP hD hS hl
  exact lv_if_lt hx hb hd ht (fun h => kt h H locs ls hP hD hS hl) (fun h => kf h H locs ls hP hD hS hl)
theorem g_icmp_lt (X : Ok G l D cI cZ cc Ts own nL R rw ini z) {x y : Int32} {off : Int} {tgt : Nat} (hd : decode cc pc = .ok (.if_icmp .lt off, 3)) (ht : (pc : Int) + off = (tgt : Int)) (kt : x < y → G ce sl ws lv tgt st) (kf : ¬ x < y → G ce sl ws lv (pc + 3) st) : G ce sl ws lv pc (.int y :: .int x :: st) := by
  obtain ⟨p, e, s, m, args, below, meth, c, A, B, Q, rfl, hx, hb, hml, hown, hts, hK, hN, hA, hrw, hin, hZ⟩ := X
  intro H locs ls hP hD hS hl
  exact lv_icmp_lt hx hb hd ht (fun h => kt h H locs ls hP hD hS hl) (fun h => kf h H locs ls hP hD hS hl)
theorem g_if_ge (X : Ok G l D cI cZ cc Ts own nL R rw ini z) {x : Int32} {off : Int} {tgt : Nat} (hd : decode cc pc = .ok (.ifCond .ge off, 3)) (ht : (pc : Int) + off = (tgt : Int)) (kt : 0 ≤ x → G ce sl ws lv tgt st) (kf : ¬ 0 ≤ x → G ce sl ws lv (pc + 3) st) : G ce sl ws lv pc (.int x :: st) := by
  obtain ⟨p, e, s, m, args, below, meth, c, A, B, Q, rfl, hx, hb, hml, hown, hts, hK, hN, hA, hrw, hin, hZ⟩ := X
  intro H locs ls hP hD hS hl
  exact lv_if_ge hx hb hd ht (fun h => kt h H locs ls hP hD hS hl) (fun h => kf h H locs ls hP hD hS hl)
theorem g_icmp_ge (X : Ok G l D cI cZ cc Ts own nL R rw ini z) {x y : Int32} {off : Int} {tgt : Nat} (hd : decode cc pc = .ok (.if_icmp .ge off, 3)) (ht : (pc : Int) + off = (tgt : Int)) (kt : y ≤ x → G ce sl ws lv tgt st) (kf : ¬ y ≤ x → G ce sl ws lv (pc + 3) st) : G ce sl ws lv pc (.int y :: .int x :: st) := by
  obtain ⟨p, e, s, m, args, below, meth, c, A, B, Q, rfl, hx, hb, hml, hown, hts, hK, hN, hA, hrw, hin, hZ⟩ := X
  intro H locs ls hP hD hS hl
  exact lv_icmp_ge hx hb hd ht (fun h => kt h H locs ls hP hD hS hl) (fun h => kf h H locs ls hP hD hS hl)
theorem g_if_gt (X : Ok G l D cI cZ cc Ts own nL R rw ini z) {x : Int32} {off : Int} {tgt : Nat} (hd : decode cc pc = .ok (.ifCond .gt off, 3)) (ht : (pc : Int) + off = (tgt : Int)) (kt : 0 < x → G ce sl ws lv tgt st) (kf : ¬ 0 < x → G ce sl ws lv (pc + 3) st) : G ce sl ws lv pc (.int x :: st) := by
  obtain ⟨p, e, s, m, args, below, meth, c, A, B, Q, rfl, hx, hb, hml, hown, hts, hK, hN, hA, hrw, hin, hZ⟩ := X
  intro H locs ls hP hD hS hl
  exact lv_if_gt hx hb hd ht (fun h => kt h H locs ls hP hD hS hl) (fun h => kf h H locs ls hP hD hS hl)
theorem g_icmp_gt (X : Ok G l D cI cZ cc Ts own nL R rw ini z) {x y : Int32} {off : Int} {tgt : Nat} (hd : decode cc pc = .ok (.if_icmp .gt off, 3)) (ht : (pc : Int) + off = (tgt : Int)) (kt : y < x → G ce sl ws lv tgt st) (kf : ¬ y < x → G ce sl ws lv (pc + 3) st) : G ce sl ws lv pc (.int y :: .int x :: st) := by
  obtain ⟨p, e, s, m, args, below, meth, c, A, B, Q, rfl, hx, hb, hml, hown, hts, hK, hN, hA, hrw, hin, hZ⟩ := X
  intro H locs ls hP hD hS hl
  exact lv_icmp_gt hx hb hd ht (fun h => kt h H locs ls hP hD hS hl) (fun h => kf h H locs ls hP hD hS hl)
theorem g_if_le (X : Ok G l D cI cZ cc Ts own nL R rw ini z) {x : Int32} {off : Int} {tgt : Nat} (hd : decode cc pc = .ok (.ifCond .le off, 3)) (ht : (pc : Int) + off = (tgt : Int)) (kt : x ≤ 0 → G ce sl ws lv tgt st) (kf : ¬ x ≤ 0 → G ce sl ws lv (pc + 3) st) : G ce sl ws lv pc (.int x :: st) := by
  obtain ⟨p, e, s, m, args, below, meth, c, A, B, Q, rfl, hx, hb, hml, hown, hts, hK, hN, hA, hrw, hin, hZ⟩ := X
  intro H locs ls hP hD hS hl
  exact lv_if_le hx hb hd ht (fun h => kt h H locs ls hP hD hS hl) (fun h => kf h H locs ls hP hD hS hl)
theorem g_icmp_le (X : Ok G l D cI cZ cc Ts own nL R rw ini z) {x y : Int32} {off : Int} {tgt : Nat} (hd : decode cc pc = .ok (.if_icmp .le off, 3)) (ht : (pc : Int) + off = (tgt : Int)) (kt : x ≤ y → G ce sl ws lv tgt st) (kf : ¬ x ≤ y → G ce sl ws lv (pc + 3) st) : G ce sl ws lv pc (.int y :: .int x :: st) := by
  obtain ⟨p, e, s, m, args, below, meth, c, A, B, Q, rfl, hx, hb, hml, hown, hts, hK, hN, hA, hrw, hin, hZ⟩ := X
  intro H locs ls hP hD hS hl
  exact lv_icmp_le hx hb hd ht (fun h => kt h H locs ls hP hD hS hl) (fun h => kf h H locs ls hP hD hS hl)
theorem g_goto (X : Ok G l D cI cZ cc Ts own nL R rw ini z) {off : Int} {tgt : Nat} (hd : decode cc pc = .ok (.goto off, 3)) (ht : (pc : Int) + off = (tgt : Int)) (k : G ce sl ws lv tgt st) : G ce sl ws lv pc (st) := by
  obtain ⟨p, e, s, m, args, below, meth, c, A, B, Q, rfl, hx, hb, hml, hown, hts, hK, hN, hA, hrw, hin, hZ⟩ := X
  intro H locs ls hP hD hS hl
  exact lv_goto hx hb hd ht (k H locs ls hP hD hS hl)
theorem g_tableOut (X : Ok G l D cI cZ cc Ts own nL R rw ini z) {dflt lo hi : Int} {offs : Array Int} {len : Nat} {x : Int32} {tgt : Nat} (hd : decode cc pc = .ok (.tableswitch dflt lo hi offs, len)) (h : x.toInt < lo ∨ hi < x.toInt) (ht : (pc : Int) + dflt = (tgt : Int)) (k : G ce sl ws lv tgt st) : G ce sl ws lv pc (.int x :: st) := by
  obtain ⟨p, e, s, m, args, below, meth, c, A, B, Q, rfl, hx, hb, hml, hown, hts, hK, hN, hA, hrw, hin, hZ⟩ := X
  intro H locs ls hP hD hS hl
  exact lv_tableOut hx hb hd h ht (k H locs ls hP hD hS hl)
theorem g_tableIn (X : Ok G l D cI cZ cc Ts own nL R rw ini z) {dflt lo hi : Int} {offs : Array Int} {len : Nat} {x : Int32} {off : Int} {tgt : Nat} (hd : decode cc pc = .ok (.tableswitch dflt lo hi offs, len)) (h1 : ¬ x.toInt < lo) (h2 : ¬ hi < x.toInt) (ho : offs[(x.toInt - lo).toNat]? = some off) (ht : (pc : Int) + off = (tgt : Int)) (k : G ce sl ws lv tgt st) : G ce sl ws lv pc (.int x :: st) := by
  obtain ⟨p, e, s, m, args, below, meth, c, A, B, Q, rfl, hx, hb, hml, hown, hts, hK, hN, hA, hrw, hin, hZ⟩ := X
  intro H locs ls hP hD hS hl
  exact lv_tableIn hx hb hd h1 h2 ho ht (k H locs ls hP hD hS hl)
theorem g_get (X : Ok G l D cI cZ cc Ts own nL R rw ini z) {C : String} {T : u_T} {N ci index a : Nat} (hin2 : ∀ w ∈ u_ws C T N, w ∈ Ts) (q0 : Nat) {fs : List Value} (he : ws[q0]? = some (a, .inr (ci, fs))) (hc : vwCl[ci]? = some (C, T, N)) (k0 : Nat) (hk : k0 < N) (hlk : Cond.fieldLink own index (T k0).1 (T k0).2.1 (T k0).2.2.1 ∈ Ts) {v : Value} (hv : fs[k0]? = some v) (hd : decode cc pc = .ok (.getfield index, 3)) (k : G ce sl ws lv (pc + 3) (v :: st)) : G ce sl ws lv pc (.ref a :: st) := by
  obtain ⟨p, e, s, m, args, below, meth, c, A, B, Q, rfl, hx, hb, hml, hown, hts, hK, hN, hA, hrw, hin, hZ⟩ := X
  intro H locs ls hP hD hS hl
  exact va_get hx hb hts hin2 hown hK hP q0 he hc k0 hk (hts _ hlk) (fun _ h => h) hv hd (k H locs ls hP hD hS hl)
theorem g_getN (X : Ok G l D cI cZ cc Ts own nL R rw ini z) {C : String} {T : u_T} {N ci index a : Nat} (hin2 : ∀ w ∈ u_ws C T N, w ∈ Ts) (q0 : Nat) {fs : List Value} (he : ws[q0]? = some (a, .inr (ci, fs))) (hc : vwCl[ci]? = some (C, T, N)) (k0 : Nat) (hk : k0 < N) (hlk : (own, index, (T k0).1, (T k0).2.1, (T k0).2.2.1) ∈ nestF) {v : Value} (hv : fs[k0]? = some v) (hd : decode cc pc = .ok (.getfield index, 3)) (k : G ce sl ws lv (pc + 3) (v :: st)) : G ce sl ws lv pc (.ref a :: st) := by
  obtain ⟨p, e, s, m, args, below, meth, c, A, B, Q, rfl, hx, hb, hml, hown, hts, hK, hN, hA, hrw, hin, hZ⟩ := X
  intro H locs ls hP hD hS hl
  exact va_getN hx hb hts hin2 hown hK hP q0 he hc k0 hk (va_Nw.use rfl (hN.2 _ hlk)) (fun _ h => h) hv hd (k H locs ls hP hD hS hl)
theorem g_put (X : Ok G l D cI cZ cc Ts own nL R true ini z) {C : String} {T : u_T} {N ci index a : Nat} (hin2 : ∀ w ∈ u_ws C T N, w ∈ Ts) (ty0 : Nat → FieldType) (hty : ∀ k, k < N → parseFieldDescriptor (T k).2.2.1 = some (ty0 k)) (hnm : ∀ a, a < N → ∀ b, b < N → a ≠ b → (T a).2.1 ≠ (T b).2.1) (q0 : Nat) {fs : List Value} (he : ws[q0]? = some (a, .inr (ci, fs))) (hc : vwCl[ci]? = some (C, T, N)) (k0 : Nat) (hk : k0 < N) (hlk : Cond.fieldLink own index (T k0).1 (T k0).2.1 (T k0).2.2.1 ∈ Ts) (hfin : (T k0).2.2.2 = false) {ty : FieldType} {v : Value} (hp : parseFieldDescriptor (T k0).2.2.1 = some ty) (hn : narrow ty v = v) (hfit : fits ty v = true) (hl0 : k0 < fs.length) (hd : decode cc pc = .ok (.putfield index, 3)) (hw : ws.set q0 (a, .inr (ci, fs.set k0 v)) = ws') (k : G ce sl ws' lv (pc + 3) st) : G ce sl ws lv pc (v :: .ref a :: st) := by
  obtain ⟨p, e, s, m, args, below, meth, c, A, B, Q, rfl, hx, hb, hml, hown, hts, hK, hN, hA, hrw, hin, hZ⟩ := X
  have hBA := hrw rfl
  subst hBA
  intro H locs ls hP hD hS hl
  exact va_put hx hb hts hin2 ty0 hty hnm hown hK hP hD hS q0 he hc k0 hk (hts _ hlk) (fun _ h => h) hfin hp hn hfit hl0 hd (fun H1 locs1 hP1 hD1 hS1 => k H1 locs1 ls (hw ▸ hP1) (hw ▸ hD1) hS1 hl)
theorem g_putF (X : Ok G l D cI cZ cc Ts own nL R true true z) {C : String} {T : u_T} {N ci index a : Nat} (hin2 : ∀ w ∈ u_ws C T N, w ∈ Ts) (ty0 : Nat → FieldType) (hty : ∀ k, k < N → parseFieldDescriptor (T k).2.2.1 = some (ty0 k)) (hnm : ∀ a, a < N → ∀ b, b < N → a ≠ b → (T a).2.1 ≠ (T b).2.1) (q0 : Nat) {fs : List Value} (he : ws[q0]? = some (a, .inr (ci, fs))) (hc : vwCl[ci]? = some (C, T, N)) (k0 : Nat) (hk : k0 < N) (hlk : Cond.fieldLink own index (T k0).1 (T k0).2.1 (T k0).2.2.1 ∈ Ts) (hfin : (T k0).2.2.2 = true) (hdecl : (T k0).1 = own) {ty : FieldType} {v : Value} (hp : parseFieldDescriptor (T k0).2.2.1 = some ty) (hn : narrow ty v = v) (hfit : fits ty v = true) (hl0 : k0 < fs.length) (hd : decode cc pc = .ok (.putfield index, 3)) (hw : ws.set q0 (a, .inr (ci, fs.set k0 v)) = ws') (k : G ce sl ws' lv (pc + 3) st) : G ce sl ws lv pc (v :: .ref a :: st) := by
  obtain ⟨p, e, s, m, args, below, meth, c, A, B, Q, rfl, hx, hb, hml, hown, hts, hK, hN, hA, hrw, hin, hZ⟩ := X
  have hBA := hrw rfl
  subst hBA
  intro H locs ls hP hD hS hl
  exact va_putF hx hb hts hin2 ty0 hty hnm hown hK hP hD hS q0 he hc k0 hk (hts _ hlk) (fun _ h => h) hfin (hin rfl) hdecl hp hn hfit hl0 hd (fun H1 locs1 hP1 hD1 hS1 => k H1 locs1 ls (hw ▸ hP1) (hw ▸ hD1) hS1 hl)
theorem g_iald (X : Ok G l D cI cZ cc Ts own nL R rw ini z) {a : Nat} (q0 : Nat) {n : Nat} {f : Nat → Int32} (ha : ws[q0]? = some (a, .inl (cI, n, .inl f))) {i : Int32} (hi : vp_in i n) (hd : decode cc pc = .ok (.iaload, 1)) (k : G ce sl ws lv (pc + 1) (.int (f i.toNatClampNeg) :: st)) : G ce sl ws lv pc (.int i :: .ref a :: st) := by
  obtain ⟨p, e, s, m, args, below, meth, c, A, B, Q, rfl, hx, hb, hml, hown, hts, hK, hN, hA, hrw, hin, hZ⟩ := X
  intro H locs ls hP hD hS hl
  exact va_iald hx hb hK hP q0 0 ha rfl hi hd (k H locs ls hP hD hS hl)
theorem g_zald (X : Ok G l D cI cZ cc Ts own nL R rw ini z) {a : Nat} (q0 : Nat) {n : Nat} {f : Nat → Int32} (ha : ws[q0]? = some (a, .inl (cZ, n, .inl f))) {i : Int32} (hi : vp_in i n) (hd : decode cc pc = .ok (.baload, 1)) (k : G ce sl ws lv (pc + 1) (.int (f i.toNatClampNeg) :: st)) : G ce sl ws lv pc (.int i :: .ref a :: st) := by
  obtain ⟨p, e, s, m, args, below, meth, c, A, B, Q, rfl, hx, hb, hml, hown, hts, hK, hN, hA, hrw, hin, hZ⟩ := X
  intro H locs ls hP hD hS hl
  exact va_zald hx hb hK hP q0 1 ha rfl hi hd (k H locs ls hP hD hS hl)
theorem g_iast (X : Ok G l D cI cZ cc Ts own nL R true ini z) {a : Nat} (q0 : Nat) {n : Nat} {f f1 : Nat → Int32} (ha : ws[q0]? = some (a, .inl (cI, n, .inl f))) {i x : Int32} (hi : vp_in i n) (ew : f1 = upd f i.toNatClampNeg x) (hd : decode cc pc = .ok (.iastore, 1)) (hw : ws.set q0 (a, .inl (cI, n, .inl f1)) = ws') (k : G ce sl ws' lv (pc + 1) st) : G ce sl ws lv pc (.int x :: .int i :: .ref a :: st) := by
  obtain ⟨p, e, s, m, args, below, meth, c, A, B, Q, rfl, hx, hb, hml, hown, hts, hK, hN, hA, hrw, hin, hZ⟩ := X
  have hBA := hrw rfl
  subst hBA
  intro H locs ls hP hD hS hl
  subst ew
  exact va_iast hx hb hK hP hD hS q0 0 ha rfl hi hd (fun H1 locs1 hP1 hD1 hS1 => k H1 locs1 ls (hw ▸ hP1) (hw ▸ hD1) hS1 hl)
theorem g_zast (X : Ok G l D cI cZ cc Ts own nL R true ini z) {a : Nat} (q0 : Nat) {n : Nat} {f f1 : Nat → Int32} (ha : ws[q0]? = some (a, .inl (cZ, n, .inl f))) {i x : Int32} (hi : vp_in i n) (ew : f1 = upd f i.toNatClampNeg (vp_nar .boolean x)) (hd : decode cc pc = .ok (.bastore, 1)) (hw : ws.set q0 (a, .inl (cZ, n, .inl f1)) = ws') (k : G ce sl ws' lv (pc + 1) st) : G ce sl ws lv pc (.int x :: .int i :: .ref a :: st) := by
  obtain ⟨p, e, s, m, args, below, meth, c, A, B, Q, rfl, hx, hb, hml, hown, hts, hK, hN, hA, hrw, hin, hZ⟩ := X
  have hBA := hrw rfl
  subst hBA
  intro H locs ls hP hD hS hl
  subst ew
  exact va_zast hx hb hK hP hD hS q0 1 ha rfl hi hd (fun H1 locs1 hP1 hD1 hS1 => k H1 locs1 ls (hw ▸ hP1) (hw ▸ hD1) hS1 hl)
theorem g_alen (X : Ok G l D cI cZ cc Ts own nL R rw ini z) {a : Nat} (q0 : Nat) {n : Nat} {f : Nat → Int32} (ha : ws[q0]? = some (a, .inl (cI, n, .inl f))) (hd : decode cc pc = .ok (.arraylength, 1)) (k : G ce sl ws lv (pc + 1) (.int (nI n) :: st)) : G ce sl ws lv pc (.ref a :: st) := by
  obtain ⟨p, e, s, m, args, below, meth, c, A, B, Q, rfl, hx, hb, hml, hown, hts, hK, hN, hA, hrw, hin, hZ⟩ := X
  intro H locs ls hP hD hS hl
  exact va_alen hx hb hK hP q0 0 ha rfl rfl hd (k H locs ls hP hD hS hl)
theorem g_new (X : Ok G l D cI cZ cc Ts own nL R true ini z) {C : String} {T : u_T} {N ci index : Nat} (hin2 : ∀ w ∈ u_ws C T N, w ∈ Ts) (ty : Nat → FieldType) (hty : ∀ k, k < N → parseFieldDescriptor (T k).2.2.1 = some (ty k)) (hcl : Cond.classLink own index C ∈ Ts) (hinst : Cond.instantiable C N ∈ Ts) (hini : Cond.initialized C ∈ Ts) (hc : vwCl[ci]? = some (C, T, N)) {fs : List Value} (hfs : ∀ j, j < N → defaultValue (ty j) = vp_V fs j) (hce : ce + 1 ≤ R.cells) (hsl : sl + N ≤ R.slots) (hd : decode cc pc = .ok (.new index, 3)) (k : ∀ q : Nat, G (ce + 1) (sl + N) (ws ++ [(q, .inr (ci, fs))]) lv (pc + 3) (.ref q :: st)) : G ce sl ws lv pc (st) := by
  obtain ⟨p, e, s, m, args, below, meth, c, A, B, Q, rfl, hx, hb, hml, hown, hts, hK, hN, hA, hrw, hin, hZ⟩ := X
  have hBA := hrw rfl
  subst hBA
  intro H locs ls hP hD hS hl
  exact va_new hx hb hts hin2 ty hty hown (hts _ hcl) (hts _ hinst) (hts _ hini) hK hP hD hS hA hc hfs hce hsl hd (fun q H1 hP1 hD1 hS1 => k q H1 locs ls hP1 hD1 hS1 hl)
theorem g_newI (X : Ok G l D cI cZ cc Ts own nL R true ini z) (harr : Cond.arrayClass (newarray.typeOf .int) ∈ Ts) {n : Int32} {N' : Nat} (hn : ¬ n < 0) (hN' : n.toNatClampNeg = N') (hby : N' * componentBytes .int ≤ 536870912) (hce : ce + 1 ≤ R.cells) (hsl : sl + N' ≤ R.slots) (hd : decode cc pc = .ok (.newarray .int, 2)) (k : ∀ q : Nat, G (ce + 1) (sl + N') (ws ++ [(q, .inl (cI, N', .inl (fun _ => 0)))]) lv (pc + 2) (.ref q :: st)) : G ce sl ws lv pc (.int n :: st) := by
  obtain ⟨p, e, s, m, args, below, meth, c, A, B, Q, rfl, hx, hb, hml, hown, hts, hK, hN, hA, hrw, hin, hZ⟩ := X
  have hBA := hrw rfl
  subst hBA
  intro H locs ls hP hD hS hl
  refine va_newa (ty := .int) (a0 := (N', .inl (fun _ => 0))) hx hb (hts _ harr) rfl hK hP hD hS hA (fun _ => rfl) hn hN' hby hce hsl hd (fun q cA H1 hK1 hP1 hD1 hS1 => ?_)
  have e1 := (hK1.2 2 (cA, .int) rfl).2
  have e2 := (hK.2 0 (cI, .int) rfl).2
  have e3 : cA = cI := Option.some.inj ((show s.vm.findClass _ = some cA from e1).symm.trans (show s.vm.findClass _ = some cI from e2))
  subst e3
  exact k q H1 locs ls hP1 hD1 hS1 hl
theorem g_newZ (X : Ok G l D cI cZ cc Ts own nL R true ini z) (harr : Cond.arrayClass (newarray.typeOf .boolean) ∈ Ts) {n : Int32} {N' : Nat} (hn : ¬ n < 0) (hN' : n.toNatClampNeg = N') (hby : N' * componentBytes .boolean ≤ 536870912) (hce : ce + 1 ≤ R.cells) (hsl : sl + N' ≤ R.slots) (hd : decode cc pc = .ok (.newarray .boolean, 2)) (k : ∀ q : Nat, G (ce + 1) (sl + N') (ws ++ [(q, .inl (cZ, N', .inl (fun _ => 0)))]) lv (pc + 2) (.ref q :: st)) : G ce sl ws lv pc (.int n :: st) := by
  obtain ⟨p, e, s, m, args, below, meth, c, A, B, Q, rfl, hx, hb, hml, hown, hts, hK, hN, hA, hrw, hin, hZ⟩ := X
  have hBA := hrw rfl
  subst hBA
  intro H locs ls hP hD hS hl
  refine va_newa (ty := .boolean) (a0 := (N', .inl (fun _ => 0))) hx hb (hts _ harr) rfl hK hP hD hS hA (fun _ => rfl) hn hN' hby hce hsl hd (fun q cA H1 hK1 hP1 hD1 hS1 => ?_)
  have e1 := (hK1.2 2 (cA, .boolean) rfl).2
  have e2 := (hK.2 1 (cZ, .boolean) rfl).2
  have e3 : cA = cZ := Option.some.inj ((show s.vm.findClass _ = some cA from e1).symm.trans (show s.vm.findClass _ = some cZ from e2))
  subst e3
  exact k q H1 locs ls hP1 hD1 hS1 hl
theorem g_obj (X : Ok G l D cI cZ cc Ts own nL R rw ini z) {index a : Nat} (h1 : Cond.methodLink own index objectInit ∈ Ts) (h2 : Cond.instanceMethod objectInit ∈ Ts) (h3 : Cond.code objectInit ⟨#[0xb1]⟩ 1 none ∈ Ts) (hd : decode cc pc = .ok (.invokespecial index, 3)) (hfr : 1 ≤ R.frames) (hlo : (st.map fun v => v.category).sum + 12 ≤ R.locals) (k : G ce sl ws lv (pc + 3) st) : G ce sl ws lv pc (.ref a :: st) := by
  obtain ⟨p, e, s, m, args, below, meth, c, A, B, Q, rfl, hx, hb, hml, hown, hts, hK, hN, hA, hrw, hin, hZ⟩ := X
  intro H locs ls hP hD hS hl
  exact W.objInit hx hb hown (hts _ h1) (hts _ h2) (hts _ h3) rfl (by rw [hml]; exact hl.1) rfl hd hfr (by show 2 * 0 + _ + 12 ≤ _; omega) (k H locs ls hP hD hS hl)
theorem g_mmax (X : Ok G l D cI cZ cc Ts own nL R rw ini z) {index : Nat} {x y : Int32} (h1 : Cond.methodLink own index Lib.Math.max.name ∈ Ts) (h2 : Cond.static Lib.Math.max.name ∈ Ts) (h3 : Cond.initialized "java/lang/Math" ∈ Ts) (h4 : Cond.code Lib.Math.max.name Lib.Math.max.code 2 (some .int) ∈ Ts) (hd : decode cc pc = .ok (.invokestatic index, 3)) (hfr : 1 ≤ R.frames) (hlo : (st.map fun v => v.category).sum + 13 ≤ R.locals) (hce : ce ≤ R.cells) (hsl : sl ≤ R.slots) (k : G ce sl ws lv (pc + 3) (.int (if x < y then y else x) :: st)) : G ce sl ws lv pc (.int y :: .int x :: st) := by
  obtain ⟨p, e, s, m, args, below, meth, c, A, B, Q, rfl, hx, hb, hml, hown, hts, hK, hN, hA, hrw, hin, hZ⟩ := X
  intro H locs ls hP hD hS hl
  exact va_mmax hx hb (by rw [hml]; exact hl.1.symm) hown (hts _ h1) (hts _ h2) (hts _ h3) (hts _ h4) hfr hlo hce hsl hd (k H locs ls hP hD hS hl)
theorem g_mmin (X : Ok G l D cI cZ cc Ts own nL R rw ini z) {index : Nat} {x y : Int32} (h1 : Cond.methodLink own index Lib.Math.min.name ∈ Ts) (h2 : Cond.static Lib.Math.min.name ∈ Ts) (h3 : Cond.initialized "java/lang/Math" ∈ Ts) (h4 : Cond.code Lib.Math.min.name Lib.Math.min.code 2 (some .int) ∈ Ts) (hd : decode cc pc = .ok (.invokestatic index, 3)) (hfr : 1 ≤ R.frames) (hlo : (st.map fun v => v.category).sum + 13 ≤ R.locals) (hce : ce ≤ R.cells) (hsl : sl ≤ R.slots) (k : G ce sl ws lv (pc + 3) (.int (if y < x then y else x) :: st)) : G ce sl ws lv pc (.int y :: .int x :: st) := by
  obtain ⟨p, e, s, m, args, below, meth, c, A, B, Q, rfl, hx, hb, hml, hown, hts, hK, hN, hA, hrw, hin, hZ⟩ := X
  intro H locs ls hP hD hS hl
  exact va_mmin hx hb (by rw [hml]; exact hl.1.symm) hown (hts _ h1) (hts _ h2) (hts _ h3) (hts _ h4) hfr hlo hce hsl hd (k H locs ls hP hD hS hl)
theorem g_mabs (X : Ok G l D cI cZ cc Ts own nL R rw ini z) {index : Nat} {x : Int32} (h1 : Cond.methodLink own index Lib.Math.abs.name ∈ Ts) (h2 : Cond.static Lib.Math.abs.name ∈ Ts) (h3 : Cond.initialized "java/lang/Math" ∈ Ts) (h4 : Cond.code Lib.Math.abs.name Lib.Math.abs.code 1 (some .int) ∈ Ts) (hd : decode cc pc = .ok (.invokestatic index, 3)) (hfr : 1 ≤ R.frames) (hlo : (st.map fun v => v.category).sum + 13 ≤ R.locals) (hce : ce ≤ R.cells) (hsl : sl ≤ R.slots) (k : G ce sl ws lv (pc + 3) (.int (if 0 ≤ x then x else 0 - x) :: st)) : G ce sl ws lv pc (.int x :: st) := by
  obtain ⟨p, e, s, m, args, below, meth, c, A, B, Q, rfl, hx, hb, hml, hown, hts, hK, hN, hA, hrw, hin, hZ⟩ := X
  intro H locs ls hP hD hS hl
  exact va_mabs hx hb (by rw [hml]; exact hl.1.symm) hown (hts _ h1) (hts _ h2) (hts _ h3) (hts _ h4) hfr hlo hce hsl hd (k H locs ls hP hD hS hl)
theorem g_nmI (X : Ok G l D cI cZ cc Ts own nL R rw ini z) {x e : Int32} (h : x = e) (k : G ce sl ws lv pc (.int x :: st)) : G ce sl ws lv pc (.int e :: st) := h ▸ k
theorem g_nmJ (X : Ok G l D cI cZ cc Ts own nL R rw ini z) {x e : Int64} (h : x = e) (k : G ce sl ws lv pc (.long x :: st)) : G ce sl ws lv pc (.long e :: st) := h ▸ k
/-- the world in another order, or less of it -/
theorem g_perm (X : Ok G l D cI cZ cc Ts own nL R rw ini z) (ps : List Nat) (hn : va_nd ps = true) (h : ps.map (fun i => ws[i]?) = ws'.map some) (k : G ce sl ws' lv pc st) : G ce sl ws lv pc st := by
  obtain ⟨p, e, s, m, args, below, meth, c, A, B, Q, rfl, hx, hb, hml, hown, hts, hK, hN, hA, hrw, hin, hZ⟩ := X
  intro H locs ls hP hD hS hl
  refine k H locs ls (fun j q hq => ?_) (hD.sub ps hn h) hS hl
  have h1 : (ps.map (fun i => ws[i]?))[j]? = some (some q) := by rw [h, List.getElem?_map, hq]; rfl
  rw [List.getElem?_map] at h1
  cases hi : ps[j]? with
  | none => rw [hi] at h1; cases h1
  | some i => rw [hi] at h1; exact hP i q (Option.some.inj h1)
/-- more locals than are needed -/
theorem g_lv (X : Ok G l D cI cZ cc Ts own nL R rw ini z) (ks : List Nat) (h : lv_pick lv ks = lv') (k : G ce sl ws lv' pc st) : G ce sl ws lv pc st := by
  obtain ⟨p, e, s, m, args, below, meth, c, A, B, Q, rfl, hx, hb, hml, hown, hts, hK, hN, hA, hrw, hin, hZ⟩ := X
  intro H locs ls hP hD hS hl
  exact k H locs ls hP hD hS (lv_sub hl ks h)
theorem g_widen (X : Ok G l D cI cZ cc Ts own nL R rw ini z) {ce' sl' : Nat} (h1 : ce ≤ ce') (h2 : sl ≤ sl') (k : G ce' sl' ws lv pc st) : G ce sl ws lv pc st := by
  obtain ⟨p, e, s, m, args, below, meth, c, A, B, Q, rfl, hx, hb, hml, hown, hts, hK, hN, hA, hrw, hin, hZ⟩ := X
  intro H locs ls hP hD hS hl
  exact W.widen h1 h2 (k H locs ls hP hD hS hl)
theorem g_ld (X : Ok G l D cI cZ cc Ts own nL R rw ini z) {q : (Nat → Nat) × (Nat → Nat)} (hz : z = some q) {index i : Nat} {tx : String} (hi : i < 5) (he : kTx.getD i (0, "") = (index, tx)) (ho : own = RX9) (hd : decode cc pc = .ok (.ldc index, 2)) (k : G ce sl ws lv (pc + 2) (.ref (q.1 i) :: st)) : G ce sl ws lv pc st := by
  obtain ⟨p, e, s, m, args, below, meth, c, A, B, Q, rfl, hx, hb, hml, hown, hts, hK, hN, hA, hrw, hin, hZ⟩ := X
  subst hz
  intro H locs ls hP hD hS hl
  have h1 := hZ.2 i hi
  rw [he] at h1
  exact va_ldcS hx hb hown (ho ▸ h1) hd (k H locs ls hP hD hS hl)
end GL
/-! ===== contracts over cells ===== -/
theorem StrO.moved {z : kS} {A : Nat → Prop} {u U : State} {H : Heap} (hv : U.vm = u.vm) (h : StrO z A u H) : StrO z A U H := by
  cases z with
  | none => trivial
  | some q => exact ⟨vk_S.moved (by rw [hv]; exact Vm.Alike.refl _) h.1, fun i hi => vk_R.same hv (h.2 i hi)⟩
theorem StrO.call {z z' : kS} (hz : z' = none ∨ z' = z) {A A' : Nat → Prop} {s U : State} {H : Heap} {locs : List Loc} (hW : s.WarmedH U.vm) (hU : U.heap = H) (hS : va_S A s.heap H locs) (hA : ∀ q, A' q → A q) (h : StrO z A s s.heap) : StrO z' A' U U.heap := by
  rcases hz with rfl | rfl
  · trivial
  · cases z' with
    | none => trivial
    | some q => exact ⟨vk_S.moved hW.alike (vk_S.narrow (vk_S.kept h.1 (fun a h1 h2 => by rw [hU]; exact hS.2.1 a h1 h2)) hA), fun i hi => vk_R.warm hW (h.2 i hi)⟩
/-- a method that may write its cells: V: what it hands back, and the cells behind it -/
def MetG (l : Launch) (y : MethodName) (Ty : List Cond) (rm : Room) (D : va_G) (cI cZ : ClassId) (z : kS) (av : List Value) (w0 : va_W) (V : Option Value → va_W → Prop) : Prop :=
  ∀ sz : Nat, Met l y Ty rm (va_Pc av (fun U => U.heap.size = sz ∧ va_P D vwCl w0 U.heap ∧ va_K D vwCl (kT cI cZ) U ∧ va_D (fun _ => True) w0 ∧ Nst U ∧ StrO z (va_A w0 sz) U U.heap)) (fun _ st oc t => (∃ (v : Option Value) (w1 : va_W), oc = .returned v ∧ V v w1 ∧ va_P D vwCl w1 t.heap ∧ va_D (va_A w0 sz) w1) ∧ va_F (va_A w0 sz) st t) rm.cells rm.slots (va_A w0 sz)
/-- a method that writes no cell that was there -/
def MetR (l : Launch) (y : MethodName) (Ty : List Cond) (rm : Room) (D : va_G) (cI cZ : ClassId) (av : List Value) (w0 : va_W) (V : Option Value → va_W → Prop) : Prop :=
  ∀ sz : Nat, Met l y Ty rm (va_Pc av (fun U => U.heap.size = sz ∧ va_P D vwCl w0 U.heap ∧ va_K D vwCl (kT cI cZ) U ∧ va_D (fun _ => True) w0 ∧ Nst U)) (fun _ st oc t => (∃ (v : Option Value) (w1 : va_W), oc = .returned v ∧ V v w1) ∧ va_F (fun q => sz ≤ q) st t) rm.cells rm.slots (fun q => sz ≤ q)
def Rt (G : kG) (cc : ByteArray) (mc ms : Nat) (ret : Option FieldType) (V : Option Value → va_W → Prop) : Prop := match ret with
  | none => ∀ ws lv pc, decode cc pc = .ok (.return_, 1) → V none ws → G mc ms ws lv pc []
  | some .int => ∀ ws lv pc x, decode cc pc = .ok (.ireturn, 1) → V (some (.int x)) ws → G mc ms ws lv pc [.int x]
  | some .boolean => ∀ ws lv pc x, (x = 0 ∨ x = 1) → decode cc pc = .ok (.ireturn, 1) → V (some (.int x)) ws → G mc ms ws lv pc [.int x]
  | some .long => ∀ ws lv pc x, decode cc pc = .ok (.lreturn, 1) → V (some (.long x)) ws → G mc ms ws lv pc [.long x]
  | _ => True
theorem metG_of {l : Launch} {y : MethodName} {Ty Ty' : List Cond} {rm : Room} {D : va_G} {cI cZ : ClassId} {z : kS} {av : List Value} {w0 : va_W} {V : Option Value → va_W → Prop} {cc : ByteArray} {maxL : Nat} {ret : Option FieldType} {own : String} {lv0 : List (Nat × Value)} {ini : Bool} (hy : plainName y.cls = true) (hw : Ty = Cond.code y cc maxL ret :: Ty') (hav : (lg_sl av).length ≤ maxL) (hlv : lv_args 0 av = lv0) (hown : y.cls = own) (hini : ini = true → y.name = "<init>")
    (body : ∀ G : kG, Ok G l D cI cZ cc Ty own maxL rm true ini z → Rt G cc rm.cells rm.slots ret V → G 0 0 w0 lv0 0 []) : MetG l y Ty rm D cI cZ z av w0 V := by
  intro sz
  refine Met.ofW (cc := cc) (maxL := maxL) (ret := ret) hy hw ?_
  intro p e s m args below meth c s₁ B hml hv
  obtain ⟨rfl, hsz, hP, hK, hD0, hN, hZ⟩ := hv
  subst hsz
  subst hlv
  subst hown
  have hx := B.exec
  have hb := B.bytes
  have hr := B.returns
  have hlk := B.notSynchronized
  have hD := hD0.self (sz := s.heap.size)
  have hl := lv_entry av (n := maxL) hav
  rw [lg_entry_eq]
  refine body (GG p l e rm s m av.toArray below meth c D (va_A w0 s.heap.size) (va_A w0 s.heap.size) maxL (MQ below (fun _ st oc t => (∃ (v : Option Value) (w1 : va_W), oc = .returned v ∧ V v w1 ∧ va_P D vwCl w1 t.heap ∧ va_D (va_A w0 s.heap.size) w1) ∧ va_F (va_A w0 s.heap.size) st t) av.toArray s rm.cells rm.slots (va_A w0 s.heap.size))) ⟨p, e, s, m, av.toArray, below, meth, c, _, _, _, rfl, hx, hb, hml, findClass_of_methodNamed B.named, atoms_spec (ws := Ty) B.pre, hK, hN, fun q h => Or.inr h, fun _ => rfl, fun h => by rw [← hini h]; exact (name_of_methodNamed B.named B.method).1, hZ⟩ ?_ s.heap [] _ hP hD va_S.rf hl
  rcases ret with _ | ft
  · intro ws lv pc hdg hV H locs ls hP hD hS hl
    exact W.vret hx hb hr (fun t ht hW => ⟨⟨_, _, rfl, hV, ht ▸ hP, hD⟩, hS.F ht⟩) hS.2.2 hdg hlk
  · cases ft with
    | int =>
      intro ws lv pc x hdg hV H locs ls hP hD hS hl
      exact W.iret hx hb hr (fun t ht hW => ⟨⟨_, _, rfl, hV, ht ▸ hP, hD⟩, hS.F ht⟩) hS.2.2 hdg hlk
    | boolean =>
      intro ws lv pc x hx01 hdg hV H locs ls hP hD hS hl
      exact W.zret hx hb hr (by rcases hx01 with rfl | rfl <;> rfl) (fun t ht hW => ⟨⟨_, _, rfl, hV, ht ▸ hP, hD⟩, hS.F ht⟩) hS.2.2 hdg hlk
    | long =>
      intro ws lv pc x hdg hV H locs ls hP hD hS hl
      exact W.lret hx hb hr (fun t ht hW => ⟨⟨_, _, rfl, hV, ht ▸ hP, hD⟩, hS.F ht⟩) hS.2.2 hdg hlk
    | _ => trivial
theorem metR_of {l : Launch} {y : MethodName} {Ty Ty' : List Cond} {rm : Room} {D : va_G} {cI cZ : ClassId} {av : List Value} {w0 : va_W} {V : Option Value → va_W → Prop} {cc : ByteArray} {maxL : Nat} {ret : Option FieldType} {own : String} {lv0 : List (Nat × Value)} (hy : plainName y.cls = true) (hw : Ty = Cond.code y cc maxL ret :: Ty') (hav : (lg_sl av).length ≤ maxL) (hlv : lv_args 0 av = lv0) (hown : y.cls = own)
    (body : ∀ G : kG, Ok G l D cI cZ cc Ty own maxL rm false false none → Rt G cc rm.cells rm.slots ret V → G 0 0 w0 lv0 0 []) : MetR l y Ty rm D cI cZ av w0 V := by
  intro sz
  refine Met.ofW (cc := cc) (maxL := maxL) (ret := ret) hy hw ?_
  intro p e s m args below meth c s₁ B hml hv
  obtain ⟨rfl, hsz, hP, hK, hD0, hN⟩ := hv
  subst hsz
  subst hlv
  subst hown
  have hx := B.exec
  have hb := B.bytes
  have hr := B.returns
  have hlk := B.notSynchronized
  have hl := lv_entry av (n := maxL) hav
  rw [lg_entry_eq]
  refine body (GG p l e rm s m av.toArray below meth c D (fun q => s.heap.size ≤ q) (fun _ => True) maxL (MQ below (fun _ st oc t => (∃ (v : Option Value) (w1 : va_W), oc = .returned v ∧ V v w1) ∧ va_F (fun q => s.heap.size ≤ q) st t) av.toArray s rm.cells rm.slots (fun q => s.heap.size ≤ q))) ⟨p, e, s, m, av.toArray, below, meth, c, _, _, _, rfl, hx, hb, hml, findClass_of_methodNamed B.named, atoms_spec (ws := Ty) B.pre, hK, hN, fun q h => h, fun h => (by cases h), fun h => (by cases h), trivial⟩ ?_ s.heap [] _ hP hD0 va_S.rf hl
  rcases ret with _ | ft
  · intro ws lv pc hdg hV H locs ls hP hD hS hl
    exact W.vret hx hb hr (fun t ht hW => ⟨⟨_, ws, rfl, hV⟩, hS.F ht⟩) hS.2.2 hdg hlk
  · cases ft with
    | int =>
      intro ws lv pc x hdg hV H locs ls hP hD hS hl
      exact W.iret hx hb hr (fun t ht hW => ⟨⟨_, ws, rfl, hV⟩, hS.F ht⟩) hS.2.2 hdg hlk
    | boolean =>
      intro ws lv pc x hx01 hdg hV H locs ls hP hD hS hl
      exact W.zret hx hb hr (by rcases hx01 with rfl | rfl <;> rfl) (fun t ht hW => ⟨⟨_, ws, rfl, hV⟩, hS.F ht⟩) hS.2.2 hdg hlk
    | long =>
      intro ws lv pc x hdg hV H locs ls hP hD hS hl
      exact W.lret hx hb hr (fun t ht hW => ⟨⟨_, ws, rfl, hV⟩, hS.F ht⟩) hS.2.2 hdg hlk
    | _ => trivial
section KC
variable {p : Program} {l : Launch} {e : Env} {R : Room} {s : State} {m : MethodId} {args : Array Value} {below : List Frame} {meth : Method} {c : Code} {H : Heap} {locs : List Loc} {cells slots mc ms : Nat} {Q : State → Prop} {pc : Nat} {ls : Array Slot} {rest st0 : List Value} {Qa : State → Outcome → State → Prop} {free : Addr → Prop}
theorem k_call (hr : va_Run p l e R s m args below meth c H locs cells slots mc ms (F0 m pc ls st0) rest Qa free)
    (kk : ∀ (v : Option Value) (s0 t : State) (H1 : Heap) (locs1 : List Loc), s0.heap = H → t.heap = H1 → Qa s0 (.returned v) t → (∀ q ∈ locs1, q ∈ locs ∨ free q.base) → W p l e R s m args below meth c H1 locs1 (cells + mc) (slots + ms) Q (F0 m (pc + 3) ls (v.toList ++ rest))) : W p l e R s m args below meth c H locs cells slots Q (F0 m pc ls st0) := by
  intro T hT X
  obtain ⟨v, s0, t, T', L, h0, X', hL, e1, e2, hq, stp⟩ := hr T hT X
  obtain ⟨t2, a1, b1⟩ := kk v s0 t T'.heap (locs ++ L) h0 e1.symm hq (fun q hq => by
      rcases List.mem_append.mp hq with h | h
      · exact Or.inl h
      · exact Or.inr (hL q h)) T' rfl X'
  exact ⟨t2, stp t2 a1, b1⟩
end KC
theorem k_fm {α : Type} {f : Nat → Option α} {is : List Nat} {w : List α} (h : is.map f = w.map some) : is.filterMap f = w := by
  induction is generalizing w with
  | nil => cases w with
    | nil => rfl
    | cons a w => cases h
  | cons i is ih => cases w with
    | nil => cases h
    | cons a w =>
      simp only [List.map_cons, List.cons.injEq] at h
      rw [List.filterMap_cons, h.1, ih h.2]
theorem k_pick {ws : va_W} {is : List Nat} (h : (is.all fun i => decide (i < ws.length)) = true) : is.map (fun i => ws[i]?) = (is.filterMap (fun i => ws[i]?)).map some := by
  induction is with
  | nil => rfl
  | cons i is ih =>
    simp only [List.all_cons, Bool.and_eq_true, decide_eq_true_eq] at h
    rw [List.map_cons, List.filterMap_cons, ih h.2, List.getElem?_eq_getElem h.1]
    rfl
def kV {α : Type} (res : α) (fv : α → Option Value) (fw : α → va_W) : Option Value → va_W → Prop := fun v w => ∃ u, some u = some res ∧ v = fv u ∧ w = fw u
def kR {α : Type} (res : α) (fv : α → Option Value) : Option Value → va_W → Prop := fun v _ => ∃ u, some u = some res ∧ v = fv u
theorem kV_in {α : Type} {res u : α} {fv : α → Option Value} {fw : α → va_W} (h : some u = some res) : kV res fv fw (fv u) (fw u) := ⟨u, h, rfl, rfl⟩
theorem kR_in {α : Type} {res u : α} {fv : α → Option Value} {w : va_W} (h : some u = some res) : kR res fv (fv u) w := ⟨u, h, rfl⟩
theorem rt_int {G : kG} {cc : ByteArray} {a b : Nat} {V : Option Value → va_W → Prop} (h : Rt G cc a b (some .int) V) : ∀ ws lv pc x, decode cc pc = .ok (.ireturn, 1) → V (some (.int x)) ws → G a b ws lv pc [.int x] := h
theorem rt_bool {G : kG} {cc : ByteArray} {a b : Nat} {V : Option Value → va_W → Prop} (h : Rt G cc a b (some .boolean) V) : ∀ ws lv pc x, (x = 0 ∨ x = 1) → decode cc pc = .ok (.ireturn, 1) → V (some (.int x)) ws → G a b ws lv pc [.int x] := h
theorem rt_long {G : kG} {cc : ByteArray} {a b : Nat} {V : Option Value → va_W → Prop} (h : Rt G cc a b (some .long) V) : ∀ ws lv pc x, decode cc pc = .ok (.lreturn, 1) → V (some (.long x)) ws → G a b ws lv pc [.long x] := h
theorem rt_void {G : kG} {cc : ByteArray} {a b : Nat} {V : Option Value → va_W → Prop} (h : Rt G cc a b none V) : ∀ ws lv pc, decode cc pc = .ok (.return_, 1) → V none ws → G a b ws lv pc [] := h
section GC
variable {G : kG} {l : Launch} {D : va_G} {cI cZ : ClassId} {cc : ByteArray} {Ts : List Cond} {own : String} {nL : Nat} {R : Room} {rw ini : Bool} {z : kS} {ce sl : Nat} {ws ws' wc : va_W} {lv lv' : List (Nat × Value)} {pc : Nat} {st st0 : List Value} {y : MethodName} {Ty Ty' : List Cond} {rm : Room} {bytes : ByteArray} {maxL : Nat} {ret : Option FieldType} {index : Nat} {As : List Value} {V : Option Value → va_W → Prop} {z' : kS}
theorem g_callVW (X : Ok G l D cI cZ cc Ts own nL R true ini z) (hM : MetG l y Ty rm D cI cZ z' (.ref b :: As) wc V) (hz : z' = none ∨ z' = z) {C : String} {b : Nat} {q0 ci : Nat} {qc : vw_C} {fs : List Value} (n : Nat) (hT : GoodIn Ts (wsV own index C y Ty)) (hw : Ty = Cond.code y bytes maxL ret :: Ty') (hd0 : y.cls = C ∧ y.cls ≠ "java/lang/invoke/MethodHandle" ∧ y.cls ≠ "java/lang/invoke/VarHandle" ∧ (parseMethodDescriptor y.desc).map (fun d => d.parameters.length) = some n) (hR0 : rm.frames + 1 ≤ R.frames ∧ 8 + (maxL + 11) + rm.locals ≤ R.locals) (hnA : As.length = n) (hst : As.reverse ++ .ref b :: st = st0) (hroom : (st.map fun v => v.category).sum ≤ 8) (hce : ce + rm.cells ≤ R.cells) (hsl : sl + rm.slots ≤ R.slots) (hcl : vwCl[ci]? = some qc) (hC : qc.1 = C) (hre : ws[q0]? = some (b, .inr (ci, fs))) (hd : decode cc pc = .ok (.invokevirtual index, 3)) (isC : List Nat) (hC0 : isC.map (fun i => ws[i]?) = wc.map some) (hnC : va_nd isC = true) (isR : List Nat) (hR1 : (isR.all fun i => decide (i < ws.length)) = true) (hnR : va_nd isR = true) (hdis : ∀ i ∈ isR, i ∉ isC)
    (kk : ∀ (v : Option Value) (w1 : va_W), V v w1 → G (ce + rm.cells) (sl + rm.slots) (isR.filterMap (fun i => ws[i]?) ++ w1) lv (pc + 3) (v.toList ++ st)) : G ce sl ws lv pc st0 := by
  obtain ⟨p, e, s, m, args, below, meth, c, A, B, Q, rfl, hx, hb, hml, hown, hts, hK, hN, hA, hrw, hin, hZ⟩ := X
  have hBA := hrw rfl
  subst hBA
  intro H locs ls hP hD hS hl
  have hPc := hP.sub isC (k_fm hC0)
  have hDc := hD.sub isC hnC hC0
  have hFc := va_free (wc := wc) hD hS hA isC hC0
  refine k_call (va_runV (As := As) (rest := st) (C := C) ⟨hx, hb, hml, hown, hts⟩ (hM H.size) (cwV n hts hT hw rfl rfl hd0 hR0) ⟨fun a U g mk q => by obtain ⟨q0, q1, qP, qK, qD, qN, qZ⟩ := q; exact ⟨q0, q1, qP, va_K.moved (u := U) (U := U.calling g mk a) (Vm.Alike.refl U.vm) qK, qD, Nst.same rfl qN, StrO.moved rfl qZ⟩, hC ▸ va_recv hK hP hcl hre, fun U hU hW => ⟨rfl, by rw [hU], by rw [hU]; exact hPc, va_K.moved hW.alike hK, hDc.weaken (fun _ _ _ _ => trivial), hN.warm hW, StrO.call hz hW hU hS hFc hZ⟩⟩ rfl hnA hl.1 hst.symm (lv_room hroom) hd ⟨hce, hsl⟩) (fun v s0 t H1 locs1 h0 ht hq hL => ?_)
  obtain ⟨⟨v', w1, he, hV, hP1, hD1⟩, hF1, hF2⟩ := hq
  cases he
  obtain ⟨hP2, hD2⟩ := va_join (wr := isR.filterMap (fun i => ws[i]?)) (w1 := w1) hP hD isC isR hC0 (k_pick hR1) hnR hdis (fun q h1 h2 => by rw [← ht, hF2 q (by rw [h0]; exact h1) h2, h0]) hFc (ht ▸ hP1) hD1
  refine kk _ w1 hV H1 locs1 ls hP2 hD2 ⟨by rw [← ht]; rw [h0] at hF1; exact Nat.le_trans hS.1 hF1, fun q h1 h2 => ?_, fun q hq => (hL q hq).elim (hS.2.2 q) (fun h => hFc _ h)⟩ hl
  rw [← ht, hF2 q (by rw [h0]; exact Nat.lt_of_lt_of_le h1 hS.1) (fun h => h2 (hFc q h)), h0]
  exact hS.2.1 q h1 h2
theorem g_callVR (X : Ok G l D cI cZ cc Ts own nL R rw ini z) (hM : MetR l y Ty rm D cI cZ (.ref b :: As) wc V) {C : String} {b : Nat} {q0 ci : Nat} {qc : vw_C} {fs : List Value} (n : Nat) (hT : GoodIn Ts (wsV own index C y Ty)) (hw : Ty = Cond.code y bytes maxL ret :: Ty') (hd0 : y.cls = C ∧ y.cls ≠ "java/lang/invoke/MethodHandle" ∧ y.cls ≠ "java/lang/invoke/VarHandle" ∧ (parseMethodDescriptor y.desc).map (fun d => d.parameters.length) = some n) (hR0 : rm.frames + 1 ≤ R.frames ∧ 8 + (maxL + 11) + rm.locals ≤ R.locals) (hnA : As.length = n) (hst : As.reverse ++ .ref b :: st = st0) (hroom : (st.map fun v => v.category).sum ≤ 8) (hce : ce + rm.cells ≤ R.cells) (hsl : sl + rm.slots ≤ R.slots) (hcl : vwCl[ci]? = some qc) (hC : qc.1 = C) (hre : ws[q0]? = some (b, .inr (ci, fs))) (hd : decode cc pc = .ok (.invokevirtual index, 3)) (isC : List Nat) (hC0 : isC.map (fun i => ws[i]?) = wc.map some) (hnC : va_nd isC = true)
    (kk : ∀ (v : Option Value) (w1 : va_W), V v w1 → G (ce + rm.cells) (sl + rm.slots) ws lv (pc + 3) (v.toList ++ st)) : G ce sl ws lv pc st0 := by
  obtain ⟨p, e, s, m, args, below, meth, c, A, B, Q, rfl, hx, hb, hml, hown, hts, hK, hN, hA, hrw, hin, hZ⟩ := X
  intro H locs ls hP hD hS hl
  have hPc := hP.sub isC (k_fm hC0)
  have hDc := hD.sub isC hnC hC0
  have hFc : ∀ q : Nat, H.size ≤ q → A q := fun q h => hA q (Nat.le_trans hS.1 h)
  refine k_call (va_runV (As := As) (rest := st) (C := C) ⟨hx, hb, hml, hown, hts⟩ (hM H.size) (cwV n hts hT hw rfl rfl hd0 hR0) ⟨fun a U g mk q => by obtain ⟨q0, q1, qP, qK, qD, qN⟩ := q; exact ⟨q0, q1, qP, va_K.moved (u := U) (U := U.calling g mk a) (Vm.Alike.refl U.vm) qK, qD, Nst.same rfl qN⟩, hC ▸ va_recv hK hP hcl hre, fun U hU hW => ⟨rfl, by rw [hU], by rw [hU]; exact hPc, va_K.moved hW.alike hK, hDc.weaken (fun _ _ _ _ => trivial), hN.warm hW⟩⟩ rfl hnA hl.1 hst.symm (lv_room hroom) hd ⟨hce, hsl⟩) (fun v s0 t H1 locs1 h0 ht hq hL => ?_)
  obtain ⟨⟨v', w1, he, hV⟩, hF1, hF2⟩ := hq
  cases he
  have hk : ∀ q : Nat, q < H.size → H1[q]? = H[q]? := fun q h => by rw [← ht, hF2 q (by rw [h0]; exact h) (Nat.not_le.mpr h), h0]
  refine kk _ w1 hV H1 locs1 ls (hP.kept (fun k q hq => hk q.1 (hP k q hq).lt)) hD ⟨by rw [← ht]; rw [h0] at hF1; exact Nat.le_trans hS.1 hF1, fun q h1 h2 => ?_, fun q hq => (hL q hq).elim (hS.2.2 q) (fun h => hFc _ h)⟩ hl
  rw [hk q (Nat.lt_of_lt_of_le h1 hS.1)]
  exact hS.2.1 q h1 h2
theorem g_callSW (X : Ok G l D cI cZ cc Ts own nL R true ini z) (hM : MetG l y Ty rm D cI cZ z' As wc V) (hz : z' = none ∨ z' = z)  (n : Nat) (hT : GoodIn Ts (va_wsS own index y Ty)) (hw : Ty = Cond.code y bytes maxL ret :: Ty') (hd0 : y.cls ≠ "java/lang/invoke/MethodHandle" ∧ y.cls ≠ "java/lang/invoke/VarHandle" ∧ (parseMethodDescriptor y.desc).map (fun d => d.parameters.length) = some n) (hR0 : rm.frames + 1 ≤ R.frames ∧ 8 + (maxL + 11) + rm.locals ≤ R.locals) (hnA : As.length = n) (hst : As.reverse ++ st = st0) (hroom : (st.map fun v => v.category).sum ≤ 8) (hce : ce + rm.cells ≤ R.cells) (hsl : sl + rm.slots ≤ R.slots)  (hd : decode cc pc = .ok (.invokestatic index, 3)) (isC : List Nat) (hC0 : isC.map (fun i => ws[i]?) = wc.map some) (hnC : va_nd isC = true) (isR : List Nat) (hR1 : (isR.all fun i => decide (i < ws.length)) = true) (hnR : va_nd isR = true) (hdis : ∀ i ∈ isR, i ∉ isC)
    (kk : ∀ (v : Option Value) (w1 : va_W), V v w1 → G (ce + rm.cells) (sl + rm.slots) (isR.filterMap (fun i => ws[i]?) ++ w1) lv (pc + 3) (v.toList ++ st)) : G ce sl ws lv pc st0 := by
  obtain ⟨p, e, s, m, args, below, meth, c, A, B, Q, rfl, hx, hb, hml, hown, hts, hK, hN, hA, hrw, hin, hZ⟩ := X
  have hBA := hrw rfl
  subst hBA
  intro H locs ls hP hD hS hl
  have hPc := hP.sub isC (k_fm hC0)
  have hDc := hD.sub isC hnC hC0
  have hFc := va_free (wc := wc) hD hS hA isC hC0
  refine k_call (va_runS (As := As) (rest := st) ⟨hx, hb, hml, hown, hts⟩ (hM H.size) (va_cwS n hts hT hw rfl rfl hd0 hR0) ⟨fun a U g mk q => by obtain ⟨q0, q1, qP, qK, qD, qN, qZ⟩ := q; exact ⟨q0, q1, qP, va_K.moved (u := U) (U := U.calling g mk a) (Vm.Alike.refl U.vm) qK, qD, Nst.same rfl qN, StrO.moved rfl qZ⟩, fun U hU hW => ⟨rfl, by rw [hU], by rw [hU]; exact hPc, va_K.moved hW.alike hK, hDc.weaken (fun _ _ _ _ => trivial), hN.warm hW, StrO.call hz hW hU hS hFc hZ⟩⟩ rfl hnA hl.1 hst.symm (lv_room hroom) hd ⟨hce, hsl⟩) (fun v s0 t H1 locs1 h0 ht hq hL => ?_)
  obtain ⟨⟨v', w1, he, hV, hP1, hD1⟩, hF1, hF2⟩ := hq
  cases he
  obtain ⟨hP2, hD2⟩ := va_join (wr := isR.filterMap (fun i => ws[i]?)) (w1 := w1) hP hD isC isR hC0 (k_pick hR1) hnR hdis (fun q h1 h2 => by rw [← ht, hF2 q (by rw [h0]; exact h1) h2, h0]) hFc (ht ▸ hP1) hD1
  refine kk _ w1 hV H1 locs1 ls hP2 hD2 ⟨by rw [← ht]; rw [h0] at hF1; exact Nat.le_trans hS.1 hF1, fun q h1 h2 => ?_, fun q hq => (hL q hq).elim (hS.2.2 q) (fun h => hFc _ h)⟩ hl
  rw [← ht, hF2 q (by rw [h0]; exact Nat.lt_of_lt_of_le h1 hS.1) (fun h => h2 (hFc q h)), h0]
  exact hS.2.1 q h1 h2
theorem g_callSR (X : Ok G l D cI cZ cc Ts own nL R rw ini z) (hM : MetR l y Ty rm D cI cZ As wc V)  (n : Nat) (hT : GoodIn Ts (va_wsS own index y Ty)) (hw : Ty = Cond.code y bytes maxL ret :: Ty') (hd0 : y.cls ≠ "java/lang/invoke/MethodHandle" ∧ y.cls ≠ "java/lang/invoke/VarHandle" ∧ (parseMethodDescriptor y.desc).map (fun d => d.parameters.length) = some n) (hR0 : rm.frames + 1 ≤ R.frames ∧ 8 + (maxL + 11) + rm.locals ≤ R.locals) (hnA : As.length = n) (hst : As.reverse ++ st = st0) (hroom : (st.map fun v => v.category).sum ≤ 8) (hce : ce + rm.cells ≤ R.cells) (hsl : sl + rm.slots ≤ R.slots)  (hd : decode cc pc = .ok (.invokestatic index, 3)) (isC : List Nat) (hC0 : isC.map (fun i => ws[i]?) = wc.map some) (hnC : va_nd isC = true)
    (kk : ∀ (v : Option Value) (w1 : va_W), V v w1 → G (ce + rm.cells) (sl + rm.slots) ws lv (pc + 3) (v.toList ++ st)) : G ce sl ws lv pc st0 := by
  obtain ⟨p, e, s, m, args, below, meth, c, A, B, Q, rfl, hx, hb, hml, hown, hts, hK, hN, hA, hrw, hin, hZ⟩ := X
  intro H locs ls hP hD hS hl
  have hPc := hP.sub isC (k_fm hC0)
  have hDc := hD.sub isC hnC hC0
  have hFc : ∀ q : Nat, H.size ≤ q → A q := fun q h => hA q (Nat.le_trans hS.1 h)
  refine k_call (va_runS (As := As) (rest := st) ⟨hx, hb, hml, hown, hts⟩ (hM H.size) (va_cwS n hts hT hw rfl rfl hd0 hR0) ⟨fun a U g mk q => by obtain ⟨q0, q1, qP, qK, qD, qN⟩ := q; exact ⟨q0, q1, qP, va_K.moved (u := U) (U := U.calling g mk a) (Vm.Alike.refl U.vm) qK, qD, Nst.same rfl qN⟩, fun U hU hW => ⟨rfl, by rw [hU], by rw [hU]; exact hPc, va_K.moved hW.alike hK, hDc.weaken (fun _ _ _ _ => trivial), hN.warm hW⟩⟩ rfl hnA hl.1 hst.symm (lv_room hroom) hd ⟨hce, hsl⟩) (fun v s0 t H1 locs1 h0 ht hq hL => ?_)
  obtain ⟨⟨v', w1, he, hV⟩, hF1, hF2⟩ := hq
  cases he
  have hk : ∀ q : Nat, q < H.size → H1[q]? = H[q]? := fun q h => by rw [← ht, hF2 q (by rw [h0]; exact h) (Nat.not_le.mpr h), h0]
  refine kk _ w1 hV H1 locs1 ls (hP.kept (fun k q hq => hk q.1 (hP k q hq).lt)) hD ⟨by rw [← ht]; rw [h0] at hF1; exact Nat.le_trans hS.1 hF1, fun q h1 h2 => ?_, fun q hq => (hL q hq).elim (hS.2.2 q) (fun h => hFc _ h)⟩ hl
  rw [hk q (Nat.lt_of_lt_of_le h1 hS.1)]
  exact hS.2.1 q h1 h2
theorem g_callNW (X : Ok G l D cI cZ cc Ts own nL R true ini z) (hM : MetG l y Ty rm D cI cZ z' As wc V) (hz : z' = none ∨ z' = z)  (n : Nat) (hT : GoodIn Ts Ty) (hl0 : (own, index, y) ∈ nestM) (hi0 : Cond.initialized y.cls ∈ Ts) (hs0 : Cond.static y ∈ Ts) (hw : Ty = Cond.code y bytes maxL ret :: Ty') (hd0 : y.cls ≠ "java/lang/invoke/MethodHandle" ∧ y.cls ≠ "java/lang/invoke/VarHandle" ∧ (parseMethodDescriptor y.desc).map (fun d => d.parameters.length) = some n) (hR0 : rm.frames + 1 ≤ R.frames ∧ 8 + (maxL + 11) + rm.locals ≤ R.locals) (hnA : As.length = n) (hst : As.reverse ++ st = st0) (hroom : (st.map fun v => v.category).sum ≤ 8) (hce : ce + rm.cells ≤ R.cells) (hsl : sl + rm.slots ≤ R.slots)  (hd : decode cc pc = .ok (.invokestatic index, 3)) (isC : List Nat) (hC0 : isC.map (fun i => ws[i]?) = wc.map some) (hnC : va_nd isC = true) (isR : List Nat) (hR1 : (isR.all fun i => decide (i < ws.length)) = true) (hnR : va_nd isR = true) (hdis : ∀ i ∈ isR, i ∉ isC)
    (kk : ∀ (v : Option Value) (w1 : va_W), V v w1 → G (ce + rm.cells) (sl + rm.slots) (isR.filterMap (fun i => ws[i]?) ++ w1) lv (pc + 3) (v.toList ++ st)) : G ce sl ws lv pc st0 := by
  obtain ⟨p, e, s, m, args, below, meth, c, A, B, Q, rfl, hx, hb, hml, hown, hts, hK, hN, hA, hrw, hin, hZ⟩ := X
  have hBA := hrw rfl
  subst hBA
  intro H locs ls hP hD hS hl
  have hPc := hP.sub isC (k_fm hC0)
  have hDc := hD.sub isC hnC hC0
  have hFc := va_free (wc := wc) hD hS hA isC hC0
  refine k_call (va_runSN (As := As) (rest := st) (host := "ClerkChains") ⟨hx, hb, hml, hown, hts⟩ (hM H.size) ⟨va_cnB n hts hT hw rfl rfl (hN.1 _ hl0) (hts _ hi0) hd0 hR0, hts _ hs0, trivial⟩ ⟨fun a U g mk q => by obtain ⟨q0, q1, qP, qK, qD, qN, qZ⟩ := q; exact ⟨q0, q1, qP, va_K.moved (u := U) (U := U.calling g mk a) (Vm.Alike.refl U.vm) qK, qD, Nst.same rfl qN, StrO.moved rfl qZ⟩, fun U hU hW => ⟨rfl, by rw [hU], by rw [hU]; exact hPc, va_K.moved hW.alike hK, hDc.weaken (fun _ _ _ _ => trivial), hN.warm hW, StrO.call hz hW hU hS hFc hZ⟩⟩ rfl hnA hl.1 hst.symm (lv_room hroom) hd ⟨hce, hsl⟩) (fun v s0 t H1 locs1 h0 ht hq hL => ?_)
  obtain ⟨⟨v', w1, he, hV, hP1, hD1⟩, hF1, hF2⟩ := hq
  cases he
  obtain ⟨hP2, hD2⟩ := va_join (wr := isR.filterMap (fun i => ws[i]?)) (w1 := w1) hP hD isC isR hC0 (k_pick hR1) hnR hdis (fun q h1 h2 => by rw [← ht, hF2 q (by rw [h0]; exact h1) h2, h0]) hFc (ht ▸ hP1) hD1
  refine kk _ w1 hV H1 locs1 ls hP2 hD2 ⟨by rw [← ht]; rw [h0] at hF1; exact Nat.le_trans hS.1 hF1, fun q h1 h2 => ?_, fun q hq => (hL q hq).elim (hS.2.2 q) (fun h => hFc _ h)⟩ hl
  rw [← ht, hF2 q (by rw [h0]; exact Nat.lt_of_lt_of_le h1 hS.1) (fun h => h2 (hFc q h)), h0]
  exact hS.2.1 q h1 h2
theorem g_callNR (X : Ok G l D cI cZ cc Ts own nL R rw ini z) (hM : MetR l y Ty rm D cI cZ As wc V)  (n : Nat) (hT : GoodIn Ts Ty) (hl0 : (own, index, y) ∈ nestM) (hi0 : Cond.initialized y.cls ∈ Ts) (hs0 : Cond.static y ∈ Ts) (hw : Ty = Cond.code y bytes maxL ret :: Ty') (hd0 : y.cls ≠ "java/lang/invoke/MethodHandle" ∧ y.cls ≠ "java/lang/invoke/VarHandle" ∧ (parseMethodDescriptor y.desc).map (fun d => d.parameters.length) = some n) (hR0 : rm.frames + 1 ≤ R.frames ∧ 8 + (maxL + 11) + rm.locals ≤ R.locals) (hnA : As.length = n) (hst : As.reverse ++ st = st0) (hroom : (st.map fun v => v.category).sum ≤ 8) (hce : ce + rm.cells ≤ R.cells) (hsl : sl + rm.slots ≤ R.slots)  (hd : decode cc pc = .ok (.invokestatic index, 3)) (isC : List Nat) (hC0 : isC.map (fun i => ws[i]?) = wc.map some) (hnC : va_nd isC = true)
    (kk : ∀ (v : Option Value) (w1 : va_W), V v w1 → G (ce + rm.cells) (sl + rm.slots) ws lv (pc + 3) (v.toList ++ st)) : G ce sl ws lv pc st0 := by
  obtain ⟨p, e, s, m, args, below, meth, c, A, B, Q, rfl, hx, hb, hml, hown, hts, hK, hN, hA, hrw, hin, hZ⟩ := X
  intro H locs ls hP hD hS hl
  have hPc := hP.sub isC (k_fm hC0)
  have hDc := hD.sub isC hnC hC0
  have hFc : ∀ q : Nat, H.size ≤ q → A q := fun q h => hA q (Nat.le_trans hS.1 h)
  refine k_call (va_runSN (As := As) (rest := st) (host := "ClerkChains") ⟨hx, hb, hml, hown, hts⟩ (hM H.size) ⟨va_cnB n hts hT hw rfl rfl (hN.1 _ hl0) (hts _ hi0) hd0 hR0, hts _ hs0, trivial⟩ ⟨fun a U g mk q => by obtain ⟨q0, q1, qP, qK, qD, qN⟩ := q; exact ⟨q0, q1, qP, va_K.moved (u := U) (U := U.calling g mk a) (Vm.Alike.refl U.vm) qK, qD, Nst.same rfl qN⟩, fun U hU hW => ⟨rfl, by rw [hU], by rw [hU]; exact hPc, va_K.moved hW.alike hK, hDc.weaken (fun _ _ _ _ => trivial), hN.warm hW⟩⟩ rfl hnA hl.1 hst.symm (lv_room hroom) hd ⟨hce, hsl⟩) (fun v s0 t H1 locs1 h0 ht hq hL => ?_)
  obtain ⟨⟨v', w1, he, hV⟩, hF1, hF2⟩ := hq
  cases he
  have hk : ∀ q : Nat, q < H.size → H1[q]? = H[q]? := fun q h => by rw [← ht, hF2 q (by rw [h0]; exact h) (Nat.not_le.mpr h), h0]
  refine kk _ w1 hV H1 locs1 ls (hP.kept (fun k q hq => hk q.1 (hP k q hq).lt)) hD ⟨by rw [← ht]; rw [h0] at hF1; exact Nat.le_trans hS.1 hF1, fun q h1 h2 => ?_, fun q hq => (hL q hq).elim (hS.2.2 q) (fun h => hFc _ h)⟩ hl
  rw [hk q (Nat.lt_of_lt_of_le h1 hS.1)]
  exact hS.2.1 q h1 h2
theorem g_callIW (X : Ok G l D cI cZ cc Ts own nL R true ini z) (hM : MetG l y Ty rm D cI cZ z' (.ref b :: As) wc V) (hz : z' = none ∨ z' = z) {b : Nat} (n : Nat) (hT : GoodIn Ts Ty) (hi0 : Cond.initialized y.cls ∈ Ts) (hl0 : Cond.methodLink own index y ∈ Ts) (hm0 : Cond.instanceMethod y ∈ Ts) (hy1 : y.name = "<init>") (hw : Ty = Cond.code y bytes maxL none :: Ty') (hd0 : y.cls ≠ "java/lang/invoke/MethodHandle" ∧ y.cls ≠ "java/lang/invoke/VarHandle" ∧ (parseMethodDescriptor y.desc).map (fun d => d.parameters.length) = some n) (hR0 : rm.frames + 1 ≤ R.frames ∧ 8 + (maxL + 11) + rm.locals ≤ R.locals) (hnA : As.length = n) (hst : As.reverse ++ .ref b :: st = st0) (hroom : (st.map fun v => v.category).sum ≤ 8) (hce : ce + rm.cells ≤ R.cells) (hsl : sl + rm.slots ≤ R.slots)  (hd : decode cc pc = .ok (.invokespecial index, 3)) (isC : List Nat) (hC0 : isC.map (fun i => ws[i]?) = wc.map some) (hnC : va_nd isC = true) (isR : List Nat) (hR1 : (isR.all fun i => decide (i < ws.length)) = true) (hnR : va_nd isR = true) (hdis : ∀ i ∈ isR, i ∉ isC)
    (kk : ∀ (v : Option Value) (w1 : va_W), V v w1 → G (ce + rm.cells) (sl + rm.slots) (isR.filterMap (fun i => ws[i]?) ++ w1) lv (pc + 3) (v.toList ++ st)) : G ce sl ws lv pc st0 := by
  obtain ⟨p, e, s, m, args, below, meth, c, A, B, Q, rfl, hx, hb, hml, hown, hts, hK, hN, hA, hrw, hin, hZ⟩ := X
  have hBA := hrw rfl
  subst hBA
  intro H locs ls hP hD hS hl
  have hPc := hP.sub isC (k_fm hC0)
  have hDc := hD.sub isC hnC hC0
  have hFc := va_free (wc := wc) hD hS hA isC hC0
  refine k_call (va_runI (As := As) (rest := st) ⟨hx, hb, hml, hown, hts⟩ (hM H.size) (cwI n hts hT hw rfl rfl (hts _ hi0) (hts _ hl0) (hts _ hm0) hy1 hd0 hR0) ⟨fun a U g mk q => by obtain ⟨q0, q1, qP, qK, qD, qN, qZ⟩ := q; exact ⟨q0, q1, qP, va_K.moved (u := U) (U := U.calling g mk a) (Vm.Alike.refl U.vm) qK, qD, Nst.same rfl qN, StrO.moved rfl qZ⟩, fun U hU hW => ⟨rfl, by rw [hU], by rw [hU]; exact hPc, va_K.moved hW.alike hK, hDc.weaken (fun _ _ _ _ => trivial), hN.warm hW, StrO.call hz hW hU hS hFc hZ⟩⟩ rfl hnA hl.1 hst.symm (lv_room hroom) hd ⟨hce, hsl⟩) (fun v s0 t H1 locs1 h0 ht hq hL => ?_)
  obtain ⟨⟨v', w1, he, hV, hP1, hD1⟩, hF1, hF2⟩ := hq
  cases he
  obtain ⟨hP2, hD2⟩ := va_join (wr := isR.filterMap (fun i => ws[i]?)) (w1 := w1) hP hD isC isR hC0 (k_pick hR1) hnR hdis (fun q h1 h2 => by rw [← ht, hF2 q (by rw [h0]; exact h1) h2, h0]) hFc (ht ▸ hP1) hD1
  refine kk _ w1 hV H1 locs1 ls hP2 hD2 ⟨by rw [← ht]; rw [h0] at hF1; exact Nat.le_trans hS.1 hF1, fun q h1 h2 => ?_, fun q hq => (hL q hq).elim (hS.2.2 q) (fun h => hFc _ h)⟩ hl
  rw [← ht, hF2 q (by rw [h0]; exact Nat.lt_of_lt_of_le h1 hS.1) (fun h => h2 (hFc q h)), h0]
  exact hS.2.1 q h1 h2
theorem g_cVW {α : Type} {res : α} {fv : α → Option Value} {fw : α → va_W} {st1 : List Value} (X : Ok G l D cI cZ cc Ts own nL R true ini z) (hM : MetG l y Ty rm D cI cZ z' (.ref b :: As) wc (kV res fv fw)) (hz : z' = none ∨ z' = z) {C : String} {b : Nat} {q0 ci : Nat} {qc : vw_C} {fs : List Value} (n : Nat) (hT : GoodIn Ts (wsV own index C y Ty)) (hw : Ty = Cond.code y bytes maxL ret :: Ty') (hd0 : y.cls = C ∧ y.cls ≠ "java/lang/invoke/MethodHandle" ∧ y.cls ≠ "java/lang/invoke/VarHandle" ∧ (parseMethodDescriptor y.desc).map (fun d => d.parameters.length) = some n) (hR0 : rm.frames + 1 ≤ R.frames ∧ 8 + (maxL + 11) + rm.locals ≤ R.locals) (hnA : As.length = n) (hst : As.reverse ++ .ref b :: st = st0) (hroom : (st.map fun v => v.category).sum ≤ 8) (h00 : rm.cells = 0 ∧ rm.slots = 0) (hce : ce ≤ R.cells) (hsl : sl ≤ R.slots) (hcl : vwCl[ci]? = some qc) (hC : qc.1 = C) (hre : ws[q0]? = some (b, .inr (ci, fs))) (hd : decode cc pc = .ok (.invokevirtual index, 3)) (isC : List Nat) (hC0 : isC.map (fun i => ws[i]?) = wc.map some) (hnC : va_nd isC = true) (isR : List Nat) (hR1 : (isR.all fun i => decide (i < ws.length)) = true) (hnR : va_nd isR = true) (hdis : ∀ i ∈ isR, i ∉ isC) (ps : List Nat) (hps : ps.map (fun i => (isR.filterMap (fun i => ws[i]?) ++ fw res)[i]?) = ws'.map some) (hnp : va_nd ps = true) (hst1 : (fv res).toList ++ st = st1)
    (kk : G ce sl ws' lv (pc + 3) st1) : G ce sl ws lv pc st0 := by
  refine g_callVW X hM hz n hT hw hd0 hR0 hnA hst hroom (by rw [h00.1]; exact hce) (by rw [h00.2]; exact hsl) hcl hC hre hd isC hC0 hnC isR hR1 hnR hdis (fun v w1 hV => ?_)
  obtain ⟨u, hu, rfl, rfl⟩ := hV
  cases hu
  rw [h00.1, h00.2, hst1]
  exact g_perm X ps hnp hps kk
theorem g_cVR {α : Type} {res : α} {fv : α → Option Value} {st1 : List Value} (X : Ok G l D cI cZ cc Ts own nL R rw ini z) (hM : MetR l y Ty rm D cI cZ (.ref b :: As) wc (kR res fv)) {C : String} {b : Nat} {q0 ci : Nat} {qc : vw_C} {fs : List Value} (n : Nat) (hT : GoodIn Ts (wsV own index C y Ty)) (hw : Ty = Cond.code y bytes maxL ret :: Ty') (hd0 : y.cls = C ∧ y.cls ≠ "java/lang/invoke/MethodHandle" ∧ y.cls ≠ "java/lang/invoke/VarHandle" ∧ (parseMethodDescriptor y.desc).map (fun d => d.parameters.length) = some n) (hR0 : rm.frames + 1 ≤ R.frames ∧ 8 + (maxL + 11) + rm.locals ≤ R.locals) (hnA : As.length = n) (hst : As.reverse ++ .ref b :: st = st0) (hroom : (st.map fun v => v.category).sum ≤ 8) (h00 : rm.cells = 0 ∧ rm.slots = 0) (hce : ce ≤ R.cells) (hsl : sl ≤ R.slots) (hcl : vwCl[ci]? = some qc) (hC : qc.1 = C) (hre : ws[q0]? = some (b, .inr (ci, fs))) (hd : decode cc pc = .ok (.invokevirtual index, 3)) (isC : List Nat) (hC0 : isC.map (fun i => ws[i]?) = wc.map some) (hnC : va_nd isC = true) (hst1 : (fv res).toList ++ st = st1)
    (kk : G ce sl ws lv (pc + 3) st1) : G ce sl ws lv pc st0 := by
  refine g_callVR X hM n hT hw hd0 hR0 hnA hst hroom (by rw [h00.1]; exact hce) (by rw [h00.2]; exact hsl) hcl hC hre hd isC hC0 hnC (fun v w1 hV => ?_)
  obtain ⟨u, hu, rfl⟩ := hV
  cases hu
  rw [h00.1, h00.2, hst1]
  exact kk
theorem g_cSW {α : Type} {res : α} {fv : α → Option Value} {fw : α → va_W} {st1 : List Value} (X : Ok G l D cI cZ cc Ts own nL R true ini z) (hM : MetG l y Ty rm D cI cZ z' As wc (kV res fv fw)) (hz : z' = none ∨ z' = z)  (n : Nat) (hT : GoodIn Ts (va_wsS own index y Ty)) (hw : Ty = Cond.code y bytes maxL ret :: Ty') (hd0 : y.cls ≠ "java/lang/invoke/MethodHandle" ∧ y.cls ≠ "java/lang/invoke/VarHandle" ∧ (parseMethodDescriptor y.desc).map (fun d => d.parameters.length) = some n) (hR0 : rm.frames + 1 ≤ R.frames ∧ 8 + (maxL + 11) + rm.locals ≤ R.locals) (hnA : As.length = n) (hst : As.reverse ++ st = st0) (hroom : (st.map fun v => v.category).sum ≤ 8) (h00 : rm.cells = 0 ∧ rm.slots = 0) (hce : ce ≤ R.cells) (hsl : sl ≤ R.slots)  (hd : decode cc pc = .ok (.invokestatic index, 3)) (isC : List Nat) (hC0 : isC.map (fun i => ws[i]?) = wc.map some) (hnC : va_nd isC = true) (isR : List Nat) (hR1 : (isR.all fun i => decide (i < ws.length)) = true) (hnR : va_nd isR = true) (hdis : ∀ i ∈ isR, i ∉ isC) (ps : List Nat) (hps : ps.map (fun i => (isR.filterMap (fun i => ws[i]?) ++ fw res)[i]?) = ws'.map some) (hnp : va_nd ps = true) (hst1 : (fv res).toList ++ st = st1)
    (kk : G ce sl ws' lv (pc + 3) st1) : G ce sl ws lv pc st0 := by
  refine g_callSW X hM hz n hT hw hd0 hR0 hnA hst hroom (by rw [h00.1]; exact hce) (by rw [h00.2]; exact hsl) hd isC hC0 hnC isR hR1 hnR hdis (fun v w1 hV => ?_)
  obtain ⟨u, hu, rfl, rfl⟩ := hV
  cases hu
  rw [h00.1, h00.2, hst1]
  exact g_perm X ps hnp hps kk
theorem g_cSR {α : Type} {res : α} {fv : α → Option Value} {st1 : List Value} (X : Ok G l D cI cZ cc Ts own nL R rw ini z) (hM : MetR l y Ty rm D cI cZ As wc (kR res fv))  (n : Nat) (hT : GoodIn Ts (va_wsS own index y Ty)) (hw : Ty = Cond.code y bytes maxL ret :: Ty') (hd0 : y.cls ≠ "java/lang/invoke/MethodHandle" ∧ y.cls ≠ "java/lang/invoke/VarHandle" ∧ (parseMethodDescriptor y.desc).map (fun d => d.parameters.length) = some n) (hR0 : rm.frames + 1 ≤ R.frames ∧ 8 + (maxL + 11) + rm.locals ≤ R.locals) (hnA : As.length = n) (hst : As.reverse ++ st = st0) (hroom : (st.map fun v => v.category).sum ≤ 8) (h00 : rm.cells = 0 ∧ rm.slots = 0) (hce : ce ≤ R.cells) (hsl : sl ≤ R.slots)  (hd : decode cc pc = .ok (.invokestatic index, 3)) (isC : List Nat) (hC0 : isC.map (fun i => ws[i]?) = wc.map some) (hnC : va_nd isC = true) (hst1 : (fv res).toList ++ st = st1)
    (kk : G ce sl ws lv (pc + 3) st1) : G ce sl ws lv pc st0 := by
  refine g_callSR X hM n hT hw hd0 hR0 hnA hst hroom (by rw [h00.1]; exact hce) (by rw [h00.2]; exact hsl) hd isC hC0 hnC (fun v w1 hV => ?_)
  obtain ⟨u, hu, rfl⟩ := hV
  cases hu
  rw [h00.1, h00.2, hst1]
  exact kk
theorem g_cNW {α : Type} {res : α} {fv : α → Option Value} {fw : α → va_W} {st1 : List Value} (X : Ok G l D cI cZ cc Ts own nL R true ini z) (hM : MetG l y Ty rm D cI cZ z' As wc (kV res fv fw)) (hz : z' = none ∨ z' = z)  (n : Nat) (hT : GoodIn Ts Ty) (hl0 : (own, index, y) ∈ nestM) (hi0 : Cond.initialized y.cls ∈ Ts) (hs0 : Cond.static y ∈ Ts) (hw : Ty = Cond.code y bytes maxL ret :: Ty') (hd0 : y.cls ≠ "java/lang/invoke/MethodHandle" ∧ y.cls ≠ "java/lang/invoke/VarHandle" ∧ (parseMethodDescriptor y.desc).map (fun d => d.parameters.length) = some n) (hR0 : rm.frames + 1 ≤ R.frames ∧ 8 + (maxL + 11) + rm.locals ≤ R.locals) (hnA : As.length = n) (hst : As.reverse ++ st = st0) (hroom : (st.map fun v => v.category).sum ≤ 8) (h00 : rm.cells = 0 ∧ rm.slots = 0) (hce : ce ≤ R.cells) (hsl : sl ≤ R.slots)  (hd : decode cc pc = .ok (.invokestatic index, 3)) (isC : List Nat) (hC0 : isC.map (fun i => ws[i]?) = wc.map some) (hnC : va_nd isC = true) (isR : List Nat) (hR1 : (isR.all fun i => decide (i < ws.length)) = true) (hnR : va_nd isR = true) (hdis : ∀ i ∈ isR, i ∉ isC) (ps : List Nat) (hps : ps.map (fun i => (isR.filterMap (fun i => ws[i]?) ++ fw res)[i]?) = ws'.map some) (hnp : va_nd ps = true) (hst1 : (fv res).toList ++ st = st1)
    (kk : G ce sl ws' lv (pc + 3) st1) : G ce sl ws lv pc st0 := by
  refine g_callNW X hM hz n hT hl0 hi0 hs0 hw hd0 hR0 hnA hst hroom (by rw [h00.1]; exact hce) (by rw [h00.2]; exact hsl) hd isC hC0 hnC isR hR1 hnR hdis (fun v w1 hV => ?_)
  obtain ⟨u, hu, rfl, rfl⟩ := hV
  cases hu
  rw [h00.1, h00.2, hst1]
  exact g_perm X ps hnp hps kk
theorem g_cNR {α : Type} {res : α} {fv : α → Option Value} {st1 : List Value} (X : Ok G l D cI cZ cc Ts own nL R rw ini z) (hM : MetR l y Ty rm D cI cZ As wc (kR res fv))  (n : Nat) (hT : GoodIn Ts Ty) (hl0 : (own, index, y) ∈ nestM) (hi0 : Cond.initialized y.cls ∈ Ts) (hs0 : Cond.static y ∈ Ts) (hw : Ty = Cond.code y bytes maxL ret :: Ty') (hd0 : y.cls ≠ "java/lang/invoke/MethodHandle" ∧ y.cls ≠ "java/lang/invoke/VarHandle" ∧ (parseMethodDescriptor y.desc).map (fun d => d.parameters.length) = some n) (hR0 : rm.frames + 1 ≤ R.frames ∧ 8 + (maxL + 11) + rm.locals ≤ R.locals) (hnA : As.length = n) (hst : As.reverse ++ st = st0) (hroom : (st.map fun v => v.category).sum ≤ 8) (h00 : rm.cells = 0 ∧ rm.slots = 0) (hce : ce ≤ R.cells) (hsl : sl ≤ R.slots)  (hd : decode cc pc = .ok (.invokestatic index, 3)) (isC : List Nat) (hC0 : isC.map (fun i => ws[i]?) = wc.map some) (hnC : va_nd isC = true) (hst1 : (fv res).toList ++ st = st1)
    (kk : G ce sl ws lv (pc + 3) st1) : G ce sl ws lv pc st0 := by
  refine g_callNR X hM n hT hl0 hi0 hs0 hw hd0 hR0 hnA hst hroom (by rw [h00.1]; exact hce) (by rw [h00.2]; exact hsl) hd isC hC0 hnC (fun v w1 hV => ?_)
  obtain ⟨u, hu, rfl⟩ := hV
  cases hu
  rw [h00.1, h00.2, hst1]
  exact kk
end GC
/-! ===== the words of the pure pictures ===== -/
def FU : Nat := 1000000
def chk {α : Type} (i : Int32) (n : Nat) (k : Option α) : Option α := if i < 0 ∨ n ≤ i.toNatClampNeg then none else k
def chz {α : Type} (y : Int32) (k : Option α) : Option α := if y = 0 then none else k
def chzl {α : Type} (y : Int64) (k : Option α) : Option α := if y = 0 then none else k
def chb {α : Type} (x : Int32) (k : Option α) : Option α := if x = 0 ∨ x = 1 then k else none
def bnd {α β : Type} (e : α) (k : α → β) : β := k e
theorem chk_out {α : Type} {i : Int32} {n : Nat} {k : Option α} {r : α} (h : chk i n k = some r) : vp_in i n ∧ k = some r := by
  unfold chk at h
  split at h
  · cases h
  · exact ⟨by assumption, h⟩
theorem chz_out {α : Type} {y : Int32} {k : Option α} {r : α} (h : chz y k = some r) : ¬ y = 0 ∧ k = some r := by
  unfold chz at h
  split at h
  · cases h
  · exact ⟨by assumption, h⟩
theorem chzl_out {α : Type} {y : Int64} {k : Option α} {r : α} (h : chzl y k = some r) : ¬ y = 0 ∧ k = some r := by
  unfold chzl at h
  split at h
  · cases h
  · exact ⟨by assumption, h⟩
theorem chb_out {α : Type} {x : Int32} {k : Option α} {r : α} (h : chb x k = some r) : (x = 0 ∨ x = 1) ∧ k = some r := by
  unfold chb at h
  split at h
  · exact ⟨by assumption, h⟩
  · cases h
theorem bnd_out {α β : Type} {e : α} {k : α → Option β} {r : β} (h : bnd e k = some r) : ∃ x, x = e ∧ k x = some r := ⟨e, rfl, h⟩
theorem ite_t {α : Type} {c : Prop} [Decidable c] {a b : α} {r : α} (h : c) (e : (if c then a else b) = r) : a = r := by rw [if_pos h] at e; exact e
theorem ite_f {α : Type} {c : Prop} [Decidable c] {a b : α} {r : α} (h : ¬ c) (e : (if c then a else b) = r) : b = r := by rw [if_neg h] at e; exact e
def ob1 {A1 C : Type} (o : Option (A1)) (k : A1 → Option C) : Option C := match o with
  | none => none
  | some a1 => k a1
theorem ob1_out {A1 C : Type} {o : Option (A1)} {k : A1 → Option C} {r : C} (h : ob1 o k = some r) : ∃ a1, o = some a1 ∧ k a1 = some r := by
  cases o with
  | none => cases h
  | some q => exact ⟨q, rfl, h⟩
def ob2 {A1 A2 C : Type} (o : Option (A1 × A2)) (k : A1 → A2 → Option C) : Option C := match o with
  | none => none
  | some (a1, a2) => k a1 a2
theorem ob2_out {A1 A2 C : Type} {o : Option (A1 × A2)} {k : A1 → A2 → Option C} {r : C} (h : ob2 o k = some r) : ∃ a1 a2, o = some (a1, a2) ∧ k a1 a2 = some r := by
  cases o with
  | none => cases h
  | some q => exact ⟨q.1, q.2, rfl, h⟩
def ob3 {A1 A2 A3 C : Type} (o : Option (A1 × A2 × A3)) (k : A1 → A2 → A3 → Option C) : Option C := match o with
  | none => none
  | some (a1, a2, a3) => k a1 a2 a3
theorem ob3_out {A1 A2 A3 C : Type} {o : Option (A1 × A2 × A3)} {k : A1 → A2 → A3 → Option C} {r : C} (h : ob3 o k = some r) : ∃ a1 a2 a3, o = some (a1, a2, a3) ∧ k a1 a2 a3 = some r := by
  cases o with
  | none => cases h
  | some q => exact ⟨q.1, q.2.1, q.2.2, rfl, h⟩
def ob4 {A1 A2 A3 A4 C : Type} (o : Option (A1 × A2 × A3 × A4)) (k : A1 → A2 → A3 → A4 → Option C) : Option C := match o with
  | none => none
  | some (a1, a2, a3, a4) => k a1 a2 a3 a4
theorem ob4_out {A1 A2 A3 A4 C : Type} {o : Option (A1 × A2 × A3 × A4)} {k : A1 → A2 → A3 → A4 → Option C} {r : C} (h : ob4 o k = some r) : ∃ a1 a2 a3 a4, o = some (a1, a2, a3, a4) ∧ k a1 a2 a3 a4 = some r := by
  cases o with
  | none => cases h
  | some q => exact ⟨q.1, q.2.1, q.2.2.1, q.2.2.2, rfl, h⟩
def ob5 {A1 A2 A3 A4 A5 C : Type} (o : Option (A1 × A2 × A3 × A4 × A5)) (k : A1 → A2 → A3 → A4 → A5 → Option C) : Option C := match o with
  | none => none
  | some (a1, a2, a3, a4, a5) => k a1 a2 a3 a4 a5
theorem ob5_out {A1 A2 A3 A4 A5 C : Type} {o : Option (A1 × A2 × A3 × A4 × A5)} {k : A1 → A2 → A3 → A4 → A5 → Option C} {r : C} (h : ob5 o k = some r) : ∃ a1 a2 a3 a4 a5, o = some (a1, a2, a3, a4, a5) ∧ k a1 a2 a3 a4 a5 = some r := by
  cases o with
  | none => cases h
  | some q => exact ⟨q.1, q.2.1, q.2.2.1, q.2.2.2.1, q.2.2.2.2, rfl, h⟩
def ob6 {A1 A2 A3 A4 A5 A6 C : Type} (o : Option (A1 × A2 × A3 × A4 × A5 × A6)) (k : A1 → A2 → A3 → A4 → A5 → A6 → Option C) : Option C := match o with
  | none => none
  | some (a1, a2, a3, a4, a5, a6) => k a1 a2 a3 a4 a5 a6
theorem ob6_out {A1 A2 A3 A4 A5 A6 C : Type} {o : Option (A1 × A2 × A3 × A4 × A5 × A6)} {k : A1 → A2 → A3 → A4 → A5 → A6 → Option C} {r : C} (h : ob6 o k = some r) : ∃ a1 a2 a3 a4 a5 a6, o = some (a1, a2, a3, a4, a5, a6) ∧ k a1 a2 a3 a4 a5 a6 = some r := by
  cases o with
  | none => cases h
  | some q => exact ⟨q.1, q.2.1, q.2.2.1, q.2.2.2.1, q.2.2.2.2.1, q.2.2.2.2.2, rfl, h⟩
def ob7 {A1 A2 A3 A4 A5 A6 A7 C : Type} (o : Option (A1 × A2 × A3 × A4 × A5 × A6 × A7)) (k : A1 → A2 → A3 → A4 → A5 → A6 → A7 → Option C) : Option C := match o with
  | none => none
  | some (a1, a2, a3, a4, a5, a6, a7) => k a1 a2 a3 a4 a5 a6 a7
theorem ob7_out {A1 A2 A3 A4 A5 A6 A7 C : Type} {o : Option (A1 × A2 × A3 × A4 × A5 × A6 × A7)} {k : A1 → A2 → A3 → A4 → A5 → A6 → A7 → Option C} {r : C} (h : ob7 o k = some r) : ∃ a1 a2 a3 a4 a5 a6 a7, o = some (a1, a2, a3, a4, a5, a6, a7) ∧ k a1 a2 a3 a4 a5 a6 a7 = some r := by
  cases o with
  | none => cases h
  | some q => exact ⟨q.1, q.2.1, q.2.2.1, q.2.2.2.1, q.2.2.2.2.1, q.2.2.2.2.2.1, q.2.2.2.2.2.2, rfl, h⟩
def ob8 {A1 A2 A3 A4 A5 A6 A7 A8 C : Type} (o : Option (A1 × A2 × A3 × A4 × A5 × A6 × A7 × A8)) (k : A1 → A2 → A3 → A4 → A5 → A6 → A7 → A8 → Option C) : Option C := match o with
  | none => none
  | some (a1, a2, a3, a4, a5, a6, a7, a8) => k a1 a2 a3 a4 a5 a6 a7 a8
theorem ob8_out {A1 A2 A3 A4 A5 A6 A7 A8 C : Type} {o : Option (A1 × A2 × A3 × A4 × A5 × A6 × A7 × A8)} {k : A1 → A2 → A3 → A4 → A5 → A6 → A7 → A8 → Option C} {r : C} (h : ob8 o k = some r) : ∃ a1 a2 a3 a4 a5 a6 a7 a8, o = some (a1, a2, a3, a4, a5, a6, a7, a8) ∧ k a1 a2 a3 a4 a5 a6 a7 a8 = some r := by
  cases o with
  | none => cases h
  | some q => exact ⟨q.1, q.2.1, q.2.2.1, q.2.2.2.1, q.2.2.2.2.1, q.2.2.2.2.2.1, q.2.2.2.2.2.2.1, q.2.2.2.2.2.2.2, rfl, h⟩
def ob9 {A1 A2 A3 A4 A5 A6 A7 A8 A9 C : Type} (o : Option (A1 × A2 × A3 × A4 × A5 × A6 × A7 × A8 × A9)) (k : A1 → A2 → A3 → A4 → A5 → A6 → A7 → A8 → A9 → Option C) : Option C := match o with
  | none => none
  | some (a1, a2, a3, a4, a5, a6, a7, a8, a9) => k a1 a2 a3 a4 a5 a6 a7 a8 a9
theorem ob9_out {A1 A2 A3 A4 A5 A6 A7 A8 A9 C : Type} {o : Option (A1 × A2 × A3 × A4 × A5 × A6 × A7 × A8 × A9)} {k : A1 → A2 → A3 → A4 → A5 → A6 → A7 → A8 → A9 → Option C} {r : C} (h : ob9 o k = some r) : ∃ a1 a2 a3 a4 a5 a6 a7 a8 a9, o = some (a1, a2, a3, a4, a5, a6, a7, a8, a9) ∧ k a1 a2 a3 a4 a5 a6 a7 a8 a9 = some r := by
  cases o with
  | none => cases h
  | some q => exact ⟨q.1, q.2.1, q.2.2.1, q.2.2.2.1, q.2.2.2.2.1, q.2.2.2.2.2.1, q.2.2.2.2.2.2.1, q.2.2.2.2.2.2.2.1, q.2.2.2.2.2.2.2.2, rfl, h⟩
def ob10 {A1 A2 A3 A4 A5 A6 A7 A8 A9 A10 C : Type} (o : Option (A1 × A2 × A3 × A4 × A5 × A6 × A7 × A8 × A9 × A10)) (k : A1 → A2 → A3 → A4 → A5 → A6 → A7 → A8 → A9 → A10 → Option C) : Option C := match o with
  | none => none
  | some (a1, a2, a3, a4, a5, a6, a7, a8, a9, a10) => k a1 a2 a3 a4 a5 a6 a7 a8 a9 a10
theorem ob10_out {A1 A2 A3 A4 A5 A6 A7 A8 A9 A10 C : Type} {o : Option (A1 × A2 × A3 × A4 × A5 × A6 × A7 × A8 × A9 × A10)} {k : A1 → A2 → A3 → A4 → A5 → A6 → A7 → A8 → A9 → A10 → Option C} {r : C} (h : ob10 o k = some r) : ∃ a1 a2 a3 a4 a5 a6 a7 a8 a9 a10, o = some (a1, a2, a3, a4, a5, a6, a7, a8, a9, a10) ∧ k a1 a2 a3 a4 a5 a6 a7 a8 a9 a10 = some r := by
  cases o with
  | none => cases h
  | some q => exact ⟨q.1, q.2.1, q.2.2.1, q.2.2.2.1, q.2.2.2.2.1, q.2.2.2.2.2.1, q.2.2.2.2.2.2.1, q.2.2.2.2.2.2.2.1, q.2.2.2.2.2.2.2.2.1, q.2.2.2.2.2.2.2.2.2, rfl, h⟩
def ob11 {A1 A2 A3 A4 A5 A6 A7 A8 A9 A10 A11 C : Type} (o : Option (A1 × A2 × A3 × A4 × A5 × A6 × A7 × A8 × A9 × A10 × A11)) (k : A1 → A2 → A3 → A4 → A5 → A6 → A7 → A8 → A9 → A10 → A11 → Option C) : Option C := match o with
  | none => none
  | some (a1, a2, a3, a4, a5, a6, a7, a8, a9, a10, a11) => k a1 a2 a3 a4 a5 a6 a7 a8 a9 a10 a11
theorem ob11_out {A1 A2 A3 A4 A5 A6 A7 A8 A9 A10 A11 C : Type} {o : Option (A1 × A2 × A3 × A4 × A5 × A6 × A7 × A8 × A9 × A10 × A11)} {k : A1 → A2 → A3 → A4 → A5 → A6 → A7 → A8 → A9 → A10 → A11 → Option C} {r : C} (h : ob11 o k = some r) : ∃ a1 a2 a3 a4 a5 a6 a7 a8 a9 a10 a11, o = some (a1, a2, a3, a4, a5, a6, a7, a8, a9, a10, a11) ∧ k a1 a2 a3 a4 a5 a6 a7 a8 a9 a10 a11 = some r := by
  cases o with
  | none => cases h
  | some q => exact ⟨q.1, q.2.1, q.2.2.1, q.2.2.2.1, q.2.2.2.2.1, q.2.2.2.2.2.1, q.2.2.2.2.2.2.1, q.2.2.2.2.2.2.2.1, q.2.2.2.2.2.2.2.2.1, q.2.2.2.2.2.2.2.2.2.1, q.2.2.2.2.2.2.2.2.2.2, rfl, h⟩
def ob12 {A1 A2 A3 A4 A5 A6 A7 A8 A9 A10 A11 A12 C : Type} (o : Option (A1 × A2 × A3 × A4 × A5 × A6 × A7 × A8 × A9 × A10 × A11 × A12)) (k : A1 → A2 → A3 → A4 → A5 → A6 → A7 → A8 → A9 → A10 → A11 → A12 → Option C) : Option C := match o with
  | none => none
  | some (a1, a2, a3, a4, a5, a6, a7, a8, a9, a10, a11, a12) => k a1 a2 a3 a4 a5 a6 a7 a8 a9 a10 a11 a12
theorem ob12_out {A1 A2 A3 A4 A5 A6 A7 A8 A9 A10 A11 A12 C : Type} {o : Option (A1 × A2 × A3 × A4 × A5 × A6 × A7 × A8 × A9 × A10 × A11 × A12)} {k : A1 → A2 → A3 → A4 → A5 → A6 → A7 → A8 → A9 → A10 → A11 → A12 → Option C} {r : C} (h : ob12 o k = some r) : ∃ a1 a2 a3 a4 a5 a6 a7 a8 a9 a10 a11 a12, o = some (a1, a2, a3, a4, a5, a6, a7, a8, a9, a10, a11, a12) ∧ k a1 a2 a3 a4 a5 a6 a7 a8 a9 a10 a11 a12 = some r := by
  cases o with
  | none => cases h
  | some q => exact ⟨q.1, q.2.1, q.2.2.1, q.2.2.2.1, q.2.2.2.2.1, q.2.2.2.2.2.1, q.2.2.2.2.2.2.1, q.2.2.2.2.2.2.2.1, q.2.2.2.2.2.2.2.2.1, q.2.2.2.2.2.2.2.2.2.1, q.2.2.2.2.2.2.2.2.2.2.1, q.2.2.2.2.2.2.2.2.2.2.2, rfl, h⟩
