/-! ===== the G layer: a judgement over the cells alone, a row an instruction ===== -/
abbrev kT (cI cZ : ClassId) : List (ClassId × FieldType) := [(cI, .int), (cZ, .boolean)]
abbrev kG : Type := Nat → Nat → va_W → List (Nat × Value) → Nat → List Value → Prop
/-- private methods and fields that a class of the nest uses of another one -/
noncomputable def nestM : List (String × Nat × MethodName) := [(RX7, 9, yX11_within), (RX9, 19, yX11_setCell), (RX9, 112, yX11_cell), (RX9, 105, yX11_within), (RX0, 9, yX11_hasBit), (RX1, 15, yX11_hasBit), (RX1, 52, yX11_isDesk), (RX7, 37, yX11_cell), (RX7, 41, yX11_setCell), (RX10, 15, yX11_setCell), (RX10, 33, yX11_cell), (RX8, 38, yX11_setCell), (RX8, 28, yX11_cell), (RX3, 35, yX11_setCell), (RX3, 43, yX11_hasBit), (RX3, 47, yX11_cell)]
noncomputable def nestF : List (String × Nat × String × String × String) := [(RX11, 73, RX6, "clerks", "LClerkChains$Rows;"), (RX9, 41, RX6, "clerks", "LClerkChains$Rows;"), (RX11, 106, RX6, "magnets", "LClerkChains$Rows;"), (RX9, 66, RX6, "magnets", "LClerkChains$Rows;"), (RX11, 220, RX6, "told", "LClerkChains$Rows;"), (RX11, 235, RX6, "notes", "LClerkChains$Rows;"), (RX11, 241, RX6, "marks", "LClerkChains$Rows;"), (RX11, 164, RX6, "past", "LClerkChains$Rows;"), (RX11, 170, RX6, "day", "I"), (RX11, 291, RX2, "above", "J"), (RX11, 295, RX2, "below", "J")]
def Nst (U : State) : Prop := (∀ q ∈ nestM, va_Nw (.methodLinkNest q.1 q.2.1 q.2.2 "ClerkChains") U) ∧ ∀ q ∈ nestF, va_Nw (.fieldLinkNest q.1 q.2.1 q.2.2.1 q.2.2.2.1 q.2.2.2.2 "ClerkChains") U
theorem Nst.warm {s U : State} (hW : s.WarmedH U.vm) (h : Nst s) : Nst U := ⟨fun q hq => va_Nw.warmM hW (h.1 q hq), fun q hq => va_Nw.warmF hW (h.2 q hq)⟩
theorem Nst.same {u U : State} (e : u.vm = U.vm) (h : Nst u) : Nst U := ⟨fun q hq => va_Nw.same rfl e (h.1 q hq), fun q hq => va_Nw.same rfl e (h.2 q hq)⟩
/-- the class's texts: where they lie, where their bytes lie -/
abbrev kS : Type := Option ((Nat → Nat) × (Nat → Nat))
def kLen : List Nat := [6, 5, 6, 4, 4]
def kByt : List (List Int32) := [[111, 102, 102, 105, 99, 101], [99, 108, 101, 114, 107], [109, 97, 103, 110, 101, 116], [104, 111, 111, 107], [100, 97, 121, 115]]
def kTx : List (Nat × String) := [(116, "office"), (122, "clerk"), (124, "magnet"), (126, "hook"), (128, "days")]
def StrO (z : kS) (A : Nat → Prop) (U : State) (H : Heap) : Prop := match z with
  | none => True
  | some q => vk_S 5 kLen kByt q.1 q.2 A U H ∧ (∀ i, i < 5 → vk_R RX9 (kTx.getD i (0, "")).1 (kTx.getD i (0, "")).2 (q.1 i) U) ∧ va_Z "java/lang/String" "COMPACT_STRINGS" "Z" (.int 1) A U H ∧ va_Zq "jdk/internal/util/Preconditions" "SIOOBE_FORMATTER" "Ljava/util/function/BiFunction;" A U H
def GG (p : Program) (l : Launch) (e : Env) (R : Room) (s : State) (m : MethodId) (args : Array Value) (below : List Frame) (meth : Method) (c : Code) (D : va_G) (A B : Nat → Prop) (nL : Nat) (Q : State → Prop) (ce sl : Nat) (ws : va_W) (lv : List (Nat × Value)) (pc : Nat) (st : List Value) : Prop :=
  ∀ (H : Heap) (locs : List Loc) (ls : Array Slot), va_P D vwCl ws H → va_D B ws → va_S A s.heap H locs → lv_has ls nL lv → W p l e R s m args below meth c H locs ce sl Q (F0 m pc ls st)
/-- what a walk stands on: hA: the world's cells may be written -/
def Ok (G : kG) (l : Launch) (D : va_G) (cI cZ : ClassId) (cc : ByteArray) (Ts : List Cond) (own : String) (nL : Nat) (R : Room) (rw ini : Bool) (z : kS) : Prop :=
  ∃ (p : Program) (e : Env) (s : State) (m : MethodId) (args : Array Value) (below : List Frame) (meth : Method) (c : Code) (A B : Nat → Prop) (Q : State → Prop), G = GG p l e R s m args below meth c D A B nL Q ∧ p.tables.exec = Jvm.exec ∧ c.code = cc ∧ c.maxLocals = nL ∧ s.vm.findClass own = some m.cls ∧ (∀ w ∈ Ts, w.before args s = true) ∧ va_K D vwCl (kT cI cZ) s ∧ Nst s ∧ (∀ q, s.heap.size ≤ q → A q) ∧ (rw = true → B = A) ∧ (ini = true → meth.name = "<init>") ∧ StrO z A s s.heap
