/-! ===== contracts over cells ===== -/
theorem StrO.moved {z : kS} {A : Nat → Prop} {u U : State} {H : Heap} (hv : U.vm = u.vm) (h : StrO z A u H) : StrO z A U H := by
  cases z with
  | none => trivial
  | some q => exact ⟨vk_S.moved (by rw [hv]; exact Vm.Alike.refl _) h.1, fun i hi => vk_R.same hv (h.2.1 i hi), va_Z.moved (by rw [hv]; exact Vm.Alike.refl _) h.2.2.1, va_Zq.moved (by rw [hv]; exact Vm.Alike.refl _) h.2.2.2⟩
theorem StrO.call {z z' : kS} (hz : z' = none ∨ z' = z) {A A' : Nat → Prop} {s U : State} {H : Heap} {locs : List Loc} (hW : s.WarmedH U.vm) (hU : U.heap = H) (hS : va_S A s.heap H locs) (hA : ∀ q, A' q → A q) (h : StrO z A s s.heap) : StrO z' A' U U.heap := by
  rcases hz with rfl | rfl
  · trivial
  · cases z' with
    | none => trivial
    | some q => exact ⟨vk_S.moved hW.alike (vk_S.narrow (vk_S.kept h.1 (fun a h1 h2 => by rw [hU]; exact hS.2.1 a h1 h2)) hA), fun i hi => vk_R.warm hW (h.2.1 i hi), va_Z.moved hW.alike (va_Z.narrow (va_Z.kept h.2.2.1 (fun a h1 h2 => by rw [hU]; exact hS.2.1 a h1 h2)) hA), va_Zq.moved hW.alike (va_Zq.narrow (va_Zq.kept h.2.2.2 (fun a h1 h2 => by rw [hU]; exact hS.2.1 a h1 h2)) hA)⟩
/-- a method that may write its cells: V: what it hands back, and the cells behind it -/
def MetG (l : Launch) (y : MethodName) (Ty : List Cond) (rm : Room) (D : va_G) (cI cZ : ClassId) (z : kS) (av : List Value) (w0 : va_W) (V : Option Value → va_W → Prop) : Prop :=
  ∀ sz : Nat, Met l y Ty rm (va_Pc av (fun U => U.heap.size = sz ∧ va_P D vwCl w0 U.heap ∧ va_K D vwCl (kT cI cZ) U ∧ va_D (fun _ => True) w0 ∧ Nst U ∧ StrO z (va_A w0 sz) U U.heap)) (fun _ st oc t => (∃ (v : Option Value) (w1 : va_W), oc = .returned v ∧ V v w1 ∧ va_P D vwCl w1 t.heap ∧ va_D (va_A w0 sz) w1) ∧ va_F (va_A w0 sz) st t) rm.cells rm.slots (va_A w0 sz)
/-- a method that writes no cell that was there -/
def MetR (l : Launch) (y : MethodName) (Ty : List Cond) (rm : Room) (D : va_G) (cI cZ : ClassId) (z : kS) (av : List Value) (w0 : va_W) (V : Option Value → va_W → Prop) : Prop :=
  ∀ sz : Nat, Met l y Ty rm (va_Pc av (fun U => U.heap.size = sz ∧ va_P D vwCl w0 U.heap ∧ va_K D vwCl (kT cI cZ) U ∧ va_D (fun _ => True) w0 ∧ Nst U ∧ StrO z (fun q => sz ≤ q) U U.heap)) (fun _ st oc t => (∃ (v : Option Value) (w1 : va_W), oc = .returned v ∧ V v w1) ∧ va_F (fun q => sz ≤ q) st t) rm.cells rm.slots (fun q => sz ≤ q)
def Rt (G : kG) (cc : ByteArray) (mc ms : Nat) (ret : Option FieldType) (V : Option Value → va_W → Prop) : Prop := match ret with
  | none => ∀ ws lv pc, decode cc pc = .ok (.return_, 1) → V none ws → G mc ms ws lv pc []
  | some .int => ∀ ws lv pc x, decode cc pc = .ok (.ireturn, 1) → V (some (.int x)) ws → G mc ms ws lv pc [.int x]
  | some .boolean => ∀ ws lv pc x, (x = 0 ∨ x = 1) → decode cc pc = .ok (.ireturn, 1) → V (some (.int x)) ws → G mc ms ws lv pc [.int x]
  | some .long => ∀ ws lv pc x, decode cc pc = .ok (.lreturn, 1) → V (some (.long x)) ws → G mc ms ws lv pc [.long x]
  | some .char => ∀ ws lv pc x, narrow .char (.int x) = .int x → decode cc pc = .ok (.ireturn, 1) → V (some (.int x)) ws → G mc ms ws lv pc [.int x]
  | some .byte => ∀ ws lv pc x, narrow .byte (.int x) = .int x → decode cc pc = .ok (.ireturn, 1) → V (some (.int x)) ws → G mc ms ws lv pc [.int x]
  | _ => True
theorem metG_of {l : Launch} {y : MethodName} {Ty Ty' : List Cond} {rm : Room} {D : va_G} {cI cZ : ClassId} {z : kS} {av : List Value} {w0 : va_W} {V : Option Value → va_W → Prop} {cc : ByteArray} {maxL : Nat} {ret : Option FieldType} {own : String} {lv0 : List (Nat × Value)} {ini : Bool} (hy : plainName y.cls = true) (hw : Ty = Cond.code y cc maxL ret :: Ty') (hav : (lg_sl av).length ≤ maxL) (hlv : lv_args 0 av = lv0) (hown : y.cls = own) (hini : ini = true → y.name = "<init>")
    (body : ∀ G : kG, Ok G l D cI cZ cc Ty own maxL rm true ini z → Rt G cc rm.cells rm.slots ret V → G 0 0 w0 lv0 0 []) : MetG l y Ty rm D cI cZ z av w0 V := by
  intro sz
  refine Met.ofW (cc := cc) (maxL := maxL) (ret := ret) hy hw ?_
  intro p e s m args below meth c s₁ B hml hv
  obtain ⟨rfl, hsz, hP, hK, hD0, hN, hZ⟩ := hv
  subst hsz
  subst hlv
  subst hown
  have hx := B.exec
  have hb := B.bytes
  have hr := B.returns
  have hlk := B.notSynchronized
  have hD := hD0.self (sz := s.heap.size)
  have hl := lv_entry av (n := maxL) hav
  rw [lg_entry_eq]
  refine body (GG p l e rm s m av.toArray below meth c D (va_A w0 s.heap.size) (va_A w0 s.heap.size) maxL (MQ below (fun _ st oc t => (∃ (v : Option Value) (w1 : va_W), oc = .returned v ∧ V v w1 ∧ va_P D vwCl w1 t.heap ∧ va_D (va_A w0 s.heap.size) w1) ∧ va_F (va_A w0 s.heap.size) st t) av.toArray s rm.cells rm.slots (va_A w0 s.heap.size))) ⟨p, e, s, m, av.toArray, below, meth, c, _, _, _, rfl, hx, hb, hml, findClass_of_methodNamed B.named, atoms_spec (ws := Ty) B.pre, hK, hN, fun q h => Or.inr h, fun _ => rfl, fun h => by rw [← hini h]; exact (name_of_methodNamed B.named B.method).1, hZ⟩ ?_ s.heap [] _ hP hD va_S.rf hl
  rcases ret with _ | ft
  · intro ws lv pc hdg hV H locs ls hP hD hS hl
    exact W.vret hx hb hr (fun t ht hW => ⟨⟨_, _, rfl, hV, ht ▸ hP, hD⟩, hS.F ht⟩) hS.2.2 hdg hlk
  · cases ft with
    | int =>
      intro ws lv pc x hdg hV H locs ls hP hD hS hl
      exact W.iret hx hb hr (fun t ht hW => ⟨⟨_, _, rfl, hV, ht ▸ hP, hD⟩, hS.F ht⟩) hS.2.2 hdg hlk
    | boolean =>
      intro ws lv pc x hx01 hdg hV H locs ls hP hD hS hl
      exact W.zret hx hb hr (by rcases hx01 with rfl | rfl <;> rfl) (fun t ht hW => ⟨⟨_, _, rfl, hV, ht ▸ hP, hD⟩, hS.F ht⟩) hS.2.2 hdg hlk
    | char =>
      intro ws lv pc x hnx hdg hV H locs ls hP hD hS hl
      exact W.zret hx hb hr hnx (fun t ht hW => ⟨⟨_, _, rfl, hV, ht ▸ hP, hD⟩, hS.F ht⟩) hS.2.2 hdg hlk
    | byte =>
      intro ws lv pc x hnx hdg hV H locs ls hP hD hS hl
      exact W.zret hx hb hr hnx (fun t ht hW => ⟨⟨_, _, rfl, hV, ht ▸ hP, hD⟩, hS.F ht⟩) hS.2.2 hdg hlk
    | long =>
      intro ws lv pc x hdg hV H locs ls hP hD hS hl
      exact W.lret hx hb hr (fun t ht hW => ⟨⟨_, _, rfl, hV, ht ▸ hP, hD⟩, hS.F ht⟩) hS.2.2 hdg hlk
    | _ => trivial
theorem metR_of {l : Launch} {y : MethodName} {Ty Ty' : List Cond} {rm : Room} {D : va_G} {cI cZ : ClassId} {z : kS} {av : List Value} {w0 : va_W} {V : Option Value → va_W → Prop} {cc : ByteArray} {maxL : Nat} {ret : Option FieldType} {own : String} {lv0 : List (Nat × Value)} (hy : plainName y.cls = true) (hw : Ty = Cond.code y cc maxL ret :: Ty') (hav : (lg_sl av).length ≤ maxL) (hlv : lv_args 0 av = lv0) (hown : y.cls = own)
    (body : ∀ G : kG, Ok G l D cI cZ cc Ty own maxL rm false false z → Rt G cc rm.cells rm.slots ret V → G 0 0 w0 lv0 0 []) : MetR l y Ty rm D cI cZ z av w0 V := by
  intro sz
  refine Met.ofW (cc := cc) (maxL := maxL) (ret := ret) hy hw ?_
  intro p e s m args below meth c s₁ B hml hv
  obtain ⟨rfl, hsz, hP, hK, hD0, hN, hZ⟩ := hv
  subst hsz
  subst hlv
  subst hown
  have hx := B.exec
  have hb := B.bytes
  have hr := B.returns
  have hlk := B.notSynchronized
  have hl := lv_entry av (n := maxL) hav
  rw [lg_entry_eq]
  refine body (GG p l e rm s m av.toArray below meth c D (fun q => s.heap.size ≤ q) (fun _ => True) maxL (MQ below (fun _ st oc t => (∃ (v : Option Value) (w1 : va_W), oc = .returned v ∧ V v w1) ∧ va_F (fun q => s.heap.size ≤ q) st t) av.toArray s rm.cells rm.slots (fun q => s.heap.size ≤ q))) ⟨p, e, s, m, av.toArray, below, meth, c, _, _, _, rfl, hx, hb, hml, findClass_of_methodNamed B.named, atoms_spec (ws := Ty) B.pre, hK, hN, fun q h => h, fun h => (by cases h), fun h => (by cases h), hZ⟩ ?_ s.heap [] _ hP hD0 va_S.rf hl
  rcases ret with _ | ft
  · intro ws lv pc hdg hV H locs ls hP hD hS hl
    exact W.vret hx hb hr (fun t ht hW => ⟨⟨_, ws, rfl, hV⟩, hS.F ht⟩) hS.2.2 hdg hlk
  · cases ft with
    | int =>
      intro ws lv pc x hdg hV H locs ls hP hD hS hl
      exact W.iret hx hb hr (fun t ht hW => ⟨⟨_, ws, rfl, hV⟩, hS.F ht⟩) hS.2.2 hdg hlk
    | boolean =>
      intro ws lv pc x hx01 hdg hV H locs ls hP hD hS hl
      exact W.zret hx hb hr (by rcases hx01 with rfl | rfl <;> rfl) (fun t ht hW => ⟨⟨_, ws, rfl, hV⟩, hS.F ht⟩) hS.2.2 hdg hlk
    | char =>
      intro ws lv pc x hnx hdg hV H locs ls hP hD hS hl
      exact W.zret hx hb hr hnx (fun t ht hW => ⟨⟨_, ws, rfl, hV⟩, hS.F ht⟩) hS.2.2 hdg hlk
    | byte =>
      intro ws lv pc x hnx hdg hV H locs ls hP hD hS hl
      exact W.zret hx hb hr hnx (fun t ht hW => ⟨⟨_, ws, rfl, hV⟩, hS.F ht⟩) hS.2.2 hdg hlk
    | long =>
      intro ws lv pc x hdg hV H locs ls hP hD hS hl
      exact W.lret hx hb hr (fun t ht hW => ⟨⟨_, ws, rfl, hV⟩, hS.F ht⟩) hS.2.2 hdg hlk
    | _ => trivial
section KC
variable {p : Program} {l : Launch} {e : Env} {R : Room} {s : State} {m : MethodId} {args : Array Value} {below : List Frame} {meth : Method} {c : Code} {H : Heap} {locs : List Loc} {cells slots mc ms : Nat} {Q : State → Prop} {pc : Nat} {ls : Array Slot} {rest st0 : List Value} {Qa : State → Outcome → State → Prop} {free : Addr → Prop}
theorem k_call (hr : va_Run p l e R s m args below meth c H locs cells slots mc ms (F0 m pc ls st0) rest Qa free)
    (kk : ∀ (v : Option Value) (s0 t : State) (H1 : Heap) (locs1 : List Loc), s0.heap = H → t.heap = H1 → Qa s0 (.returned v) t → (∀ q ∈ locs1, q ∈ locs ∨ free q.base) → W p l e R s m args below meth c H1 locs1 (cells + mc) (slots + ms) Q (F0 m (pc + 3) ls (v.toList ++ rest))) : W p l e R s m args below meth c H locs cells slots Q (F0 m pc ls st0) := by
  intro T hT X
  obtain ⟨v, s0, t, T', L, h0, X', hL, e1, e2, hq, stp⟩ := hr T hT X
  obtain ⟨t2, a1, b1⟩ := kk v s0 t T'.heap (locs ++ L) h0 e1.symm hq (fun q hq => by
      rcases List.mem_append.mp hq with h | h
      · exact Or.inl h
      · exact Or.inr (hL q h)) T' rfl X'
  exact ⟨t2, stp t2 a1, b1⟩
end KC
theorem k_fm {α : Type} {f : Nat → Option α} {is : List Nat} {w : List α} (h : is.map f = w.map some) : is.filterMap f = w := by
  induction is generalizing w with
  | nil => cases w with
    | nil => rfl
    | cons a w => cases h
  | cons i is ih => cases w with
    | nil => cases h
    | cons a w =>
      simp only [List.map_cons, List.cons.injEq] at h
      rw [List.filterMap_cons, h.1, ih h.2]
