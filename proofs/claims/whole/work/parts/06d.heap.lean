section GL
variable {G : kG} {l : Launch} {D : va_G} {cI cZ : ClassId} {cc : ByteArray} {Ts : List Cond} {own : String} {nL : Nat} {R : Room} {rw ini : Bool} {z : kS} {ce sl : Nat} {ws ws' : va_W} {lv lv' : List (Nat × Value)} {pc : Nat} {st : List Value}
theorem g_get (X : Ok G l D cI cZ cc Ts own nL R rw ini z) {C : String} {T : u_T} {N ci index a : Nat} (hin2 : ∀ w ∈ u_ws C T N, w ∈ Ts) (q0 : Nat) {fs : List Value} (he : ws[q0]? = some (a, .inr (ci, fs))) (hc : vwCl[ci]? = some (C, T, N)) (k0 : Nat) (hk : k0 < N) (hlk : Cond.fieldLink own index (T k0).1 (T k0).2.1 (T k0).2.2.1 ∈ Ts) {v : Value} (hv : fs[k0]? = some v) (hd : decode cc pc = .ok (.getfield index, 3)) (k : G ce sl ws lv (pc + 3) (v :: st)) : G ce sl ws lv pc (.ref a :: st) := by
  obtain ⟨p, e, s, m, args, below, meth, c, A, B, Q, rfl, hx, hb, hml, hown, hts, hK, hN, hA, hrw, hin, hZ⟩ := X
  intro H locs ls hP hD hS hl
  exact va_get hx hb hts hin2 hown hK hP q0 he hc k0 hk (hts _ hlk) (fun _ h => h) hv hd (k H locs ls hP hD hS hl)
theorem g_getN (X : Ok G l D cI cZ cc Ts own nL R rw ini z) {C : String} {T : u_T} {N ci index a : Nat} (hin2 : ∀ w ∈ u_ws C T N, w ∈ Ts) (q0 : Nat) {fs : List Value} (he : ws[q0]? = some (a, .inr (ci, fs))) (hc : vwCl[ci]? = some (C, T, N)) (k0 : Nat) (hk : k0 < N) (hlk : (own, index, (T k0).1, (T k0).2.1, (T k0).2.2.1) ∈ nestF) {v : Value} (hv : fs[k0]? = some v) (hd : decode cc pc = .ok (.getfield index, 3)) (k : G ce sl ws lv (pc + 3) (v :: st)) : G ce sl ws lv pc (.ref a :: st) := by
  obtain ⟨p, e, s, m, args, below, meth, c, A, B, Q, rfl, hx, hb, hml, hown, hts, hK, hN, hA, hrw, hin, hZ⟩ := X
  intro H locs ls hP hD hS hl
  exact va_getN hx hb hts hin2 hown hK hP q0 he hc k0 hk (va_Nw.use rfl (hN.2 _ hlk)) (fun _ h => h) hv hd (k H locs ls hP hD hS hl)
theorem g_put (X : Ok G l D cI cZ cc Ts own nL R true ini z) {C : String} {T : u_T} {N ci index a : Nat} (hin2 : ∀ w ∈ u_ws C T N, w ∈ Ts) (ty0 : Nat → FieldType) (hty : ∀ k, k < N → parseFieldDescriptor (T k).2.2.1 = some (ty0 k)) (hnm : ∀ a, a < N → ∀ b, b < N → a ≠ b → (T a).2.1 ≠ (T b).2.1) (q0 : Nat) {fs : List Value} (he : ws[q0]? = some (a, .inr (ci, fs))) (hc : vwCl[ci]? = some (C, T, N)) (k0 : Nat) (hk : k0 < N) (hlk : Cond.fieldLink own index (T k0).1 (T k0).2.1 (T k0).2.2.1 ∈ Ts) (hfin : (T k0).2.2.2 = false) {ty : FieldType} {v : Value} (hp : parseFieldDescriptor (T k0).2.2.1 = some ty) (hn : narrow ty v = v) (hfit : fits ty v = true) (hl0 : k0 < fs.length) (hd : decode cc pc = .ok (.putfield index, 3)) (hw : ws.set q0 (a, .inr (ci, fs.set k0 v)) = ws') (k : G ce sl ws' lv (pc + 3) st) : G ce sl ws lv pc (v :: .ref a :: st) := by
  obtain ⟨p, e, s, m, args, below, meth, c, A, B, Q, rfl, hx, hb, hml, hown, hts, hK, hN, hA, hrw, hin, hZ⟩ := X
  have hBA := hrw rfl
  subst hBA
  intro H locs ls hP hD hS hl
  exact va_put hx hb hts hin2 ty0 hty hnm hown hK hP hD hS q0 he hc k0 hk (hts _ hlk) (fun _ h => h) hfin hp hn hfit hl0 hd (fun H1 locs1 hP1 hD1 hS1 => k H1 locs1 ls (hw ▸ hP1) (hw ▸ hD1) hS1 hl)
theorem g_putF (X : Ok G l D cI cZ cc Ts own nL R true true z) {C : String} {T : u_T} {N ci index a : Nat} (hin2 : ∀ w ∈ u_ws C T N, w ∈ Ts) (ty0 : Nat → FieldType) (hty : ∀ k, k < N → parseFieldDescriptor (T k).2.2.1 = some (ty0 k)) (hnm : ∀ a, a < N → ∀ b, b < N → a ≠ b → (T a).2.1 ≠ (T b).2.1) (q0 : Nat) {fs : List Value} (he : ws[q0]? = some (a, .inr (ci, fs))) (hc : vwCl[ci]? = some (C, T, N)) (k0 : Nat) (hk : k0 < N) (hlk : Cond.fieldLink own index (T k0).1 (T k0).2.1 (T k0).2.2.1 ∈ Ts) (hfin : (T k0).2.2.2 = true) (hdecl : (T k0).1 = own) {ty : FieldType} {v : Value} (hp : parseFieldDescriptor (T k0).2.2.1 = some ty) (hn : narrow ty v = v) (hfit : fits ty v = true) (hl0 : k0 < fs.length) (hd : decode cc pc = .ok (.putfield index, 3)) (hw : ws.set q0 (a, .inr (ci, fs.set k0 v)) = ws') (k : G ce sl ws' lv (pc + 3) st) : G ce sl ws lv pc (v :: .ref a :: st) := by
  obtain ⟨p, e, s, m, args, below, meth, c, A, B, Q, rfl, hx, hb, hml, hown, hts, hK, hN, hA, hrw, hin, hZ⟩ := X
  have hBA := hrw rfl
  subst hBA
  intro H locs ls hP hD hS hl
  exact va_putF hx hb hts hin2 ty0 hty hnm hown hK hP hD hS q0 he hc k0 hk (hts _ hlk) (fun _ h => h) hfin (hin rfl) hdecl hp hn hfit hl0 hd (fun H1 locs1 hP1 hD1 hS1 => k H1 locs1 ls (hw ▸ hP1) (hw ▸ hD1) hS1 hl)
theorem g_iald (X : Ok G l D cI cZ cc Ts own nL R rw ini z) {a : Nat} (q0 : Nat) {n : Nat} {f : Nat → Int32} (ha : ws[q0]? = some (a, .inl (cI, n, .inl f))) {i : Int32} (hi : vp_in i n) (hd : decode cc pc = .ok (.iaload, 1)) (k : G ce sl ws lv (pc + 1) (.int (f i.toNatClampNeg) :: st)) : G ce sl ws lv pc (.int i :: .ref a :: st) := by
  obtain ⟨p, e, s, m, args, below, meth, c, A, B, Q, rfl, hx, hb, hml, hown, hts, hK, hN, hA, hrw, hin, hZ⟩ := X
  intro H locs ls hP hD hS hl
  exact va_iald hx hb hK hP q0 0 ha rfl hi hd (k H locs ls hP hD hS hl)
theorem g_zald (X : Ok G l D cI cZ cc Ts own nL R rw ini z) {a : Nat} (q0 : Nat) {n : Nat} {f : Nat → Int32} (ha : ws[q0]? = some (a, .inl (cZ, n, .inl f))) {i : Int32} (hi : vp_in i n) (hd : decode cc pc = .ok (.baload, 1)) (k : G ce sl ws lv (pc + 1) (.int (f i.toNatClampNeg) :: st)) : G ce sl ws lv pc (.int i :: .ref a :: st) := by
  obtain ⟨p, e, s, m, args, below, meth, c, A, B, Q, rfl, hx, hb, hml, hown, hts, hK, hN, hA, hrw, hin, hZ⟩ := X
  intro H locs ls hP hD hS hl
  exact va_zald hx hb hK hP q0 1 ha rfl hi hd (k H locs ls hP hD hS hl)
theorem g_iast (X : Ok G l D cI cZ cc Ts own nL R true ini z) {a : Nat} (q0 : Nat) {n : Nat} {f f1 : Nat → Int32} (ha : ws[q0]? = some (a, .inl (cI, n, .inl f))) {i x : Int32} (hi : vp_in i n) (ew : f1 = upd f i.toNatClampNeg x) (hd : decode cc pc = .ok (.iastore, 1)) (hw : ws.set q0 (a, .inl (cI, n, .inl f1)) = ws') (k : G ce sl ws' lv (pc + 1) st) : G ce sl ws lv pc (.int x :: .int i :: .ref a :: st) := by
  obtain ⟨p, e, s, m, args, below, meth, c, A, B, Q, rfl, hx, hb, hml, hown, hts, hK, hN, hA, hrw, hin, hZ⟩ := X
  have hBA := hrw rfl
  subst hBA
  intro H locs ls hP hD hS hl
  subst ew
  exact va_iast hx hb hK hP hD hS q0 0 ha rfl hi hd (fun H1 locs1 hP1 hD1 hS1 => k H1 locs1 ls (hw ▸ hP1) (hw ▸ hD1) hS1 hl)
theorem g_zast (X : Ok G l D cI cZ cc Ts own nL R true ini z) {a : Nat} (q0 : Nat) {n : Nat} {f f1 : Nat → Int32} (ha : ws[q0]? = some (a, .inl (cZ, n, .inl f))) {i x : Int32} (hi : vp_in i n) (ew : f1 = upd f i.toNatClampNeg (vp_nar .boolean x)) (hd : decode cc pc = .ok (.bastore, 1)) (hw : ws.set q0 (a, .inl (cZ, n, .inl f1)) = ws') (k : G ce sl ws' lv (pc + 1) st) : G ce sl ws lv pc (.int x :: .int i :: .ref a :: st) := by
  obtain ⟨p, e, s, m, args, below, meth, c, A, B, Q, rfl, hx, hb, hml, hown, hts, hK, hN, hA, hrw, hin, hZ⟩ := X
  have hBA := hrw rfl
  subst hBA
  intro H locs ls hP hD hS hl
  subst ew
  exact va_zast hx hb hK hP hD hS q0 1 ha rfl hi hd (fun H1 locs1 hP1 hD1 hS1 => k H1 locs1 ls (hw ▸ hP1) (hw ▸ hD1) hS1 hl)
theorem g_alen (X : Ok G l D cI cZ cc Ts own nL R rw ini z) {a : Nat} (q0 : Nat) {n : Nat} {f : Nat → Int32} (ha : ws[q0]? = some (a, .inl (cI, n, .inl f))) (hd : decode cc pc = .ok (.arraylength, 1)) (k : G ce sl ws lv (pc + 1) (.int (nI n) :: st)) : G ce sl ws lv pc (.ref a :: st) := by
  obtain ⟨p, e, s, m, args, below, meth, c, A, B, Q, rfl, hx, hb, hml, hown, hts, hK, hN, hA, hrw, hin, hZ⟩ := X
  intro H locs ls hP hD hS hl
  exact va_alen hx hb hK hP q0 0 ha rfl rfl hd (k H locs ls hP hD hS hl)
theorem g_new (X : Ok G l D cI cZ cc Ts own nL R true ini z) {C : String} {T : u_T} {N ci index : Nat} (hin2 : ∀ w ∈ u_ws C T N, w ∈ Ts) (ty : Nat → FieldType) (hty : ∀ k, k < N → parseFieldDescriptor (T k).2.2.1 = some (ty k)) (hcl : Cond.classLink own index C ∈ Ts) (hinst : Cond.instantiable C N ∈ Ts) (hini : Cond.initialized C ∈ Ts) (hc : vwCl[ci]? = some (C, T, N)) {fs : List Value} (hfs : ∀ j, j < N → defaultValue (ty j) = vp_V fs j) (hce : ce + 1 ≤ R.cells) (hsl : sl + N ≤ R.slots) (hd : decode cc pc = .ok (.new index, 3)) (k : ∀ q : Nat, G (ce + 1) (sl + N) (ws ++ [(q, .inr (ci, fs))]) lv (pc + 3) (.ref q :: st)) : G ce sl ws lv pc (st) := by
  obtain ⟨p, e, s, m, args, below, meth, c, A, B, Q, rfl, hx, hb, hml, hown, hts, hK, hN, hA, hrw, hin, hZ⟩ := X
  have hBA := hrw rfl
  subst hBA
  intro H locs ls hP hD hS hl
  exact va_new hx hb hts hin2 ty hty hown (hts _ hcl) (hts _ hinst) (hts _ hini) hK hP hD hS hA hc hfs hce hsl hd (fun q H1 hP1 hD1 hS1 => k q H1 locs ls hP1 hD1 hS1 hl)
theorem g_newI (X : Ok G l D cI cZ cc Ts own nL R true ini z) (harr : Cond.arrayClass (newarray.typeOf .int) ∈ Ts) {n : Int32} {N' : Nat} (hn : ¬ n < 0) (hN' : n.toNatClampNeg = N') (hby : N' * componentBytes .int ≤ 536870912) (hce : ce + 1 ≤ R.cells) (hsl : sl + N' ≤ R.slots) (hd : decode cc pc = .ok (.newarray .int, 2)) (k : ∀ q : Nat, G (ce + 1) (sl + N') (ws ++ [(q, .inl (cI, N', .inl (fun _ => 0)))]) lv (pc + 2) (.ref q :: st)) : G ce sl ws lv pc (.int n :: st) := by
  obtain ⟨p, e, s, m, args, below, meth, c, A, B, Q, rfl, hx, hb, hml, hown, hts, hK, hN, hA, hrw, hin, hZ⟩ := X
  have hBA := hrw rfl
  subst hBA
  intro H locs ls hP hD hS hl
  refine va_newa (ty := .int) (a0 := (N', .inl (fun _ => 0))) hx hb (hts _ harr) rfl hK hP hD hS hA (fun _ => rfl) hn hN' hby hce hsl hd (fun q cA H1 hK1 hP1 hD1 hS1 => ?_)
  have e1 := (hK1.2 2 (cA, .int) rfl).2
  have e2 := (hK.2 0 (cI, .int) rfl).2
  have e3 : cA = cI := Option.some.inj ((show s.vm.findClass _ = some cA from e1).symm.trans (show s.vm.findClass _ = some cI from e2))
  subst e3
  exact k q H1 locs ls hP1 hD1 hS1 hl
theorem g_newZ (X : Ok G l D cI cZ cc Ts own nL R true ini z) (harr : Cond.arrayClass (newarray.typeOf .boolean) ∈ Ts) {n : Int32} {N' : Nat} (hn : ¬ n < 0) (hN' : n.toNatClampNeg = N') (hby : N' * componentBytes .boolean ≤ 536870912) (hce : ce + 1 ≤ R.cells) (hsl : sl + N' ≤ R.slots) (hd : decode cc pc = .ok (.newarray .boolean, 2)) (k : ∀ q : Nat, G (ce + 1) (sl + N') (ws ++ [(q, .inl (cZ, N', .inl (fun _ => 0)))]) lv (pc + 2) (.ref q :: st)) : G ce sl ws lv pc (.int n :: st) := by
  obtain ⟨p, e, s, m, args, below, meth, c, A, B, Q, rfl, hx, hb, hml, hown, hts, hK, hN, hA, hrw, hin, hZ⟩ := X
  have hBA := hrw rfl
  subst hBA
  intro H locs ls hP hD hS hl
  refine va_newa (ty := .boolean) (a0 := (N', .inl (fun _ => 0))) hx hb (hts _ harr) rfl hK hP hD hS hA (fun _ => rfl) hn hN' hby hce hsl hd (fun q cA H1 hK1 hP1 hD1 hS1 => ?_)
  have e1 := (hK1.2 2 (cA, .boolean) rfl).2
  have e2 := (hK.2 1 (cZ, .boolean) rfl).2
  have e3 : cA = cZ := Option.some.inj ((show s.vm.findClass _ = some cA from e1).symm.trans (show s.vm.findClass _ = some cZ from e2))
  subst e3
  exact k q H1 locs ls hP1 hD1 hS1 hl
theorem g_obj (X : Ok G l D cI cZ cc Ts own nL R rw ini z) {index a : Nat} (h1 : Cond.methodLink own index objectInit ∈ Ts) (h2 : Cond.instanceMethod objectInit ∈ Ts) (h3 : Cond.code objectInit ⟨#[0xb1]⟩ 1 none ∈ Ts) (hd : decode cc pc = .ok (.invokespecial index, 3)) (hfr : 1 ≤ R.frames) (hlo : (st.map fun v => v.category).sum + 12 ≤ R.locals) (k : G ce sl ws lv (pc + 3) st) : G ce sl ws lv pc (.ref a :: st) := by
  obtain ⟨p, e, s, m, args, below, meth, c, A, B, Q, rfl, hx, hb, hml, hown, hts, hK, hN, hA, hrw, hin, hZ⟩ := X
  intro H locs ls hP hD hS hl
  exact W.objInit hx hb hown (hts _ h1) (hts _ h2) (hts _ h3) rfl (by rw [hml]; exact hl.1) rfl hd hfr (by show 2 * 0 + _ + 12 ≤ _; omega) (k H locs ls hP hD hS hl)
theorem g_mmax (X : Ok G l D cI cZ cc Ts own nL R rw ini z) {index : Nat} {x y : Int32} (h1 : Cond.methodLink own index Lib.Math.max.name ∈ Ts) (h2 : Cond.static Lib.Math.max.name ∈ Ts) (h3 : Cond.initialized "java/lang/Math" ∈ Ts) (h4 : Cond.code Lib.Math.max.name Lib.Math.max.code 2 (some .int) ∈ Ts) (hd : decode cc pc = .ok (.invokestatic index, 3)) (hfr : 1 ≤ R.frames) (hlo : (st.map fun v => v.category).sum + 13 ≤ R.locals) (hce : ce ≤ R.cells) (hsl : sl ≤ R.slots) (k : G ce sl ws lv (pc + 3) (.int (if x < y then y else x) :: st)) : G ce sl ws lv pc (.int y :: .int x :: st) := by
  obtain ⟨p, e, s, m, args, below, meth, c, A, B, Q, rfl, hx, hb, hml, hown, hts, hK, hN, hA, hrw, hin, hZ⟩ := X
  intro H locs ls hP hD hS hl
  exact va_mmax hx hb (by rw [hml]; exact hl.1.symm) hown (hts _ h1) (hts _ h2) (hts _ h3) (hts _ h4) hfr hlo hce hsl hd (k H locs ls hP hD hS hl)
theorem g_mmin (X : Ok G l D cI cZ cc Ts own nL R rw ini z) {index : Nat} {x y : Int32} (h1 : Cond.methodLink own index Lib.Math.min.name ∈ Ts) (h2 : Cond.static Lib.Math.min.name ∈ Ts) (h3 : Cond.initialized "java/lang/Math" ∈ Ts) (h4 : Cond.code Lib.Math.min.name Lib.Math.min.code 2 (some .int) ∈ Ts) (hd : decode cc pc = .ok (.invokestatic index, 3)) (hfr : 1 ≤ R.frames) (hlo : (st.map fun v => v.category).sum + 13 ≤ R.locals) (hce : ce ≤ R.cells) (hsl : sl ≤ R.slots) (k : G ce sl ws lv (pc + 3) (.int (if y < x then y else x) :: st)) : G ce sl ws lv pc (.int y :: .int x :: st) := by
  obtain ⟨p, e, s, m, args, below, meth, c, A, B, Q, rfl, hx, hb, hml, hown, hts, hK, hN, hA, hrw, hin, hZ⟩ := X
  intro H locs ls hP hD hS hl
  exact va_mmin hx hb (by rw [hml]; exact hl.1.symm) hown (hts _ h1) (hts _ h2) (hts _ h3) (hts _ h4) hfr hlo hce hsl hd (k H locs ls hP hD hS hl)
theorem g_mabs (X : Ok G l D cI cZ cc Ts own nL R rw ini z) {index : Nat} {x : Int32} (h1 : Cond.methodLink own index Lib.Math.abs.name ∈ Ts) (h2 : Cond.static Lib.Math.abs.name ∈ Ts) (h3 : Cond.initialized "java/lang/Math" ∈ Ts) (h4 : Cond.code Lib.Math.abs.name Lib.Math.abs.code 1 (some .int) ∈ Ts) (hd : decode cc pc = .ok (.invokestatic index, 3)) (hfr : 1 ≤ R.frames) (hlo : (st.map fun v => v.category).sum + 13 ≤ R.locals) (hce : ce ≤ R.cells) (hsl : sl ≤ R.slots) (k : G ce sl ws lv (pc + 3) (.int (if 0 ≤ x then x else 0 - x) :: st)) : G ce sl ws lv pc (.int x :: st) := by
  obtain ⟨p, e, s, m, args, below, meth, c, A, B, Q, rfl, hx, hb, hml, hown, hts, hK, hN, hA, hrw, hin, hZ⟩ := X
  intro H locs ls hP hD hS hl
  exact va_mabs hx hb (by rw [hml]; exact hl.1.symm) hown (hts _ h1) (hts _ h2) (hts _ h3) (hts _ h4) hfr hlo hce hsl hd (k H locs ls hP hD hS hl)
theorem g_nmI (X : Ok G l D cI cZ cc Ts own nL R rw ini z) {x e : Int32} (h : x = e) (k : G ce sl ws lv pc (.int x :: st)) : G ce sl ws lv pc (.int e :: st) := h ▸ k
theorem g_nmJ (X : Ok G l D cI cZ cc Ts own nL R rw ini z) {x e : Int64} (h : x = e) (k : G ce sl ws lv pc (.long x :: st)) : G ce sl ws lv pc (.long e :: st) := h ▸ k
/-- the world in another order, or less of it -/
theorem g_perm (X : Ok G l D cI cZ cc Ts own nL R rw ini z) (ps : List Nat) (hn : va_nd ps = true) (h : ps.map (fun i => ws[i]?) = ws'.map some) (k : G ce sl ws' lv pc st) : G ce sl ws lv pc st := by
  obtain ⟨p, e, s, m, args, below, meth, c, A, B, Q, rfl, hx, hb, hml, hown, hts, hK, hN, hA, hrw, hin, hZ⟩ := X
  intro H locs ls hP hD hS hl
  refine k H locs ls (fun j q hq => ?_) (hD.sub ps hn h) hS hl
  have h1 : (ps.map (fun i => ws[i]?))[j]? = some (some q) := by rw [h, List.getElem?_map, hq]; rfl
  rw [List.getElem?_map] at h1
  cases hi : ps[j]? with
  | none => rw [hi] at h1; cases h1
  | some i => rw [hi] at h1; exact hP i q (Option.some.inj h1)
/-- more locals than are needed -/
theorem g_lv (X : Ok G l D cI cZ cc Ts own nL R rw ini z) (ks : List Nat) (h : lv_pick lv ks = lv') (k : G ce sl ws lv' pc st) : G ce sl ws lv pc st := by
  obtain ⟨p, e, s, m, args, below, meth, c, A, B, Q, rfl, hx, hb, hml, hown, hts, hK, hN, hA, hrw, hin, hZ⟩ := X
  intro H locs ls hP hD hS hl
  exact k H locs ls hP hD hS (lv_sub hl ks h)
theorem g_widen (X : Ok G l D cI cZ cc Ts own nL R rw ini z) {ce' sl' : Nat} (h1 : ce ≤ ce') (h2 : sl ≤ sl') (k : G ce' sl' ws lv pc st) : G ce sl ws lv pc st := by
  obtain ⟨p, e, s, m, args, below, meth, c, A, B, Q, rfl, hx, hb, hml, hown, hts, hK, hN, hA, hrw, hin, hZ⟩ := X
  intro H locs ls hP hD hS hl
  exact W.widen h1 h2 (k H locs ls hP hD hS hl)
theorem g_ld (X : Ok G l D cI cZ cc Ts own nL R rw ini z) {q : (Nat → Nat) × (Nat → Nat)} (hz : z = some q) {index i : Nat} {tx : String} (hi : i < 5) (he : kTx.getD i (0, "") = (index, tx)) (ho : own = RX9) (hd : decode cc pc = .ok (.ldc index, 2)) (k : G ce sl ws lv (pc + 2) (.ref (q.1 i) :: st)) : G ce sl ws lv pc st := by
  obtain ⟨p, e, s, m, args, below, meth, c, A, B, Q, rfl, hx, hb, hml, hown, hts, hK, hN, hA, hrw, hin, hZ⟩ := X
  subst hz
  intro H locs ls hP hD hS hl
  have h1 := hZ.2.1 i hi
  rw [he] at h1
  exact va_ldcS hx hb hown (ho ▸ h1) hd (k H locs ls hP hD hS hl)
end GL
