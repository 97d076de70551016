theorem k_pick {ws : va_W} {is : List Nat} (h : (is.all fun i => decide (i < ws.length)) = true) : is.map (fun i => ws[i]?) = (is.filterMap (fun i => ws[i]?)).map some := by
  induction is with
  | nil => rfl
  | cons i is ih =>
    simp only [List.all_cons, Bool.and_eq_true, decide_eq_true_eq] at h
    rw [List.map_cons, List.filterMap_cons, ih h.2, List.getElem?_eq_getElem h.1]
    rfl
def kV {α : Type} (res : α) (fv : α → Option Value) (fw : α → va_W) : Option Value → va_W → Prop := fun v w => ∃ u, some u = some res ∧ v = fv u ∧ w = fw u
def kR {α : Type} (res : α) (fv : α → Option Value) : Option Value → va_W → Prop := fun v _ => ∃ u, some u = some res ∧ v = fv u
theorem kV_in {α : Type} {res u : α} {fv : α → Option Value} {fw : α → va_W} (h : some u = some res) : kV res fv fw (fv u) (fw u) := ⟨u, h, rfl, rfl⟩
theorem kR_in {α : Type} {res u : α} {fv : α → Option Value} {w : va_W} (h : some u = some res) : kR res fv (fv u) w := ⟨u, h, rfl⟩
theorem rt_int {G : kG} {cc : ByteArray} {a b : Nat} {V : Option Value → va_W → Prop} (h : Rt G cc a b (some .int) V) : ∀ ws lv pc x, decode cc pc = .ok (.ireturn, 1) → V (some (.int x)) ws → G a b ws lv pc [.int x] := h
theorem rt_bool {G : kG} {cc : ByteArray} {a b : Nat} {V : Option Value → va_W → Prop} (h : Rt G cc a b (some .boolean) V) : ∀ ws lv pc x, (x = 0 ∨ x = 1) → decode cc pc = .ok (.ireturn, 1) → V (some (.int x)) ws → G a b ws lv pc [.int x] := h
theorem rt_long {G : kG} {cc : ByteArray} {a b : Nat} {V : Option Value → va_W → Prop} (h : Rt G cc a b (some .long) V) : ∀ ws lv pc x, decode cc pc = .ok (.lreturn, 1) → V (some (.long x)) ws → G a b ws lv pc [.long x] := h
theorem rt_void {G : kG} {cc : ByteArray} {a b : Nat} {V : Option Value → va_W → Prop} (h : Rt G cc a b none V) : ∀ ws lv pc, decode cc pc = .ok (.return_, 1) → V none ws → G a b ws lv pc [] := h
section GC
variable {G : kG} {l : Launch} {D : va_G} {cI cZ : ClassId} {cc : ByteArray} {Ts : List Cond} {own : String} {nL : Nat} {R : Room} {rw ini : Bool} {z : kS} {ce sl : Nat} {ws ws' wc : va_W} {lv lv' : List (Nat × Value)} {pc : Nat} {st st0 : List Value} {y : MethodName} {Ty Ty' : List Cond} {rm : Room} {bytes : ByteArray} {maxL : Nat} {ret : Option FieldType} {index : Nat} {As : List Value} {V : Option Value → va_W → Prop} {z' : kS}
theorem g_callVW (X : Ok G l D cI cZ cc Ts own nL R true ini z) {C : String} {b : Nat} {q0 ci : Nat} {qc : vw_C} {fs : List Value} (hM : MetG l y Ty rm D cI cZ z' (.ref b :: As) wc V) (hz : z' = none ∨ z' = z) (n : Nat) (hT : GoodIn Ts (wsV own index C y Ty)) (hw : Ty = Cond.code y bytes maxL ret :: Ty') (hd0 : y.cls = C ∧ y.cls ≠ "java/lang/invoke/MethodHandle" ∧ y.cls ≠ "java/lang/invoke/VarHandle" ∧ (parseMethodDescriptor y.desc).map (fun d => d.parameters.length) = some n) (hR0 : rm.frames + 1 ≤ R.frames ∧ 8 + (maxL + 11) + rm.locals ≤ R.locals) (hnA : As.length = n) (hst : As.reverse ++ .ref b :: st = st0) (hroom : (st.map fun v => v.category).sum ≤ 8) (hce : ce + rm.cells ≤ R.cells) (hsl : sl + rm.slots ≤ R.slots) (hcl : vwCl[ci]? = some qc) (hC : qc.1 = C) (hre : ws[q0]? = some (b, .inr (ci, fs))) (hd : decode cc pc = .ok (.invokevirtual index, 3)) (isC : List Nat) (hC0 : isC.map (fun i => ws[i]?) = wc.map some) (hnC : va_nd isC = true) (isR : List Nat) (hR1 : (isR.all fun i => decide (i < ws.length)) = true) (hnR : va_nd isR = true) (hdis : ∀ i ∈ isR, i ∉ isC)
    (kk : ∀ (v : Option Value) (w1 : va_W), V v w1 → G (ce + rm.cells) (sl + rm.slots) (isR.filterMap (fun i => ws[i]?) ++ w1) lv (pc + 3) (v.toList ++ st)) : G ce sl ws lv pc st0 := by
  obtain ⟨p, e, s, m, args, below, meth, c, A, B, Q, rfl, hx, hb, hml, hown, hts, hK, hN, hA, hrw, hin, hZ⟩ := X
  have hBA := hrw rfl
  subst hBA
  intro H locs ls hP hD hS hl
  have hPc := hP.sub isC (k_fm hC0)
  have hDc := hD.sub isC hnC hC0
  have hFc := va_free (wc := wc) hD hS hA isC hC0
  refine k_call (va_runV (As := As) (rest := st) (C := C) ⟨hx, hb, hml, hown, hts⟩ (hM H.size) (cwV n hts hT hw rfl rfl hd0 hR0) ⟨fun a U g mk q => by obtain ⟨q0, q1, qP, qK, qD, qN, qZ⟩ := q; exact ⟨q0, q1, qP, va_K.moved (u := U) (U := U.calling g mk a) (Vm.Alike.refl U.vm) qK, qD, Nst.same rfl qN, StrO.moved rfl qZ⟩, hC ▸ va_recv hK hP hcl hre, fun U hU hW => ⟨rfl, by rw [hU], by rw [hU]; exact hPc, va_K.moved hW.alike hK, hDc.weaken (fun _ _ _ _ => trivial), hN.warm hW, StrO.call hz hW hU hS hFc hZ⟩⟩ rfl hnA hl.1 hst.symm (lv_room hroom) hd ⟨hce, hsl⟩) (fun v s0 t H1 locs1 h0 ht hq hL => ?_)
  obtain ⟨⟨v', w1, he, hV, hP1, hD1⟩, hF1, hF2⟩ := hq
  cases he
  obtain ⟨hP2, hD2⟩ := va_join (wr := isR.filterMap (fun i => ws[i]?)) (w1 := w1) hP hD isC isR hC0 (k_pick hR1) hnR hdis (fun q h1 h2 => by rw [← ht, hF2 q (by rw [h0]; exact h1) h2, h0]) hFc (ht ▸ hP1) hD1
  refine kk _ w1 hV H1 locs1 ls hP2 hD2 ⟨by rw [← ht]; rw [h0] at hF1; exact Nat.le_trans hS.1 hF1, fun q h1 h2 => ?_, fun q hq => (hL q hq).elim (hS.2.2 q) (fun h => hFc _ h)⟩ hl
  rw [← ht, hF2 q (by rw [h0]; exact Nat.lt_of_lt_of_le h1 hS.1) (fun h => h2 (hFc q h)), h0]
  exact hS.2.1 q h1 h2
theorem g_callVR (X : Ok G l D cI cZ cc Ts own nL R rw ini z) {C : String} {b : Nat} {q0 ci : Nat} {qc : vw_C} {fs : List Value} (hM : MetR l y Ty rm D cI cZ z' (.ref b :: As) wc V) (hz : z' = none ∨ z' = z) (n : Nat) (hT : GoodIn Ts (wsV own index C y Ty)) (hw : Ty = Cond.code y bytes maxL ret :: Ty') (hd0 : y.cls = C ∧ y.cls ≠ "java/lang/invoke/MethodHandle" ∧ y.cls ≠ "java/lang/invoke/VarHandle" ∧ (parseMethodDescriptor y.desc).map (fun d => d.parameters.length) = some n) (hR0 : rm.frames + 1 ≤ R.frames ∧ 8 + (maxL + 11) + rm.locals ≤ R.locals) (hnA : As.length = n) (hst : As.reverse ++ .ref b :: st = st0) (hroom : (st.map fun v => v.category).sum ≤ 8) (hce : ce + rm.cells ≤ R.cells) (hsl : sl + rm.slots ≤ R.slots) (hcl : vwCl[ci]? = some qc) (hC : qc.1 = C) (hre : ws[q0]? = some (b, .inr (ci, fs))) (hd : decode cc pc = .ok (.invokevirtual index, 3)) (isC : List Nat) (hC0 : isC.map (fun i => ws[i]?) = wc.map some) (hnC : va_nd isC = true)
    (kk : ∀ (v : Option Value) (w1 : va_W), V v w1 → G (ce + rm.cells) (sl + rm.slots) ws lv (pc + 3) (v.toList ++ st)) : G ce sl ws lv pc st0 := by
  obtain ⟨p, e, s, m, args, below, meth, c, A, B, Q, rfl, hx, hb, hml, hown, hts, hK, hN, hA, hrw, hin, hZ⟩ := X
  intro H locs ls hP hD hS hl
  have hPc := hP.sub isC (k_fm hC0)
  have hDc := hD.sub isC hnC hC0
  have hFc : ∀ q : Nat, H.size ≤ q → A q := fun q h => hA q (Nat.le_trans hS.1 h)
  refine k_call (va_runV (As := As) (rest := st) (C := C) ⟨hx, hb, hml, hown, hts⟩ (hM H.size) (cwV n hts hT hw rfl rfl hd0 hR0) ⟨fun a U g mk q => by obtain ⟨q0, q1, qP, qK, qD, qN, qZ⟩ := q; exact ⟨q0, q1, qP, va_K.moved (u := U) (U := U.calling g mk a) (Vm.Alike.refl U.vm) qK, qD, Nst.same rfl qN, StrO.moved rfl qZ⟩, hC ▸ va_recv hK hP hcl hre, fun U hU hW => ⟨rfl, by rw [hU], by rw [hU]; exact hPc, va_K.moved hW.alike hK, hDc.weaken (fun _ _ _ _ => trivial), hN.warm hW, StrO.call hz hW hU hS hFc hZ⟩⟩ rfl hnA hl.1 hst.symm (lv_room hroom) hd ⟨hce, hsl⟩) (fun v s0 t H1 locs1 h0 ht hq hL => ?_)
  obtain ⟨⟨v', w1, he, hV⟩, hF1, hF2⟩ := hq
  cases he
  have hk : ∀ q : Nat, q < H.size → H1[q]? = H[q]? := fun q h => by rw [← ht, hF2 q (by rw [h0]; exact h) (Nat.not_le.mpr h), h0]
  refine kk _ w1 hV H1 locs1 ls (hP.kept (fun k q hq => hk q.1 (hP k q hq).lt)) hD ⟨by rw [← ht]; rw [h0] at hF1; exact Nat.le_trans hS.1 hF1, fun q h1 h2 => ?_, fun q hq => (hL q hq).elim (hS.2.2 q) (fun h => hFc _ h)⟩ hl
  rw [hk q (Nat.lt_of_lt_of_le h1 hS.1)]
  exact hS.2.1 q h1 h2
theorem g_callSW (X : Ok G l D cI cZ cc Ts own nL R true ini z)  (hM : MetG l y Ty rm D cI cZ z' As wc V) (hz : z' = none ∨ z' = z) (n : Nat) (hT : GoodIn Ts (va_wsS own index y Ty)) (hw : Ty = Cond.code y bytes maxL ret :: Ty') (hd0 : y.cls ≠ "java/lang/invoke/MethodHandle" ∧ y.cls ≠ "java/lang/invoke/VarHandle" ∧ (parseMethodDescriptor y.desc).map (fun d => d.parameters.length) = some n) (hR0 : rm.frames + 1 ≤ R.frames ∧ 8 + (maxL + 11) + rm.locals ≤ R.locals) (hnA : As.length = n) (hst : As.reverse ++ st = st0) (hroom : (st.map fun v => v.category).sum ≤ 8) (hce : ce + rm.cells ≤ R.cells) (hsl : sl + rm.slots ≤ R.slots)  (hd : decode cc pc = .ok (.invokestatic index, 3)) (isC : List Nat) (hC0 : isC.map (fun i => ws[i]?) = wc.map some) (hnC : va_nd isC = true) (isR : List Nat) (hR1 : (isR.all fun i => decide (i < ws.length)) = true) (hnR : va_nd isR = true) (hdis : ∀ i ∈ isR, i ∉ isC)
    (kk : ∀ (v : Option Value) (w1 : va_W), V v w1 → G (ce + rm.cells) (sl + rm.slots) (isR.filterMap (fun i => ws[i]?) ++ w1) lv (pc + 3) (v.toList ++ st)) : G ce sl ws lv pc st0 := by
  obtain ⟨p, e, s, m, args, below, meth, c, A, B, Q, rfl, hx, hb, hml, hown, hts, hK, hN, hA, hrw, hin, hZ⟩ := X
  have hBA := hrw rfl
  subst hBA
  intro H locs ls hP hD hS hl
  have hPc := hP.sub isC (k_fm hC0)
  have hDc := hD.sub isC hnC hC0
  have hFc := va_free (wc := wc) hD hS hA isC hC0
  refine k_call (va_runS (As := As) (rest := st) ⟨hx, hb, hml, hown, hts⟩ (hM H.size) (va_cwS n hts hT hw rfl rfl hd0 hR0) ⟨fun a U g mk q => by obtain ⟨q0, q1, qP, qK, qD, qN, qZ⟩ := q; exact ⟨q0, q1, qP, va_K.moved (u := U) (U := U.calling g mk a) (Vm.Alike.refl U.vm) qK, qD, Nst.same rfl qN, StrO.moved rfl qZ⟩, fun U hU hW => ⟨rfl, by rw [hU], by rw [hU]; exact hPc, va_K.moved hW.alike hK, hDc.weaken (fun _ _ _ _ => trivial), hN.warm hW, StrO.call hz hW hU hS hFc hZ⟩⟩ rfl hnA hl.1 hst.symm (lv_room hroom) hd ⟨hce, hsl⟩) (fun v s0 t H1 locs1 h0 ht hq hL => ?_)
  obtain ⟨⟨v', w1, he, hV, hP1, hD1⟩, hF1, hF2⟩ := hq
  cases he
  obtain ⟨hP2, hD2⟩ := va_join (wr := isR.filterMap (fun i => ws[i]?)) (w1 := w1) hP hD isC isR hC0 (k_pick hR1) hnR hdis (fun q h1 h2 => by rw [← ht, hF2 q (by rw [h0]; exact h1) h2, h0]) hFc (ht ▸ hP1) hD1
  refine kk _ w1 hV H1 locs1 ls hP2 hD2 ⟨by rw [← ht]; rw [h0] at hF1; exact Nat.le_trans hS.1 hF1, fun q h1 h2 => ?_, fun q hq => (hL q hq).elim (hS.2.2 q) (fun h => hFc _ h)⟩ hl
  rw [← ht, hF2 q (by rw [h0]; exact Nat.lt_of_lt_of_le h1 hS.1) (fun h => h2 (hFc q h)), h0]
  exact hS.2.1 q h1 h2
theorem g_callSR (X : Ok G l D cI cZ cc Ts own nL R rw ini z)  (hM : MetR l y Ty rm D cI cZ z' As wc V) (hz : z' = none ∨ z' = z) (n : Nat) (hT : GoodIn Ts (va_wsS own index y Ty)) (hw : Ty = Cond.code y bytes maxL ret :: Ty') (hd0 : y.cls ≠ "java/lang/invoke/MethodHandle" ∧ y.cls ≠ "java/lang/invoke/VarHandle" ∧ (parseMethodDescriptor y.desc).map (fun d => d.parameters.length) = some n) (hR0 : rm.frames + 1 ≤ R.frames ∧ 8 + (maxL + 11) + rm.locals ≤ R.locals) (hnA : As.length = n) (hst : As.reverse ++ st = st0) (hroom : (st.map fun v => v.category).sum ≤ 8) (hce : ce + rm.cells ≤ R.cells) (hsl : sl + rm.slots ≤ R.slots)  (hd : decode cc pc = .ok (.invokestatic index, 3)) (isC : List Nat) (hC0 : isC.map (fun i => ws[i]?) = wc.map some) (hnC : va_nd isC = true)
    (kk : ∀ (v : Option Value) (w1 : va_W), V v w1 → G (ce + rm.cells) (sl + rm.slots) ws lv (pc + 3) (v.toList ++ st)) : G ce sl ws lv pc st0 := by
  obtain ⟨p, e, s, m, args, below, meth, c, A, B, Q, rfl, hx, hb, hml, hown, hts, hK, hN, hA, hrw, hin, hZ⟩ := X
  intro H locs ls hP hD hS hl
  have hPc := hP.sub isC (k_fm hC0)
  have hDc := hD.sub isC hnC hC0
  have hFc : ∀ q : Nat, H.size ≤ q → A q := fun q h => hA q (Nat.le_trans hS.1 h)
  refine k_call (va_runS (As := As) (rest := st) ⟨hx, hb, hml, hown, hts⟩ (hM H.size) (va_cwS n hts hT hw rfl rfl hd0 hR0) ⟨fun a U g mk q => by obtain ⟨q0, q1, qP, qK, qD, qN, qZ⟩ := q; exact ⟨q0, q1, qP, va_K.moved (u := U) (U := U.calling g mk a) (Vm.Alike.refl U.vm) qK, qD, Nst.same rfl qN, StrO.moved rfl qZ⟩, fun U hU hW => ⟨rfl, by rw [hU], by rw [hU]; exact hPc, va_K.moved hW.alike hK, hDc.weaken (fun _ _ _ _ => trivial), hN.warm hW, StrO.call hz hW hU hS hFc hZ⟩⟩ rfl hnA hl.1 hst.symm (lv_room hroom) hd ⟨hce, hsl⟩) (fun v s0 t H1 locs1 h0 ht hq hL => ?_)
  obtain ⟨⟨v', w1, he, hV⟩, hF1, hF2⟩ := hq
  cases he
  have hk : ∀ q : Nat, q < H.size → H1[q]? = H[q]? := fun q h => by rw [← ht, hF2 q (by rw [h0]; exact h) (Nat.not_le.mpr h), h0]
  refine kk _ w1 hV H1 locs1 ls (hP.kept (fun k q hq => hk q.1 (hP k q hq).lt)) hD ⟨by rw [← ht]; rw [h0] at hF1; exact Nat.le_trans hS.1 hF1, fun q h1 h2 => ?_, fun q hq => (hL q hq).elim (hS.2.2 q) (fun h => hFc _ h)⟩ hl
  rw [hk q (Nat.lt_of_lt_of_le h1 hS.1)]
  exact hS.2.1 q h1 h2
theorem g_callNW (X : Ok G l D cI cZ cc Ts own nL R true ini z)  (hM : MetG l y Ty rm D cI cZ z' As wc V) (hz : z' = none ∨ z' = z) (n : Nat) (hT : GoodIn Ts Ty) (hl0 : (own, index, y) ∈ nestM) (hi0 : Cond.initialized y.cls ∈ Ts) (hs0 : Cond.static y ∈ Ts) (hw : Ty = Cond.code y bytes maxL ret :: Ty') (hd0 : y.cls ≠ "java/lang/invoke/MethodHandle" ∧ y.cls ≠ "java/lang/invoke/VarHandle" ∧ (parseMethodDescriptor y.desc).map (fun d => d.parameters.length) = some n) (hR0 : rm.frames + 1 ≤ R.frames ∧ 8 + (maxL + 11) + rm.locals ≤ R.locals) (hnA : As.length = n) (hst : As.reverse ++ st = st0) (hroom : (st.map fun v => v.category).sum ≤ 8) (hce : ce + rm.cells ≤ R.cells) (hsl : sl + rm.slots ≤ R.slots)  (hd : decode cc pc = .ok (.invokestatic index, 3)) (isC : List Nat) (hC0 : isC.map (fun i => ws[i]?) = wc.map some) (hnC : va_nd isC = true) (isR : List Nat) (hR1 : (isR.all fun i => decide (i < ws.length)) = true) (hnR : va_nd isR = true) (hdis : ∀ i ∈ isR, i ∉ isC)
    (kk : ∀ (v : Option Value) (w1 : va_W), V v w1 → G (ce + rm.cells) (sl + rm.slots) (isR.filterMap (fun i => ws[i]?) ++ w1) lv (pc + 3) (v.toList ++ st)) : G ce sl ws lv pc st0 := by
  obtain ⟨p, e, s, m, args, below, meth, c, A, B, Q, rfl, hx, hb, hml, hown, hts, hK, hN, hA, hrw, hin, hZ⟩ := X
  have hBA := hrw rfl
  subst hBA
  intro H locs ls hP hD hS hl
  have hPc := hP.sub isC (k_fm hC0)
  have hDc := hD.sub isC hnC hC0
  have hFc := va_free (wc := wc) hD hS hA isC hC0
  refine k_call (va_runSN (As := As) (rest := st) (host := "ClerkChains") ⟨hx, hb, hml, hown, hts⟩ (hM H.size) ⟨va_cnB n hts hT hw rfl rfl (hN.1 _ hl0) (hts _ hi0) hd0 hR0, hts _ hs0, trivial⟩ ⟨fun a U g mk q => by obtain ⟨q0, q1, qP, qK, qD, qN, qZ⟩ := q; exact ⟨q0, q1, qP, va_K.moved (u := U) (U := U.calling g mk a) (Vm.Alike.refl U.vm) qK, qD, Nst.same rfl qN, StrO.moved rfl qZ⟩, fun U hU hW => ⟨rfl, by rw [hU], by rw [hU]; exact hPc, va_K.moved hW.alike hK, hDc.weaken (fun _ _ _ _ => trivial), hN.warm hW, StrO.call hz hW hU hS hFc hZ⟩⟩ rfl hnA hl.1 hst.symm (lv_room hroom) hd ⟨hce, hsl⟩) (fun v s0 t H1 locs1 h0 ht hq hL => ?_)
  obtain ⟨⟨v', w1, he, hV, hP1, hD1⟩, hF1, hF2⟩ := hq
  cases he
  obtain ⟨hP2, hD2⟩ := va_join (wr := isR.filterMap (fun i => ws[i]?)) (w1 := w1) hP hD isC isR hC0 (k_pick hR1) hnR hdis (fun q h1 h2 => by rw [← ht, hF2 q (by rw [h0]; exact h1) h2, h0]) hFc (ht ▸ hP1) hD1
  refine kk _ w1 hV H1 locs1 ls hP2 hD2 ⟨by rw [← ht]; rw [h0] at hF1; exact Nat.le_trans hS.1 hF1, fun q h1 h2 => ?_, fun q hq => (hL q hq).elim (hS.2.2 q) (fun h => hFc _ h)⟩ hl
  rw [← ht, hF2 q (by rw [h0]; exact Nat.lt_of_lt_of_le h1 hS.1) (fun h => h2 (hFc q h)), h0]
  exact hS.2.1 q h1 h2
theorem g_callNR (X : Ok G l D cI cZ cc Ts own nL R rw ini z)  (hM : MetR l y Ty rm D cI cZ z' As wc V) (hz : z' = none ∨ z' = z) (n : Nat) (hT : GoodIn Ts Ty) (hl0 : (own, index, y) ∈ nestM) (hi0 : Cond.initialized y.cls ∈ Ts) (hs0 : Cond.static y ∈ Ts) (hw : Ty = Cond.code y bytes maxL ret :: Ty') (hd0 : y.cls ≠ "java/lang/invoke/MethodHandle" ∧ y.cls ≠ "java/lang/invoke/VarHandle" ∧ (parseMethodDescriptor y.desc).map (fun d => d.parameters.length) = some n) (hR0 : rm.frames + 1 ≤ R.frames ∧ 8 + (maxL + 11) + rm.locals ≤ R.locals) (hnA : As.length = n) (hst : As.reverse ++ st = st0) (hroom : (st.map fun v => v.category).sum ≤ 8) (hce : ce + rm.cells ≤ R.cells) (hsl : sl + rm.slots ≤ R.slots)  (hd : decode cc pc = .ok (.invokestatic index, 3)) (isC : List Nat) (hC0 : isC.map (fun i => ws[i]?) = wc.map some) (hnC : va_nd isC = true)
    (kk : ∀ (v : Option Value) (w1 : va_W), V v w1 → G (ce + rm.cells) (sl + rm.slots) ws lv (pc + 3) (v.toList ++ st)) : G ce sl ws lv pc st0 := by
  obtain ⟨p, e, s, m, args, below, meth, c, A, B, Q, rfl, hx, hb, hml, hown, hts, hK, hN, hA, hrw, hin, hZ⟩ := X
  intro H locs ls hP hD hS hl
  have hPc := hP.sub isC (k_fm hC0)
  have hDc := hD.sub isC hnC hC0
  have hFc : ∀ q : Nat, H.size ≤ q → A q := fun q h => hA q (Nat.le_trans hS.1 h)
  refine k_call (va_runSN (As := As) (rest := st) (host := "ClerkChains") ⟨hx, hb, hml, hown, hts⟩ (hM H.size) ⟨va_cnB n hts hT hw rfl rfl (hN.1 _ hl0) (hts _ hi0) hd0 hR0, hts _ hs0, trivial⟩ ⟨fun a U g mk q => by obtain ⟨q0, q1, qP, qK, qD, qN, qZ⟩ := q; exact ⟨q0, q1, qP, va_K.moved (u := U) (U := U.calling g mk a) (Vm.Alike.refl U.vm) qK, qD, Nst.same rfl qN, StrO.moved rfl qZ⟩, fun U hU hW => ⟨rfl, by rw [hU], by rw [hU]; exact hPc, va_K.moved hW.alike hK, hDc.weaken (fun _ _ _ _ => trivial), hN.warm hW, StrO.call hz hW hU hS hFc hZ⟩⟩ rfl hnA hl.1 hst.symm (lv_room hroom) hd ⟨hce, hsl⟩) (fun v s0 t H1 locs1 h0 ht hq hL => ?_)
  obtain ⟨⟨v', w1, he, hV⟩, hF1, hF2⟩ := hq
  cases he
  have hk : ∀ q : Nat, q < H.size → H1[q]? = H[q]? := fun q h => by rw [← ht, hF2 q (by rw [h0]; exact h) (Nat.not_le.mpr h), h0]
  refine kk _ w1 hV H1 locs1 ls (hP.kept (fun k q hq => hk q.1 (hP k q hq).lt)) hD ⟨by rw [← ht]; rw [h0] at hF1; exact Nat.le_trans hS.1 hF1, fun q h1 h2 => ?_, fun q hq => (hL q hq).elim (hS.2.2 q) (fun h => hFc _ h)⟩ hl
  rw [hk q (Nat.lt_of_lt_of_le h1 hS.1)]
  exact hS.2.1 q h1 h2
theorem g_callIW (X : Ok G l D cI cZ cc Ts own nL R true ini z) {b : Nat} (hM : MetG l y Ty rm D cI cZ z' (.ref b :: As) wc V) (hz : z' = none ∨ z' = z) (n : Nat) (hT : GoodIn Ts Ty) (hi0 : Cond.initialized y.cls ∈ Ts) (hl0 : Cond.methodLink own index y ∈ Ts) (hm0 : Cond.instanceMethod y ∈ Ts) (hy1 : y.name = "<init>") (hw : Ty = Cond.code y bytes maxL none :: Ty') (hd0 : y.cls ≠ "java/lang/invoke/MethodHandle" ∧ y.cls ≠ "java/lang/invoke/VarHandle" ∧ (parseMethodDescriptor y.desc).map (fun d => d.parameters.length) = some n) (hR0 : rm.frames + 1 ≤ R.frames ∧ 8 + (maxL + 11) + rm.locals ≤ R.locals) (hnA : As.length = n) (hst : As.reverse ++ .ref b :: st = st0) (hroom : (st.map fun v => v.category).sum ≤ 8) (hce : ce + rm.cells ≤ R.cells) (hsl : sl + rm.slots ≤ R.slots)  (hd : decode cc pc = .ok (.invokespecial index, 3)) (isC : List Nat) (hC0 : isC.map (fun i => ws[i]?) = wc.map some) (hnC : va_nd isC = true) (isR : List Nat) (hR1 : (isR.all fun i => decide (i < ws.length)) = true) (hnR : va_nd isR = true) (hdis : ∀ i ∈ isR, i ∉ isC)
    (kk : ∀ (v : Option Value) (w1 : va_W), V v w1 → G (ce + rm.cells) (sl + rm.slots) (isR.filterMap (fun i => ws[i]?) ++ w1) lv (pc + 3) (v.toList ++ st)) : G ce sl ws lv pc st0 := by
  obtain ⟨p, e, s, m, args, below, meth, c, A, B, Q, rfl, hx, hb, hml, hown, hts, hK, hN, hA, hrw, hin, hZ⟩ := X
  have hBA := hrw rfl
  subst hBA
  intro H locs ls hP hD hS hl
  have hPc := hP.sub isC (k_fm hC0)
  have hDc := hD.sub isC hnC hC0
  have hFc := va_free (wc := wc) hD hS hA isC hC0
  refine k_call (va_runI (As := As) (rest := st) ⟨hx, hb, hml, hown, hts⟩ (hM H.size) (cwI n hts hT hw rfl rfl (hts _ hi0) (hts _ hl0) (hts _ hm0) hy1 hd0 hR0) ⟨fun a U g mk q => by obtain ⟨q0, q1, qP, qK, qD, qN, qZ⟩ := q; exact ⟨q0, q1, qP, va_K.moved (u := U) (U := U.calling g mk a) (Vm.Alike.refl U.vm) qK, qD, Nst.same rfl qN, StrO.moved rfl qZ⟩, fun U hU hW => ⟨rfl, by rw [hU], by rw [hU]; exact hPc, va_K.moved hW.alike hK, hDc.weaken (fun _ _ _ _ => trivial), hN.warm hW, StrO.call hz hW hU hS hFc hZ⟩⟩ rfl hnA hl.1 hst.symm (lv_room hroom) hd ⟨hce, hsl⟩) (fun v s0 t H1 locs1 h0 ht hq hL => ?_)
  obtain ⟨⟨v', w1, he, hV, hP1, hD1⟩, hF1, hF2⟩ := hq
  cases he
  obtain ⟨hP2, hD2⟩ := va_join (wr := isR.filterMap (fun i => ws[i]?)) (w1 := w1) hP hD isC isR hC0 (k_pick hR1) hnR hdis (fun q h1 h2 => by rw [← ht, hF2 q (by rw [h0]; exact h1) h2, h0]) hFc (ht ▸ hP1) hD1
  refine kk _ w1 hV H1 locs1 ls hP2 hD2 ⟨by rw [← ht]; rw [h0] at hF1; exact Nat.le_trans hS.1 hF1, fun q h1 h2 => ?_, fun q hq => (hL q hq).elim (hS.2.2 q) (fun h => hFc _ h)⟩ hl
  rw [← ht, hF2 q (by rw [h0]; exact Nat.lt_of_lt_of_le h1 hS.1) (fun h => h2 (hFc q h)), h0]
  exact hS.2.1 q h1 h2
theorem g_cVW {α : Type} {res : α} {fv : α → Option Value} {fw : α → va_W} {st1 : List Value} (X : Ok G l D cI cZ cc Ts own nL R true ini z) {C : String} {b : Nat} {q0 ci : Nat} {qc : vw_C} {fs : List Value} (hM : MetG l y Ty rm D cI cZ z' (.ref b :: As) wc (kV res fv fw)) (hz : z' = none ∨ z' = z) (n : Nat) (hT : GoodIn Ts (wsV own index C y Ty)) (hw : Ty = Cond.code y bytes maxL ret :: Ty') (hd0 : y.cls = C ∧ y.cls ≠ "java/lang/invoke/MethodHandle" ∧ y.cls ≠ "java/lang/invoke/VarHandle" ∧ (parseMethodDescriptor y.desc).map (fun d => d.parameters.length) = some n) (hR0 : rm.frames + 1 ≤ R.frames ∧ 8 + (maxL + 11) + rm.locals ≤ R.locals) (hnA : As.length = n) (hst : As.reverse ++ .ref b :: st = st0) (hroom : (st.map fun v => v.category).sum ≤ 8) (h00 : rm.cells = 0 ∧ rm.slots = 0) (hce : ce ≤ R.cells) (hsl : sl ≤ R.slots) (hcl : vwCl[ci]? = some qc) (hC : qc.1 = C) (hre : ws[q0]? = some (b, .inr (ci, fs))) (hd : decode cc pc = .ok (.invokevirtual index, 3)) (isC : List Nat) (hC0 : isC.map (fun i => ws[i]?) = wc.map some) (hnC : va_nd isC = true) (isR : List Nat) (hR1 : (isR.all fun i => decide (i < ws.length)) = true) (hnR : va_nd isR = true) (hdis : ∀ i ∈ isR, i ∉ isC) (ps : List Nat) (hps : ps.map (fun i => (isR.filterMap (fun i => ws[i]?) ++ fw res)[i]?) = ws'.map some) (hnp : va_nd ps = true) (hst1 : (fv res).toList ++ st = st1)
    (kk : G ce sl ws' lv (pc + 3) st1) : G ce sl ws lv pc st0 := by
  refine g_callVW X hM hz n hT hw hd0 hR0 hnA hst hroom (by rw [h00.1]; exact hce) (by rw [h00.2]; exact hsl) hcl hC hre hd isC hC0 hnC isR hR1 hnR hdis (fun v w1 hV => ?_)
  obtain ⟨u, hu, rfl, rfl⟩ := hV
  cases hu
  rw [h00.1, h00.2, hst1]
  exact g_perm X ps hnp hps kk
theorem g_cVR {α : Type} {res : α} {fv : α → Option Value} {st1 : List Value} (X : Ok G l D cI cZ cc Ts own nL R rw ini z) {C : String} {b : Nat} {q0 ci : Nat} {qc : vw_C} {fs : List Value} (hM : MetR l y Ty rm D cI cZ z' (.ref b :: As) wc (kR res fv)) (hz : z' = none ∨ z' = z) (n : Nat) (hT : GoodIn Ts (wsV own index C y Ty)) (hw : Ty = Cond.code y bytes maxL ret :: Ty') (hd0 : y.cls = C ∧ y.cls ≠ "java/lang/invoke/MethodHandle" ∧ y.cls ≠ "java/lang/invoke/VarHandle" ∧ (parseMethodDescriptor y.desc).map (fun d => d.parameters.length) = some n) (hR0 : rm.frames + 1 ≤ R.frames ∧ 8 + (maxL + 11) + rm.locals ≤ R.locals) (hnA : As.length = n) (hst : As.reverse ++ .ref b :: st = st0) (hroom : (st.map fun v => v.category).sum ≤ 8) (h00 : rm.cells = 0 ∧ rm.slots = 0) (hce : ce ≤ R.cells) (hsl : sl ≤ R.slots) (hcl : vwCl[ci]? = some qc) (hC : qc.1 = C) (hre : ws[q0]? = some (b, .inr (ci, fs))) (hd : decode cc pc = .ok (.invokevirtual index, 3)) (isC : List Nat) (hC0 : isC.map (fun i => ws[i]?) = wc.map some) (hnC : va_nd isC = true) (hst1 : (fv res).toList ++ st = st1)
    (kk : G ce sl ws lv (pc + 3) st1) : G ce sl ws lv pc st0 := by
  refine g_callVR X hM hz n hT hw hd0 hR0 hnA hst hroom (by rw [h00.1]; exact hce) (by rw [h00.2]; exact hsl) hcl hC hre hd isC hC0 hnC (fun v w1 hV => ?_)
  obtain ⟨u, hu, rfl⟩ := hV
  cases hu
  rw [h00.1, h00.2, hst1]
  exact kk
theorem g_cSW {α : Type} {res : α} {fv : α → Option Value} {fw : α → va_W} {st1 : List Value} (X : Ok G l D cI cZ cc Ts own nL R true ini z)  (hM : MetG l y Ty rm D cI cZ z' As wc (kV res fv fw)) (hz : z' = none ∨ z' = z) (n : Nat) (hT : GoodIn Ts (va_wsS own index y Ty)) (hw : Ty = Cond.code y bytes maxL ret :: Ty') (hd0 : y.cls ≠ "java/lang/invoke/MethodHandle" ∧ y.cls ≠ "java/lang/invoke/VarHandle" ∧ (parseMethodDescriptor y.desc).map (fun d => d.parameters.length) = some n) (hR0 : rm.frames + 1 ≤ R.frames ∧ 8 + (maxL + 11) + rm.locals ≤ R.locals) (hnA : As.length = n) (hst : As.reverse ++ st = st0) (hroom : (st.map fun v => v.category).sum ≤ 8) (h00 : rm.cells = 0 ∧ rm.slots = 0) (hce : ce ≤ R.cells) (hsl : sl ≤ R.slots)  (hd : decode cc pc = .ok (.invokestatic index, 3)) (isC : List Nat) (hC0 : isC.map (fun i => ws[i]?) = wc.map some) (hnC : va_nd isC = true) (isR : List Nat) (hR1 : (isR.all fun i => decide (i < ws.length)) = true) (hnR : va_nd isR = true) (hdis : ∀ i ∈ isR, i ∉ isC) (ps : List Nat) (hps : ps.map (fun i => (isR.filterMap (fun i => ws[i]?) ++ fw res)[i]?) = ws'.map some) (hnp : va_nd ps = true) (hst1 : (fv res).toList ++ st = st1)
    (kk : G ce sl ws' lv (pc + 3) st1) : G ce sl ws lv pc st0 := by
  refine g_callSW X hM hz n hT hw hd0 hR0 hnA hst hroom (by rw [h00.1]; exact hce) (by rw [h00.2]; exact hsl) hd isC hC0 hnC isR hR1 hnR hdis (fun v w1 hV => ?_)
  obtain ⟨u, hu, rfl, rfl⟩ := hV
  cases hu
  rw [h00.1, h00.2, hst1]
  exact g_perm X ps hnp hps kk
theorem g_cSR {α : Type} {res : α} {fv : α → Option Value} {st1 : List Value} (X : Ok G l D cI cZ cc Ts own nL R rw ini z)  (hM : MetR l y Ty rm D cI cZ z' As wc (kR res fv)) (hz : z' = none ∨ z' = z) (n : Nat) (hT : GoodIn Ts (va_wsS own index y Ty)) (hw : Ty = Cond.code y bytes maxL ret :: Ty') (hd0 : y.cls ≠ "java/lang/invoke/MethodHandle" ∧ y.cls ≠ "java/lang/invoke/VarHandle" ∧ (parseMethodDescriptor y.desc).map (fun d => d.parameters.length) = some n) (hR0 : rm.frames + 1 ≤ R.frames ∧ 8 + (maxL + 11) + rm.locals ≤ R.locals) (hnA : As.length = n) (hst : As.reverse ++ st = st0) (hroom : (st.map fun v => v.category).sum ≤ 8) (h00 : rm.cells = 0 ∧ rm.slots = 0) (hce : ce ≤ R.cells) (hsl : sl ≤ R.slots)  (hd : decode cc pc = .ok (.invokestatic index, 3)) (isC : List Nat) (hC0 : isC.map (fun i => ws[i]?) = wc.map some) (hnC : va_nd isC = true) (hst1 : (fv res).toList ++ st = st1)
    (kk : G ce sl ws lv (pc + 3) st1) : G ce sl ws lv pc st0 := by
  refine g_callSR X hM hz n hT hw hd0 hR0 hnA hst hroom (by rw [h00.1]; exact hce) (by rw [h00.2]; exact hsl) hd isC hC0 hnC (fun v w1 hV => ?_)
  obtain ⟨u, hu, rfl⟩ := hV
  cases hu
  rw [h00.1, h00.2, hst1]
  exact kk
theorem g_cNW {α : Type} {res : α} {fv : α → Option Value} {fw : α → va_W} {st1 : List Value} (X : Ok G l D cI cZ cc Ts own nL R true ini z)  (hM : MetG l y Ty rm D cI cZ z' As wc (kV res fv fw)) (hz : z' = none ∨ z' = z) (n : Nat) (hT : GoodIn Ts Ty) (hl0 : (own, index, y) ∈ nestM) (hi0 : Cond.initialized y.cls ∈ Ts) (hs0 : Cond.static y ∈ Ts) (hw : Ty = Cond.code y bytes maxL ret :: Ty') (hd0 : y.cls ≠ "java/lang/invoke/MethodHandle" ∧ y.cls ≠ "java/lang/invoke/VarHandle" ∧ (parseMethodDescriptor y.desc).map (fun d => d.parameters.length) = some n) (hR0 : rm.frames + 1 ≤ R.frames ∧ 8 + (maxL + 11) + rm.locals ≤ R.locals) (hnA : As.length = n) (hst : As.reverse ++ st = st0) (hroom : (st.map fun v => v.category).sum ≤ 8) (h00 : rm.cells = 0 ∧ rm.slots = 0) (hce : ce ≤ R.cells) (hsl : sl ≤ R.slots)  (hd : decode cc pc = .ok (.invokestatic index, 3)) (isC : List Nat) (hC0 : isC.map (fun i => ws[i]?) = wc.map some) (hnC : va_nd isC = true) (isR : List Nat) (hR1 : (isR.all fun i => decide (i < ws.length)) = true) (hnR : va_nd isR = true) (hdis : ∀ i ∈ isR, i ∉ isC) (ps : List Nat) (hps : ps.map (fun i => (isR.filterMap (fun i => ws[i]?) ++ fw res)[i]?) = ws'.map some) (hnp : va_nd ps = true) (hst1 : (fv res).toList ++ st = st1)
    (kk : G ce sl ws' lv (pc + 3) st1) : G ce sl ws lv pc st0 := by
  refine g_callNW X hM hz n hT hl0 hi0 hs0 hw hd0 hR0 hnA hst hroom (by rw [h00.1]; exact hce) (by rw [h00.2]; exact hsl) hd isC hC0 hnC isR hR1 hnR hdis (fun v w1 hV => ?_)
  obtain ⟨u, hu, rfl, rfl⟩ := hV
  cases hu
  rw [h00.1, h00.2, hst1]
  exact g_perm X ps hnp hps kk
theorem g_cNR {α : Type} {res : α} {fv : α → Option Value} {st1 : List Value} (X : Ok G l D cI cZ cc Ts own nL R rw ini z)  (hM : MetR l y Ty rm D cI cZ z' As wc (kR res fv)) (hz : z' = none ∨ z' = z) (n : Nat) (hT : GoodIn Ts Ty) (hl0 : (own, index, y) ∈ nestM) (hi0 : Cond.initialized y.cls ∈ Ts) (hs0 : Cond.static y ∈ Ts) (hw : Ty = Cond.code y bytes maxL ret :: Ty') (hd0 : y.cls ≠ "java/lang/invoke/MethodHandle" ∧ y.cls ≠ "java/lang/invoke/VarHandle" ∧ (parseMethodDescriptor y.desc).map (fun d => d.parameters.length) = some n) (hR0 : rm.frames + 1 ≤ R.frames ∧ 8 + (maxL + 11) + rm.locals ≤ R.locals) (hnA : As.length = n) (hst : As.reverse ++ st = st0) (hroom : (st.map fun v => v.category).sum ≤ 8) (h00 : rm.cells = 0 ∧ rm.slots = 0) (hce : ce ≤ R.cells) (hsl : sl ≤ R.slots)  (hd : decode cc pc = .ok (.invokestatic index, 3)) (isC : List Nat) (hC0 : isC.map (fun i => ws[i]?) = wc.map some) (hnC : va_nd isC = true) (hst1 : (fv res).toList ++ st = st1)
    (kk : G ce sl ws lv (pc + 3) st1) : G ce sl ws lv pc st0 := by
  refine g_callNR X hM hz n hT hl0 hi0 hs0 hw hd0 hR0 hnA hst hroom (by rw [h00.1]; exact hce) (by rw [h00.2]; exact hsl) hd isC hC0 hnC (fun v w1 hV => ?_)
  obtain ⟨u, hu, rfl⟩ := hV
  cases hu
  rw [h00.1, h00.2, hst1]
  exact kk
end GC
