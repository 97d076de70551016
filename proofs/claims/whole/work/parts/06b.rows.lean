section GL
variable {G : kG} {l : Launch} {D : va_G} {cI cZ : ClassId} {cc : ByteArray} {Ts : List Cond} {own : String} {nL : Nat} {R : Room} {rw ini : Bool} {z : kS} {ce sl : Nat} {ws ws' : va_W} {lv lv' : List (Nat × Value)} {pc : Nat} {st : List Value}
theorem g_iconst (X : Ok G l D cI cZ cc Ts own nL R rw ini z) {n : Int} {v : Int32} (hd : decode cc pc = .ok (.iconst n, 1)) (hv : Int32.ofInt n = v) (k : G ce sl ws lv (pc + 1) (.int v :: st)) : G ce sl ws lv pc (st) := by
  obtain ⟨p, e, s, m, args, below, meth, c, A, B, Q, rfl, hx, hb, hml, hown, hts, hK, hN, hA, hrw, hin, hZ⟩ := X
  intro H locs ls hP hD hS hl
  exact lv_iconst hx hb hd hv (k H locs ls hP hD hS hl)
theorem g_bipush (X : Ok G l D cI cZ cc Ts own nL R rw ini z) {n : Int} {v : Int32} (hd : decode cc pc = .ok (.bipush n, 2)) (hv : (Int8.ofInt n).toInt32 = v) (k : G ce sl ws lv (pc + 2) (.int v :: st)) : G ce sl ws lv pc (st) := by
  obtain ⟨p, e, s, m, args, below, meth, c, A, B, Q, rfl, hx, hb, hml, hown, hts, hK, hN, hA, hrw, hin, hZ⟩ := X
  intro H locs ls hP hD hS hl
  exact lv_bipush hx hb hd hv (k H locs ls hP hD hS hl)
theorem g_sipush (X : Ok G l D cI cZ cc Ts own nL R rw ini z) {n : Int} {v : Int32} (hd : decode cc pc = .ok (.sipush n, 3)) (hv : (Int16.ofInt n).toInt32 = v) (k : G ce sl ws lv (pc + 3) (.int v :: st)) : G ce sl ws lv pc (st) := by
  obtain ⟨p, e, s, m, args, below, meth, c, A, B, Q, rfl, hx, hb, hml, hown, hts, hK, hN, hA, hrw, hin, hZ⟩ := X
  intro H locs ls hP hD hS hl
  exact lv_sipush hx hb hd hv (k H locs ls hP hD hS hl)
theorem g_lconst (X : Ok G l D cI cZ cc Ts own nL R rw ini z) {n : Fin 2} {v : Int64} (hd : decode cc pc = .ok (.lconst n, 1)) (hv : Int64.ofNat (n : Nat) = v) (k : G ce sl ws lv (pc + 1) (.long v :: st)) : G ce sl ws lv pc (st) := by
  obtain ⟨p, e, s, m, args, below, meth, c, A, B, Q, rfl, hx, hb, hml, hown, hts, hK, hN, hA, hrw, hin, hZ⟩ := X
  intro H locs ls hP hD hS hl
  exact lv_lconst hx hb hd hv (k H locs ls hP hD hS hl)
theorem g_ldc (X : Ok G l D cI cZ cc Ts own nL R rw ini z) {index : Nat} {v : Int32} (hd : decode cc pc = .ok (.ldc index, 2)) (hc : Jvm.Cond.constant own index v ∈ Ts) (k : G ce sl ws lv (pc + 2) (.int v :: st)) : G ce sl ws lv pc (st) := by
  obtain ⟨p, e, s, m, args, below, meth, c, A, B, Q, rfl, hx, hb, hml, hown, hts, hK, hN, hA, hrw, hin, hZ⟩ := X
  intro H locs ls hP hD hS hl
  exact lv_ldc hx hb hown (hts _ hc) hd (k H locs ls hP hD hS hl)
theorem g_ldcw (X : Ok G l D cI cZ cc Ts own nL R rw ini z) {index : Nat} {v : Int32} (hd : decode cc pc = .ok (.ldc_w index, 3)) (hc : Jvm.Cond.constant own index v ∈ Ts) (k : G ce sl ws lv (pc + 3) (.int v :: st)) : G ce sl ws lv pc (st) := by
  obtain ⟨p, e, s, m, args, below, meth, c, A, B, Q, rfl, hx, hb, hml, hown, hts, hK, hN, hA, hrw, hin, hZ⟩ := X
  intro H locs ls hP hD hS hl
  exact lv_ldcw hx hb hown (hts _ hc) hd (k H locs ls hP hD hS hl)
theorem g_ldc2 (X : Ok G l D cI cZ cc Ts own nL R rw ini z) {index : Nat} {v : Int64} (hd : decode cc pc = .ok (.ldc2_w index, 3)) (hc : Jvm.Cond.constantLong own index v ∈ Ts) (k : G ce sl ws lv (pc + 3) (.long v :: st)) : G ce sl ws lv pc (st) := by
  obtain ⟨p, e, s, m, args, below, meth, c, A, B, Q, rfl, hx, hb, hml, hown, hts, hK, hN, hA, hrw, hin, hZ⟩ := X
  intro H locs ls hP hD hS hl
  exact lv_ldc2 hx hb hown (hts _ hc) hd (k H locs ls hP hD hS hl)
theorem g_iload_n (X : Ok G l D cI cZ cc Ts own nL R rw ini z) {k4 : Fin 4} {i : Nat} {x : Int32} (hd : decode cc pc = .ok (.iload_n k4, 1)) (hi : (k4 : Nat) = i) (q : Nat) (hq : lv[q]? = some (i, .int x)) (k : G ce sl ws lv (pc + 1) (.int x :: st)) : G ce sl ws lv pc (st) := by
  obtain ⟨p, e, s, m, args, below, meth, c, A, B, Q, rfl, hx, hb, hml, hown, hts, hK, hN, hA, hrw, hin, hZ⟩ := X
  intro H locs ls hP hD hS hl
  exact lv_iload_n hx hb hd hi (lv_at hl q hq) (k H locs ls hP hD hS hl)
theorem g_iload (X : Ok G l D cI cZ cc Ts own nL R rw ini z) {i : Nat} {x : Int32} (hd : decode cc pc = .ok (.iload i, 2)) (q : Nat) (hq : lv[q]? = some (i, .int x)) (k : G ce sl ws lv (pc + 2) (.int x :: st)) : G ce sl ws lv pc (st) := by
  obtain ⟨p, e, s, m, args, below, meth, c, A, B, Q, rfl, hx, hb, hml, hown, hts, hK, hN, hA, hrw, hin, hZ⟩ := X
  intro H locs ls hP hD hS hl
  exact lv_iload hx hb hd (lv_at hl q hq) (k H locs ls hP hD hS hl)
theorem g_lload_n (X : Ok G l D cI cZ cc Ts own nL R rw ini z) {k4 : Fin 4} {i : Nat} {x : Int64} (hd : decode cc pc = .ok (.lload_n k4, 1)) (hi : (k4 : Nat) = i) (q : Nat) (hq : lv[q]? = some (i, .long x)) (k : G ce sl ws lv (pc + 1) (.long x :: st)) : G ce sl ws lv pc (st) := by
  obtain ⟨p, e, s, m, args, below, meth, c, A, B, Q, rfl, hx, hb, hml, hown, hts, hK, hN, hA, hrw, hin, hZ⟩ := X
  intro H locs ls hP hD hS hl
  exact lv_lload_n hx hb hd hi (lv_at hl q hq) (k H locs ls hP hD hS hl)
theorem g_lload (X : Ok G l D cI cZ cc Ts own nL R rw ini z) {i : Nat} {x : Int64} (hd : decode cc pc = .ok (.lload i, 2)) (q : Nat) (hq : lv[q]? = some (i, .long x)) (k : G ce sl ws lv (pc + 2) (.long x :: st)) : G ce sl ws lv pc (st) := by
  obtain ⟨p, e, s, m, args, below, meth, c, A, B, Q, rfl, hx, hb, hml, hown, hts, hK, hN, hA, hrw, hin, hZ⟩ := X
  intro H locs ls hP hD hS hl
  exact lv_lload hx hb hd (lv_at hl q hq) (k H locs ls hP hD hS hl)
theorem g_aload_n (X : Ok G l D cI cZ cc Ts own nL R rw ini z) {k4 : Fin 4} {i : Nat} {x : Nat} (hd : decode cc pc = .ok (.aload_n k4, 1)) (hi : (k4 : Nat) = i) (q : Nat) (hq : lv[q]? = some (i, .ref x)) (k : G ce sl ws lv (pc + 1) (.ref x :: st)) : G ce sl ws lv pc (st) := by
  obtain ⟨p, e, s, m, args, below, meth, c, A, B, Q, rfl, hx, hb, hml, hown, hts, hK, hN, hA, hrw, hin, hZ⟩ := X
  intro H locs ls hP hD hS hl
  exact lv_aload_n hx hb hd hi (lv_at hl q hq) (k H locs ls hP hD hS hl)
theorem g_aload (X : Ok G l D cI cZ cc Ts own nL R rw ini z) {i : Nat} {x : Nat} (hd : decode cc pc = .ok (.aload i, 2)) (q : Nat) (hq : lv[q]? = some (i, .ref x)) (k : G ce sl ws lv (pc + 2) (.ref x :: st)) : G ce sl ws lv pc (st) := by
  obtain ⟨p, e, s, m, args, below, meth, c, A, B, Q, rfl, hx, hb, hml, hown, hts, hK, hN, hA, hrw, hin, hZ⟩ := X
  intro H locs ls hP hD hS hl
  exact lv_aload hx hb hd (lv_at hl q hq) (k H locs ls hP hD hS hl)
theorem g_istore_n (X : Ok G l D cI cZ cc Ts own nL R rw ini z) {k4 : Fin 4} {i : Nat} {x : Int32} (hd : decode cc pc = .ok (.istore_n k4, 1)) (hi : (k4 : Nat) = i) (hn : i < nL) (ks : List Nat) (he : lv_pick ((i, Value.int x) :: lv.filter (fun q => !(q.1 == i) && !(q.1 + 1 == i && q.2.category == 2))) ks = lv') (k : G ce sl ws lv' (pc + 1) st) : G ce sl ws lv pc (.int x :: st) := by
  obtain ⟨p, e, s, m, args, below, meth, c, A, B, Q, rfl, hx, hb, hml, hown, hts, hK, hN, hA, hrw, hin, hZ⟩ := X
  intro H locs ls hP hD hS hl
  exact lv_istore_n hx hb hd hi hl hn rfl (fun ls' hl' => k H locs ls' hP hD hS (lv_sub hl' ks he))
theorem g_istore (X : Ok G l D cI cZ cc Ts own nL R rw ini z) {i : Nat} {x : Int32} (hd : decode cc pc = .ok (.istore i, 2)) (hn : i < nL) (ks : List Nat) (he : lv_pick ((i, Value.int x) :: lv.filter (fun q => !(q.1 == i) && !(q.1 + 1 == i && q.2.category == 2))) ks = lv') (k : G ce sl ws lv' (pc + 2) st) : G ce sl ws lv pc (.int x :: st) := by
  obtain ⟨p, e, s, m, args, below, meth, c, A, B, Q, rfl, hx, hb, hml, hown, hts, hK, hN, hA, hrw, hin, hZ⟩ := X
  intro H locs ls hP hD hS hl
  exact lv_istore hx hb hd hl hn rfl (fun ls' hl' => k H locs ls' hP hD hS (lv_sub hl' ks he))
theorem g_lstore_n (X : Ok G l D cI cZ cc Ts own nL R rw ini z) {k4 : Fin 4} {i : Nat} {x : Int64} (hd : decode cc pc = .ok (.lstore_n k4, 1)) (hi : (k4 : Nat) = i) (hn : i + 1 < nL) (ks : List Nat) (he : lv_pick ((i, Value.long x) :: lv.filter (fun q => !(q.1 == i) && (!(q.1 == i + 1) && !(q.1 + 1 == i && q.2.category == 2)))) ks = lv') (k : G ce sl ws lv' (pc + 1) st) : G ce sl ws lv pc (.long x :: st) := by
  obtain ⟨p, e, s, m, args, below, meth, c, A, B, Q, rfl, hx, hb, hml, hown, hts, hK, hN, hA, hrw, hin, hZ⟩ := X
  intro H locs ls hP hD hS hl
  exact lv_lstore_n hx hb hd hi hl hn rfl (fun ls' hl' => k H locs ls' hP hD hS (lv_sub hl' ks he))
theorem g_lstore (X : Ok G l D cI cZ cc Ts own nL R rw ini z) {i : Nat} {x : Int64} (hd : decode cc pc = .ok (.lstore i, 2)) (hn : i + 1 < nL) (ks : List Nat) (he : lv_pick ((i, Value.long x) :: lv.filter (fun q => !(q.1 == i) && (!(q.1 == i + 1) && !(q.1 + 1 == i && q.2.category == 2)))) ks = lv') (k : G ce sl ws lv' (pc + 2) st) : G ce sl ws lv pc (.long x :: st) := by
  obtain ⟨p, e, s, m, args, below, meth, c, A, B, Q, rfl, hx, hb, hml, hown, hts, hK, hN, hA, hrw, hin, hZ⟩ := X
  intro H locs ls hP hD hS hl
  exact lv_lstore hx hb hd hl hn rfl (fun ls' hl' => k H locs ls' hP hD hS (lv_sub hl' ks he))
theorem g_astore_n (X : Ok G l D cI cZ cc Ts own nL R rw ini z) {k4 : Fin 4} {i : Nat} {x : Nat} (hd : decode cc pc = .ok (.astore_n k4, 1)) (hi : (k4 : Nat) = i) (hn : i < nL) (ks : List Nat) (he : lv_pick ((i, Value.ref x) :: lv.filter (fun q => !(q.1 == i) && !(q.1 + 1 == i && q.2.category == 2))) ks = lv') (k : G ce sl ws lv' (pc + 1) st) : G ce sl ws lv pc (.ref x :: st) := by
  obtain ⟨p, e, s, m, args, below, meth, c, A, B, Q, rfl, hx, hb, hml, hown, hts, hK, hN, hA, hrw, hin, hZ⟩ := X
  intro H locs ls hP hD hS hl
  exact lv_astore_n hx hb hd hi hl hn rfl (fun ls' hl' => k H locs ls' hP hD hS (lv_sub hl' ks he))
theorem g_astore (X : Ok G l D cI cZ cc Ts own nL R rw ini z) {i : Nat} {x : Nat} (hd : decode cc pc = .ok (.astore i, 2)) (hn : i < nL) (ks : List Nat) (he : lv_pick ((i, Value.ref x) :: lv.filter (fun q => !(q.1 == i) && !(q.1 + 1 == i && q.2.category == 2))) ks = lv') (k : G ce sl ws lv' (pc + 2) st) : G ce sl ws lv pc (.ref x :: st) := by
  obtain ⟨p, e, s, m, args, below, meth, c, A, B, Q, rfl, hx, hb, hml, hown, hts, hK, hN, hA, hrw, hin, hZ⟩ := X
  intro H locs ls hP hD hS hl
  exact lv_astore hx hb hd hl hn rfl (fun ls' hl' => k H locs ls' hP hD hS (lv_sub hl' ks he))
theorem g_iinc (X : Ok G l D cI cZ cc Ts own nL R rw ini z) {i : Nat} {n : Int} {x v : Int32} (hd : decode cc pc = .ok (.iinc i n, 3)) (q : Nat) (hq : lv[q]? = some (i, .int x)) (hv : x + Int32.ofInt n = v) (hn : i < nL) (ks : List Nat) (he : lv_pick ((i, Value.int v) :: lv.filter (fun q => !(q.1 == i) && !(q.1 + 1 == i && q.2.category == 2))) ks = lv') (k : G ce sl ws lv' (pc + 3) st) : G ce sl ws lv pc (st) := by
  obtain ⟨p, e, s, m, args, below, meth, c, A, B, Q, rfl, hx, hb, hml, hown, hts, hK, hN, hA, hrw, hin, hZ⟩ := X
  intro H locs ls hP hD hS hl
  exact lv_iinc hx hb hd hl hq hv hn rfl (fun ls' hl' => k H locs ls' hP hD hS (lv_sub hl' ks he))
theorem g_iadd (X : Ok G l D cI cZ cc Ts own nL R rw ini z) {x y : Int32} (hd : decode cc pc = .ok (.iadd, 1))  (k : G ce sl ws lv (pc + 1) (.int (x + y) :: st)) : G ce sl ws lv pc (.int y :: .int x :: st) := by
  obtain ⟨p, e, s, m, args, below, meth, c, A, B, Q, rfl, hx, hb, hml, hown, hts, hK, hN, hA, hrw, hin, hZ⟩ := X
  intro H locs ls hP hD hS hl
  exact lv_iadd hx hb hd (k H locs ls hP hD hS hl)
theorem g_isub (X : Ok G l D cI cZ cc Ts own nL R rw ini z) {x y : Int32} (hd : decode cc pc = .ok (.isub, 1))  (k : G ce sl ws lv (pc + 1) (.int (x - y) :: st)) : G ce sl ws lv pc (.int y :: .int x :: st) := by
  obtain ⟨p, e, s, m, args, below, meth, c, A, B, Q, rfl, hx, hb, hml, hown, hts, hK, hN, hA, hrw, hin, hZ⟩ := X
  intro H locs ls hP hD hS hl
  exact lv_isub hx hb hd (k H locs ls hP hD hS hl)
theorem g_imul (X : Ok G l D cI cZ cc Ts own nL R rw ini z) {x y : Int32} (hd : decode cc pc = .ok (.imul, 1))  (k : G ce sl ws lv (pc + 1) (.int (x * y) :: st)) : G ce sl ws lv pc (.int y :: .int x :: st) := by
  obtain ⟨p, e, s, m, args, below, meth, c, A, B, Q, rfl, hx, hb, hml, hown, hts, hK, hN, hA, hrw, hin, hZ⟩ := X
  intro H locs ls hP hD hS hl
  exact lv_imul hx hb hd (k H locs ls hP hD hS hl)
theorem g_iand (X : Ok G l D cI cZ cc Ts own nL R rw ini z) {x y : Int32} (hd : decode cc pc = .ok (.iand, 1))  (k : G ce sl ws lv (pc + 1) (.int (x &&& y) :: st)) : G ce sl ws lv pc (.int y :: .int x :: st) := by
  obtain ⟨p, e, s, m, args, below, meth, c, A, B, Q, rfl, hx, hb, hml, hown, hts, hK, hN, hA, hrw, hin, hZ⟩ := X
  intro H locs ls hP hD hS hl
  exact lv_iand hx hb hd (k H locs ls hP hD hS hl)
theorem g_ior (X : Ok G l D cI cZ cc Ts own nL R rw ini z) {x y : Int32} (hd : decode cc pc = .ok (.ior, 1))  (k : G ce sl ws lv (pc + 1) (.int (x ||| y) :: st)) : G ce sl ws lv pc (.int y :: .int x :: st) := by
  obtain ⟨p, e, s, m, args, below, meth, c, A, B, Q, rfl, hx, hb, hml, hown, hts, hK, hN, hA, hrw, hin, hZ⟩ := X
  intro H locs ls hP hD hS hl
  exact lv_ior hx hb hd (k H locs ls hP hD hS hl)
theorem g_ixor (X : Ok G l D cI cZ cc Ts own nL R rw ini z) {x y : Int32} (hd : decode cc pc = .ok (.ixor, 1))  (k : G ce sl ws lv (pc + 1) (.int (x ^^^ y) :: st)) : G ce sl ws lv pc (.int y :: .int x :: st) := by
  obtain ⟨p, e, s, m, args, below, meth, c, A, B, Q, rfl, hx, hb, hml, hown, hts, hK, hN, hA, hrw, hin, hZ⟩ := X
  intro H locs ls hP hD hS hl
  exact lv_ixor hx hb hd (k H locs ls hP hD hS hl)
theorem g_ishl (X : Ok G l D cI cZ cc Ts own nL R rw ini z) {x y : Int32} (hd : decode cc pc = .ok (.ishl, 1))  (k : G ce sl ws lv (pc + 1) (.int (x <<< (y &&& 31)) :: st)) : G ce sl ws lv pc (.int y :: .int x :: st) := by
  obtain ⟨p, e, s, m, args, below, meth, c, A, B, Q, rfl, hx, hb, hml, hown, hts, hK, hN, hA, hrw, hin, hZ⟩ := X
  intro H locs ls hP hD hS hl
  exact lv_ishl hx hb hd (k H locs ls hP hD hS hl)
theorem g_ishr (X : Ok G l D cI cZ cc Ts own nL R rw ini z) {x y : Int32} (hd : decode cc pc = .ok (.ishr, 1))  (k : G ce sl ws lv (pc + 1) (.int (x >>> (y &&& 31)) :: st)) : G ce sl ws lv pc (.int y :: .int x :: st) := by
  obtain ⟨p, e, s, m, args, below, meth, c, A, B, Q, rfl, hx, hb, hml, hown, hts, hK, hN, hA, hrw, hin, hZ⟩ := X
  intro H locs ls hP hD hS hl
  exact lv_ishr hx hb hd (k H locs ls hP hD hS hl)
theorem g_idiv (X : Ok G l D cI cZ cc Ts own nL R rw ini z) {x y : Int32} (hd : decode cc pc = .ok (.idiv, 1)) (hne : ¬ y = 0) (k : G ce sl ws lv (pc + 1) (.int (x / y) :: st)) : G ce sl ws lv pc (.int y :: .int x :: st) := by
  obtain ⟨p, e, s, m, args, below, meth, c, A, B, Q, rfl, hx, hb, hml, hown, hts, hK, hN, hA, hrw, hin, hZ⟩ := X
  intro H locs ls hP hD hS hl
  exact lv_idiv hx hb hd hne (k H locs ls hP hD hS hl)
theorem g_irem (X : Ok G l D cI cZ cc Ts own nL R rw ini z) {x y : Int32} (hd : decode cc pc = .ok (.irem, 1)) (hne : ¬ y = 0) (k : G ce sl ws lv (pc + 1) (.int (x - x / y * y) :: st)) : G ce sl ws lv pc (.int y :: .int x :: st) := by
  obtain ⟨p, e, s, m, args, below, meth, c, A, B, Q, rfl, hx, hb, hml, hown, hts, hK, hN, hA, hrw, hin, hZ⟩ := X
  intro H locs ls hP hD hS hl
  exact lv_irem hx hb hd hne (k H locs ls hP hD hS hl)
end GL
