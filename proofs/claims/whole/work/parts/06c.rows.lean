section GL
variable {G : kG} {l : Launch} {D : va_G} {cI cZ : ClassId} {cc : ByteArray} {Ts : List Cond} {own : String} {nL : Nat} {R : Room} {rw ini : Bool} {z : kS} {ce sl : Nat} {ws ws' : va_W} {lv lv' : List (Nat × Value)} {pc : Nat} {st : List Value}
theorem g_ineg (X : Ok G l D cI cZ cc Ts own nL R rw ini z) {x : Int32} (hd : decode cc pc = .ok (.ineg, 1))  (k : G ce sl ws lv (pc + 1) (.int (-x) :: st)) : G ce sl ws lv pc (.int x :: st) := by
  obtain ⟨p, e, s, m, args, below, meth, c, A, B, Q, rfl, hx, hb, hml, hown, hts, hK, hN, hA, hrw, hin, hZ⟩ := X
  intro H locs ls hP hD hS hl
  exact lv_ineg hx hb hd (k H locs ls hP hD hS hl)
theorem g_iushr (X : Ok G l D cI cZ cc Ts own nL R rw ini z) {x y v : Int32} (hd : decode cc pc = .ok (.iushr, 1)) (hv : (x.toUInt32 >>> (y.toUInt32 &&& Int32.toUInt32 31)).toInt32 = v) (k : G ce sl ws lv (pc + 1) (.int v :: st)) : G ce sl ws lv pc (.int y :: .int x :: st) := by
  obtain ⟨p, e, s, m, args, below, meth, c, A, B, Q, rfl, hx, hb, hml, hown, hts, hK, hN, hA, hrw, hin, hZ⟩ := X
  intro H locs ls hP hD hS hl
  exact lv_iushr hx hb hd hv (k H locs ls hP hD hS hl)
theorem g_ladd (X : Ok G l D cI cZ cc Ts own nL R rw ini z) {x y : Int64} (hd : decode cc pc = .ok (.ladd, 1))  (k : G ce sl ws lv (pc + 1) (.long (x + y) :: st)) : G ce sl ws lv pc (.long y :: .long x :: st) := by
  obtain ⟨p, e, s, m, args, below, meth, c, A, B, Q, rfl, hx, hb, hml, hown, hts, hK, hN, hA, hrw, hin, hZ⟩ := X
  intro H locs ls hP hD hS hl
  exact lv_ladd hx hb hd (k H locs ls hP hD hS hl)
theorem g_lsub (X : Ok G l D cI cZ cc Ts own nL R rw ini z) {x y : Int64} (hd : decode cc pc = .ok (.lsub, 1))  (k : G ce sl ws lv (pc + 1) (.long (x - y) :: st)) : G ce sl ws lv pc (.long y :: .long x :: st) := by
  obtain ⟨p, e, s, m, args, below, meth, c, A, B, Q, rfl, hx, hb, hml, hown, hts, hK, hN, hA, hrw, hin, hZ⟩ := X
  intro H locs ls hP hD hS hl
  exact lv_lsub hx hb hd (k H locs ls hP hD hS hl)
theorem g_lmul (X : Ok G l D cI cZ cc Ts own nL R rw ini z) {x y : Int64} (hd : decode cc pc = .ok (.lmul, 1))  (k : G ce sl ws lv (pc + 1) (.long (x * y) :: st)) : G ce sl ws lv pc (.long y :: .long x :: st) := by
  obtain ⟨p, e, s, m, args, below, meth, c, A, B, Q, rfl, hx, hb, hml, hown, hts, hK, hN, hA, hrw, hin, hZ⟩ := X
  intro H locs ls hP hD hS hl
  exact lv_lmul hx hb hd (k H locs ls hP hD hS hl)
theorem g_ldiv (X : Ok G l D cI cZ cc Ts own nL R rw ini z) {x y : Int64} (hd : decode cc pc = .ok (.ldiv, 1)) (hne : ¬ y = 0) (k : G ce sl ws lv (pc + 1) (.long (x / y) :: st)) : G ce sl ws lv pc (.long y :: .long x :: st) := by
  obtain ⟨p, e, s, m, args, below, meth, c, A, B, Q, rfl, hx, hb, hml, hown, hts, hK, hN, hA, hrw, hin, hZ⟩ := X
  intro H locs ls hP hD hS hl
  exact lv_ldiv hx hb hd hne (k H locs ls hP hD hS hl)
theorem g_lrem (X : Ok G l D cI cZ cc Ts own nL R rw ini z) {x y : Int64} (hd : decode cc pc = .ok (.lrem, 1)) (hne : ¬ y = 0) (k : G ce sl ws lv (pc + 1) (.long (x - x / y * y) :: st)) : G ce sl ws lv pc (.long y :: .long x :: st) := by
  obtain ⟨p, e, s, m, args, below, meth, c, A, B, Q, rfl, hx, hb, hml, hown, hts, hK, hN, hA, hrw, hin, hZ⟩ := X
  intro H locs ls hP hD hS hl
  exact lv_lrem hx hb hd hne (k H locs ls hP hD hS hl)
theorem g_lcmp (X : Ok G l D cI cZ cc Ts own nL R rw ini z) {x y : Int64} (hd : decode cc pc = .ok (.lcmp, 1))  (k : G ce sl ws lv (pc + 1) (.int (lg_cmp x y) :: st)) : G ce sl ws lv pc (.long y :: .long x :: st) := by
  obtain ⟨p, e, s, m, args, below, meth, c, A, B, Q, rfl, hx, hb, hml, hown, hts, hK, hN, hA, hrw, hin, hZ⟩ := X
  intro H locs ls hP hD hS hl
  exact W.lcmp hx hb hd (k H locs ls hP hD hS hl)
theorem g_i2l (X : Ok G l D cI cZ cc Ts own nL R rw ini z) {x : Int32} (hd : decode cc pc = .ok (.i2l, 1))  (k : G ce sl ws lv (pc + 1) (.long x.toInt64 :: st)) : G ce sl ws lv pc (.int x :: st) := by
  obtain ⟨p, e, s, m, args, below, meth, c, A, B, Q, rfl, hx, hb, hml, hown, hts, hK, hN, hA, hrw, hin, hZ⟩ := X
  intro H locs ls hP hD hS hl
  exact lv_i2l hx hb hd rfl (k H locs ls hP hD hS hl)
theorem g_l2i (X : Ok G l D cI cZ cc Ts own nL R rw ini z) {x : Int64} (hd : decode cc pc = .ok (.l2i, 1))  (k : G ce sl ws lv (pc + 1) (.int x.toInt32 :: st)) : G ce sl ws lv pc (.long x :: st) := by
  obtain ⟨p, e, s, m, args, below, meth, c, A, B, Q, rfl, hx, hb, hml, hown, hts, hK, hN, hA, hrw, hin, hZ⟩ := X
  intro H locs ls hP hD hS hl
  exact lv_l2i hx hb hd rfl (k H locs ls hP hD hS hl)
theorem g_dup (X : Ok G l D cI cZ cc Ts own nL R rw ini z) {va : Value} (hd : decode cc pc = .ok (.dup, 1)) (hva : va.category = 1) (k : G ce sl ws lv (pc + 1) (va :: va :: st)) : G ce sl ws lv pc (va :: st) := by
  obtain ⟨p, e, s, m, args, below, meth, c, A, B, Q, rfl, hx, hb, hml, hown, hts, hK, hN, hA, hrw, hin, hZ⟩ := X
  intro H locs ls hP hD hS hl
  exact lv_dup hx hb hd hva (k H locs ls hP hD hS hl)
theorem g_pop (X : Ok G l D cI cZ cc Ts own nL R rw ini z) {va : Value} (hd : decode cc pc = .ok (.pop, 1)) (hva : va.category = 1) (k : G ce sl ws lv (pc + 1) (st)) : G ce sl ws lv pc (va :: st) := by
  obtain ⟨p, e, s, m, args, below, meth, c, A, B, Q, rfl, hx, hb, hml, hown, hts, hK, hN, hA, hrw, hin, hZ⟩ := X
  intro H locs ls hP hD hS hl
  exact lv_pop hx hb hd hva (k H locs ls hP hD hS hl)
theorem g_dup2_11 (X : Ok G l D cI cZ cc Ts own nL R rw ini z) {va vb : Value} (hd : decode cc pc = .ok (.dup2, 1)) (hva : va.category = 1) (hvb : vb.category = 1) (k : G ce sl ws lv (pc + 1) (va :: vb :: va :: vb :: st)) : G ce sl ws lv pc (va :: vb :: st) := by
  obtain ⟨p, e, s, m, args, below, meth, c, A, B, Q, rfl, hx, hb, hml, hown, hts, hK, hN, hA, hrw, hin, hZ⟩ := X
  intro H locs ls hP hD hS hl
  exact lv_dup2_11 hx hb hd hva hvb (k H locs ls hP hD hS hl)
theorem g_dup_x1 (X : Ok G l D cI cZ cc Ts own nL R rw ini z) {va vb : Value} (hd : decode cc pc = .ok (.dup_x1, 1)) (hva : va.category = 1) (hvb : vb.category = 1) (k : G ce sl ws lv (pc + 1) (va :: vb :: va :: st)) : G ce sl ws lv pc (va :: vb :: st) := by
  obtain ⟨p, e, s, m, args, below, meth, c, A, B, Q, rfl, hx, hb, hml, hown, hts, hK, hN, hA, hrw, hin, hZ⟩ := X
  intro H locs ls hP hD hS hl
  exact lv_dup_x1 hx hb hd hva hvb (k H locs ls hP hD hS hl)
theorem g_if_eq (X : Ok G l D cI cZ cc Ts own nL R rw ini z) {x : Int32} {off : Int} {tgt : Nat} (hd : decode cc pc = .ok (.ifCond .eq off, 3)) (ht : (pc : Int) + off = (tgt : Int)) (kt : x = 0 → G ce sl ws lv tgt st) (kf : ¬ x = 0 → G ce sl ws lv (pc + 3) st) : G ce sl ws lv pc (.int x :: st) := by
  obtain ⟨p, e, s, m, args, below, meth, c, A, B, Q, rfl, hx, hb, hml, hown, hts, hK, hN, hA, hrw, hin, hZ⟩ := X
  intro H locs ls hP hD hS hl
  exact lv_if_eq hx hb hd ht (fun h => kt h H locs ls hP hD hS hl) (fun h => kf h H locs ls hP hD hS hl)
theorem g_icmp_eq (X : Ok G l D cI cZ cc Ts own nL R rw ini z) {x y : Int32} {off : Int} {tgt : Nat} (hd : decode cc pc = .ok (.if_icmp .eq off, 3)) (ht : (pc : Int) + off = (tgt : Int)) (kt : x = y → G ce sl ws lv tgt st) (kf : ¬ x = y → G ce sl ws lv (pc + 3) st) : G ce sl ws lv pc (.int y :: .int x :: st) := by
  obtain ⟨p, e, s, m, args, below, meth, c, A, B, Q, rfl, hx, hb, hml, hown, hts, hK, hN, hA, hrw, hin, hZ⟩ := X
  intro H locs ls hP hD hS hl
  exact lv_icmp_eq hx hb hd ht (fun h => kt h H locs ls hP hD hS hl) (fun h => kf h H locs ls hP hD hS hl)
theorem g_if_ne (X : Ok G l D cI cZ cc Ts own nL R rw ini z) {x : Int32} {off : Int} {tgt : Nat} (hd : decode cc pc = .ok (.ifCond .ne off, 3)) (ht : (pc : Int) + off = (tgt : Int)) (kt : ¬ x = 0 → G ce sl ws lv tgt st) (kf : x = 0 → G ce sl ws lv (pc + 3) st) : G ce sl ws lv pc (.int x :: st) := by
  obtain ⟨p, e, s, m, args, below, meth, c, A, B, Q, rfl, hx, hb, hml, hown, hts, hK, hN, hA, hrw, hin, hZ⟩ := X
  intro H locs ls hP hD hS hl
  exact lv_if_ne hx hb hd ht (fun h => kt h H locs ls hP hD hS hl) (fun h => kf h H locs ls hP hD hS hl)
theorem g_icmp_ne (X : Ok G l D cI cZ cc Ts own nL R rw ini z) {x y : Int32} {off : Int} {tgt : Nat} (hd : decode cc pc = .ok (.if_icmp .ne off, 3)) (ht : (pc : Int) + off = (tgt : Int)) (kt : ¬ x = y → G ce sl ws lv tgt st) (kf : x = y → G ce sl ws lv (pc + 3) st) : G ce sl ws lv pc (.int y :: .int x :: st) := by
  obtain ⟨p, e, s, m, args, below, meth, c, A, B, Q, rfl, hx, hb, hml, hown, hts, hK, hN, hA, hrw, hin, hZ⟩ := X
  intro H locs ls hP hD hS hl
  exact lv_icmp_ne hx hb hd ht (fun h => kt h H locs ls hP hD hS hl) (fun h => kf h H locs ls hP hD hS hl)
theorem g_if_lt (X : Ok G l D cI cZ cc Ts own nL R rw ini z) {x : Int32} {off : Int} {tgt : Nat} (hd : decode cc pc = .ok (.ifCond .lt off, 3)) (ht : (pc : Int) + off = (tgt : Int)) (kt : x < 0 → G ce sl ws lv tgt st) (kf : ¬ x < 0 → G ce sl ws lv (pc + 3) st) : G ce sl ws lv pc (.int x :: st) := by
  obtain ⟨p, e, s, m, args, below, meth, c, A, B, Q, rfl, hx, hb, hml, hown, hts, hK, hN, hA, hrw, hin, hZ⟩ := X
  intro H locs ls hP hD hS hl
  exact lv_if_lt hx hb hd ht (fun h => kt h H locs ls hP hD hS hl) (fun h => kf h H locs ls hP hD hS hl)
theorem g_icmp_lt (X : Ok G l D cI cZ cc Ts own nL R rw ini z) {x y : Int32} {off : Int} {tgt : Nat} (hd : decode cc pc = .ok (.if_icmp .lt off, 3)) (ht : (pc : Int) + off = (tgt : Int)) (kt : x < y → G ce sl ws lv tgt st) (kf : ¬ x < y → G ce sl ws lv (pc + 3) st) : G ce sl ws lv pc (.int y :: .int x :: st) := by
  obtain ⟨p, e, s, m, args, below, meth, c, A, B, Q, rfl, hx, hb, hml, hown, hts, hK, hN, hA, hrw, hin, hZ⟩ := X
  intro H locs ls hP hD hS hl
  exact lv_icmp_lt hx hb hd ht (fun h => kt h H locs ls hP hD hS hl) (fun h => kf h H locs ls hP hD hS hl)
theorem g_if_ge (X : Ok G l D cI cZ cc Ts own nL R rw ini z) {x : Int32} {off : Int} {tgt : Nat} (hd : decode cc pc = .ok (.ifCond .ge off, 3)) (ht : (pc : Int) + off = (tgt : Int)) (kt : 0 ≤ x → G ce sl ws lv tgt st) (kf : ¬ 0 ≤ x → G ce sl ws lv (pc + 3) st) : G ce sl ws lv pc (.int x :: st) := by
  obtain ⟨p, e, s, m, args, below, meth, c, A, B, Q, rfl, hx, hb, hml, hown, hts, hK, hN, hA, hrw, hin, hZ⟩ := X
  intro H locs ls hP hD hS hl
  exact lv_if_ge hx hb hd ht (fun h => kt h H locs ls hP hD hS hl) (fun h => kf h H locs ls hP hD hS hl)
theorem g_icmp_ge (X : Ok G l D cI cZ cc Ts own nL R rw ini z) {x y : Int32} {off : Int} {tgt : Nat} (hd : decode cc pc = .ok (.if_icmp .ge off, 3)) (ht : (pc : Int) + off = (tgt : Int)) (kt : y ≤ x → G ce sl ws lv tgt st) (kf : ¬ y ≤ x → G ce sl ws lv (pc + 3) st) : G ce sl ws lv pc (.int y :: .int x :: st) := by
  obtain ⟨p, e, s, m, args, below, meth, c, A, B, Q, rfl, hx, hb, hml, hown, hts, hK, hN, hA, hrw, hin, hZ⟩ := X
  intro H locs ls hP hD hS hl
  exact lv_icmp_ge hx hb hd ht (fun h => kt h H locs ls hP hD hS hl) (fun h => kf h H locs ls hP hD hS hl)
theorem g_if_gt (X : Ok G l D cI cZ cc Ts own nL R rw ini z) {x : Int32} {off : Int} {tgt : Nat} (hd : decode cc pc = .ok (.ifCond .gt off, 3)) (ht : (pc : Int) + off = (tgt : Int)) (kt : 0 < x → G ce sl ws lv tgt st) (kf : ¬ 0 < x → G ce sl ws lv (pc + 3) st) : G ce sl ws lv pc (.int x :: st) := by
  obtain ⟨p, e, s, m, args, below, meth, c, A, B, Q, rfl, hx, hb, hml, hown, hts, hK, hN, hA, hrw, hin, hZ⟩ := X
  intro H locs ls hP hD hS hl
  exact lv_if_gt hx hb hd ht (fun h => kt h H locs ls hP hD hS hl) (fun h => kf h H locs ls hP hD hS hl)
theorem g_icmp_gt (X : Ok G l D cI cZ cc Ts own nL R rw ini z) {x y : Int32} {off : Int} {tgt : Nat} (hd : decode cc pc = .ok (.if_icmp .gt off, 3)) (ht : (pc : Int) + off = (tgt : Int)) (kt : y < x → G ce sl ws lv tgt st) (kf : ¬ y < x → G ce sl ws lv (pc + 3) st) : G ce sl ws lv pc (.int y :: .int x :: st) := by
  obtain ⟨p, e, s, m, args, below, meth, c, A, B, Q, rfl, hx, hb, hml, hown, hts, hK, hN, hA, hrw, hin, hZ⟩ := X
  intro H locs ls hP hD hS hl
  exact lv_icmp_gt hx hb hd ht (fun h => kt h H locs ls hP hD hS hl) (fun h => kf h H locs ls hP hD hS hl)
theorem g_if_le (X : Ok G l D cI cZ cc Ts own nL R rw ini z) {x : Int32} {off : Int} {tgt : Nat} (hd : decode cc pc = .ok (.ifCond .le off, 3)) (ht : (pc : Int) + off = (tgt : Int)) (kt : x ≤ 0 → G ce sl ws lv tgt st) (kf : ¬ x ≤ 0 → G ce sl ws lv (pc + 3) st) : G ce sl ws lv pc (.int x :: st) := by
  obtain ⟨p, e, s, m, args, below, meth, c, A, B, Q, rfl, hx, hb, hml, hown, hts, hK, hN, hA, hrw, hin, hZ⟩ := X
  intro H locs ls hP hD hS hl
  exact lv_if_le hx hb hd ht (fun h => kt h H locs ls hP hD hS hl) (fun h => kf h H locs ls hP hD hS hl)
theorem g_icmp_le (X : Ok G l D cI cZ cc Ts own nL R rw ini z) {x y : Int32} {off : Int} {tgt : Nat} (hd : decode cc pc = .ok (.if_icmp .le off, 3)) (ht : (pc : Int) + off = (tgt : Int)) (kt : x ≤ y → G ce sl ws lv tgt st) (kf : ¬ x ≤ y → G ce sl ws lv (pc + 3) st) : G ce sl ws lv pc (.int y :: .int x :: st) := by
  obtain ⟨p, e, s, m, args, below, meth, c, A, B, Q, rfl, hx, hb, hml, hown, hts, hK, hN, hA, hrw, hin, hZ⟩ := X
  intro H locs ls hP hD hS hl
  exact lv_icmp_le hx hb hd ht (fun h => kt h H locs ls hP hD hS hl) (fun h => kf h H locs ls hP hD hS hl)
theorem g_goto (X : Ok G l D cI cZ cc Ts own nL R rw ini z) {off : Int} {tgt : Nat} (hd : decode cc pc = .ok (.goto off, 3)) (ht : (pc : Int) + off = (tgt : Int)) (k : G ce sl ws lv tgt st) : G ce sl ws lv pc (st) := by
  obtain ⟨p, e, s, m, args, below, meth, c, A, B, Q, rfl, hx, hb, hml, hown, hts, hK, hN, hA, hrw, hin, hZ⟩ := X
  intro H locs ls hP hD hS hl
  exact lv_goto hx hb hd ht (k H locs ls hP hD hS hl)
theorem g_tableOut (X : Ok G l D cI cZ cc Ts own nL R rw ini z) {dflt lo hi : Int} {offs : Array Int} {len : Nat} {x : Int32} {tgt : Nat} (hd : decode cc pc = .ok (.tableswitch dflt lo hi offs, len)) (h : x.toInt < lo ∨ hi < x.toInt) (ht : (pc : Int) + dflt = (tgt : Int)) (k : G ce sl ws lv tgt st) : G ce sl ws lv pc (.int x :: st) := by
  obtain ⟨p, e, s, m, args, below, meth, c, A, B, Q, rfl, hx, hb, hml, hown, hts, hK, hN, hA, hrw, hin, hZ⟩ := X
  intro H locs ls hP hD hS hl
  exact lv_tableOut hx hb hd h ht (k H locs ls hP hD hS hl)
theorem g_tableIn (X : Ok G l D cI cZ cc Ts own nL R rw ini z) {dflt lo hi : Int} {offs : Array Int} {len : Nat} {x : Int32} {off : Int} {tgt : Nat} (hd : decode cc pc = .ok (.tableswitch dflt lo hi offs, len)) (h1 : ¬ x.toInt < lo) (h2 : ¬ hi < x.toInt) (ho : offs[(x.toInt - lo).toNat]? = some off) (ht : (pc : Int) + off = (tgt : Int)) (k : G ce sl ws lv tgt st) : G ce sl ws lv pc (.int x :: st) := by
  obtain ⟨p, e, s, m, args, below, meth, c, A, B, Q, rfl, hx, hb, hml, hown, hts, hK, hN, hA, hrw, hin, hZ⟩ := X
  intro H locs ls hP hD hS hl
  exact lv_tableIn hx hb hd h1 h2 ho ht (k H locs ls hP hD hS hl)
end GL
