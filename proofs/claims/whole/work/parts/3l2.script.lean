/-! THE CLAIM OUT OF ONE WALK OF THE LAW'S BODY. Your part is whole_start (and what it stands on); all else here is the same for every law, but numbers. -/
def R_law : String := "ClerkChainsLaw"
def lw_P (b : Addr) (xs : List Int32) (args : Array Value) (s : State) : Prop := args = #[.ref b] ∧ s.IntsAt b xs ∧ xs.length ≤ 3072 ∧ (Jvm.Cond.and given_1 narrow_1).before args s = true
def lw_Q (_ : Array Value) (s : State) (o : Outcome) (t : State) : Prop := o = .returned (some (.int 1)) ∧ Framed s o t [] 600000 7302249
def lw_Z (below : List Frame) (a : Array Value) (s : State) : State → Prop := fun t => ∃ o, t.status = .running ∧ Ended t below o ∧ lw_Q a s o t
/-- the law's own end, with 1 on the stack, nothing written that was there before, its room as the claim has it -/
theorem lw_ret {p : Program} {l : Launch} {e : Env} {s : State} {m : MethodId} {below : List Frame} {meth : Method} {c : Code} {b : Nat} (hx : p.tables.exec = Jvm.exec) (hb : c.code = code) (hr : meth.sig.returnType = ret) (hlocks : meth.locks = false) {pc : Nat} {H : Heap} {ls : Array Slot} (hdg : decode code pc = .ok (.ireturn, 1)) : W p l e room_1 s m #[Value.ref b] below meth c H [] 600000 7302249 (lw_Z below #[Value.ref b] s) (F0 m pc ls [.int 1]) := by
  intro T hT X
  obtain ⟨fs, hret, hrun, hended, hW, hframe⟩ := X.leave (v := some (.int 1)) (hlocks := hlocks) (fun h => by rw [hr] at h; cases h)
  have hmeth' : T.vm.method? m = some meth := X.method'
  refine ⟨T.setFrames fs, ?_, .returned (some (.int 1)), hrun, hended, rfl, ⟨_, rfl⟩, hW, hframe⟩
  jvm_step X.here [X.here.top, hx, hb, hdg, hmeth', hr, ret, narrow_b1]
  (try refine ⟨rfl, ?_⟩); (try refine ⟨rfl, ?_⟩)
  first | (intro acts; rw [hret _ acts rfl rfl rfl]) | rw [hret _ _ rfl rfl rfl]
  exact Steps.refl _
abbrev lvL (b hx hm i : Nat) : List (Nat × Value) := [(0, .ref b), (1, .ref hx), (2, .ref hm), (3, .int (nI i))]
/-- what the law's walk stands on: the machine, and the script of L ints xs at the cell b -/
def OkL (G : kG) (l : Launch) (D : va_G) (cI cZ : ClassId) (z : kS) (b L : Nat) (xs : Nat → Int32) : Prop :=
  ∃ (p : Program) (e : Env) (s : State) (m : MethodId) (below : List Frame) (meth : Method) (c : Code), G = GG p l e room_1 s m #[Value.ref b] below meth c D (fun q : Nat => s.heap.size ≤ q) (fun q : Nat => s.heap.size ≤ q) 4 (lw_Z below #[Value.ref b] s) ∧ p.tables.exec = Jvm.exec ∧ c.code = cL_law ∧ c.maxLocals = 4 ∧ s.vm.findClass RL = some m.cls ∧ (∀ w ∈ wsL_law, w.before #[Value.ref b] s = true) ∧ va_K D vwCl (kT cI cZ) s ∧ Nst s ∧ StrO z (fun q : Nat => s.heap.size ≤ q) s s.heap ∧ va_X b L xs s s.heap ∧ b < s.heap.size ∧ meth.locks = false ∧ meth.sig.returnType = ret
section SC
variable {G : kG} {l : Launch} {D : va_G} {cI cZ : ClassId} {z : kS} {b L : Nat} {xs : Nat → Int32} {ce sl : Nat} {ws : va_W} {lv : List (Nat × Value)} {pc : Nat} {st : List Value}
theorem OkL.ok (X : OkL G l D cI cZ z b L xs) : Ok G l D cI cZ cL_law wsL_law RL 4 room_1 true false z := by
  obtain ⟨p, e, s, m, below, meth, c, rfl, hx, hb, hml, hown, hts, hK, hN, hZ, hX, hbl, hlk, hr⟩ := X
  exact ⟨p, e, s, m, #[Value.ref b], below, meth, c, _, _, _, rfl, hx, hb, hml, hown, hts, hK, hN, fun _ h => h, fun _ => rfl, fun h => (by cases h), hZ⟩
theorem g_arr (X : OkL G l D cI cZ z b L xs) (hL : L ≤ 3072) {i k : Nat} {c : Int32} (hc : c = nI k) (hi : i + k < L) (hd : decode cL_law pc = .ok (.iaload, 1)) (kk : G ce sl ws lv (pc + 1) (.int (xs (i + k)) :: st)) : G ce sl ws lv pc (.int (nI i + c) :: .ref b :: st) := by
  obtain ⟨p, e, s, m, below, meth, c, rfl, hx, hb, hml, hown, hts, hK, hN, hZ, hX, hbl, hlk, hr⟩ := X
  subst hc
  intro H locs ls hP hD hS hl
  rw [nI_add]
  have k1 := kk H locs ls hP hD hS hl
  have e1 : (nI (i + k)).toNatClampNeg = i + k := nI_clamp (by omega)
  rw [← e1] at k1
  exact va_sld hx hb hX hbl (Nat.not_le.mpr hbl) hS (vp_in_nI hi (by omega)) hd k1
theorem g_arr0 (X : OkL G l D cI cZ z b L xs) (hL : L ≤ 3072) {i : Nat} (hi : i < L) (hd : decode cL_law pc = .ok (.iaload, 1)) (kk : G ce sl ws lv (pc + 1) (.int (xs i) :: st)) : G ce sl ws lv pc (.int (nI i) :: .ref b :: st) := by
  obtain ⟨p, e, s, m, below, meth, c, rfl, hx, hb, hml, hown, hts, hK, hN, hZ, hX, hbl, hlk, hr⟩ := X
  intro H locs ls hP hD hS hl
  have k1 := kk H locs ls hP hD hS hl
  have e1 : (nI i).toNatClampNeg = i := nI_clamp (by omega)
  have k2 := va_sld hx hb hX hbl (Nat.not_le.mpr hbl) hS (vp_in_nI hi (by omega)) hd (by rw [e1]; exact k1)
  exact k2
theorem g_sln (X : OkL G l D cI cZ z b L xs) (hd : decode cL_law pc = .ok (.arraylength, 1)) (kk : G ce sl ws lv (pc + 1) (.int (nI L) :: st)) : G ce sl ws lv pc (.ref b :: st) := by
  obtain ⟨p, e, s, m, below, meth, c, rfl, hx, hb, hml, hown, hts, hK, hN, hZ, hX, hbl, hlk, hr⟩ := X
  intro H locs ls hP hD hS hl
  exact va_slen hx hb hX hbl (Nat.not_le.mpr hbl) hS hd (kk H locs ls hP hD hS hl)
theorem g_fin (X : OkL G l D cI cZ z b L xs) (hce : ce ≤ 600000) (hsl : sl ≤ 7302249) (hd : decode cL_law pc = .ok (.ireturn, 1)) : G ce sl ws lv pc [.int 1] := by
  obtain ⟨p, e, s, m, below, meth, c, rfl, hx, hb, hml, hown, hts, hK, hN, hZ, hX, hbl, hlk, hr⟩ := X
  intro H locs ls hP hD hS hl
  refine va_forget (fun q hq => hS.2.2 q hq) ?_
  refine W.widen (k := 600000) (n := 7302249) hce hsl ?_
  exact lw_ret hx hb hr hlk hd
theorem lcmp_self (r : Int64) : lg_cmp r r = 0 := by
  unfold lg_cmp
  rw [if_neg (fun h => by have h : r < r := h; have := Int64.lt_iff_toInt_lt.mp h; omega), if_pos rfl]
end SC
