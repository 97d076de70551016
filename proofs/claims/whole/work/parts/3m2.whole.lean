/-- what holds at the law's entry: the machine, the code, the tables' words (any of lw_tbl by 'hts w (by decide +kernel)'), the script of L ints xs at the cell b, what the Statement gives of the start (any of its parts by flat_of_before) -/
def lw_At (p : Program) (s : State) (m : MethodId) (meth : Method) (c : Code) (b L : Nat) (xs : Nat → Int32) : Prop :=
  p.tables.exec = Jvm.exec ∧ c.code = code ∧ meth.sig.returnType = ret ∧ c.maxLocals = 4 ∧ s.vm.findClass R_law = some m.cls ∧ (∀ w ∈ lw_tbl, w.before #[Value.ref b] s = true) ∧ va_X b L xs s s.heap ∧ b < s.heap.size ∧ meth.locks = false ∧ (Jvm.Cond.and given_1 narrow_1).before #[Value.ref b] s = true
theorem wl_r2 : ∀ w ∈ wsL_law_r2, w ∈ wsL_law := by
  intro w h
  simp only [wsL_law, List.mem_append, h, true_or, or_true]
theorem lw_known {s : State} {args : Array Value} (hw : ∀ w ∈ wsL_law, w.before args s = true) : ∃ (D : va_G) (cI cZ : ClassId), va_K D vwCl (kT cI cZ) s := by
  obtain ⟨c0, i0, k0⟩ := u_known (C := RX2) (T := TX2) (N := 2) (n := 2) hw (fun w h => (gL_law_X11_init w (iw_X11_init_X2 w h)).1) (hw _ (gL_law_X11_init _ lk_X11_init_nX2).1)
  obtain ⟨c1, i1, k1⟩ := u_known (C := RX3) (T := TX3) (N := 1) (n := 1) hw (fun w h => (gL_law_X11_init w (iw_X11_init_X3 w h)).1) (hw _ (gL_law_X11_init _ lk_X11_init_nX3).1)
  obtain ⟨c2, i2, k2⟩ := u_known (C := RX6) (T := TX6) (N := 7) (n := 7) hw (fun w h => (gL_law_X11_init w (iw_X11_init_X6 w h)).1) (hw _ (gL_law_X11_init _ lk_X11_init_nX6).1)
  obtain ⟨c3, i3, k3⟩ := u_known (C := RX7) (T := TX7) (N := 4) (n := 4) hw (fun w h => (gL_law_X11_init w (iw_X11_init_X7 w h)).1) (hw _ (gL_law_X11_init _ lk_X11_init_nX7).1)
  obtain ⟨c4, i4, k4⟩ := u_known (C := RX8) (T := TX8) (N := 4) (n := 4) hw (fun w h => (gL_law_X11_init w (iw_X11_init_X8 w h)).1) (hw _ (gL_law_X11_init _ lk_X11_init_nX8).1)
  obtain ⟨c5, i5, k5⟩ := u_known (C := RX9) (T := TX9) (N := 8) (n := 8) hw (fun w h => (gL_law_X11_init w (iw_X11_init_X9 w h)).1) (hw _ (gL_law_X11_init _ lk_X11_init_nX9).1)
  obtain ⟨c6, i6, k6⟩ := u_known (C := RX10) (T := TX10) (N := 1) (n := 1) hw (fun w h => (gL_law_X11_init w (iw_X11_init_X10 w h)).1) (hw _ (gL_law_X11_init _ lk_X11_init_nX10).1)
  obtain ⟨c7, i7, k7⟩ := u_known (C := RX11) (T := TX11) (N := 13) (n := 13) hw (fun w h => (gL_law_X11_init w (iw_X11_init_X11 w h)).1) (hw _ (wl_r1 (Cond.instantiable RX11 13) (by decide +kernel)))
  obtain ⟨c8, i8, k8⟩ := u_known (C := RX12) (T := TX12) (N := 22) (n := 22) hw (fun w h => (gL_law_X12_init w (iw_X12_init_X12 w h)).1) (hw _ (wl_r1 (Cond.instantiable RX12 22) (by decide +kernel)))
  obtain ⟨cI, kA, comp, f1, f2, f3⟩ := Cond.arrayClass_spec (first := s) (o := none) (idx := []) (hw _ (wl_r2 (Cond.arrayClass .int) (by decide +kernel)))
  obtain ⟨cZ, kB, compB, g1, g2, g3⟩ := Cond.arrayClass_spec (first := s) (o := none) (idx := []) (hw _ (wl_r5 (Cond.arrayClass .boolean) (by decide +kernel)))
  refine ⟨(fun k => if k = 0 then c0 else if k = 1 then c1 else if k = 2 then c2 else if k = 3 then c3 else if k = 4 then c4 else if k = 5 then c5 else if k = 6 then c6 else if k = 7 then c7 else c8, fun k => if k = 0 then i0 else if k = 1 then i1 else if k = 2 then i2 else if k = 3 then i3 else if k = 4 then i4 else if k = 5 then i5 else if k = 6 then i6 else if k = 7 then i7 else i8), cI, cZ, ?_, ?_⟩
  · intro k q hq
    match k, hq with
    | 0, hq => cases hq; exact k0
    | 1, hq => cases hq; exact k1
    | 2, hq => cases hq; exact k2
    | 3, hq => cases hq; exact k3
    | 4, hq => cases hq; exact k4
    | 5, hq => cases hq; exact k5
    | 6, hq => cases hq; exact k6
    | 7, hq => cases hq; exact k7
    | 8, hq => cases hq; exact k8
    | k + 9, hq => cases hq
  · intro k q hq
    match k, hq with
    | 0, hq => cases hq; exact ⟨fun n z => ⟨fun k h => (by cases h), kA, f2, comp, f3⟩, f1⟩
    | 1, hq => cases hq; exact ⟨fun n z => ⟨fun k h => (by cases h), kB, g2, compB, g3⟩, g1⟩
    | k + 2, hq => cases hq
theorem nest_m : ∀ q ∈ nestM, Cond.methodLinkNest q.1 q.2.1 q.2.2 "ClerkChains" ∈ tables_1 := by decide +kernel
theorem nest_f : ∀ q ∈ nestF, Cond.fieldLinkNest q.1 q.2.1 q.2.2.1 q.2.2.2.1 q.2.2.2.2 "ClerkChains" ∈ tables_1 := by decide +kernel
theorem in_tb {w : Cond} (h : w ∈ tables_1) : w ∈ lw_tbl := List.mem_append_right _ h
theorem lw_nest {s : State} {args : Array Value} (hts : ∀ w ∈ lw_tbl, w.before args s = true) : Nst s := ⟨fun q hq => va_Nw.of rfl (hts _ (in_tb (nest_m q hq))), fun q hq => va_Nw.of rfl (hts _ (in_tb (nest_f q hq)))⟩
theorem fs_ex : ∀ i, i < 5 → Cond.exactly (Term.string RX9 (kTx.getD i (0, "")).1) "java/lang/String" ∈ flatC (Jvm.Cond.and given_1 narrow_1) := by decide +kernel
theorem fs_co : ∀ i, i < 5 → Cond.eq (.field (Term.string RX9 (kTx.getD i (0, "")).1) "java/lang/String" "coder" "B") (.int 0) ∈ flatC (Jvm.Cond.and given_1 narrow_1) := by decide +kernel
theorem fs_ar : ∀ i, i < 5 → Cond.arrayOf (Term.field (Term.string RX9 (kTx.getD i (0, "")).1) "java/lang/String" "value" "[B") .byte ∈ flatC (Jvm.Cond.and given_1 narrow_1) := by decide +kernel
theorem fs_le : ∀ i, i < 5 → Cond.eq (.length (Term.field (Term.string RX9 (kTx.getD i (0, "")).1) "java/lang/String" "value" "[B")) (.int (Int32.ofNat (kLen.getD i 0))) ∈ flatC (Jvm.Cond.and given_1 narrow_1) := by decide +kernel
theorem fs_el : ∀ i, i < 5 → ∀ j, j < kLen.getD i 0 → Cond.eq (.elem (Term.field (Term.string RX9 (kTx.getD i (0, "")).1) "java/lang/String" "value" "[B") (.int (Int32.ofNat j))) (.int ((kByt.getD i []).getD j 0)) ∈ flatC (Jvm.Cond.and given_1 narrow_1) := by decide +kernel
theorem fs_ne : ∀ i, i < 5 → ∀ j, j < 5 → i ≠ j → Cond.not (Cond.eq (Term.string RX9 (kTx.getD i (0, "")).1) (Term.string RX9 (kTx.getD j (0, "")).1)) ∈ flatC (Jvm.Cond.and given_1 narrow_1) ∨ Cond.not (Cond.eq (Term.string RX9 (kTx.getD j (0, "")).1) (Term.string RX9 (kTx.getD i (0, "")).1)) ∈ flatC (Jvm.Cond.and given_1 narrow_1) := by decide +kernel
theorem fs_rf : ∀ i, i < 5 → Cond.stringRef RX9 (kTx.getD i (0, "")).1 (kTx.getD i (0, "")).2 ∈ tables_1 := by decide +kernel
theorem fs_n : ∀ i, i < 5 → kLen.getD i 0 < 2 ^ 31 := by decide +kernel
theorem fs_z : Cond.eq (.static "java/lang/String" "COMPACT_STRINGS" "Z") (.int 1) ∈ flatC (Jvm.Cond.and given_1 narrow_1) := by decide +kernel
theorem fs_q : Cond.isRef (.static "jdk/internal/util/Preconditions" "SIOOBE_FORMATTER" "Ljava/util/function/BiFunction;") ∈ flatC (Jvm.Cond.and given_1 narrow_1) := by decide +kernel
theorem ts_z : Cond.laysStatic "java/lang/String" "COMPACT_STRINGS" "Z" ∈ tables_1 ∧ Cond.initialized "java/lang/String" ∈ tables_1 := by decide +kernel
theorem ts_q : Cond.laysStatic "jdk/internal/util/Preconditions" "SIOOBE_FORMATTER" "Ljava/util/function/BiFunction;" ∈ tables_1 ∧ Cond.initialized "jdk/internal/util/Preconditions" ∈ tables_1 := by decide +kernel
theorem lw_strs {s : State} {args : Array Value} (hts : ∀ w ∈ lw_tbl, w.before args s = true) (hgv : (Jvm.Cond.and given_1 narrow_1).before args s = true) : ∃ q, StrO (some q) (fun q : Nat => s.heap.size ≤ q) s s.heap := by
  have hs := flat_of_before _ hgv
  have hA : ∀ a : Nat, a < s.heap.size → ¬ (fun q : Nat => s.heap.size ≤ q) a := fun a h => Nat.not_le.mpr h
  obtain ⟨adK, adV, hS, hE⟩ := vk_Sof (args := args) (s := s) (N := 5) (tm := fun i => Term.string RX9 (kTx.getD i (0, "")).1) (len := kLen) (byt := kByt) fs_n (fun i hi => hs _ (fs_ex i hi)) (fun i hi => hs _ (fs_co i hi)) (fun i hi => hs _ (fs_ar i hi)) (fun i hi => hs _ (fs_le i hi)) (fun i hi j hj => hs _ (fs_el i hi j hj)) (fun i j hi hj h => (fs_ne i hi j hj h).imp (fun z => hs _ z) (fun z => hs _ z)) hA
  exact ⟨(adK, adV), hS, fun i hi => vk_R.of (hts _ (in_tb (fs_rf i hi))) (hE i hi), va_Zof (hts _ (in_tb ts_z.1)) (hts _ (in_tb ts_z.2)) (va_eqt (hs _ fs_z)) hA, va_Zqof (hts _ (in_tb ts_q.1)) (hts _ (in_tb ts_q.2)) (hs _ fs_q) hA⟩
theorem whole_start {p : Program} {e : Env} {s : State} {m : MethodId} {below : List Frame} {meth : Method} {c : Code} (l : Launch) (hflags : l.flags = flags0) {b L : Nat} {xs : Nat → Int32} (hL : L ≤ 3072) (C0 : lw_At p s m meth c b L xs) : W p l e room_1 s m #[Value.ref b] below meth c s.heap [] 0 0 (lw_Z below #[Value.ref b] s) (entryFrame m ([Value.ref b] : List Value).toArray 4) := by
  obtain ⟨hx, hb, hr, hml, hown, hts, hX, hbl, hlocks, hgv⟩ := id C0
  have hw : ∀ w ∈ wsL_law, w.before #[Value.ref b] s = true := fun w h => hts w (wsL_law_in w h)
  obtain ⟨D, cI, cZ, hK⟩ := lw_known hw
  have hN : Nst s := lw_nest hts
  obtain ⟨q, hZ⟩ := lw_strs hts hgv
  have X : OkL (GG p l e room_1 s m #[Value.ref b] below meth c D (fun q : Nat => s.heap.size ≤ q) (fun q : Nat => s.heap.size ≤ q) 4 (lw_Z below #[Value.ref b] s)) l D cI cZ (some q) b L xs := ⟨p, e, s, m, below, meth, c, rfl, hx, hb, hml, hown, hw, hK, hN, hZ, hX, hbl, hlocks, hr⟩
  have hl := lv_entry ([Value.ref b]) (n := 4) (Nat.le_of_ble_eq_true rfl)
  rw [lg_entry_eq]
  generalize (lg_sl ([Value.ref b]) ++ List.replicate (4 - (lg_sl ([Value.ref b])).length) Slot.unset).toArray = ls at hl ⊢
  have hl : lv_has ls 4 [(0, .ref b)] := hl
  exact law_start X hL s.heap [] ls (fun k q h => by simp at h) ⟨fun i j p q h => by simp at h, fun k q h => by simp at h⟩ va_S.rf hl
