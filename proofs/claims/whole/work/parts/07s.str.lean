/-! ===== the class's texts: String's own methods over them ===== -/
theorem rt_byte {G : kG} {cc : ByteArray} {a b : Nat} {V : Option Value → va_W → Prop} (h : Rt G cc a b (some .byte) V) : ∀ ws lv pc x, narrow .byte (.int x) = .int x → decode cc pc = .ok (.ireturn, 1) → V (some (.int x)) ws → G a b ws lv pc [.int x] := h
theorem rt_char {G : kG} {cc : ByteArray} {a b : Nat} {V : Option Value → va_W → Prop} (h : Rt G cc a b (some .char) V) : ∀ ws lv pc x, narrow .char (.int x) = .int x → decode cc pc = .ok (.ireturn, 1) → V (some (.int x)) ws → G a b ws lv pc [.int x] := h
section GS
variable {G : kG} {l : Launch} {D : va_G} {cI cZ : ClassId} {cc : ByteArray} {Ts : List Cond} {own : String} {nL : Nat} {R : Room} {rw ini : Bool} {q : (Nat → Nat) × (Nat → Nat)} {z : kS} {ce sl : Nat} {ws : va_W} {lv : List (Nat × Value)} {pc : Nat} {st : List Value}
theorem g_sval (X : Ok G l D cI cZ cc Ts own nL R rw ini (some q)) {i index : Nat} (hi : i < 5) (hlk : Cond.fieldLink own index "java/lang/String" "value" "[B" ∈ Ts) (hd : decode cc pc = .ok (.getfield index, 3)) (k : G ce sl ws lv (pc + 3) (.ref (q.2 i) :: st)) : G ce sl ws lv pc (.ref (q.1 i) :: st) := by
  obtain ⟨p, e, s, m, args, below, meth, c, A, B, Q, rfl, hx, hb, hml, hown, hts, hK, hN, hA, hrw, hin, hZ⟩ := X
  intro H locs ls hP hD hS hl
  exact vk_getf hx hb (hZ.1.1 i hi).2.2.1 hS hown (hts _ hlk) (fun _ h => h) hd (k H locs ls hP hD hS hl)
theorem g_scod (X : Ok G l D cI cZ cc Ts own nL R rw ini (some q)) {i index : Nat} (hi : i < 5) (hlk : Cond.fieldLink own index "java/lang/String" "coder" "B" ∈ Ts) (hd : decode cc pc = .ok (.getfield index, 3)) (k : G ce sl ws lv (pc + 3) (.int 0 :: st)) : G ce sl ws lv pc (.ref (q.1 i) :: st) := by
  obtain ⟨p, e, s, m, args, below, meth, c, A, B, Q, rfl, hx, hb, hml, hown, hts, hK, hN, hA, hrw, hin, hZ⟩ := X
  intro H locs ls hP hD hS hl
  exact vk_getf hx hb (hZ.1.1 i hi).2.1 hS hown (hts _ hlk) (fun _ h => h) hd (k H locs ls hP hD hS hl)
theorem g_sget (X : Ok G l D cI cZ cc Ts own nL R rw ini (some q)) {index : Nat} (hlk : Cond.fieldLink own index "java/lang/String" "COMPACT_STRINGS" "Z" ∈ Ts) (hd : decode cc pc = .ok (.getstatic index, 3)) (k : G ce sl ws lv (pc + 3) (.int 1 :: st)) : G ce sl ws lv pc st := by
  obtain ⟨p, e, s, m, args, below, meth, c, A, B, Q, rfl, hx, hb, hml, hown, hts, hK, hN, hA, hrw, hin, hZ⟩ := X
  intro H locs ls hP hD hS hl
  exact va_gets hx hb hZ.2.2.1 hS hown (hts _ hlk) (fun _ h => h) hd (k H locs ls hP hD hS hl)
theorem g_sgetq (X : Ok G l D cI cZ cc Ts own nL R rw ini (some q)) {index : Nat} (hlk : Cond.fieldLink own index "jdk/internal/util/Preconditions" "SIOOBE_FORMATTER" "Ljava/util/function/BiFunction;" ∈ Ts) (hd : decode cc pc = .ok (.getstatic index, 3)) (k : ∀ v : Value, v.category = 1 → G ce sl ws lv (pc + 3) (v :: st)) : G ce sl ws lv pc st := by
  obtain ⟨p, e, s, m, args, below, meth, c, A, B, Q, rfl, hx, hb, hml, hown, hts, hK, hN, hA, hrw, hin, hZ⟩ := X
  intro H locs ls hP hD hS hl
  rcases hZ.2.2.2 with h | ⟨t, h⟩
  · exact va_gets hx hb h hS hown (hts _ hlk) (fun _ h => h) hd (k .null rfl H locs ls hP hD hS hl)
  · exact va_gets hx hb h hS hown (hts _ hlk) (fun _ h => h) hd (k (.ref t) rfl H locs ls hP hD hS hl)
theorem g_slen (X : Ok G l D cI cZ cc Ts own nL R rw ini (some q)) {i : Nat} (hi : i < 5) (hd : decode cc pc = .ok (.arraylength, 1)) (k : G ce sl ws lv (pc + 1) (.int (nI (kLen.getD i 0)) :: st)) : G ce sl ws lv pc (.ref (q.2 i) :: st) := by
  obtain ⟨p, e, s, m, args, below, meth, c, A, B, Q, rfl, hx, hb, hml, hown, hts, hK, hN, hA, hrw, hin, hZ⟩ := X
  intro H locs ls hP hD hS hl
  exact va_tlen hx hb (hZ.1.1 i hi).2.2.2 hS rfl hd (k H locs ls hP hD hS hl)
theorem g_sbal (X : Ok G l D cI cZ cc Ts own nL R rw ini (some q)) {i : Nat} (hi : i < 5) {j : Int32} (hj : vp_in j (kLen.getD i 0)) (hd : decode cc pc = .ok (.baload, 1)) (k : G ce sl ws lv (pc + 1) (.int ((kByt.getD i []).getD j.toNatClampNeg 0) :: st)) : G ce sl ws lv pc (.int j :: .ref (q.2 i) :: st) := by
  obtain ⟨p, e, s, m, args, below, meth, c, A, B, Q, rfl, hx, hb, hml, hown, hts, hK, hN, hA, hrw, hin, hZ⟩ := X
  intro H locs ls hP hD hS hl
  exact va_tb hx hb (hZ.1.1 i hi).2.2.2 hS hj rfl hd (k H locs ls hP hD hS hl)
theorem g_i2c (X : Ok G l D cI cZ cc Ts own nL R rw ini z) {x : Int32} (hd : decode cc pc = .ok (.i2c, 1)) (k : G ce sl ws lv (pc + 1) (.int (x.toUInt32 % 65536).toInt32 :: st)) : G ce sl ws lv pc (.int x :: st) := by
  obtain ⟨p, e, s, m, args, below, meth, c, A, B, Q, rfl, hx, hb, hml, hown, hts, hK, hN, hA, hrw, hin, hZ⟩ := X
  intro H locs ls hP hD hS hl
  exact lv_i2c hx hb hd rfl (k H locs ls hP hD hS hl)
/-- a call on one of the texts -/
theorem g_callT {y : MethodName} {Ty Ty' : List Cond} {rm : Room} {bytes : ByteArray} {maxL : Nat} {ret : Option FieldType} {index : Nat} {As st0 st1 : List Value} {α : Type} {res : α} {fv : α → Option Value} (X : Ok G l D cI cZ cc Ts own nL R rw ini (some q)) {i : Nat} (hi : i < 5) (hM : MetR l y Ty rm D cI cZ (some q) (.ref (q.1 i) :: As) [] (kR res fv)) (n : Nat) (hT : GoodIn Ts (wsV own index "java/lang/String" y Ty)) (hw : Ty = Cond.code y bytes maxL ret :: Ty') (hd0 : y.cls = "java/lang/String" ∧ y.cls ≠ "java/lang/invoke/MethodHandle" ∧ y.cls ≠ "java/lang/invoke/VarHandle" ∧ (parseMethodDescriptor y.desc).map (fun d => d.parameters.length) = some n) (hR0 : rm.frames + 1 ≤ R.frames ∧ 8 + (maxL + 11) + rm.locals ≤ R.locals) (hnA : As.length = n) (hst : As.reverse ++ .ref (q.1 i) :: st = st0) (hroom : (st.map fun v => v.category).sum ≤ 8) (h00 : rm.cells = 0 ∧ rm.slots = 0) (hce : ce ≤ R.cells) (hsl : sl ≤ R.slots) (hd : decode cc pc = .ok (.invokevirtual index, 3)) (hst1 : (fv res).toList ++ st = st1)
    (kk : G ce sl ws lv (pc + 3) st1) : G ce sl ws lv pc st0 := by
  obtain ⟨p, e, s, m, args, below, meth, c, A, B, Q, rfl, hx, hb, hml, hown, hts, hK, hN, hA, hrw, hin, hZ⟩ := X
  intro H locs ls hP hD hS hl
  have hPc : va_P D vwCl [] H := hP.sub [] rfl
  have hDc : va_D B [] := hD.sub [] rfl rfl
  have hFc : ∀ q : Nat, H.size ≤ q → A q := fun q h => hA q (Nat.le_trans hS.1 h)
  refine k_call (va_runV (As := As) (rest := st) (C := "java/lang/String") ⟨hx, hb, hml, hown, hts⟩ (hM H.size) (cwV n hts hT hw rfl rfl hd0 hR0) ⟨fun a U g mk q => by obtain ⟨q0, q1, qP, qK, qD, qN, qZ⟩ := q; exact ⟨q0, q1, qP, va_K.moved (u := U) (U := U.calling g mk a) (Vm.Alike.refl U.vm) qK, qD, Nst.same rfl qN, StrO.moved rfl qZ⟩, vk_recv hZ.1 hi hS, fun U hU hW => ⟨rfl, by rw [hU], by rw [hU]; exact hPc, va_K.moved hW.alike hK, hDc.weaken (fun _ _ _ _ => trivial), hN.warm hW, StrO.call (Or.inr rfl) hW hU hS hFc hZ⟩⟩ rfl hnA hl.1 hst.symm (lv_room hroom) hd ⟨by rw [h00.1]; exact hce, by rw [h00.2]; exact hsl⟩) (fun v s0 t H1 locs1 h0 ht hq hL => ?_)
  obtain ⟨⟨v', w1, he, hV⟩, hF1, hF2⟩ := hq
  cases he
  obtain ⟨u, hu, rfl⟩ := hV
  cases hu
  have hk : ∀ q : Nat, q < H.size → H1[q]? = H[q]? := fun q h => by rw [← ht, hF2 q (by rw [h0]; exact h) (Nat.not_le.mpr h), h0]
  rw [hst1, h00.1, h00.2]
  refine kk H1 locs1 ls (hP.kept (fun k q hq => hk q.1 (hP k q hq).lt)) hD ⟨by rw [← ht]; rw [h0] at hF1; exact Nat.le_trans hS.1 hF1, fun q h1 h2 => ?_, fun q hq => (hL q hq).elim (hS.2.2 q) (fun h => hFc _ h)⟩ hl
  rw [hk q (Nat.lt_of_lt_of_le h1 hS.1)]
  exact hS.2.1 q h1 h2
end GS
section CS
variable (l : Launch) (D : va_G) (cI cZ : ClassId) (q : (Nat → Nat) × (Nat → Nat))
abbrev rm_s0 : Room := { frames := 0, cells := 0, slots := 0, locals := 0 }
abbrev rm_s1 : Room := { frames := 1, cells := 0, slots := 0, locals := 22 }
abbrev rm_s2 : Room := { frames := 2, cells := 0, slots := 0, locals := 43 }
abbrev rm_s3 : Room := { frames := 3, cells := 0, slots := 0, locals := 64 }
theorem c_J0_coder (i : Nat) (hi : i < 5) : MetR l yJ0_coder_7d493 wsJ0_coder_7d493 rm_s0 D cI cZ (some q) [.ref (q.1 i)] [] (kR (0 : Int32) (fun u => some (.int u))) := by
  refine metR_of (cc := cJ0_coder_7d493) (maxL := 1) (ret := some .byte) (own := RJ0) (lv0 := [(0, .ref (q.1 i))]) (by decide) rfl (Nat.le_of_ble_eq_true rfl) rfl rfl (fun G X hR => ?_)
  replace hR := rt_byte hR
  refine g_sget X (by decide +kernel) dJ0_coder_7d493_0 ?_
  refine g_if_eq (tgt := 13) X dJ0_coder_7d493_3 (by decide) (fun h => absurd h (by decide)) (fun _ => ?_)
  refine g_aload_n X dJ0_coder_7d493_6 rfl 0 rfl ?_
  refine g_scod X hi (by decide +kernel) dJ0_coder_7d493_7 ?_
  refine g_goto (tgt := 14) X dJ0_coder_7d493_10 (by decide) ?_
  exact hR _ _ _ _ rfl dJ0_coder_7d493_14 (kR_in (u := 0) rfl)
theorem c_J0_isLatin1 (i : Nat) (hi : i < 5) : MetR l yJ0_isLatin1_aae02 wsJ0_isLatin1_aae02 rm_s0 D cI cZ (some q) [.ref (q.1 i)] [] (kR (1 : Int32) (fun u => some (.int u))) := by
  refine metR_of (cc := cJ0_isLatin1_aae02) (maxL := 1) (ret := some .boolean) (own := RJ0) (lv0 := [(0, .ref (q.1 i))]) (by decide) rfl (Nat.le_of_ble_eq_true rfl) rfl rfl (fun G X hR => ?_)
  replace hR := rt_bool hR
  refine g_sget X (by decide +kernel) dJ0_isLatin1_aae02_0 ?_
  refine g_if_eq (tgt := 17) X dJ0_isLatin1_aae02_3 (by decide) (fun h => absurd h (by decide)) (fun _ => ?_)
  refine g_aload_n X dJ0_isLatin1_aae02_6 rfl 0 rfl ?_
  refine g_scod X hi (by decide +kernel) dJ0_isLatin1_aae02_7 ?_
  refine g_if_ne (tgt := 17) X dJ0_isLatin1_aae02_10 (by decide) (fun h => absurd rfl h) (fun _ => ?_)
  refine g_iconst (v := 1) X dJ0_isLatin1_aae02_13 (by decide) ?_
  refine g_goto (tgt := 18) X dJ0_isLatin1_aae02_14 (by decide) ?_
  exact hR _ _ _ _ (Or.inr rfl) dJ0_isLatin1_aae02_18 (kR_in (u := 1) rfl)
theorem k_len0 : ∀ i, i < 5 → nI (kLen.getD i 0) >>> ((0 : Int32) &&& 31) = nI (kLen.getD i 0) := by decide +kernel
theorem c_J0_length (i : Nat) (hi : i < 5) (res : Int32) (hf : f_strlen i = some res) : MetR l yJ0_length_8abf5 wsJ0_length_8abf5 rm_s1 D cI cZ (some q) [.ref (q.1 i)] [] (kR res (fun u => some (.int u))) := by
  refine metR_of (cc := cJ0_length_8abf5) (maxL := 1) (ret := some .int) (own := RJ0) (lv0 := [(0, .ref (q.1 i))]) (by decide) rfl (Nat.le_of_ble_eq_true rfl) rfl rfl (fun G X hR => ?_)
  replace hR := rt_int hR
  refine g_aload_n X dJ0_length_8abf5_0 rfl 0 rfl ?_
  refine g_sval X hi (by decide +kernel) dJ0_length_8abf5_1 ?_
  refine g_slen X hi dJ0_length_8abf5_4 ?_
  refine g_aload_n X dJ0_length_8abf5_5 rfl 0 rfl ?_
  refine g_callT (st := [.int (nI (kLen.getD i 0))]) (st1 := [.int 0, .int (nI (kLen.getD i 0))]) X hi (c_J0_coder l D cI cZ q i hi) 0 gJ0_length_8abf5_J0_coder_7d493 rfl (by decide +kernel) ⟨Nat.le_of_ble_eq_true rfl, Nat.le_of_ble_eq_true rfl⟩ rfl rfl (Nat.le_of_ble_eq_true rfl) ⟨rfl, rfl⟩ (Nat.zero_le _) (Nat.zero_le _) dJ0_length_8abf5_6 rfl ?_
  refine g_ishr X dJ0_length_8abf5_9 ?_
  refine hR _ _ _ _ dJ0_length_8abf5_10 ?_
  rw [k_len0 i hi]
  exact kR_in hf
theorem c_J3_check (k n : Int32) (v : Value) (hv : v.category = 1) (h0 : ¬ k < 0) (h1 : k < n) : MetR l yJ3_checkIndex_8e157 wsJ3_checkIndex_8e157 rm_s0 D cI cZ none [.int k, .int n, v] [] (kR k (fun u => some (.int u))) := by
  refine metR_of (cc := cJ3_checkIndex_8e157) (maxL := 3) (ret := some .int) (own := RJ3) (lv0 := [(0, .int k), (1, .int n), (2, v)]) (by decide) rfl (by cases v <;> first | exact absurd hv (show ¬ (2 : Nat) = 1 by decide) | exact Nat.le_of_ble_eq_true rfl) rfl rfl (fun G X hR => ?_)
  replace hR := rt_int hR
  refine g_iload_n X dJ3_checkIndex_8e157_0 rfl 0 rfl ?_
  refine g_if_lt (tgt := 9) X dJ3_checkIndex_8e157_1 (by decide) (fun h => absurd h h0) (fun _ => ?_)
  refine g_iload_n X dJ3_checkIndex_8e157_4 rfl 0 rfl ?_
  refine g_iload_n X dJ3_checkIndex_8e157_5 rfl 1 rfl ?_
  refine g_icmp_lt (tgt := 16) X dJ3_checkIndex_8e157_6 (by decide) (fun _ => ?_) (fun h => absurd h1 h)
  refine g_iload_n X dJ3_checkIndex_8e157_16 rfl 0 rfl ?_
  exact hR _ _ _ _ dJ3_checkIndex_8e157_17 (kR_in (u := k) rfl)
theorem c_J0_check (k n : Int32) (h0 : ¬ k < 0) (h1 : k < n) : MetR l yJ0_checkIndex_df160 wsJ0_checkIndex_df160 rm_s1 D cI cZ (some q) [.int k, .int n] [] (kR () (fun _ => none)) := by
  refine metR_of (cc := cJ0_checkIndex_df160) (maxL := 2) (ret := none) (own := RJ0) (lv0 := [(0, .int k), (1, .int n)]) (by decide) rfl (Nat.le_of_ble_eq_true rfl) rfl rfl (fun G X hR => ?_)
  replace hR := rt_void hR
  refine g_iload_n X dJ0_checkIndex_df160_0 rfl 0 rfl ?_
  refine g_iload_n X dJ0_checkIndex_df160_1 rfl 1 rfl ?_
  refine g_sgetq X (by decide +kernel) dJ0_checkIndex_df160_2 (fun v hv => ?_)
  refine g_cSR (st := []) (st1 := [.int k]) X (c_J3_check l D cI cZ k n v hv h0 h1) (Or.inl rfl) 3 gJ0_checkIndex_df160_J3_checkIndex_8e157 rfl (by decide +kernel) ⟨Nat.le_of_ble_eq_true rfl, Nat.le_of_ble_eq_true rfl⟩ rfl rfl (Nat.le_of_ble_eq_true rfl) ⟨rfl, rfl⟩ (Nat.zero_le _) (Nat.zero_le _) dJ0_checkIndex_df160_5 [] rfl rfl rfl ?_
  refine g_pop X dJ0_checkIndex_df160_8 rfl ?_
  exact hR _ _ _ dJ0_checkIndex_df160_9 (kR_in (u := ()) rfl)
theorem c_J1_charAt (i : Nat) (hi : i < 5) (k : Int32) (hk : vp_in k (kLen.getD i 0)) : MetR l yJ1_charAt_3b067 wsJ1_charAt_3b067 rm_s2 D cI cZ (some q) [.ref (q.2 i), .int k] [] (kR ((((kByt.getD i []).getD k.toNatClampNeg 0) &&& 255).toUInt32 % 65536).toInt32 (fun u => some (.int u))) := by
  have hL : kLen.getD i 0 < 2 ^ 31 := (by decide +kernel : ∀ i, i < 5 → kLen.getD i 0 < 2 ^ 31) i hi
  obtain ⟨j, hj, rfl⟩ := vp_in_of hk hL
  refine metR_of (cc := cJ1_charAt_3b067) (maxL := 2) (ret := some .char) (own := RJ1) (lv0 := [(0, .ref (q.2 i)), (1, .int (nI j))]) (by decide) rfl (Nat.le_of_ble_eq_true rfl) rfl rfl (fun G X hR => ?_)
  replace hR := rt_char hR
  refine g_iload_n X dJ1_charAt_3b067_0 rfl 1 rfl ?_
  refine g_aload_n X dJ1_charAt_3b067_1 rfl 0 rfl ?_
  refine g_slen X hi dJ1_charAt_3b067_2 ?_
  refine g_cSR (st := []) (st1 := []) X (c_J0_check l D cI cZ q (nI j) (nI (kLen.getD i 0)) (nI_pos (by omega)) (nI_lt hj hL)) (Or.inr rfl) 2 gJ1_charAt_3b067_J0_checkIndex_df160 rfl (by decide +kernel) ⟨Nat.le_of_ble_eq_true rfl, Nat.le_of_ble_eq_true rfl⟩ rfl rfl (Nat.le_of_ble_eq_true rfl) ⟨rfl, rfl⟩ (Nat.zero_le _) (Nat.zero_le _) dJ1_charAt_3b067_3 [] rfl rfl rfl ?_
  refine g_aload_n X dJ1_charAt_3b067_6 rfl 0 rfl ?_
  refine g_iload_n X dJ1_charAt_3b067_7 rfl 1 rfl ?_
  refine g_sbal X hi hk dJ1_charAt_3b067_8 ?_
  refine g_sipush (v := 255) X dJ1_charAt_3b067_9 (by decide) ?_
  refine g_iand X dJ1_charAt_3b067_12 ?_
  refine g_i2c X dJ1_charAt_3b067_13 ?_
  exact hR _ _ _ _ (pk_nc _) dJ1_charAt_3b067_14 (kR_in rfl)
theorem c_J0_charAt (i : Nat) (hi : i < 5) (k : Int32) (res : Int32) (hf : f_strat i k = some res) : MetR l yJ0_charAt_5068e wsJ0_charAt_5068e rm_s3 D cI cZ (some q) [.ref (q.1 i), .int k] [] (kR res (fun u => some (.int u))) := by
  obtain ⟨hk, hf⟩ := chk_out hf
  refine metR_of (cc := cJ0_charAt_5068e) (maxL := 2) (ret := some .char) (own := RJ0) (lv0 := [(0, .ref (q.1 i)), (1, .int k)]) (by decide) rfl (Nat.le_of_ble_eq_true rfl) rfl rfl (fun G X hR => ?_)
  replace hR := rt_char hR
  refine g_aload_n X dJ0_charAt_5068e_0 rfl 0 rfl ?_
  refine g_callT (st := []) (st1 := [.int 1]) X hi (c_J0_isLatin1 l D cI cZ q i hi) 0 gJ0_charAt_5068e_J0_isLatin1_aae02 rfl (by decide +kernel) ⟨Nat.le_of_ble_eq_true rfl, Nat.le_of_ble_eq_true rfl⟩ rfl rfl (Nat.le_of_ble_eq_true rfl) ⟨rfl, rfl⟩ (Nat.zero_le _) (Nat.zero_le _) dJ0_charAt_5068e_1 rfl ?_
  refine g_if_eq (tgt := 16) X dJ0_charAt_5068e_4 (by decide) (fun h => absurd h (by decide)) (fun _ => ?_)
  refine g_aload_n X dJ0_charAt_5068e_7 rfl 0 rfl ?_
  refine g_sval X hi (by decide +kernel) dJ0_charAt_5068e_8 ?_
  refine g_iload_n X dJ0_charAt_5068e_11 rfl 1 rfl ?_
  refine g_cSR (st := []) (st1 := [.int ((((kByt.getD i []).getD k.toNatClampNeg 0) &&& 255).toUInt32 % 65536).toInt32]) X (c_J1_charAt l D cI cZ q i hi k hk) (Or.inr rfl) 2 gJ0_charAt_5068e_J1_charAt_3b067 rfl (by decide +kernel) ⟨Nat.le_of_ble_eq_true rfl, Nat.le_of_ble_eq_true rfl⟩ rfl rfl (Nat.le_of_ble_eq_true rfl) ⟨rfl, rfl⟩ (Nat.zero_le _) (Nat.zero_le _) dJ0_charAt_5068e_12 [] rfl rfl rfl ?_
  exact hR _ _ _ _ (pk_nc _) dJ0_charAt_5068e_15 (kR_in hf)
end CS
