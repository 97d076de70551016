def wd_X0_hangsOn (cI cZ : ClassId) (h_p0 : Nat) (h_p0_cells : Nat) (p0_most : Int32) (p0_width : Int32) (p0_size : Int32) (p0_N : Nat) (p0_cells : (Nat → Int32)) : va_W := [(h_p0, .inr (3, [.int p0_most, .int p0_width, .ref h_p0_cells, .int p0_size])), (h_p0_cells, .inl (cI, p0_N, .inl p0_cells))]
abbrev rm_X0_hangsOn : Room := { frames := 1, cells := 0, slots := 0, locals := 24 }
theorem hs_X0_hangsOn : yX0_hangsOn.cls ≠ "java/lang/invoke/MethodHandle" ∧ yX0_hangsOn.cls ≠ "java/lang/invoke/VarHandle" ∧ (parseMethodDescriptor yX0_hangsOn.desc).map (fun d => d.parameters.length) = some 3 := by decide +kernel
set_option maxHeartbeats 4000000 in
set_option maxRecDepth 100000 in
theorem c_X0_hangsOn (l : Launch) (D : va_G) (cI cZ : ClassId) (h_p0 : Nat) (h_p0_cells : Nat) (p0_most : Int32) (p0_width : Int32) (p0_size : Int32) (p0_N : Nat) (p0_cells : (Nat → Int32)) (v1 : Int32) (v2 : Int32) (res : Int32) (hf : f_X0_hangsOn p0_width p0_size p0_N p0_cells v1 v2 = some res) : MetR l yX0_hangsOn wsX0_hangsOn rm_X0_hangsOn D cI cZ none [.ref h_p0, .int v1, .int v2] (wd_X0_hangsOn cI cZ h_p0 h_p0_cells p0_most p0_width p0_size p0_N p0_cells) (kR res (fun u => some (.int u))) := by
  refine metR_of (cc := cX0_hangsOn) (maxL := 5) (ret := (some .boolean)) (own := RX0) (lv0 := [(0, .ref h_p0), (1, .int v1), (2, .int v2)]) (by decide) rfl (Nat.le_of_ble_eq_true rfl) rfl rfl (fun G X hR => ?_)
  replace hR := rt_bool hR
  unfold f_X0_hangsOn at hf
  have J5 : ∀ (n : Nat) (v2 : Int32) (v3 : Int32) (v4 : Int32), f_X0_hangsOn_5 p0_width p0_size p0_N p0_cells n v2 v3 v4 = some res → G 0 0 (wd_X0_hangsOn cI cZ h_p0 h_p0_cells p0_most p0_width p0_size p0_N p0_cells) [(0, .ref h_p0), (2, .int v2), (3, .int v3), (4, .int v4)] 5 [] := by
    intro n
    induction n with
    | zero => intro v2 v3 v4 hf; rw [f_X0_hangsOn_5] at hf; cases hf
    | succ n ih =>
      intro v2 v3 v4 hf
      rw [f_X0_hangsOn_5] at hf
      refine g_iload X dX0_hangsOn_5 3 rfl ?_
      refine g_bipush (v := 7) X dX0_hangsOn_7 (by decide) ?_
      refine g_icmp_ge (tgt := 37) X dX0_hangsOn_9 (by decide) (fun hc_1 => ?_) (fun hc_1 => ?_)
      · replace hf := ite_t hc_1 hf
        refine g_iconst (v := 0) X dX0_hangsOn_37 (by decide) ?_
        exact hR _ _ _ _ (Or.inl rfl) dX0_hangsOn_38 (kR_in (u := 0) hf)
      · replace hf := ite_f hc_1 hf
        refine g_iload_n X dX0_hangsOn_12 rfl 2 rfl ?_
        refine g_iconst (v := (-1)) X dX0_hangsOn_13 (by decide) ?_
        refine g_icmp_eq (tgt := 37) X dX0_hangsOn_14 (by decide) (fun hc_2 => ?_) (fun hc_2 => ?_)
        · replace hf := ite_t hc_2 hf
          refine g_iconst (v := 0) X dX0_hangsOn_37 (by decide) ?_
          exact hR _ _ _ _ (Or.inl rfl) dX0_hangsOn_38 (kR_in (u := 0) hf)
        · replace hf := ite_f hc_2 hf
          refine g_iload_n X dX0_hangsOn_17 rfl 2 rfl ?_
          refine g_iload_n X dX0_hangsOn_18 rfl 1 rfl ?_
          refine g_icmp_ne (tgt := 24) X dX0_hangsOn_19 (by decide) (fun hc_3 => ?_) (fun hc_3 => ?_)
          · replace hf := ite_f hc_3 hf
            refine g_aload_n X dX0_hangsOn_24 rfl 0 rfl ?_
            refine g_iload_n X dX0_hangsOn_25 rfl 2 rfl ?_
            refine g_iconst (v := 4) X dX0_hangsOn_26 (by decide) ?_
            obtain ⟨r_4, hk_5, hf⟩ := ob1_out hf
            refine g_cVR (st := []) (st1 := [.int r_4]) (C := RX7) (ci := 3) (q0 := 0) X (c_X7_get l D cI cZ h_p0 h_p0_cells p0_most p0_width p0_size p0_N p0_cells v3 4 _ hk_5) (Or.inl rfl) 2 gX0_hangsOn_X7_get rfl hv_X7_get ⟨Nat.le_of_ble_eq_true rfl, Nat.le_of_ble_eq_true rfl⟩ rfl rfl (Nat.le_of_ble_eq_true rfl) ⟨rfl, rfl⟩ (Nat.zero_le _) (Nat.zero_le _) rfl rfl rfl dX0_hangsOn_27 [0, 1] rfl rfl rfl ?_
            refine g_istore_n (lv' := [(0, .ref h_p0), (2, .int v2), (3, .int r_4), (4, .int v4)]) X dX0_hangsOn_30 rfl (Nat.le_of_ble_eq_true rfl) [1, 2, 0, 3] rfl ?_
            obtain ⟨v4_6, ev4_6, hf⟩ := bnd_out hf
            refine g_iinc (v := v4_6) (lv' := [(0, .ref h_p0), (2, .int v2), (3, .int r_4), (4, .int v4_6)]) X dX0_hangsOn_31 3 rfl (by rw [ev4_6]; rfl) (Nat.le_of_ble_eq_true rfl) [1, 2, 3, 0] rfl ?_
            refine g_goto (tgt := 5) X dX0_hangsOn_34 (by decide) ?_
            exact ih v2 r_4 v4_6 hf
          · replace hf := ite_t hc_3 hf
            refine g_iconst (v := 1) X dX0_hangsOn_22 (by decide) ?_
            exact hR _ _ _ _ (Or.inr rfl) dX0_hangsOn_23 (kR_in (u := 1) hf)
  refine g_iload_n X dX0_hangsOn_0 rfl 1 rfl ?_
  refine g_istore_n (lv' := [(0, .ref h_p0), (1, .int v1), (2, .int v2), (3, .int v1)]) X dX0_hangsOn_1 rfl (Nat.le_of_ble_eq_true rfl) [1, 2, 3, 0] rfl ?_
  refine g_iconst (v := 0) X dX0_hangsOn_2 (by decide) ?_
  refine g_istore (lv' := [(0, .ref h_p0), (1, .int v1), (2, .int v2), (3, .int v1), (4, .int 0)]) X dX0_hangsOn_3 (Nat.le_of_ble_eq_true rfl) [1, 2, 3, 4, 0] rfl ?_
  refine g_lv X (lv' := [(0, .ref h_p0), (2, .int v2), (3, .int v1), (4, .int 0)]) [0, 2, 3, 4] rfl ?_
  exact J5 FU v2 v1 0 hf
def wd_X0_howManyOn (cI cZ : ClassId) (h_p0 : Nat) (h_p0_cells : Nat) (p0_most : Int32) (p0_width : Int32) (p0_size : Int32) (p0_N : Nat) (p0_cells : (Nat → Int32)) : va_W := [(h_p0, .inr (3, [.int p0_most, .int p0_width, .ref h_p0_cells, .int p0_size])), (h_p0_cells, .inl (cI, p0_N, .inl p0_cells))]
abbrev rm_X0_howManyOn : Room := { frames := 1, cells := 0, slots := 0, locals := 24 }
theorem hs_X0_howManyOn : yX0_howManyOn.cls ≠ "java/lang/invoke/MethodHandle" ∧ yX0_howManyOn.cls ≠ "java/lang/invoke/VarHandle" ∧ (parseMethodDescriptor yX0_howManyOn.desc).map (fun d => d.parameters.length) = some 2 := by decide +kernel
set_option maxHeartbeats 4000000 in
set_option maxRecDepth 100000 in
theorem c_X0_howManyOn (l : Launch) (D : va_G) (cI cZ : ClassId) (h_p0 : Nat) (h_p0_cells : Nat) (p0_most : Int32) (p0_width : Int32) (p0_size : Int32) (p0_N : Nat) (p0_cells : (Nat → Int32)) (v1 : Int32) (res : Int32) (hf : f_X0_howManyOn p0_width p0_size p0_N p0_cells v1 = some res) : MetR l yX0_howManyOn wsX0_howManyOn rm_X0_howManyOn D cI cZ none [.ref h_p0, .int v1] (wd_X0_howManyOn cI cZ h_p0 h_p0_cells p0_most p0_width p0_size p0_N p0_cells) (kR res (fun u => some (.int u))) := by
  refine metR_of (cc := cX0_howManyOn) (maxL := 4) (ret := (some .int)) (own := RX0) (lv0 := [(0, .ref h_p0), (1, .int v1)]) (by decide) rfl (Nat.le_of_ble_eq_true rfl) rfl rfl (fun G X hR => ?_)
  replace hR := rt_int hR
  unfold f_X0_howManyOn at hf
  have J28 : ∀ (k4 : Int32 → Int32 → Int32 → Option (Int32)) (hk4 : ∀ (v1 : Int32) (v2 : Int32) (v3 : Int32), k4 v1 v2 v3 = some res → G 0 0 (wd_X0_howManyOn cI cZ h_p0 h_p0_cells p0_most p0_width p0_size p0_N p0_cells) [(0, .ref h_p0), (1, .int v1), (2, .int v2), (3, .int v3)] 4 []) (v1 : Int32) (v3 : Int32) (s0 : Int32) (s1 : Int32), f_X0_howManyOn_28 p0_width p0_size p0_N p0_cells k4 v1 v3 s0 s1 = some res → G 0 0 (wd_X0_howManyOn cI cZ h_p0 h_p0_cells p0_most p0_width p0_size p0_N p0_cells) [(0, .ref h_p0), (1, .int v1), (3, .int v3)] 28 [.int s1, .int s0] := by
    intro k4 hk4 v1 v3 s0 s1 hf
    unfold f_X0_howManyOn_28 at hf
    refine g_iadd X dX0_howManyOn_28 ?_
    obtain ⟨v2_7, ev2_7, hf⟩ := bnd_out hf
    refine g_nmI X ev2_7 ?_
    refine g_istore_n (lv' := [(0, .ref h_p0), (1, .int v1), (2, .int v2_7), (3, .int v3)]) X dX0_howManyOn_29 rfl (Nat.le_of_ble_eq_true rfl) [1, 2, 0, 3] rfl ?_
    obtain ⟨v3_8, ev3_8, hf⟩ := bnd_out hf
    refine g_iinc (v := v3_8) (lv' := [(0, .ref h_p0), (1, .int v1), (2, .int v2_7), (3, .int v3_8)]) X dX0_howManyOn_30 3 rfl (by rw [ev3_8]; rfl) (Nat.le_of_ble_eq_true rfl) [1, 2, 3, 0] rfl ?_
    refine g_goto (tgt := 4) X dX0_howManyOn_33 (by decide) ?_
    exact hk4 v1 v2_7 v3_8 hf
  have J4 : ∀ (n : Nat) (v1 : Int32) (v2 : Int32) (v3 : Int32), f_X0_howManyOn_4 p0_width p0_size p0_N p0_cells n v1 v2 v3 = some res → G 0 0 (wd_X0_howManyOn cI cZ h_p0 h_p0_cells p0_most p0_width p0_size p0_N p0_cells) [(0, .ref h_p0), (1, .int v1), (2, .int v2), (3, .int v3)] 4 [] := by
    intro n
    induction n with
    | zero => intro v1 v2 v3 hf; rw [f_X0_howManyOn_4] at hf; cases hf
    | succ n ih =>
      intro v1 v2 v3 hf
      rw [f_X0_howManyOn_4] at hf
      refine g_iload_n X dX0_howManyOn_4 rfl 3 rfl ?_
      refine g_aload_n X dX0_howManyOn_5 rfl 0 rfl ?_
      obtain ⟨r_1, hk_2, hf⟩ := ob1_out hf
      refine g_cVR (st := [.int v3]) (st1 := [.int r_1, .int v3]) (C := RX7) (ci := 3) (q0 := 0) X (c_X7_size l D cI cZ h_p0 h_p0_cells p0_most p0_width p0_size _ hk_2) (Or.inl rfl) 0 gX0_howManyOn_X7_size rfl hv_X7_size ⟨Nat.le_of_ble_eq_true rfl, Nat.le_of_ble_eq_true rfl⟩ rfl rfl (Nat.le_of_ble_eq_true rfl) ⟨rfl, rfl⟩ (Nat.zero_le _) (Nat.zero_le _) rfl rfl rfl dX0_howManyOn_6 [0] rfl rfl rfl ?_
      refine g_icmp_ge (tgt := 36) X dX0_howManyOn_9 (by decide) (fun hc_3 => ?_) (fun hc_3 => ?_)
      · replace hf := ite_t hc_3 hf
        refine g_iload_n X dX0_howManyOn_36 rfl 2 rfl ?_
        exact hR _ _ _ _ dX0_howManyOn_37 (kR_in (u := v2) hf)
      · replace hf := ite_f hc_3 hf
        refine g_iload_n X dX0_howManyOn_12 rfl 2 rfl ?_
        refine g_aload_n X dX0_howManyOn_13 rfl 0 rfl ?_
        refine g_iload_n X dX0_howManyOn_14 rfl 3 rfl ?_
        refine g_iconst (v := 4) X dX0_howManyOn_15 (by decide) ?_
        obtain ⟨r_4, hk_5, hf⟩ := ob1_out hf
        refine g_cVR (st := [.int v2]) (st1 := [.int r_4, .int v2]) (C := RX7) (ci := 3) (q0 := 0) X (c_X7_get l D cI cZ h_p0 h_p0_cells p0_most p0_width p0_size p0_N p0_cells v3 4 _ hk_5) (Or.inl rfl) 2 gX0_howManyOn_X7_get rfl hv_X7_get ⟨Nat.le_of_ble_eq_true rfl, Nat.le_of_ble_eq_true rfl⟩ rfl rfl (Nat.le_of_ble_eq_true rfl) ⟨rfl, rfl⟩ (Nat.zero_le _) (Nat.zero_le _) rfl rfl rfl dX0_howManyOn_16 [0, 1] rfl rfl rfl ?_
        refine g_iload_n X dX0_howManyOn_19 rfl 1 rfl ?_
        refine g_icmp_ne (tgt := 27) X dX0_howManyOn_20 (by decide) (fun hc_6 => ?_) (fun hc_6 => ?_)
        · replace hf := ite_f hc_6 hf
          refine g_iconst (v := 0) X dX0_howManyOn_27 (by decide) ?_
          refine g_lv X (lv' := [(0, .ref h_p0), (1, .int v1), (3, .int v3)]) [0, 1, 3] rfl ?_
          exact J28 (f_X0_howManyOn_4 p0_width p0_size p0_N p0_cells n) ih v1 v3 v2 0 hf
        · replace hf := ite_t hc_6 hf
          refine g_iconst (v := 1) X dX0_howManyOn_23 (by decide) ?_
          refine g_goto (tgt := 28) X dX0_howManyOn_24 (by decide) ?_
          refine g_lv X (lv' := [(0, .ref h_p0), (1, .int v1), (3, .int v3)]) [0, 1, 3] rfl ?_
          exact J28 (f_X0_howManyOn_4 p0_width p0_size p0_N p0_cells n) ih v1 v3 v2 1 hf
  refine g_iconst (v := 0) X dX0_howManyOn_0 (by decide) ?_
  refine g_istore_n (lv' := [(0, .ref h_p0), (1, .int v1), (2, .int 0)]) X dX0_howManyOn_1 rfl (Nat.le_of_ble_eq_true rfl) [1, 2, 0] rfl ?_
  refine g_iconst (v := 0) X dX0_howManyOn_2 (by decide) ?_
  refine g_istore_n (lv' := [(0, .ref h_p0), (1, .int v1), (2, .int 0), (3, .int 0)]) X dX0_howManyOn_3 rfl (Nat.le_of_ble_eq_true rfl) [1, 2, 3, 0] rfl ?_
  exact J4 FU v1 0 0 hf
def wd_X0_holdsTwo (cI cZ : ClassId) (h_p0 : Nat) (h_p0_cells : Nat) (p0_most : Int32) (p0_width : Int32) (p0_size : Int32) (p0_N : Nat) (p0_cells : (Nat → Int32)) : va_W := [(h_p0, .inr (3, [.int p0_most, .int p0_width, .ref h_p0_cells, .int p0_size])), (h_p0_cells, .inl (cI, p0_N, .inl p0_cells))]
abbrev rm_X0_holdsTwo : Room := { frames := 2, cells := 0, slots := 0, locals := 47 }
theorem hs_X0_holdsTwo : yX0_holdsTwo.cls ≠ "java/lang/invoke/MethodHandle" ∧ yX0_holdsTwo.cls ≠ "java/lang/invoke/VarHandle" ∧ (parseMethodDescriptor yX0_holdsTwo.desc).map (fun d => d.parameters.length) = some 2 := by decide +kernel
set_option maxHeartbeats 4000000 in
set_option maxRecDepth 100000 in
theorem c_X0_holdsTwo (l : Launch) (D : va_G) (cI cZ : ClassId) (h_p0 : Nat) (h_p0_cells : Nat) (p0_most : Int32) (p0_width : Int32) (p0_size : Int32) (p0_N : Nat) (p0_cells : (Nat → Int32)) (v1 : Int32) (res : Int32) (hf : f_X0_holdsTwo p0_width p0_size p0_N p0_cells v1 = some res) : MetR l yX0_holdsTwo wsX0_holdsTwo rm_X0_holdsTwo D cI cZ none [.ref h_p0, .int v1] (wd_X0_holdsTwo cI cZ h_p0 h_p0_cells p0_most p0_width p0_size p0_N p0_cells) (kR res (fun u => some (.int u))) := by
  refine metR_of (cc := cX0_holdsTwo) (maxL := 2) (ret := (some .boolean)) (own := RX0) (lv0 := [(0, .ref h_p0), (1, .int v1)]) (by decide) rfl (Nat.le_of_ble_eq_true rfl) rfl rfl (fun G X hR => ?_)
  replace hR := rt_bool hR
  unfold f_X0_holdsTwo at hf
  refine g_aload_n X dX0_holdsTwo_0 rfl 0 rfl ?_
  refine g_iload_n X dX0_holdsTwo_1 rfl 1 rfl ?_
  obtain ⟨r_1, hk_2, hf⟩ := ob1_out hf
  refine g_cSR (st := []) (st1 := [.int r_1]) X (c_X0_howManyOn l D cI cZ h_p0 h_p0_cells p0_most p0_width p0_size p0_N p0_cells v1 _ hk_2) (Or.inl rfl) 2 gX0_holdsTwo_X0_howManyOn rfl hs_X0_howManyOn ⟨Nat.le_of_ble_eq_true rfl, Nat.le_of_ble_eq_true rfl⟩ rfl rfl (Nat.le_of_ble_eq_true rfl) ⟨rfl, rfl⟩ (Nat.zero_le _) (Nat.zero_le _) dX0_holdsTwo_2 [0, 1] rfl rfl rfl ?_
  refine g_iconst (v := 2) X dX0_holdsTwo_5 (by decide) ?_
  refine g_icmp_lt (tgt := 13) X dX0_holdsTwo_6 (by decide) (fun hc_3 => ?_) (fun hc_3 => ?_)
  · replace hf := ite_t hc_3 hf
    refine g_iconst (v := 0) X dX0_holdsTwo_13 (by decide) ?_
    exact hR _ _ _ _ (Or.inl rfl) dX0_holdsTwo_14 (kR_in (u := 0) hf)
  · replace hf := ite_f hc_3 hf
    refine g_iconst (v := 1) X dX0_holdsTwo_9 (by decide) ?_
    refine g_goto (tgt := 14) X dX0_holdsTwo_10 (by decide) ?_
    exact hR _ _ _ _ (Or.inr rfl) dX0_holdsTwo_14 (kR_in (u := 1) hf)
def wd_X0_canHold (cI cZ : ClassId) (h_p0 : Nat) (h_p0_cells : Nat) (p0_most : Int32) (p0_width : Int32) (p0_size : Int32) (p0_N : Nat) (p0_cells : (Nat → Int32)) : va_W := [(h_p0, .inr (3, [.int p0_most, .int p0_width, .ref h_p0_cells, .int p0_size])), (h_p0_cells, .inl (cI, p0_N, .inl p0_cells))]
abbrev rm_X0_canHold : Room := { frames := 3, cells := 0, slots := 0, locals := 68 }
theorem hs_X0_canHold : yX0_canHold.cls ≠ "java/lang/invoke/MethodHandle" ∧ yX0_canHold.cls ≠ "java/lang/invoke/VarHandle" ∧ (parseMethodDescriptor yX0_canHold.desc).map (fun d => d.parameters.length) = some 3 := by decide +kernel
set_option maxHeartbeats 4000000 in
set_option maxRecDepth 100000 in
theorem c_X0_canHold (l : Launch) (D : va_G) (cI cZ : ClassId) (h_p0 : Nat) (h_p0_cells : Nat) (p0_most : Int32) (p0_width : Int32) (p0_size : Int32) (p0_N : Nat) (p0_cells : (Nat → Int32)) (v1 : Int32) (v2 : Int32) (res : Int32) (hf : f_X0_canHold p0_width p0_size p0_N p0_cells v1 v2 = some res) : MetR l yX0_canHold wsX0_canHold rm_X0_canHold D cI cZ none [.ref h_p0, .int v1, .int v2] (wd_X0_canHold cI cZ h_p0 h_p0_cells p0_most p0_width p0_size p0_N p0_cells) (kR res (fun u => some (.int u))) := by
  refine metR_of (cc := cX0_canHold) (maxL := 3) (ret := (some .boolean)) (own := RX0) (lv0 := [(0, .ref h_p0), (1, .int v1), (2, .int v2)]) (by decide) rfl (Nat.le_of_ble_eq_true rfl) rfl rfl (fun G X hR => ?_)
  replace hR := rt_bool hR
  unfold f_X0_canHold at hf
  refine g_aload_n X dX0_canHold_0 rfl 0 rfl ?_
  refine g_iload_n X dX0_canHold_1 rfl 1 rfl ?_
  refine g_iload_n X dX0_canHold_2 rfl 2 rfl ?_
  obtain ⟨r_1, hk_2, hf⟩ := ob1_out hf
  refine g_cSR (st := []) (st1 := [.int r_1]) X (c_X0_hangsOn l D cI cZ h_p0 h_p0_cells p0_most p0_width p0_size p0_N p0_cells v1 v2 _ hk_2) (Or.inl rfl) 3 gX0_canHold_X0_hangsOn rfl hs_X0_hangsOn ⟨Nat.le_of_ble_eq_true rfl, Nat.le_of_ble_eq_true rfl⟩ rfl rfl (Nat.le_of_ble_eq_true rfl) ⟨rfl, rfl⟩ (Nat.zero_le _) (Nat.zero_le _) dX0_canHold_3 [0, 1] rfl rfl rfl ?_
  refine g_if_ne (tgt := 21) X dX0_canHold_6 (by decide) (fun hc_3 => ?_) (fun hc_3 => ?_)
  · replace hf := ite_f hc_3 hf
    refine g_iconst (v := 0) X dX0_canHold_21 (by decide) ?_
    exact hR _ _ _ _ (Or.inl rfl) dX0_canHold_22 (kR_in (u := 0) hf)
  · replace hf := ite_t hc_3 hf
    refine g_aload_n X dX0_canHold_9 rfl 0 rfl ?_
    refine g_iload_n X dX0_canHold_10 rfl 1 rfl ?_
    obtain ⟨r_4, hk_5, hf⟩ := ob1_out hf
    refine g_cSR (st := []) (st1 := [.int r_4]) X (c_X0_holdsTwo l D cI cZ h_p0 h_p0_cells p0_most p0_width p0_size p0_N p0_cells v1 _ hk_5) (Or.inl rfl) 2 gX0_canHold_X0_holdsTwo rfl hs_X0_holdsTwo ⟨Nat.le_of_ble_eq_true rfl, Nat.le_of_ble_eq_true rfl⟩ rfl rfl (Nat.le_of_ble_eq_true rfl) ⟨rfl, rfl⟩ (Nat.zero_le _) (Nat.zero_le _) dX0_canHold_11 [0, 1] rfl rfl rfl ?_
    refine g_if_ne (tgt := 21) X dX0_canHold_14 (by decide) (fun hc_6 => ?_) (fun hc_6 => ?_)
    · replace hf := ite_f hc_6 hf
      refine g_iconst (v := 0) X dX0_canHold_21 (by decide) ?_
      exact hR _ _ _ _ (Or.inl rfl) dX0_canHold_22 (kR_in (u := 0) hf)
    · replace hf := ite_t hc_6 hf
      refine g_iconst (v := 1) X dX0_canHold_17 (by decide) ?_
      refine g_goto (tgt := 22) X dX0_canHold_18 (by decide) ?_
      exact hR _ _ _ _ (Or.inr rfl) dX0_canHold_22 (kR_in (u := 1) hf)
def wd_X0_top (cI cZ : ClassId) (h_p0 : Nat) (h_p0_cells : Nat) (p0_most : Int32) (p0_width : Int32) (p0_size : Int32) (p0_N : Nat) (p0_cells : (Nat → Int32)) : va_W := [(h_p0, .inr (3, [.int p0_most, .int p0_width, .ref h_p0_cells, .int p0_size])), (h_p0_cells, .inl (cI, p0_N, .inl p0_cells))]
abbrev rm_X0_top : Room := { frames := 1, cells := 0, slots := 0, locals := 24 }
theorem hs_X0_top : yX0_top.cls ≠ "java/lang/invoke/MethodHandle" ∧ yX0_top.cls ≠ "java/lang/invoke/VarHandle" ∧ (parseMethodDescriptor yX0_top.desc).map (fun d => d.parameters.length) = some 3 := by decide +kernel
theorem lk_X0_top_iX11 : Cond.initialized RX11 ∈ wsX0_top := by decide +kernel
theorem lk_X0_top_sX11_hasBit : Cond.static yX11_hasBit ∈ wsX0_top := by decide +kernel
set_option maxHeartbeats 4000000 in
set_option maxRecDepth 100000 in
theorem c_X0_top (l : Launch) (D : va_G) (cI cZ : ClassId) (h_p0 : Nat) (h_p0_cells : Nat) (p0_most : Int32) (p0_width : Int32) (p0_size : Int32) (p0_N : Nat) (p0_cells : (Nat → Int32)) (v1 : Int32) (v2 : Int32) (res : Int32) (hf : f_X0_top p0_width p0_size p0_N p0_cells v1 v2 = some res) : MetR l yX0_top wsX0_top rm_X0_top D cI cZ none [.ref h_p0, .int v1, .int v2] (wd_X0_top cI cZ h_p0 h_p0_cells p0_most p0_width p0_size p0_N p0_cells) (kR res (fun u => some (.int u))) := by
  refine metR_of (cc := cX0_top) (maxL := 6) (ret := (some .int)) (own := RX0) (lv0 := [(0, .ref h_p0), (1, .int v1), (2, .int v2)]) (by decide) rfl (Nat.le_of_ble_eq_true rfl) rfl rfl (fun G X hR => ?_)
  replace hR := rt_int hR
  unfold f_X0_top at hf
  have J30 : ∀ (k5 : Int32 → Int32 → Int32 → Option (Int32)) (hk5 : ∀ (v2 : Int32) (v3 : Int32) (v4 : Int32), k5 v2 v3 v4 = some res → G 0 0 (wd_X0_top cI cZ h_p0 h_p0_cells p0_most p0_width p0_size p0_N p0_cells) [(0, .ref h_p0), (2, .int v2), (3, .int v3), (4, .int v4)] 5 []) (v2 : Int32) (v3 : Int32) (v4 : Int32) (s0 : Int32), f_X0_top_30 p0_width p0_size p0_N p0_cells k5 v2 v3 v4 s0 = some res → G 0 0 (wd_X0_top cI cZ h_p0 h_p0_cells p0_most p0_width p0_size p0_N p0_cells) [(0, .ref h_p0), (2, .int v2), (3, .int v3), (4, .int v4)] 30 [.int s0] := by
    intro k5 hk5 v2 v3 v4 s0 hf
    unfold f_X0_top_30 at hf
    refine g_istore (lv' := [(0, .ref h_p0), (2, .int v2), (3, .int v3), (4, .int v4), (5, .int s0)]) X dX0_top_30 (Nat.le_of_ble_eq_true rfl) [1, 2, 3, 4, 0] rfl ?_
    refine g_iload X dX0_top_32 4 rfl ?_
    refine g_iconst (v := (-1)) X dX0_top_34 (by decide) ?_
    refine g_icmp_ne (tgt := 40) X dX0_top_35 (by decide) (fun hc_7 => ?_) (fun hc_7 => ?_)
    · replace hf := ite_f hc_7 hf
      refine g_iload X dX0_top_40 4 rfl ?_
      refine g_istore_n (lv' := [(0, .ref h_p0), (2, .int v2), (3, .int s0), (4, .int v4), (5, .int s0)]) X dX0_top_42 rfl (Nat.le_of_ble_eq_true rfl) [1, 2, 0, 3, 4] rfl ?_
      obtain ⟨v4_8, ev4_8, hf⟩ := bnd_out hf
      refine g_iinc (v := v4_8) (lv' := [(0, .ref h_p0), (2, .int v2), (3, .int s0), (4, .int v4_8), (5, .int s0)]) X dX0_top_43 3 rfl (by rw [ev4_8]; rfl) (Nat.le_of_ble_eq_true rfl) [1, 2, 3, 0, 4] rfl ?_
      refine g_goto (tgt := 5) X dX0_top_46 (by decide) ?_
      refine g_lv X (lv' := [(0, .ref h_p0), (2, .int v2), (3, .int s0), (4, .int v4_8)]) [0, 1, 2, 3] rfl ?_
      exact hk5 v2 s0 v4_8 hf
    · replace hf := ite_t hc_7 hf
      refine g_iload_n X dX0_top_38 rfl 2 rfl ?_
      exact hR _ _ _ _ dX0_top_39 (kR_in (u := v3) hf)
  have J5 : ∀ (n : Nat) (v2 : Int32) (v3 : Int32) (v4 : Int32), f_X0_top_5 p0_width p0_size p0_N p0_cells n v2 v3 v4 = some res → G 0 0 (wd_X0_top cI cZ h_p0 h_p0_cells p0_most p0_width p0_size p0_N p0_cells) [(0, .ref h_p0), (2, .int v2), (3, .int v3), (4, .int v4)] 5 [] := by
    intro n
    induction n with
    | zero => intro v2 v3 v4 hf; rw [f_X0_top_5] at hf; cases hf
    | succ n ih =>
      intro v2 v3 v4 hf
      rw [f_X0_top_5] at hf
      refine g_iload X dX0_top_5 3 rfl ?_
      refine g_bipush (v := 7) X dX0_top_7 (by decide) ?_
      refine g_icmp_ge (tgt := 49) X dX0_top_9 (by decide) (fun hc_1 => ?_) (fun hc_1 => ?_)
      · replace hf := ite_t hc_1 hf
        refine g_iload_n X dX0_top_49 rfl 2 rfl ?_
        exact hR _ _ _ _ dX0_top_50 (kR_in (u := v3) hf)
      · replace hf := ite_f hc_1 hf
        refine g_iload_n X dX0_top_12 rfl 1 rfl ?_
        refine g_iload_n X dX0_top_13 rfl 2 rfl ?_
        obtain ⟨r_2, hk_3, hf⟩ := ob1_out hf
        refine g_cNR (st := []) (st1 := [.int r_2]) X (c_X11_hasBit l D cI cZ v2 v3 _ hk_3) (Or.inl rfl) 2 gX0_top_X11_hasBit_n9 (by decide +kernel) lk_X0_top_iX11 lk_X0_top_sX11_hasBit rfl hs_X11_hasBit ⟨Nat.le_of_ble_eq_true rfl, Nat.le_of_ble_eq_true rfl⟩ rfl rfl (Nat.le_of_ble_eq_true rfl) ⟨rfl, rfl⟩ (Nat.zero_le _) (Nat.zero_le _) dX0_top_14 [] rfl rfl rfl ?_
        refine g_if_eq (tgt := 24) X dX0_top_17 (by decide) (fun hc_4 => ?_) (fun hc_4 => ?_)
        · replace hf := ite_t hc_4 hf
          refine g_aload_n X dX0_top_24 rfl 0 rfl ?_
          refine g_iload_n X dX0_top_25 rfl 2 rfl ?_
          refine g_iconst (v := 4) X dX0_top_26 (by decide) ?_
          obtain ⟨r_5, hk_6, hf⟩ := ob1_out hf
          refine g_cVR (st := []) (st1 := [.int r_5]) (C := RX7) (ci := 3) (q0 := 0) X (c_X7_get l D cI cZ h_p0 h_p0_cells p0_most p0_width p0_size p0_N p0_cells v3 4 _ hk_6) (Or.inl rfl) 2 gX0_top_X7_get rfl hv_X7_get ⟨Nat.le_of_ble_eq_true rfl, Nat.le_of_ble_eq_true rfl⟩ rfl rfl (Nat.le_of_ble_eq_true rfl) ⟨rfl, rfl⟩ (Nat.zero_le _) (Nat.zero_le _) rfl rfl rfl dX0_top_27 [0, 1] rfl rfl rfl ?_
          exact J30 (f_X0_top_5 p0_width p0_size p0_N p0_cells n) ih v2 v3 v4 r_5 hf
        · replace hf := ite_f hc_4 hf
          refine g_iconst (v := (-1)) X dX0_top_20 (by decide) ?_
          refine g_goto (tgt := 30) X dX0_top_21 (by decide) ?_
          exact J30 (f_X0_top_5 p0_width p0_size p0_N p0_cells n) ih v2 v3 v4 (-1) hf
  refine g_iload_n X dX0_top_0 rfl 1 rfl ?_
  refine g_istore_n (lv' := [(0, .ref h_p0), (1, .int v1), (2, .int v2), (3, .int v1)]) X dX0_top_1 rfl (Nat.le_of_ble_eq_true rfl) [1, 2, 3, 0] rfl ?_
  refine g_iconst (v := 0) X dX0_top_2 (by decide) ?_
  refine g_istore (lv' := [(0, .ref h_p0), (1, .int v1), (2, .int v2), (3, .int v1), (4, .int 0)]) X dX0_top_3 (Nat.le_of_ble_eq_true rfl) [1, 2, 3, 4, 0] rfl ?_
  refine g_lv X (lv' := [(0, .ref h_p0), (2, .int v2), (3, .int v1), (4, .int 0)]) [0, 2, 3, 4] rfl ?_
  exact J5 FU v2 v1 0 hf
def wd_X0_members (cI cZ : ClassId) (h_p0 : Nat) (h_p0_cells : Nat) (p0_most : Int32) (p0_width : Int32) (p0_size : Int32) (p0_N : Nat) (p0_cells : (Nat → Int32)) : va_W := [(h_p0, .inr (3, [.int p0_most, .int p0_width, .ref h_p0_cells, .int p0_size])), (h_p0_cells, .inl (cI, p0_N, .inl p0_cells))]
abbrev rm_X0_members : Room := { frames := 2, cells := 0, slots := 0, locals := 49 }
theorem hs_X0_members : yX0_members.cls ≠ "java/lang/invoke/MethodHandle" ∧ yX0_members.cls ≠ "java/lang/invoke/VarHandle" ∧ (parseMethodDescriptor yX0_members.desc).map (fun d => d.parameters.length) = some 2 := by decide +kernel
set_option maxHeartbeats 4000000 in
set_option maxRecDepth 100000 in
theorem c_X0_members (l : Launch) (D : va_G) (cI cZ : ClassId) (h_p0 : Nat) (h_p0_cells : Nat) (p0_most : Int32) (p0_width : Int32) (p0_size : Int32) (p0_N : Nat) (p0_cells : (Nat → Int32)) (v1 : Int32) (res : Int32) (hf : f_X0_members p0_width p0_size p0_N p0_cells v1 = some res) : MetR l yX0_members wsX0_members rm_X0_members D cI cZ none [.ref h_p0, .int v1] (wd_X0_members cI cZ h_p0 h_p0_cells p0_most p0_width p0_size p0_N p0_cells) (kR res (fun u => some (.int u))) := by
  refine metR_of (cc := cX0_members) (maxL := 5) (ret := (some .int)) (own := RX0) (lv0 := [(0, .ref h_p0), (1, .int v1)]) (by decide) rfl (Nat.le_of_ble_eq_true rfl) rfl rfl (fun G X hR => ?_)
  replace hR := rt_int hR
  unfold f_X0_members at hf
  have J41 : ∀ (k12 : Int32 → Int32 → Int32 → Option (Int32)) (hk12 : ∀ (v2 : Int32) (v3 : Int32) (v4 : Int32), k12 v2 v3 v4 = some res → G 0 0 (wd_X0_members cI cZ h_p0 h_p0_cells p0_most p0_width p0_size p0_N p0_cells) [(0, .ref h_p0), (2, .int v2), (3, .int v3), (4, .int v4)] 12 []) (v2 : Int32) (v4 : Int32) (s0 : Int32) (s1 : Int32), f_X0_members_41 p0_width p0_size p0_N p0_cells k12 v2 v4 s0 s1 = some res → G 0 0 (wd_X0_members cI cZ h_p0 h_p0_cells p0_most p0_width p0_size p0_N p0_cells) [(0, .ref h_p0), (2, .int v2), (4, .int v4)] 41 [.int s1, .int s0] := by
    intro k12 hk12 v2 v4 s0 s1 hf
    unfold f_X0_members_41 at hf
    refine g_ior X dX0_members_41 ?_
    obtain ⟨v3_7, ev3_7, hf⟩ := bnd_out hf
    refine g_nmI X ev3_7 ?_
    refine g_istore_n (lv' := [(0, .ref h_p0), (2, .int v2), (3, .int v3_7), (4, .int v4)]) X dX0_members_42 rfl (Nat.le_of_ble_eq_true rfl) [1, 2, 0, 3] rfl ?_
    obtain ⟨v4_8, ev4_8, hf⟩ := bnd_out hf
    refine g_iinc (v := v4_8) (lv' := [(0, .ref h_p0), (2, .int v2), (3, .int v3_7), (4, .int v4_8)]) X dX0_members_43 3 rfl (by rw [ev4_8]; rfl) (Nat.le_of_ble_eq_true rfl) [1, 2, 3, 0] rfl ?_
    refine g_goto (tgt := 12) X dX0_members_46 (by decide) ?_
    exact hk12 v2 v3_7 v4_8 hf
  have J12 : ∀ (n : Nat) (v2 : Int32) (v3 : Int32) (v4 : Int32), f_X0_members_12 p0_width p0_size p0_N p0_cells n v2 v3 v4 = some res → G 0 0 (wd_X0_members cI cZ h_p0 h_p0_cells p0_most p0_width p0_size p0_N p0_cells) [(0, .ref h_p0), (2, .int v2), (3, .int v3), (4, .int v4)] 12 [] := by
    intro n
    induction n with
    | zero => intro v2 v3 v4 hf; rw [f_X0_members_12] at hf; cases hf
    | succ n ih =>
      intro v2 v3 v4 hf
      rw [f_X0_members_12] at hf
      refine g_iload X dX0_members_12 3 rfl ?_
      refine g_aload_n X dX0_members_14 rfl 0 rfl ?_
      obtain ⟨r_1, hk_2, hf⟩ := ob1_out hf
      refine g_cVR (st := [.int v4]) (st1 := [.int r_1, .int v4]) (C := RX7) (ci := 3) (q0 := 0) X (c_X7_size l D cI cZ h_p0 h_p0_cells p0_most p0_width p0_size _ hk_2) (Or.inl rfl) 0 gX0_members_X7_size rfl hv_X7_size ⟨Nat.le_of_ble_eq_true rfl, Nat.le_of_ble_eq_true rfl⟩ rfl rfl (Nat.le_of_ble_eq_true rfl) ⟨rfl, rfl⟩ (Nat.zero_le _) (Nat.zero_le _) rfl rfl rfl dX0_members_15 [0] rfl rfl rfl ?_
      refine g_icmp_ge (tgt := 49) X dX0_members_18 (by decide) (fun hc_3 => ?_) (fun hc_3 => ?_)
      · replace hf := ite_t hc_3 hf
        refine g_iload_n X dX0_members_49 rfl 2 rfl ?_
        exact hR _ _ _ _ dX0_members_50 (kR_in (u := v3) hf)
      · replace hf := ite_f hc_3 hf
        refine g_iload_n X dX0_members_21 rfl 2 rfl ?_
        refine g_aload_n X dX0_members_22 rfl 0 rfl ?_
        refine g_iload X dX0_members_23 3 rfl ?_
        refine g_iconst (v := 0) X dX0_members_25 (by decide) ?_
        obtain ⟨r_4, hk_5, hf⟩ := ob1_out hf
        refine g_cSR (st := [.int v3]) (st1 := [.int r_4, .int v3]) X (c_X0_top l D cI cZ h_p0 h_p0_cells p0_most p0_width p0_size p0_N p0_cells v4 0 _ hk_5) (Or.inl rfl) 3 gX0_members_X0_top rfl hs_X0_top ⟨Nat.le_of_ble_eq_true rfl, Nat.le_of_ble_eq_true rfl⟩ rfl rfl (Nat.le_of_ble_eq_true rfl) ⟨rfl, rfl⟩ (Nat.zero_le _) (Nat.zero_le _) dX0_members_26 [0, 1] rfl rfl rfl ?_
        refine g_iload_n X dX0_members_29 rfl 1 rfl ?_
        refine g_icmp_ne (tgt := 40) X dX0_members_30 (by decide) (fun hc_6 => ?_) (fun hc_6 => ?_)
        · replace hf := ite_f hc_6 hf
          refine g_iconst (v := 0) X dX0_members_40 (by decide) ?_
          refine g_lv X (lv' := [(0, .ref h_p0), (2, .int v2), (4, .int v4)]) [0, 1, 3] rfl ?_
          exact J41 (f_X0_members_12 p0_width p0_size p0_N p0_cells n) ih v2 v4 v3 0 hf
        · replace hf := ite_t hc_6 hf
          refine g_iconst (v := 1) X dX0_members_33 (by decide) ?_
          refine g_iload X dX0_members_34 3 rfl ?_
          refine g_ishl X dX0_members_36 ?_
          refine g_goto (tgt := 41) X dX0_members_37 (by decide) ?_
          refine g_lv X (lv' := [(0, .ref h_p0), (2, .int v2), (4, .int v4)]) [0, 1, 3] rfl ?_
          exact J41 (f_X0_members_12 p0_width p0_size p0_N p0_cells n) ih v2 v4 v3 (1 <<< (v4 &&& 31)) hf
  refine g_aload_n X dX0_members_0 rfl 0 rfl ?_
  refine g_iload_n X dX0_members_1 rfl 1 rfl ?_
  refine g_iconst (v := 0) X dX0_members_2 (by decide) ?_
  obtain ⟨r_9, hk_10, hf⟩ := ob1_out hf
  refine g_cSR (st := []) (st1 := [.int r_9]) X (c_X0_top l D cI cZ h_p0 h_p0_cells p0_most p0_width p0_size p0_N p0_cells v1 0 _ hk_10) (Or.inl rfl) 3 gX0_members_X0_top rfl hs_X0_top ⟨Nat.le_of_ble_eq_true rfl, Nat.le_of_ble_eq_true rfl⟩ rfl rfl (Nat.le_of_ble_eq_true rfl) ⟨rfl, rfl⟩ (Nat.zero_le _) (Nat.zero_le _) dX0_members_3 [0, 1] rfl rfl rfl ?_
  refine g_istore_n (lv' := [(0, .ref h_p0), (1, .int v1), (2, .int r_9)]) X dX0_members_6 rfl (Nat.le_of_ble_eq_true rfl) [1, 2, 0] rfl ?_
  refine g_iconst (v := 0) X dX0_members_7 (by decide) ?_
  refine g_istore_n (lv' := [(0, .ref h_p0), (1, .int v1), (2, .int r_9), (3, .int 0)]) X dX0_members_8 rfl (Nat.le_of_ble_eq_true rfl) [1, 2, 3, 0] rfl ?_
  refine g_iconst (v := 0) X dX0_members_9 (by decide) ?_
  refine g_istore (lv' := [(0, .ref h_p0), (1, .int v1), (2, .int r_9), (3, .int 0), (4, .int 0)]) X dX0_members_10 (Nat.le_of_ble_eq_true rfl) [1, 2, 3, 4, 0] rfl ?_
  refine g_lv X (lv' := [(0, .ref h_p0), (2, .int r_9), (3, .int 0), (4, .int 0)]) [0, 2, 3, 4] rfl ?_
  exact J12 FU r_9 0 0 hf
def wd_X1_drawn (cI cZ : ClassId) (h_p0 : Nat) (h_p0_cells : Nat) (h_p1 : Nat) (h_p1_cells : Nat) (p0_most : Int32) (p0_width : Int32) (p0_size : Int32) (p0_N : Nat) (p0_cells : (Nat → Int32)) (p1_most : Int32) (p1_width : Int32) (p1_size : Int32) (p1_N : Nat) (p1_cells : (Nat → Int32)) : va_W := [(h_p0, .inr (3, [.int p0_most, .int p0_width, .ref h_p0_cells, .int p0_size])), (h_p0_cells, .inl (cI, p0_N, .inl p0_cells)), (h_p1, .inr (3, [.int p1_most, .int p1_width, .ref h_p1_cells, .int p1_size])), (h_p1_cells, .inl (cI, p1_N, .inl p1_cells))]
abbrev rm_X1_drawn : Room := { frames := 2, cells := 0, slots := 0, locals := 47 }
theorem hs_X1_drawn : yX1_drawn.cls ≠ "java/lang/invoke/MethodHandle" ∧ yX1_drawn.cls ≠ "java/lang/invoke/VarHandle" ∧ (parseMethodDescriptor yX1_drawn.desc).map (fun d => d.parameters.length) = some 4 := by decide +kernel
theorem lk_X1_drawn_iX11 : Cond.initialized RX11 ∈ wsX1_drawn := by decide +kernel
theorem lk_X1_drawn_sX11_hasBit : Cond.static yX11_hasBit ∈ wsX1_drawn := by decide +kernel
theorem lk_X1_drawn_m23 : Cond.methodLink RX1 23 Lib.Math.abs.name ∈ wsX1_drawn := by decide +kernel
theorem lk_X1_drawn_sabs : Cond.static Lib.Math.abs.name ∈ wsX1_drawn := by decide +kernel
theorem lk_X1_drawn_iMath : Cond.initialized "java/lang/Math" ∈ wsX1_drawn := by decide +kernel
theorem lk_X1_drawn_cabs : Cond.code Lib.Math.abs.name Lib.Math.abs.code 1 (some .int) ∈ wsX1_drawn := by decide +kernel
set_option maxHeartbeats 4000000 in
set_option maxRecDepth 100000 in
theorem c_X1_drawn (l : Launch) (D : va_G) (cI cZ : ClassId) (h_p0 : Nat) (h_p0_cells : Nat) (h_p1 : Nat) (h_p1_cells : Nat) (p0_most : Int32) (p0_width : Int32) (p0_size : Int32) (p0_N : Nat) (p0_cells : (Nat → Int32)) (p1_most : Int32) (p1_width : Int32) (p1_size : Int32) (p1_N : Nat) (p1_cells : (Nat → Int32)) (v2 : Int32) (v3 : Int32) (res : Int32) (hf : f_X1_drawn p0_width p0_size p0_N p0_cells p1_width p1_size p1_N p1_cells v2 v3 = some res) : MetR l yX1_drawn wsX1_drawn rm_X1_drawn D cI cZ none [.ref h_p0, .ref h_p1, .int v2, .int v3] (wd_X1_drawn cI cZ h_p0 h_p0_cells h_p1 h_p1_cells p0_most p0_width p0_size p0_N p0_cells p1_most p1_width p1_size p1_N p1_cells) (kR res (fun u => some (.int u))) := by
  refine metR_of (cc := cX1_drawn) (maxL := 9) (ret := (some .int)) (own := RX1) (lv0 := [(0, .ref h_p0), (1, .ref h_p1), (2, .int v2), (3, .int v3)]) (by decide) rfl (Nat.le_of_ble_eq_true rfl) rfl rfl (fun G X hR => ?_)
  replace hR := rt_int hR
  unfold f_X1_drawn at hf
  have J97 : ∀ (k6 : Int32 → Int32 → Int32 → Int32 → Option (Int32)) (hk6 : ∀ (v2 : Int32) (v3 : Int32) (v4 : Int32) (v5 : Int32), k6 v2 v3 v4 v5 = some res → G 0 0 (wd_X1_drawn cI cZ h_p0 h_p0_cells h_p1 h_p1_cells p0_most p0_width p0_size p0_N p0_cells p1_most p1_width p1_size p1_N p1_cells) [(0, .ref h_p0), (1, .ref h_p1), (2, .int v2), (3, .int v3), (4, .int v4), (5, .int v5)] 6 []) (v2 : Int32) (v3 : Int32) (v4 : Int32) (v5 : Int32), f_X1_drawn_97 p0_width p0_size p0_N p0_cells p1_width p1_size p1_N p1_cells k6 v2 v3 v4 v5 = some res → G 0 0 (wd_X1_drawn cI cZ h_p0 h_p0_cells h_p1 h_p1_cells p0_most p0_width p0_size p0_N p0_cells p1_most p1_width p1_size p1_N p1_cells) [(0, .ref h_p0), (1, .ref h_p1), (2, .int v2), (3, .int v3), (4, .int v4), (5, .int v5)] 97 [] := by
    intro k6 hk6 v2 v3 v4 v5 hf
    unfold f_X1_drawn_97 at hf
    obtain ⟨v5_25, ev5_25, hf⟩ := bnd_out hf
    refine g_iinc (v := v5_25) (lv' := [(0, .ref h_p0), (1, .ref h_p1), (2, .int v2), (3, .int v3), (4, .int v4), (5, .int v5_25)]) X dX1_drawn_97 5 rfl (by rw [ev5_25]; rfl) (Nat.le_of_ble_eq_true rfl) [1, 2, 3, 4, 5, 0] rfl ?_
    refine g_goto (tgt := 6) X dX1_drawn_100 (by decide) ?_
    exact hk6 v2 v3 v4 v5_25 hf
  have J18 : ∀ (k6 : Int32 → Int32 → Int32 → Int32 → Option (Int32)) (hk6 : ∀ (v2 : Int32) (v3 : Int32) (v4 : Int32) (v5 : Int32), k6 v2 v3 v4 v5 = some res → G 0 0 (wd_X1_drawn cI cZ h_p0 h_p0_cells h_p1 h_p1_cells p0_most p0_width p0_size p0_N p0_cells p1_most p1_width p1_size p1_N p1_cells) [(0, .ref h_p0), (1, .ref h_p1), (2, .int v2), (3, .int v3), (4, .int v4), (5, .int v5)] 6 []) (n : Nat) (v2 : Int32) (v3 : Int32) (v4 : Int32) (v5 : Int32) (v6 : Int32), f_X1_drawn_18 p0_width p0_size p0_N p0_cells p1_width p1_size p1_N p1_cells k6 n v2 v3 v4 v5 v6 = some res → G 0 0 (wd_X1_drawn cI cZ h_p0 h_p0_cells h_p1 h_p1_cells p0_most p0_width p0_size p0_N p0_cells p1_most p1_width p1_size p1_N p1_cells) [(0, .ref h_p0), (1, .ref h_p1), (2, .int v2), (3, .int v3), (4, .int v4), (5, .int v5), (6, .int v6)] 18 [] := by
    intro k6 hk6 n
    induction n with
    | zero => intro v2 v3 v4 v5 v6 hf; rw [f_X1_drawn_18] at hf; cases hf
    | succ n ih =>
      intro v2 v3 v4 v5 v6 hf
      rw [f_X1_drawn_18] at hf
      refine g_iload X dX1_drawn_18 6 rfl ?_
      refine g_aload_n X dX1_drawn_20 rfl 1 rfl ?_
      obtain ⟨r_4, hk_5, hf⟩ := ob1_out hf
      refine g_cVR (st := [.int v6]) (st1 := [.int r_4, .int v6]) (C := RX7) (ci := 3) (q0 := 2) X (c_X7_size l D cI cZ h_p1 h_p1_cells p1_most p1_width p1_size _ hk_5) (Or.inl rfl) 0 gX1_drawn_X7_size rfl hv_X7_size ⟨Nat.le_of_ble_eq_true rfl, Nat.le_of_ble_eq_true rfl⟩ rfl rfl (Nat.le_of_ble_eq_true rfl) ⟨rfl, rfl⟩ (Nat.zero_le _) (Nat.zero_le _) rfl rfl rfl dX1_drawn_21 [2] rfl rfl rfl ?_
      refine g_icmp_ge (tgt := 97) X dX1_drawn_24 (by decide) (fun hc_6 => ?_) (fun hc_6 => ?_)
      · replace hf := ite_t hc_6 hf
        refine g_lv X (lv' := [(0, .ref h_p0), (1, .ref h_p1), (2, .int v2), (3, .int v3), (4, .int v4), (5, .int v5)]) [0, 1, 2, 3, 4, 5] rfl ?_
        exact J97 k6 hk6 v2 v3 v4 v5 hf
      · replace hf := ite_f hc_6 hf
        refine g_iload_n X dX1_drawn_27 rfl 2 rfl ?_
        refine g_iload X dX1_drawn_28 5 rfl ?_
        obtain ⟨r_7, hk_8, hf⟩ := ob1_out hf
        refine g_cNR (st := []) (st1 := [.int r_7]) X (c_X11_hasBit l D cI cZ v2 v5 _ hk_8) (Or.inl rfl) 2 gX1_drawn_X11_hasBit_n15 (by decide +kernel) lk_X1_drawn_iX11 lk_X1_drawn_sX11_hasBit rfl hs_X11_hasBit ⟨Nat.le_of_ble_eq_true rfl, Nat.le_of_ble_eq_true rfl⟩ rfl rfl (Nat.le_of_ble_eq_true rfl) ⟨rfl, rfl⟩ (Nat.zero_le _) (Nat.zero_le _) dX1_drawn_30 [] rfl rfl rfl ?_
        refine g_if_eq (tgt := 97) X dX1_drawn_33 (by decide) (fun hc_9 => ?_) (fun hc_9 => ?_)
        · replace hf := ite_t hc_9 hf
          refine g_lv X (lv' := [(0, .ref h_p0), (1, .ref h_p1), (2, .int v2), (3, .int v3), (4, .int v4), (5, .int v5)]) [0, 1, 2, 3, 4, 5] rfl ?_
          exact J97 k6 hk6 v2 v3 v4 v5 hf
        · replace hf := ite_f hc_9 hf
          refine g_aload_n X dX1_drawn_36 rfl 1 rfl ?_
          refine g_iload X dX1_drawn_37 6 rfl ?_
          refine g_iconst (v := 1) X dX1_drawn_39 (by decide) ?_
          obtain ⟨r_10, hk_11, hf⟩ := ob1_out hf
          refine g_cVR (st := []) (st1 := [.int r_10]) (C := RX7) (ci := 3) (q0 := 2) X (c_X7_get l D cI cZ h_p1 h_p1_cells p1_most p1_width p1_size p1_N p1_cells v6 1 _ hk_11) (Or.inl rfl) 2 gX1_drawn_X7_get rfl hv_X7_get ⟨Nat.le_of_ble_eq_true rfl, Nat.le_of_ble_eq_true rfl⟩ rfl rfl (Nat.le_of_ble_eq_true rfl) ⟨rfl, rfl⟩ (Nat.zero_le _) (Nat.zero_le _) rfl rfl rfl dX1_drawn_40 [2, 3] rfl rfl rfl ?_
          refine g_aload_n X dX1_drawn_43 rfl 0 rfl ?_
          refine g_iload X dX1_drawn_44 5 rfl ?_
          refine g_iconst (v := 1) X dX1_drawn_46 (by decide) ?_
          obtain ⟨r_12, hk_13, hf⟩ := ob1_out hf
          refine g_cVR (st := [.int r_10]) (st1 := [.int r_12, .int r_10]) (C := RX7) (ci := 3) (q0 := 0) X (c_X7_get l D cI cZ h_p0 h_p0_cells p0_most p0_width p0_size p0_N p0_cells v5 1 _ hk_13) (Or.inl rfl) 2 gX1_drawn_X7_get rfl hv_X7_get ⟨Nat.le_of_ble_eq_true rfl, Nat.le_of_ble_eq_true rfl⟩ rfl rfl (Nat.le_of_ble_eq_true rfl) ⟨rfl, rfl⟩ (Nat.zero_le _) (Nat.zero_le _) rfl rfl rfl dX1_drawn_47 [0, 1] rfl rfl rfl ?_
          refine g_isub X dX1_drawn_50 ?_
          obtain ⟨v7_14, ev7_14, hf⟩ := bnd_out hf
          refine g_nmI X ev7_14 ?_
          refine g_istore (lv' := [(0, .ref h_p0), (1, .ref h_p1), (2, .int v2), (3, .int v3), (4, .int v4), (5, .int v5), (6, .int v6), (7, .int v7_14)]) X dX1_drawn_51 (Nat.le_of_ble_eq_true rfl) [1, 2, 3, 4, 5, 6, 7, 0] rfl ?_
          refine g_aload_n X dX1_drawn_53 rfl 1 rfl ?_
          refine g_iload X dX1_drawn_54 6 rfl ?_
          refine g_iconst (v := 0) X dX1_drawn_56 (by decide) ?_
          obtain ⟨r_15, hk_16, hf⟩ := ob1_out hf
          refine g_cVR (st := []) (st1 := [.int r_15]) (C := RX7) (ci := 3) (q0 := 2) X (c_X7_get l D cI cZ h_p1 h_p1_cells p1_most p1_width p1_size p1_N p1_cells v6 0 _ hk_16) (Or.inl rfl) 2 gX1_drawn_X7_get rfl hv_X7_get ⟨Nat.le_of_ble_eq_true rfl, Nat.le_of_ble_eq_true rfl⟩ rfl rfl (Nat.le_of_ble_eq_true rfl) ⟨rfl, rfl⟩ (Nat.zero_le _) (Nat.zero_le _) rfl rfl rfl dX1_drawn_57 [2, 3] rfl rfl rfl ?_
          refine g_aload_n X dX1_drawn_60 rfl 1 rfl ?_
          refine g_iload X dX1_drawn_61 6 rfl ?_
          refine g_iconst (v := 2) X dX1_drawn_63 (by decide) ?_
          obtain ⟨r_17, hk_18, hf⟩ := ob1_out hf
          refine g_cVR (st := [.int r_15]) (st1 := [.int r_17, .int r_15]) (C := RX7) (ci := 3) (q0 := 2) X (c_X7_get l D cI cZ h_p1 h_p1_cells p1_most p1_width p1_size p1_N p1_cells v6 2 _ hk_18) (Or.inl rfl) 2 gX1_drawn_X7_get rfl hv_X7_get ⟨Nat.le_of_ble_eq_true rfl, Nat.le_of_ble_eq_true rfl⟩ rfl rfl (Nat.le_of_ble_eq_true rfl) ⟨rfl, rfl⟩ (Nat.zero_le _) (Nat.zero_le _) rfl rfl rfl dX1_drawn_64 [2, 3] rfl rfl rfl ?_
          refine g_iload X dX1_drawn_67 7 rfl ?_
          refine g_mabs X lk_X1_drawn_m23 lk_X1_drawn_sabs lk_X1_drawn_iMath lk_X1_drawn_cabs dX1_drawn_69 (Nat.le_of_ble_eq_true rfl) (Nat.le_of_ble_eq_true rfl) (Nat.zero_le _) (Nat.zero_le _) ?_
          refine g_iload_n X dX1_drawn_72 rfl 3 rfl ?_
          obtain ⟨r_19, hk_20, hf⟩ := ob1_out hf
          refine g_cSR (st := []) (st1 := [.int r_19]) X (c_X4_pulls l D cI cZ r_15 r_17 (if 0 ≤ v7_14 then v7_14 else 0 - v7_14) v3 _ hk_20) (Or.inl rfl) 4 gX1_drawn_X4_pulls rfl hs_X4_pulls ⟨Nat.le_of_ble_eq_true rfl, Nat.le_of_ble_eq_true rfl⟩ rfl rfl (Nat.le_of_ble_eq_true rfl) ⟨rfl, rfl⟩ (Nat.zero_le _) (Nat.zero_le _) dX1_drawn_73 [] rfl rfl rfl ?_
          refine g_istore (lv' := [(0, .ref h_p0), (1, .ref h_p1), (2, .int v2), (3, .int v3), (4, .int v4), (5, .int v5), (6, .int v6), (7, .int v7_14), (8, .int r_19)]) X dX1_drawn_76 (Nat.le_of_ble_eq_true rfl) [1, 2, 3, 4, 5, 6, 7, 8, 0] rfl ?_
          refine g_iload X dX1_drawn_78 4 rfl ?_
          refine g_iload X dX1_drawn_80 7 rfl ?_
          obtain ⟨r_21, hk_22, hf⟩ := ob1_out hf
          refine g_cSR (st := [.int v4]) (st1 := [.int r_21, .int v4]) X (c_J6_signum_0f7a4 l D cI cZ v7_14 _ hk_22) (Or.inl rfl) 1 gX1_drawn_J6_signum_0f7a4 rfl hs_J6_signum_0f7a4 ⟨Nat.le_of_ble_eq_true rfl, Nat.le_of_ble_eq_true rfl⟩ rfl rfl (Nat.le_of_ble_eq_true rfl) ⟨rfl, rfl⟩ (Nat.zero_le _) (Nat.zero_le _) dX1_drawn_82 [] rfl rfl rfl ?_
          refine g_iload X dX1_drawn_85 8 rfl ?_
          refine g_imul X dX1_drawn_87 ?_
          refine g_iadd X dX1_drawn_88 ?_
          obtain ⟨v4_23, ev4_23, hf⟩ := bnd_out hf
          refine g_nmI X ev4_23 ?_
          refine g_istore (lv' := [(0, .ref h_p0), (1, .ref h_p1), (2, .int v2), (3, .int v3), (4, .int v4_23), (5, .int v5), (6, .int v6), (7, .int v7_14), (8, .int r_19)]) X dX1_drawn_89 (Nat.le_of_ble_eq_true rfl) [1, 2, 3, 4, 0, 5, 6, 7, 8] rfl ?_
          obtain ⟨v6_24, ev6_24, hf⟩ := bnd_out hf
          refine g_iinc (v := v6_24) (lv' := [(0, .ref h_p0), (1, .ref h_p1), (2, .int v2), (3, .int v3), (4, .int v4_23), (5, .int v5), (6, .int v6_24), (7, .int v7_14), (8, .int r_19)]) X dX1_drawn_91 6 rfl (by rw [ev6_24]; rfl) (Nat.le_of_ble_eq_true rfl) [1, 2, 3, 4, 5, 6, 0, 7, 8] rfl ?_
          refine g_goto (tgt := 18) X dX1_drawn_94 (by decide) ?_
          refine g_lv X (lv' := [(0, .ref h_p0), (1, .ref h_p1), (2, .int v2), (3, .int v3), (4, .int v4_23), (5, .int v5), (6, .int v6_24)]) [0, 1, 2, 3, 4, 5, 6] rfl ?_
          exact ih v2 v3 v4_23 v5 v6_24 hf
  have J6 : ∀ (n : Nat) (v2 : Int32) (v3 : Int32) (v4 : Int32) (v5 : Int32), f_X1_drawn_6 p0_width p0_size p0_N p0_cells p1_width p1_size p1_N p1_cells n v2 v3 v4 v5 = some res → G 0 0 (wd_X1_drawn cI cZ h_p0 h_p0_cells h_p1 h_p1_cells p0_most p0_width p0_size p0_N p0_cells p1_most p1_width p1_size p1_N p1_cells) [(0, .ref h_p0), (1, .ref h_p1), (2, .int v2), (3, .int v3), (4, .int v4), (5, .int v5)] 6 [] := by
    intro n
    induction n with
    | zero => intro v2 v3 v4 v5 hf; rw [f_X1_drawn_6] at hf; cases hf
    | succ n ih =>
      intro v2 v3 v4 v5 hf
      rw [f_X1_drawn_6] at hf
      refine g_iload X dX1_drawn_6 5 rfl ?_
      refine g_aload_n X dX1_drawn_8 rfl 0 rfl ?_
      obtain ⟨r_1, hk_2, hf⟩ := ob1_out hf
      refine g_cVR (st := [.int v5]) (st1 := [.int r_1, .int v5]) (C := RX7) (ci := 3) (q0 := 0) X (c_X7_size l D cI cZ h_p0 h_p0_cells p0_most p0_width p0_size _ hk_2) (Or.inl rfl) 0 gX1_drawn_X7_size rfl hv_X7_size ⟨Nat.le_of_ble_eq_true rfl, Nat.le_of_ble_eq_true rfl⟩ rfl rfl (Nat.le_of_ble_eq_true rfl) ⟨rfl, rfl⟩ (Nat.zero_le _) (Nat.zero_le _) rfl rfl rfl dX1_drawn_9 [0] rfl rfl rfl ?_
      refine g_icmp_ge (tgt := 103) X dX1_drawn_12 (by decide) (fun hc_3 => ?_) (fun hc_3 => ?_)
      · replace hf := ite_t hc_3 hf
        refine g_iload X dX1_drawn_103 4 rfl ?_
        exact hR _ _ _ _ dX1_drawn_105 (kR_in (u := v4) hf)
      · replace hf := ite_f hc_3 hf
        refine g_iconst (v := 0) X dX1_drawn_15 (by decide) ?_
        refine g_istore (lv' := [(0, .ref h_p0), (1, .ref h_p1), (2, .int v2), (3, .int v3), (4, .int v4), (5, .int v5), (6, .int 0)]) X dX1_drawn_16 (Nat.le_of_ble_eq_true rfl) [1, 2, 3, 4, 5, 6, 0] rfl ?_
        exact J18 (f_X1_drawn_6 p0_width p0_size p0_N p0_cells p1_width p1_size p1_N p1_cells n) ih FU v2 v3 v4 v5 0 hf
  refine g_iconst (v := 0) X dX1_drawn_0 (by decide) ?_
  refine g_istore (lv' := [(0, .ref h_p0), (1, .ref h_p1), (2, .int v2), (3, .int v3), (4, .int 0)]) X dX1_drawn_1 (Nat.le_of_ble_eq_true rfl) [1, 2, 3, 4, 0] rfl ?_
  refine g_iconst (v := 0) X dX1_drawn_3 (by decide) ?_
  refine g_istore (lv' := [(0, .ref h_p0), (1, .ref h_p1), (2, .int v2), (3, .int v3), (4, .int 0), (5, .int 0)]) X dX1_drawn_4 (Nat.le_of_ble_eq_true rfl) [1, 2, 3, 4, 5, 0] rfl ?_
  exact J6 FU v2 v3 0 0 hf
def wd_X0_weight (cI cZ : ClassId) (h_p0 : Nat) (h_p0_cells : Nat) (p0_most : Int32) (p0_width : Int32) (p0_size : Int32) (p0_N : Nat) (p0_cells : (Nat → Int32)) : va_W := [(h_p0, .inr (3, [.int p0_most, .int p0_width, .ref h_p0_cells, .int p0_size])), (h_p0_cells, .inl (cI, p0_N, .inl p0_cells))]
abbrev rm_X0_weight : Room := { frames := 1, cells := 0, slots := 0, locals := 24 }
theorem hs_X0_weight : yX0_weight.cls ≠ "java/lang/invoke/MethodHandle" ∧ yX0_weight.cls ≠ "java/lang/invoke/VarHandle" ∧ (parseMethodDescriptor yX0_weight.desc).map (fun d => d.parameters.length) = some 2 := by decide +kernel
theorem lk_X0_weight_iX11 : Cond.initialized RX11 ∈ wsX0_weight := by decide +kernel
theorem lk_X0_weight_sX11_hasBit : Cond.static yX11_hasBit ∈ wsX0_weight := by decide +kernel
set_option maxHeartbeats 4000000 in
set_option maxRecDepth 100000 in
theorem c_X0_weight (l : Launch) (D : va_G) (cI cZ : ClassId) (h_p0 : Nat) (h_p0_cells : Nat) (p0_most : Int32) (p0_width : Int32) (p0_size : Int32) (p0_N : Nat) (p0_cells : (Nat → Int32)) (v1 : Int32) (res : Int32) (hf : f_X0_weight p0_width p0_size p0_N p0_cells v1 = some res) : MetR l yX0_weight wsX0_weight rm_X0_weight D cI cZ none [.ref h_p0, .int v1] (wd_X0_weight cI cZ h_p0 h_p0_cells p0_most p0_width p0_size p0_N p0_cells) (kR res (fun u => some (.int u))) := by
  refine metR_of (cc := cX0_weight) (maxL := 4) (ret := (some .int)) (own := RX0) (lv0 := [(0, .ref h_p0), (1, .int v1)]) (by decide) rfl (Nat.le_of_ble_eq_true rfl) rfl rfl (fun G X hR => ?_)
  replace hR := rt_int hR
  unfold f_X0_weight at hf
  have J31 : ∀ (k4 : Int32 → Int32 → Int32 → Option (Int32)) (hk4 : ∀ (v1 : Int32) (v2 : Int32) (v3 : Int32), k4 v1 v2 v3 = some res → G 0 0 (wd_X0_weight cI cZ h_p0 h_p0_cells p0_most p0_width p0_size p0_N p0_cells) [(0, .ref h_p0), (1, .int v1), (2, .int v2), (3, .int v3)] 4 []) (v1 : Int32) (v3 : Int32) (s0 : Int32) (s1 : Int32), f_X0_weight_31 p0_width p0_size p0_N p0_cells k4 v1 v3 s0 s1 = some res → G 0 0 (wd_X0_weight cI cZ h_p0 h_p0_cells p0_most p0_width p0_size p0_N p0_cells) [(0, .ref h_p0), (1, .int v1), (3, .int v3)] 31 [.int s1, .int s0] := by
    intro k4 hk4 v1 v3 s0 s1 hf
    unfold f_X0_weight_31 at hf
    refine g_iadd X dX0_weight_31 ?_
    obtain ⟨v2_9, ev2_9, hf⟩ := bnd_out hf
    refine g_nmI X ev2_9 ?_
    refine g_istore_n (lv' := [(0, .ref h_p0), (1, .int v1), (2, .int v2_9), (3, .int v3)]) X dX0_weight_32 rfl (Nat.le_of_ble_eq_true rfl) [1, 2, 0, 3] rfl ?_
    obtain ⟨v3_10, ev3_10, hf⟩ := bnd_out hf
    refine g_iinc (v := v3_10) (lv' := [(0, .ref h_p0), (1, .int v1), (2, .int v2_9), (3, .int v3_10)]) X dX0_weight_33 3 rfl (by rw [ev3_10]; rfl) (Nat.le_of_ble_eq_true rfl) [1, 2, 3, 0] rfl ?_
    refine g_goto (tgt := 4) X dX0_weight_36 (by decide) ?_
    exact hk4 v1 v2_9 v3_10 hf
  have J4 : ∀ (n : Nat) (v1 : Int32) (v2 : Int32) (v3 : Int32), f_X0_weight_4 p0_width p0_size p0_N p0_cells n v1 v2 v3 = some res → G 0 0 (wd_X0_weight cI cZ h_p0 h_p0_cells p0_most p0_width p0_size p0_N p0_cells) [(0, .ref h_p0), (1, .int v1), (2, .int v2), (3, .int v3)] 4 [] := by
    intro n
    induction n with
    | zero => intro v1 v2 v3 hf; rw [f_X0_weight_4] at hf; cases hf
    | succ n ih =>
      intro v1 v2 v3 hf
      rw [f_X0_weight_4] at hf
      refine g_iload_n X dX0_weight_4 rfl 3 rfl ?_
      refine g_aload_n X dX0_weight_5 rfl 0 rfl ?_
      obtain ⟨r_1, hk_2, hf⟩ := ob1_out hf
      refine g_cVR (st := [.int v3]) (st1 := [.int r_1, .int v3]) (C := RX7) (ci := 3) (q0 := 0) X (c_X7_size l D cI cZ h_p0 h_p0_cells p0_most p0_width p0_size _ hk_2) (Or.inl rfl) 0 gX0_weight_X7_size rfl hv_X7_size ⟨Nat.le_of_ble_eq_true rfl, Nat.le_of_ble_eq_true rfl⟩ rfl rfl (Nat.le_of_ble_eq_true rfl) ⟨rfl, rfl⟩ (Nat.zero_le _) (Nat.zero_le _) rfl rfl rfl dX0_weight_6 [0] rfl rfl rfl ?_
      refine g_icmp_ge (tgt := 39) X dX0_weight_9 (by decide) (fun hc_3 => ?_) (fun hc_3 => ?_)
      · replace hf := ite_t hc_3 hf
        refine g_iload_n X dX0_weight_39 rfl 2 rfl ?_
        exact hR _ _ _ _ dX0_weight_40 (kR_in (u := v2) hf)
      · replace hf := ite_f hc_3 hf
        refine g_iload_n X dX0_weight_12 rfl 2 rfl ?_
        refine g_iload_n X dX0_weight_13 rfl 1 rfl ?_
        refine g_iload_n X dX0_weight_14 rfl 3 rfl ?_
        obtain ⟨r_4, hk_5, hf⟩ := ob1_out hf
        refine g_cNR (st := [.int v2]) (st1 := [.int r_4, .int v2]) X (c_X11_hasBit l D cI cZ v1 v3 _ hk_5) (Or.inl rfl) 2 gX0_weight_X11_hasBit_n9 (by decide +kernel) lk_X0_weight_iX11 lk_X0_weight_sX11_hasBit rfl hs_X11_hasBit ⟨Nat.le_of_ble_eq_true rfl, Nat.le_of_ble_eq_true rfl⟩ rfl rfl (Nat.le_of_ble_eq_true rfl) ⟨rfl, rfl⟩ (Nat.zero_le _) (Nat.zero_le _) dX0_weight_15 [] rfl rfl rfl ?_
        refine g_if_eq (tgt := 30) X dX0_weight_18 (by decide) (fun hc_6 => ?_) (fun hc_6 => ?_)
        · replace hf := ite_t hc_6 hf
          refine g_iconst (v := 0) X dX0_weight_30 (by decide) ?_
          refine g_lv X (lv' := [(0, .ref h_p0), (1, .int v1), (3, .int v3)]) [0, 1, 3] rfl ?_
          exact J31 (f_X0_weight_4 p0_width p0_size p0_N p0_cells n) ih v1 v3 v2 0 hf
        · replace hf := ite_f hc_6 hf
          refine g_aload_n X dX0_weight_21 rfl 0 rfl ?_
          refine g_iload_n X dX0_weight_22 rfl 3 rfl ?_
          refine g_iconst (v := 2) X dX0_weight_23 (by decide) ?_
          obtain ⟨r_7, hk_8, hf⟩ := ob1_out hf
          refine g_cVR (st := [.int v2]) (st1 := [.int r_7, .int v2]) (C := RX7) (ci := 3) (q0 := 0) X (c_X7_get l D cI cZ h_p0 h_p0_cells p0_most p0_width p0_size p0_N p0_cells v3 2 _ hk_8) (Or.inl rfl) 2 gX0_weight_X7_get rfl hv_X7_get ⟨Nat.le_of_ble_eq_true rfl, Nat.le_of_ble_eq_true rfl⟩ rfl rfl (Nat.le_of_ble_eq_true rfl) ⟨rfl, rfl⟩ (Nat.zero_le _) (Nat.zero_le _) rfl rfl rfl dX0_weight_24 [0, 1] rfl rfl rfl ?_
          refine g_goto (tgt := 31) X dX0_weight_27 (by decide) ?_
          refine g_lv X (lv' := [(0, .ref h_p0), (1, .int v1), (3, .int v3)]) [0, 1, 3] rfl ?_
          exact J31 (f_X0_weight_4 p0_width p0_size p0_N p0_cells n) ih v1 v3 v2 r_7 hf
  refine g_iconst (v := 0) X dX0_weight_0 (by decide) ?_
  refine g_istore_n (lv' := [(0, .ref h_p0), (1, .int v1), (2, .int 0)]) X dX0_weight_1 rfl (Nat.le_of_ble_eq_true rfl) [1, 2, 0] rfl ?_
  refine g_iconst (v := 0) X dX0_weight_2 (by decide) ?_
  refine g_istore_n (lv' := [(0, .ref h_p0), (1, .int v1), (2, .int 0), (3, .int 0)]) X dX0_weight_3 rfl (Nat.le_of_ble_eq_true rfl) [1, 2, 3, 0] rfl ?_
  exact J4 FU v1 0 0 hf
def wd_X1_step (cI cZ : ClassId) (h_p0 : Nat) (h_p0_cells : Nat) (h_p1 : Nat) (h_p1_cells : Nat) (p0_most : Int32) (p0_width : Int32) (p0_size : Int32) (p0_N : Nat) (p0_cells : (Nat → Int32)) (p1_most : Int32) (p1_width : Int32) (p1_size : Int32) (p1_N : Nat) (p1_cells : (Nat → Int32)) : va_W := [(h_p0, .inr (3, [.int p0_most, .int p0_width, .ref h_p0_cells, .int p0_size])), (h_p0_cells, .inl (cI, p0_N, .inl p0_cells)), (h_p1, .inr (3, [.int p1_most, .int p1_width, .ref h_p1_cells, .int p1_size])), (h_p1_cells, .inl (cI, p1_N, .inl p1_cells))]
abbrev rm_X1_step : Room := { frames := 3, cells := 0, slots := 0, locals := 75 }
theorem hs_X1_step : yX1_step.cls ≠ "java/lang/invoke/MethodHandle" ∧ yX1_step.cls ≠ "java/lang/invoke/VarHandle" ∧ (parseMethodDescriptor yX1_step.desc).map (fun d => d.parameters.length) = some 4 := by decide +kernel
theorem lk_X1_step_iX11 : Cond.initialized RX11 ∈ wsX1_step := by decide +kernel
theorem lk_X1_step_sX11_hasBit : Cond.static yX11_hasBit ∈ wsX1_step := by decide +kernel
theorem lk_X1_step_sX11_isDesk : Cond.static yX11_isDesk ∈ wsX1_step := by decide +kernel
theorem lk_X1_step_m23 : Cond.methodLink RX1 23 Lib.Math.abs.name ∈ wsX1_step := by decide +kernel
theorem lk_X1_step_sabs : Cond.static Lib.Math.abs.name ∈ wsX1_step := by decide +kernel
theorem lk_X1_step_iMath : Cond.initialized "java/lang/Math" ∈ wsX1_step := by decide +kernel
theorem lk_X1_step_cabs : Cond.code Lib.Math.abs.name Lib.Math.abs.code 1 (some .int) ∈ wsX1_step := by decide +kernel
set_option maxHeartbeats 4000000 in
set_option maxRecDepth 100000 in
theorem c_X1_step (l : Launch) (D : va_G) (cI cZ : ClassId) (h_p0 : Nat) (h_p0_cells : Nat) (h_p1 : Nat) (h_p1_cells : Nat) (p0_most : Int32) (p0_width : Int32) (p0_size : Int32) (p0_N : Nat) (p0_cells : (Nat → Int32)) (p1_most : Int32) (p1_width : Int32) (p1_size : Int32) (p1_N : Nat) (p1_cells : (Nat → Int32)) (v2 : Int32) (v3 : Int32) (res : Int32) (hf : f_X1_step p0_width p0_size p0_N p0_cells p1_width p1_size p1_N p1_cells v2 v3 = some res) : MetR l yX1_step wsX1_step rm_X1_step D cI cZ none [.ref h_p0, .ref h_p1, .int v2, .int v3] (wd_X1_step cI cZ h_p0 h_p0_cells h_p1 h_p1_cells p0_most p0_width p0_size p0_N p0_cells p1_most p1_width p1_size p1_N p1_cells) (kR res (fun u => some (.int u))) := by
  refine metR_of (cc := cX1_step) (maxL := 7) (ret := (some .int)) (own := RX1) (lv0 := [(0, .ref h_p0), (1, .ref h_p1), (2, .int v2), (3, .int v3)]) (by decide) rfl (Nat.le_of_ble_eq_true rfl) rfl rfl (fun G X hR => ?_)
  replace hR := rt_int hR
  unfold f_X1_step at hf
  have J70 : ∀ (k34 : Int32 → Int32 → Int32 → Option (Int32)) (hk34 : ∀ (v2 : Int32) (v5 : Int32) (v6 : Int32), k34 v2 v5 v6 = some res → G 0 0 (wd_X1_step cI cZ h_p0 h_p0_cells h_p1 h_p1_cells p0_most p0_width p0_size p0_N p0_cells p1_most p1_width p1_size p1_N p1_cells) [(0, .ref h_p0), (2, .int v2), (5, .int v5), (6, .int v6)] 34 []) (v2 : Int32) (v5 : Int32) (v6 : Int32), f_X1_step_70 p0_width p0_size p0_N p0_cells p1_width p1_size p1_N p1_cells k34 v2 v5 v6 = some res → G 0 0 (wd_X1_step cI cZ h_p0 h_p0_cells h_p1 h_p1_cells p0_most p0_width p0_size p0_N p0_cells p1_most p1_width p1_size p1_N p1_cells) [(0, .ref h_p0), (2, .int v2), (5, .int v5), (6, .int v6)] 70 [] := by
    intro k34 hk34 v2 v5 v6 hf
    unfold f_X1_step_70 at hf
    obtain ⟨v6_12, ev6_12, hf⟩ := bnd_out hf
    refine g_iinc (v := v6_12) (lv' := [(0, .ref h_p0), (2, .int v2), (5, .int v5), (6, .int v6_12)]) X dX1_step_70 3 rfl (by rw [ev6_12]; rfl) (Nat.le_of_ble_eq_true rfl) [1, 2, 3, 0] rfl ?_
    refine g_goto (tgt := 34) X dX1_step_73 (by decide) ?_
    exact hk34 v2 v5 v6_12 hf
  have J34 : ∀ (n : Nat) (v2 : Int32) (v5 : Int32) (v6 : Int32), f_X1_step_34 p0_width p0_size p0_N p0_cells p1_width p1_size p1_N p1_cells n v2 v5 v6 = some res → G 0 0 (wd_X1_step cI cZ h_p0 h_p0_cells h_p1 h_p1_cells p0_most p0_width p0_size p0_N p0_cells p1_most p1_width p1_size p1_N p1_cells) [(0, .ref h_p0), (2, .int v2), (5, .int v5), (6, .int v6)] 34 [] := by
    intro n
    induction n with
    | zero => intro v2 v5 v6 hf; rw [f_X1_step_34] at hf; cases hf
    | succ n ih =>
      intro v2 v5 v6 hf
      rw [f_X1_step_34] at hf
      refine g_iload X dX1_step_34 3 rfl ?_
      refine g_aload_n X dX1_step_36 rfl 0 rfl ?_
      obtain ⟨r_1, hk_2, hf⟩ := ob1_out hf
      refine g_cVR (st := [.int v6]) (st1 := [.int r_1, .int v6]) (C := RX7) (ci := 3) (q0 := 0) X (c_X7_size l D cI cZ h_p0 h_p0_cells p0_most p0_width p0_size _ hk_2) (Or.inl rfl) 0 gX1_step_X7_size rfl hv_X7_size ⟨Nat.le_of_ble_eq_true rfl, Nat.le_of_ble_eq_true rfl⟩ rfl rfl (Nat.le_of_ble_eq_true rfl) ⟨rfl, rfl⟩ (Nat.zero_le _) (Nat.zero_le _) rfl rfl rfl dX1_step_37 [0] rfl rfl rfl ?_
      refine g_icmp_ge (tgt := 76) X dX1_step_40 (by decide) (fun hc_3 => ?_) (fun hc_3 => ?_)
      · replace hf := ite_t hc_3 hf
        refine g_iload X dX1_step_76 2 rfl ?_
        exact hR _ _ _ _ dX1_step_78 (kR_in (u := v5) hf)
      · replace hf := ite_f hc_3 hf
        refine g_iload_n X dX1_step_43 rfl 1 rfl ?_
        refine g_iload X dX1_step_44 3 rfl ?_
        obtain ⟨r_4, hk_5, hf⟩ := ob1_out hf
        refine g_cNR (st := []) (st1 := [.int r_4]) X (c_X11_hasBit l D cI cZ v2 v6 _ hk_5) (Or.inl rfl) 2 gX1_step_X11_hasBit_n15 (by decide +kernel) lk_X1_step_iX11 lk_X1_step_sX11_hasBit rfl hs_X11_hasBit ⟨Nat.le_of_ble_eq_true rfl, Nat.le_of_ble_eq_true rfl⟩ rfl rfl (Nat.le_of_ble_eq_true rfl) ⟨rfl, rfl⟩ (Nat.zero_le _) (Nat.zero_le _) dX1_step_46 [] rfl rfl rfl ?_
        refine g_if_eq (tgt := 70) X dX1_step_49 (by decide) (fun hc_6 => ?_) (fun hc_6 => ?_)
        · replace hf := ite_t hc_6 hf
          exact J70 (f_X1_step_34 p0_width p0_size p0_N p0_cells p1_width p1_size p1_N p1_cells n) ih v2 v5 v6 hf
        · replace hf := ite_f hc_6 hf
          refine g_aload_n X dX1_step_52 rfl 0 rfl ?_
          refine g_iload X dX1_step_53 3 rfl ?_
          refine g_iconst (v := 1) X dX1_step_55 (by decide) ?_
          obtain ⟨r_7, hk_8, hf⟩ := ob1_out hf
          refine g_cVR (st := []) (st1 := [.int r_7]) (C := RX7) (ci := 3) (q0 := 0) X (c_X7_get l D cI cZ h_p0 h_p0_cells p0_most p0_width p0_size p0_N p0_cells v6 1 _ hk_8) (Or.inl rfl) 2 gX1_step_X7_get rfl hv_X7_get ⟨Nat.le_of_ble_eq_true rfl, Nat.le_of_ble_eq_true rfl⟩ rfl rfl (Nat.le_of_ble_eq_true rfl) ⟨rfl, rfl⟩ (Nat.zero_le _) (Nat.zero_le _) rfl rfl rfl dX1_step_56 [0, 1] rfl rfl rfl ?_
          refine g_iload X dX1_step_59 2 rfl ?_
          refine g_iadd X dX1_step_61 ?_
          obtain ⟨r_9, hk_10, hf⟩ := ob1_out hf
          refine g_cNR (st := []) (st1 := [.int r_9]) X (c_X11_isDesk l D cI cZ (r_7 + v5) _ hk_10) (Or.inl rfl) 1 gX1_step_X11_isDesk_n52 (by decide +kernel) lk_X1_step_iX11 lk_X1_step_sX11_isDesk rfl hs_X11_isDesk ⟨Nat.le_of_ble_eq_true rfl, Nat.le_of_ble_eq_true rfl⟩ rfl rfl (Nat.le_of_ble_eq_true rfl) ⟨rfl, rfl⟩ (Nat.zero_le _) (Nat.zero_le _) dX1_step_62 [] rfl rfl rfl ?_
          refine g_if_ne (tgt := 70) X dX1_step_65 (by decide) (fun hc_11 => ?_) (fun hc_11 => ?_)
          · replace hf := ite_f hc_11 hf
            exact J70 (f_X1_step_34 p0_width p0_size p0_N p0_cells p1_width p1_size p1_N p1_cells n) ih v2 v5 v6 hf
          · replace hf := ite_t hc_11 hf
            refine g_iconst (v := 0) X dX1_step_68 (by decide) ?_
            exact hR _ _ _ _ dX1_step_69 (kR_in (u := 0) hf)
  refine g_aload_n X dX1_step_0 rfl 0 rfl ?_
  refine g_aload_n X dX1_step_1 rfl 1 rfl ?_
  refine g_iload_n X dX1_step_2 rfl 2 rfl ?_
  refine g_iload_n X dX1_step_3 rfl 3 rfl ?_
  obtain ⟨r_13, hk_14, hf⟩ := ob1_out hf
  refine g_cSR (st := []) (st1 := [.int r_13]) X (c_X1_drawn l D cI cZ h_p0 h_p0_cells h_p1 h_p1_cells p0_most p0_width p0_size p0_N p0_cells p1_most p1_width p1_size p1_N p1_cells v2 v3 _ hk_14) (Or.inl rfl) 4 gX1_step_X1_drawn rfl hs_X1_drawn ⟨Nat.le_of_ble_eq_true rfl, Nat.le_of_ble_eq_true rfl⟩ rfl rfl (Nat.le_of_ble_eq_true rfl) ⟨rfl, rfl⟩ (Nat.zero_le _) (Nat.zero_le _) dX1_step_4 [0, 1, 2, 3] rfl rfl rfl ?_
  refine g_istore (lv' := [(0, .ref h_p0), (1, .ref h_p1), (2, .int v2), (3, .int v3), (4, .int r_13)]) X dX1_step_7 (Nat.le_of_ble_eq_true rfl) [1, 2, 3, 4, 0] rfl ?_
  refine g_iload X dX1_step_9 4 rfl ?_
  refine g_mabs X lk_X1_step_m23 lk_X1_step_sabs lk_X1_step_iMath lk_X1_step_cabs dX1_step_11 (Nat.le_of_ble_eq_true rfl) (Nat.le_of_ble_eq_true rfl) (Nat.zero_le _) (Nat.zero_le _) ?_
  refine g_aload_n X dX1_step_14 rfl 0 rfl ?_
  refine g_iload_n X dX1_step_15 rfl 2 rfl ?_
  obtain ⟨r_15, hk_16, hf⟩ := ob1_out hf
  refine g_cSR (st := [.int (if 0 ≤ r_13 then r_13 else 0 - r_13)]) (st1 := [.int r_15, .int (if 0 ≤ r_13 then r_13 else 0 - r_13)]) X (c_X0_weight l D cI cZ h_p0 h_p0_cells p0_most p0_width p0_size p0_N p0_cells v2 _ hk_16) (Or.inl rfl) 2 gX1_step_X0_weight rfl hs_X0_weight ⟨Nat.le_of_ble_eq_true rfl, Nat.le_of_ble_eq_true rfl⟩ rfl rfl (Nat.le_of_ble_eq_true rfl) ⟨rfl, rfl⟩ (Nat.zero_le _) (Nat.zero_le _) dX1_step_16 [0, 1] rfl rfl rfl ?_
  refine g_icmp_ge (tgt := 24) X dX1_step_19 (by decide) (fun hc_17 => ?_) (fun hc_17 => ?_)
  · replace hf := ite_t hc_17 hf
    refine g_iload X dX1_step_24 4 rfl ?_
    obtain ⟨r_18, hk_19, hf⟩ := ob1_out hf
    refine g_cSR (st := []) (st1 := [.int r_18]) X (c_J6_signum_0f7a4 l D cI cZ r_13 _ hk_19) (Or.inl rfl) 1 gX1_step_J6_signum_0f7a4 rfl hs_J6_signum_0f7a4 ⟨Nat.le_of_ble_eq_true rfl, Nat.le_of_ble_eq_true rfl⟩ rfl rfl (Nat.le_of_ble_eq_true rfl) ⟨rfl, rfl⟩ (Nat.zero_le _) (Nat.zero_le _) dX1_step_26 [] rfl rfl rfl ?_
    refine g_istore (lv' := [(0, .ref h_p0), (1, .ref h_p1), (2, .int v2), (3, .int v3), (4, .int r_13), (5, .int r_18)]) X dX1_step_29 (Nat.le_of_ble_eq_true rfl) [1, 2, 3, 4, 5, 0] rfl ?_
    refine g_iconst (v := 0) X dX1_step_31 (by decide) ?_
    refine g_istore (lv' := [(0, .ref h_p0), (1, .ref h_p1), (2, .int v2), (3, .int v3), (4, .int r_13), (5, .int r_18), (6, .int 0)]) X dX1_step_32 (Nat.le_of_ble_eq_true rfl) [1, 2, 3, 4, 5, 6, 0] rfl ?_
    refine g_lv X (lv' := [(0, .ref h_p0), (2, .int v2), (5, .int r_18), (6, .int 0)]) [0, 2, 5, 6] rfl ?_
    exact J34 FU v2 r_18 0 hf
  · replace hf := ite_f hc_17 hf
    refine g_iconst (v := 0) X dX1_step_22 (by decide) ?_
    exact hR _ _ _ _ dX1_step_23 (kR_in (u := 0) hf)
def wd_X1_move (cI cZ : ClassId) (h_p0 : Nat) (h_p0_cells : Nat) (p0_most : Int32) (p0_width : Int32) (p0_size : Int32) (p0_N : Nat) (p0_cells : (Nat → Int32)) : va_W := [(h_p0, .inr (3, [.int p0_most, .int p0_width, .ref h_p0_cells, .int p0_size])), (h_p0_cells, .inl (cI, p0_N, .inl p0_cells))]
abbrev rm_X1_move : Room := { frames := 1, cells := 0, slots := 0, locals := 25 }
theorem hs_X1_move : yX1_move.cls ≠ "java/lang/invoke/MethodHandle" ∧ yX1_move.cls ≠ "java/lang/invoke/VarHandle" ∧ (parseMethodDescriptor yX1_move.desc).map (fun d => d.parameters.length) = some 3 := by decide +kernel
theorem lk_X1_move_iX11 : Cond.initialized RX11 ∈ wsX1_move := by decide +kernel
theorem lk_X1_move_sX11_hasBit : Cond.static yX11_hasBit ∈ wsX1_move := by decide +kernel
theorem lk_X1_move_m60 : Cond.methodLink RX1 60 Lib.Math.min.name ∈ wsX1_move := by decide +kernel
theorem lk_X1_move_smin : Cond.static Lib.Math.min.name ∈ wsX1_move := by decide +kernel
theorem lk_X1_move_iMath : Cond.initialized "java/lang/Math" ∈ wsX1_move := by decide +kernel
theorem lk_X1_move_cmin : Cond.code Lib.Math.min.name Lib.Math.min.code 2 (some .int) ∈ wsX1_move := by decide +kernel
set_option maxHeartbeats 4000000 in
set_option maxRecDepth 100000 in
theorem c_X1_move (l : Launch) (D : va_G) (cI cZ : ClassId) (h_p0 : Nat) (h_p0_cells : Nat) (p0_most : Int32) (p0_width : Int32) (p0_size : Int32) (p0_N : Nat) (p0_cells : (Nat → Int32)) (v1 : Int32) (v2 : Int32) (res : (Nat → Int32)) (hf : f_X1_move p0_width p0_size p0_N p0_cells v1 v2 = some res) : MetG l yX1_move wsX1_move rm_X1_move D cI cZ none [.ref h_p0, .int v1, .int v2] (wd_X1_move cI cZ h_p0 h_p0_cells p0_most p0_width p0_size p0_N p0_cells) (kV res (fun _ => none) (fun u => (wd_X1_move cI cZ h_p0 h_p0_cells p0_most p0_width p0_size p0_N u))) := by
  refine metG_of (cc := cX1_move) (maxL := 4) (ret := none) (own := RX1) (lv0 := [(0, .ref h_p0), (1, .int v1), (2, .int v2)]) (ini := false) (by decide) rfl (Nat.le_of_ble_eq_true rfl) rfl rfl (fun h => by cases h) (fun G X hR => ?_)
  replace hR := rt_void hR
  unfold f_X1_move at hf
  have J59 : ∀ (k2 : (Nat → Int32) → Int32 → Int32 → Int32 → Option ((Nat → Int32))) (hk2 : ∀ (p0_cells : (Nat → Int32)) (v1 : Int32) (v2 : Int32) (v3 : Int32), k2 p0_cells v1 v2 v3 = some res → G 0 0 (wd_X1_move cI cZ h_p0 h_p0_cells p0_most p0_width p0_size p0_N p0_cells) [(0, .ref h_p0), (1, .int v1), (2, .int v2), (3, .int v3)] 2 []) (p0_cells : (Nat → Int32)) (v1 : Int32) (v2 : Int32) (v3 : Int32), f_X1_move_59 p0_width p0_size p0_N k2 p0_cells v1 v2 v3 = some res → G 0 0 (wd_X1_move cI cZ h_p0 h_p0_cells p0_most p0_width p0_size p0_N p0_cells) [(0, .ref h_p0), (1, .int v1), (2, .int v2), (3, .int v3)] 59 [] := by
    intro k2 hk2 p0_cells v1 v2 v3 hf
    unfold f_X1_move_59 at hf
    obtain ⟨v3_16, ev3_16, hf⟩ := bnd_out hf
    refine g_iinc (v := v3_16) (lv' := [(0, .ref h_p0), (1, .int v1), (2, .int v2), (3, .int v3_16)]) X dX1_move_59 3 rfl (by rw [ev3_16]; rfl) (Nat.le_of_ble_eq_true rfl) [1, 2, 3, 0] rfl ?_
    refine g_goto (tgt := 2) X dX1_move_62 (by decide) ?_
    exact hk2 p0_cells v1 v2 v3_16 hf
  have J56 : ∀ (k2 : (Nat → Int32) → Int32 → Int32 → Int32 → Option ((Nat → Int32))) (hk2 : ∀ (p0_cells : (Nat → Int32)) (v1 : Int32) (v2 : Int32) (v3 : Int32), k2 p0_cells v1 v2 v3 = some res → G 0 0 (wd_X1_move cI cZ h_p0 h_p0_cells p0_most p0_width p0_size p0_N p0_cells) [(0, .ref h_p0), (1, .int v1), (2, .int v2), (3, .int v3)] 2 []) (p0_cells : (Nat → Int32)) (v1 : Int32) (v2 : Int32) (v3 : Int32) (s1 : Int32) (s2 : Int32) (s3 : Int32), f_X1_move_56 p0_width p0_size p0_N k2 p0_cells v1 v2 v3 s1 s2 s3 = some res → G 0 0 (wd_X1_move cI cZ h_p0 h_p0_cells p0_most p0_width p0_size p0_N p0_cells) [(0, .ref h_p0), (1, .int v1), (2, .int v2), (3, .int v3)] 56 [.int s3, .int s2, .int s1, .ref h_p0] := by
    intro k2 hk2 p0_cells v1 v2 v3 s1 s2 s3 hf
    unfold f_X1_move_56 at hf
    obtain ⟨p0_cells_14, hk_15, hf⟩ := ob1_out hf
    refine g_cVW (st := []) (st1 := []) (C := RX7) (ci := 3) (q0 := 0) (ws' := (wd_X1_move cI cZ h_p0 h_p0_cells p0_most p0_width p0_size p0_N p0_cells_14)) X (c_X7_put l D cI cZ h_p0 h_p0_cells p0_most p0_width p0_size p0_N p0_cells s1 s2 s3 _ hk_15) (Or.inl rfl) 3 gX1_move_X7_put rfl hv_X7_put ⟨Nat.le_of_ble_eq_true rfl, Nat.le_of_ble_eq_true rfl⟩ rfl rfl (Nat.le_of_ble_eq_true rfl) ⟨rfl, rfl⟩ (Nat.zero_le _) (Nat.zero_le _) rfl rfl rfl dX1_move_56 [0, 1] rfl rfl [] rfl rfl (by decide) [0, 1] rfl rfl rfl ?_
    exact J59 k2 hk2 p0_cells_14 v1 v2 v3 hf
  have J2 : ∀ (n : Nat) (p0_cells : (Nat → Int32)) (v1 : Int32) (v2 : Int32) (v3 : Int32), f_X1_move_2 p0_width p0_size p0_N n p0_cells v1 v2 v3 = some res → G 0 0 (wd_X1_move cI cZ h_p0 h_p0_cells p0_most p0_width p0_size p0_N p0_cells) [(0, .ref h_p0), (1, .int v1), (2, .int v2), (3, .int v3)] 2 [] := by
    intro n
    induction n with
    | zero => intro p0_cells v1 v2 v3 hf; rw [f_X1_move_2] at hf; cases hf
    | succ n ih =>
      intro p0_cells v1 v2 v3 hf
      rw [f_X1_move_2] at hf
      refine g_iload_n X dX1_move_2 rfl 3 rfl ?_
      refine g_aload_n X dX1_move_3 rfl 0 rfl ?_
      obtain ⟨r_1, hk_2, hf⟩ := ob1_out hf
      refine g_cVR (st := [.int v3]) (st1 := [.int r_1, .int v3]) (C := RX7) (ci := 3) (q0 := 0) X (c_X7_size l D cI cZ h_p0 h_p0_cells p0_most p0_width p0_size _ hk_2) (Or.inl rfl) 0 gX1_move_X7_size rfl hv_X7_size ⟨Nat.le_of_ble_eq_true rfl, Nat.le_of_ble_eq_true rfl⟩ rfl rfl (Nat.le_of_ble_eq_true rfl) ⟨rfl, rfl⟩ (Nat.zero_le _) (Nat.zero_le _) rfl rfl rfl dX1_move_4 [0] rfl rfl rfl ?_
      refine g_icmp_ge (tgt := 65) X dX1_move_7 (by decide) (fun hc_3 => ?_) (fun hc_3 => ?_)
      · replace hf := ite_t hc_3 hf
        exact hR _ _ _ dX1_move_65 (kV_in (u := p0_cells) hf)
      · replace hf := ite_f hc_3 hf
        refine g_iload_n X dX1_move_10 rfl 1 rfl ?_
        refine g_iload_n X dX1_move_11 rfl 3 rfl ?_
        obtain ⟨r_4, hk_5, hf⟩ := ob1_out hf
        refine g_cNR (st := []) (st1 := [.int r_4]) X (c_X11_hasBit l D cI cZ v1 v3 _ hk_5) (Or.inl rfl) 2 gX1_move_X11_hasBit_n15 (by decide +kernel) lk_X1_move_iX11 lk_X1_move_sX11_hasBit rfl hs_X11_hasBit ⟨Nat.le_of_ble_eq_true rfl, Nat.le_of_ble_eq_true rfl⟩ rfl rfl (Nat.le_of_ble_eq_true rfl) ⟨rfl, rfl⟩ (Nat.zero_le _) (Nat.zero_le _) dX1_move_12 [] rfl rfl rfl ?_
        refine g_if_eq (tgt := 59) X dX1_move_15 (by decide) (fun hc_6 => ?_) (fun hc_6 => ?_)
        · replace hf := ite_t hc_6 hf
          exact J59 (f_X1_move_2 p0_width p0_size p0_N n) ih p0_cells v1 v2 v3 hf
        · replace hf := ite_f hc_6 hf
          refine g_aload_n X dX1_move_18 rfl 0 rfl ?_
          refine g_iload_n X dX1_move_19 rfl 3 rfl ?_
          refine g_iconst (v := 1) X dX1_move_20 (by decide) ?_
          refine g_aload_n X dX1_move_21 rfl 0 rfl ?_
          refine g_iload_n X dX1_move_22 rfl 3 rfl ?_
          refine g_iconst (v := 1) X dX1_move_23 (by decide) ?_
          obtain ⟨r_7, hk_8, hf⟩ := ob1_out hf
          refine g_cVR (st := [.int 1, .int v3, .ref h_p0]) (st1 := [.int r_7, .int 1, .int v3, .ref h_p0]) (C := RX7) (ci := 3) (q0 := 0) X (c_X7_get l D cI cZ h_p0 h_p0_cells p0_most p0_width p0_size p0_N p0_cells v3 1 _ hk_8) (Or.inl rfl) 2 gX1_move_X7_get rfl hv_X7_get ⟨Nat.le_of_ble_eq_true rfl, Nat.le_of_ble_eq_true rfl⟩ rfl rfl (Nat.le_of_ble_eq_true rfl) ⟨rfl, rfl⟩ (Nat.zero_le _) (Nat.zero_le _) rfl rfl rfl dX1_move_24 [0, 1] rfl rfl rfl ?_
          refine g_iload_n X dX1_move_27 rfl 2 rfl ?_
          refine g_iadd X dX1_move_28 ?_
          obtain ⟨p0_cells_9, hk_10, hf⟩ := ob1_out hf
          refine g_cVW (st := []) (st1 := []) (C := RX7) (ci := 3) (q0 := 0) (ws' := (wd_X1_move cI cZ h_p0 h_p0_cells p0_most p0_width p0_size p0_N p0_cells_9)) X (c_X7_put l D cI cZ h_p0 h_p0_cells p0_most p0_width p0_size p0_N p0_cells v3 1 (r_7 + v2) _ hk_10) (Or.inl rfl) 3 gX1_move_X7_put rfl hv_X7_put ⟨Nat.le_of_ble_eq_true rfl, Nat.le_of_ble_eq_true rfl⟩ rfl rfl (Nat.le_of_ble_eq_true rfl) ⟨rfl, rfl⟩ (Nat.zero_le _) (Nat.zero_le _) rfl rfl rfl dX1_move_29 [0, 1] rfl rfl [] rfl rfl (by decide) [0, 1] rfl rfl rfl ?_
          refine g_aload_n X dX1_move_32 rfl 0 rfl ?_
          refine g_iload_n X dX1_move_33 rfl 3 rfl ?_
          refine g_iconst (v := 3) X dX1_move_34 (by decide) ?_
          refine g_iload_n X dX1_move_35 rfl 2 rfl ?_
          refine g_if_eq (tgt := 43) X dX1_move_36 (by decide) (fun hc_11 => ?_) (fun hc_11 => ?_)
          · replace hf := ite_t hc_11 hf
            refine g_bipush (v := 99) X dX1_move_43 (by decide) ?_
            refine g_aload_n X dX1_move_45 rfl 0 rfl ?_
            refine g_iload_n X dX1_move_46 rfl 3 rfl ?_
            refine g_iconst (v := 3) X dX1_move_47 (by decide) ?_
            obtain ⟨r_12, hk_13, hf⟩ := ob1_out hf
            refine g_cVR (st := [.int 99, .int 3, .int v3, .ref h_p0]) (st1 := [.int r_12, .int 99, .int 3, .int v3, .ref h_p0]) (C := RX7) (ci := 3) (q0 := 0) X (c_X7_get l D cI cZ h_p0 h_p0_cells p0_most p0_width p0_size p0_N p0_cells_9 v3 3 _ hk_13) (Or.inl rfl) 2 gX1_move_X7_get rfl hv_X7_get ⟨Nat.le_of_ble_eq_true rfl, Nat.le_of_ble_eq_true rfl⟩ rfl rfl (Nat.le_of_ble_eq_true rfl) ⟨rfl, rfl⟩ (Nat.zero_le _) (Nat.zero_le _) rfl rfl rfl dX1_move_48 [0, 1] rfl rfl rfl ?_
            refine g_iconst (v := 1) X dX1_move_51 (by decide) ?_
            refine g_iadd X dX1_move_52 ?_
            refine g_mmin X lk_X1_move_m60 lk_X1_move_smin lk_X1_move_iMath lk_X1_move_cmin dX1_move_53 (Nat.le_of_ble_eq_true rfl) (Nat.le_of_ble_eq_true rfl) (Nat.zero_le _) (Nat.zero_le _) ?_
            exact J56 (f_X1_move_2 p0_width p0_size p0_N n) ih p0_cells_9 v1 v2 v3 v3 3 (if (r_12 + 1) < 99 then (r_12 + 1) else 99) hf
          · replace hf := ite_f hc_11 hf
            refine g_iconst (v := 0) X dX1_move_39 (by decide) ?_
            refine g_goto (tgt := 56) X dX1_move_40 (by decide) ?_
            exact J56 (f_X1_move_2 p0_width p0_size p0_N n) ih p0_cells_9 v1 v2 v3 v3 3 0 hf
  refine g_iconst (v := 0) X dX1_move_0 (by decide) ?_
  refine g_istore_n (lv' := [(0, .ref h_p0), (1, .int v1), (2, .int v2), (3, .int 0)]) X dX1_move_1 rfl (Nat.le_of_ble_eq_true rfl) [1, 2, 3, 0] rfl ?_
  exact J2 FU p0_cells v1 v2 0 hf
def wd_X1_passDays (cI cZ : ClassId) (h_p0 : Nat) (h_p0_cells : Nat) (h_p1 : Nat) (h_p1_cells : Nat) (p0_most : Int32) (p0_width : Int32) (p0_size : Int32) (p0_N : Nat) (p0_cells : (Nat → Int32)) (p1_most : Int32) (p1_width : Int32) (p1_size : Int32) (p1_N : Nat) (p1_cells : (Nat → Int32)) : va_W := [(h_p0, .inr (3, [.int p0_most, .int p0_width, .ref h_p0_cells, .int p0_size])), (h_p0_cells, .inl (cI, p0_N, .inl p0_cells)), (h_p1, .inr (3, [.int p1_most, .int p1_width, .ref h_p1_cells, .int p1_size])), (h_p1_cells, .inl (cI, p1_N, .inl p1_cells))]
abbrev rm_X1_passDays : Room := { frames := 4, cells := 0, slots := 0, locals := 101 }
theorem hs_X1_passDays : yX1_passDays.cls ≠ "java/lang/invoke/MethodHandle" ∧ yX1_passDays.cls ≠ "java/lang/invoke/VarHandle" ∧ (parseMethodDescriptor yX1_passDays.desc).map (fun d => d.parameters.length) = some 4 := by decide +kernel
set_option maxHeartbeats 4000000 in
set_option maxRecDepth 100000 in
theorem c_X1_passDays (l : Launch) (D : va_G) (cI cZ : ClassId) (h_p0 : Nat) (h_p0_cells : Nat) (h_p1 : Nat) (h_p1_cells : Nat) (p0_most : Int32) (p0_width : Int32) (p0_size : Int32) (p0_N : Nat) (p0_cells : (Nat → Int32)) (p1_most : Int32) (p1_width : Int32) (p1_size : Int32) (p1_N : Nat) (p1_cells : (Nat → Int32)) (v2 : Int32) (v3 : Int32) (res : Int32 × (Nat → Int32)) (hf : f_X1_passDays p0_width p0_size p0_N p0_cells p1_width p1_size p1_N p1_cells v2 v3 = some res) : MetG l yX1_passDays wsX1_passDays rm_X1_passDays D cI cZ none [.ref h_p0, .ref h_p1, .int v2, .int v3] (wd_X1_passDays cI cZ h_p0 h_p0_cells h_p1 h_p1_cells p0_most p0_width p0_size p0_N p0_cells p1_most p1_width p1_size p1_N p1_cells) (kV res (fun u => some (.int u.1)) (fun u => (wd_X1_passDays cI cZ h_p0 h_p0_cells h_p1 h_p1_cells p0_most p0_width p0_size p0_N (u.2) p1_most p1_width p1_size p1_N p1_cells))) := by
  refine metG_of (cc := cX1_passDays) (maxL := 9) (ret := (some .int)) (own := RX1) (lv0 := [(0, .ref h_p0), (1, .ref h_p1), (2, .int v2), (3, .int v3)]) (ini := false) (by decide) rfl (Nat.le_of_ble_eq_true rfl) rfl rfl (fun h => by cases h) (fun G X hR => ?_)
  replace hR := rt_int hR
  unfold f_X1_passDays at hf
  have J82 : ∀ (k6 : (Nat → Int32) → Int32 → Int32 → Int32 → Int32 → Option (Int32 × (Nat → Int32))) (hk6 : ∀ (p0_cells : (Nat → Int32)) (v2 : Int32) (v3 : Int32) (v4 : Int32) (v5 : Int32), k6 p0_cells v2 v3 v4 v5 = some res → G 0 0 (wd_X1_passDays cI cZ h_p0 h_p0_cells h_p1 h_p1_cells p0_most p0_width p0_size p0_N p0_cells p1_most p1_width p1_size p1_N p1_cells) [(0, .ref h_p0), (1, .ref h_p1), (2, .int v2), (3, .int v3), (4, .int v4), (5, .int v5)] 6 []) (k18 : (Nat → Int32) → Int32 → Int32 → Int32 → Int32 → Int32 → Option (Int32 × (Nat → Int32))) (hk18 : ∀ (p0_cells : (Nat → Int32)) (v2 : Int32) (v3 : Int32) (v4 : Int32) (v5 : Int32) (v6 : Int32), k18 p0_cells v2 v3 v4 v5 v6 = some res → G 0 0 (wd_X1_passDays cI cZ h_p0 h_p0_cells h_p1 h_p1_cells p0_most p0_width p0_size p0_N p0_cells p1_most p1_width p1_size p1_N p1_cells) [(0, .ref h_p0), (1, .ref h_p1), (2, .int v2), (3, .int v3), (4, .int v4), (5, .int v5), (6, .int v6)] 18 []) (p0_cells : (Nat → Int32)) (v2 : Int32) (v3 : Int32) (v4 : Int32) (v5 : Int32) (v6 : Int32), f_X1_passDays_82 p0_width p0_size p0_N p1_width p1_size p1_N p1_cells k6 k18 p0_cells v2 v3 v4 v5 v6 = some res → G 0 0 (wd_X1_passDays cI cZ h_p0 h_p0_cells h_p1 h_p1_cells p0_most p0_width p0_size p0_N p0_cells p1_most p1_width p1_size p1_N p1_cells) [(0, .ref h_p0), (1, .ref h_p1), (2, .int v2), (3, .int v3), (4, .int v4), (5, .int v5), (6, .int v6)] 82 [] := by
    intro k6 hk6 k18 hk18 p0_cells v2 v3 v4 v5 v6 hf
    unfold f_X1_passDays_82 at hf
    obtain ⟨v6_16, ev6_16, hf⟩ := bnd_out hf
    refine g_iinc (v := v6_16) (lv' := [(0, .ref h_p0), (1, .ref h_p1), (2, .int v2), (3, .int v3), (4, .int v4), (5, .int v5), (6, .int v6_16)]) X dX1_passDays_82 6 rfl (by rw [ev6_16]; rfl) (Nat.le_of_ble_eq_true rfl) [1, 2, 3, 4, 5, 6, 0] rfl ?_
    refine g_goto (tgt := 18) X dX1_passDays_85 (by decide) ?_
    exact hk18 p0_cells v2 v3 v4 v5 v6_16 hf
  have J79 : ∀ (k6 : (Nat → Int32) → Int32 → Int32 → Int32 → Int32 → Option (Int32 × (Nat → Int32))) (hk6 : ∀ (p0_cells : (Nat → Int32)) (v2 : Int32) (v3 : Int32) (v4 : Int32) (v5 : Int32), k6 p0_cells v2 v3 v4 v5 = some res → G 0 0 (wd_X1_passDays cI cZ h_p0 h_p0_cells h_p1 h_p1_cells p0_most p0_width p0_size p0_N p0_cells p1_most p1_width p1_size p1_N p1_cells) [(0, .ref h_p0), (1, .ref h_p1), (2, .int v2), (3, .int v3), (4, .int v4), (5, .int v5)] 6 []) (k18 : (Nat → Int32) → Int32 → Int32 → Int32 → Int32 → Int32 → Option (Int32 × (Nat → Int32))) (hk18 : ∀ (p0_cells : (Nat → Int32)) (v2 : Int32) (v3 : Int32) (v4 : Int32) (v5 : Int32) (v6 : Int32), k18 p0_cells v2 v3 v4 v5 v6 = some res → G 0 0 (wd_X1_passDays cI cZ h_p0 h_p0_cells h_p1 h_p1_cells p0_most p0_width p0_size p0_N p0_cells p1_most p1_width p1_size p1_N p1_cells) [(0, .ref h_p0), (1, .ref h_p1), (2, .int v2), (3, .int v3), (4, .int v4), (5, .int v5), (6, .int v6)] 18 []) (p0_cells : (Nat → Int32)) (v2 : Int32) (v3 : Int32) (v5 : Int32) (v6 : Int32) (s0 : Int32) (s1 : Int32), f_X1_passDays_79 p0_width p0_size p0_N p1_width p1_size p1_N p1_cells k6 k18 p0_cells v2 v3 v5 v6 s0 s1 = some res → G 0 0 (wd_X1_passDays cI cZ h_p0 h_p0_cells h_p1 h_p1_cells p0_most p0_width p0_size p0_N p0_cells p1_most p1_width p1_size p1_N p1_cells) [(0, .ref h_p0), (1, .ref h_p1), (2, .int v2), (3, .int v3), (5, .int v5), (6, .int v6)] 79 [.int s1, .int s0] := by
    intro k6 hk6 k18 hk18 p0_cells v2 v3 v5 v6 s0 s1 hf
    unfold f_X1_passDays_79 at hf
    refine g_iadd X dX1_passDays_79 ?_
    obtain ⟨v4_15, ev4_15, hf⟩ := bnd_out hf
    refine g_nmI X ev4_15 ?_
    refine g_istore (lv' := [(0, .ref h_p0), (1, .ref h_p1), (2, .int v2), (3, .int v3), (4, .int v4_15), (5, .int v5), (6, .int v6)]) X dX1_passDays_80 (Nat.le_of_ble_eq_true rfl) [1, 2, 3, 4, 0, 5, 6] rfl ?_
    exact J82 k6 hk6 k18 hk18 p0_cells v2 v3 v4_15 v5 v6 hf
  have J88 : ∀ (k6 : (Nat → Int32) → Int32 → Int32 → Int32 → Int32 → Option (Int32 × (Nat → Int32))) (hk6 : ∀ (p0_cells : (Nat → Int32)) (v2 : Int32) (v3 : Int32) (v4 : Int32) (v5 : Int32), k6 p0_cells v2 v3 v4 v5 = some res → G 0 0 (wd_X1_passDays cI cZ h_p0 h_p0_cells h_p1 h_p1_cells p0_most p0_width p0_size p0_N p0_cells p1_most p1_width p1_size p1_N p1_cells) [(0, .ref h_p0), (1, .ref h_p1), (2, .int v2), (3, .int v3), (4, .int v4), (5, .int v5)] 6 []) (p0_cells : (Nat → Int32)) (v2 : Int32) (v3 : Int32) (v4 : Int32) (v5 : Int32), f_X1_passDays_88 p0_width p0_size p0_N p1_width p1_size p1_N p1_cells k6 p0_cells v2 v3 v4 v5 = some res → G 0 0 (wd_X1_passDays cI cZ h_p0 h_p0_cells h_p1 h_p1_cells p0_most p0_width p0_size p0_N p0_cells p1_most p1_width p1_size p1_N p1_cells) [(0, .ref h_p0), (1, .ref h_p1), (2, .int v2), (3, .int v3), (4, .int v4), (5, .int v5)] 88 [] := by
    intro k6 hk6 p0_cells v2 v3 v4 v5 hf
    unfold f_X1_passDays_88 at hf
    obtain ⟨v5_17, ev5_17, hf⟩ := bnd_out hf
    refine g_iinc (v := v5_17) (lv' := [(0, .ref h_p0), (1, .ref h_p1), (2, .int v2), (3, .int v3), (4, .int v4), (5, .int v5_17)]) X dX1_passDays_88 5 rfl (by rw [ev5_17]; rfl) (Nat.le_of_ble_eq_true rfl) [1, 2, 3, 4, 5, 0] rfl ?_
    refine g_goto (tgt := 6) X dX1_passDays_91 (by decide) ?_
    exact hk6 p0_cells v2 v3 v4 v5_17 hf
  have J18 : ∀ (k6 : (Nat → Int32) → Int32 → Int32 → Int32 → Int32 → Option (Int32 × (Nat → Int32))) (hk6 : ∀ (p0_cells : (Nat → Int32)) (v2 : Int32) (v3 : Int32) (v4 : Int32) (v5 : Int32), k6 p0_cells v2 v3 v4 v5 = some res → G 0 0 (wd_X1_passDays cI cZ h_p0 h_p0_cells h_p1 h_p1_cells p0_most p0_width p0_size p0_N p0_cells p1_most p1_width p1_size p1_N p1_cells) [(0, .ref h_p0), (1, .ref h_p1), (2, .int v2), (3, .int v3), (4, .int v4), (5, .int v5)] 6 []) (n : Nat) (p0_cells : (Nat → Int32)) (v2 : Int32) (v3 : Int32) (v4 : Int32) (v5 : Int32) (v6 : Int32), f_X1_passDays_18 p0_width p0_size p0_N p1_width p1_size p1_N p1_cells k6 n p0_cells v2 v3 v4 v5 v6 = some res → G 0 0 (wd_X1_passDays cI cZ h_p0 h_p0_cells h_p1 h_p1_cells p0_most p0_width p0_size p0_N p0_cells p1_most p1_width p1_size p1_N p1_cells) [(0, .ref h_p0), (1, .ref h_p1), (2, .int v2), (3, .int v3), (4, .int v4), (5, .int v5), (6, .int v6)] 18 [] := by
    intro k6 hk6 n
    induction n with
    | zero => intro p0_cells v2 v3 v4 v5 v6 hf; rw [f_X1_passDays_18] at hf; cases hf
    | succ n ih =>
      intro p0_cells v2 v3 v4 v5 v6 hf
      rw [f_X1_passDays_18] at hf
      refine g_iload X dX1_passDays_18 6 rfl ?_
      refine g_aload_n X dX1_passDays_20 rfl 0 rfl ?_
      obtain ⟨r_2, hk_3, hf⟩ := ob1_out hf
      refine g_cVR (st := [.int v6]) (st1 := [.int r_2, .int v6]) (C := RX7) (ci := 3) (q0 := 0) X (c_X7_size l D cI cZ h_p0 h_p0_cells p0_most p0_width p0_size _ hk_3) (Or.inl rfl) 0 gX1_passDays_X7_size rfl hv_X7_size ⟨Nat.le_of_ble_eq_true rfl, Nat.le_of_ble_eq_true rfl⟩ rfl rfl (Nat.le_of_ble_eq_true rfl) ⟨rfl, rfl⟩ (Nat.zero_le _) (Nat.zero_le _) rfl rfl rfl dX1_passDays_21 [0] rfl rfl rfl ?_
      refine g_icmp_ge (tgt := 88) X dX1_passDays_24 (by decide) (fun hc_4 => ?_) (fun hc_4 => ?_)
      · replace hf := ite_t hc_4 hf
        refine g_lv X (lv' := [(0, .ref h_p0), (1, .ref h_p1), (2, .int v2), (3, .int v3), (4, .int v4), (5, .int v5)]) [0, 1, 2, 3, 4, 5] rfl ?_
        exact J88 k6 hk6 p0_cells v2 v3 v4 v5 hf
      · replace hf := ite_f hc_4 hf
        refine g_aload_n X dX1_passDays_27 rfl 0 rfl ?_
        refine g_iload X dX1_passDays_28 6 rfl ?_
        refine g_iconst (v := 4) X dX1_passDays_30 (by decide) ?_
        obtain ⟨r_5, hk_6, hf⟩ := ob1_out hf
        refine g_cVR (st := []) (st1 := [.int r_5]) (C := RX7) (ci := 3) (q0 := 0) X (c_X7_get l D cI cZ h_p0 h_p0_cells p0_most p0_width p0_size p0_N p0_cells v6 4 _ hk_6) (Or.inl rfl) 2 gX1_passDays_X7_get rfl hv_X7_get ⟨Nat.le_of_ble_eq_true rfl, Nat.le_of_ble_eq_true rfl⟩ rfl rfl (Nat.le_of_ble_eq_true rfl) ⟨rfl, rfl⟩ (Nat.zero_le _) (Nat.zero_le _) rfl rfl rfl dX1_passDays_31 [0, 1] rfl rfl rfl ?_
        refine g_iconst (v := (-1)) X dX1_passDays_34 (by decide) ?_
        refine g_icmp_ne (tgt := 82) X dX1_passDays_35 (by decide) (fun hc_7 => ?_) (fun hc_7 => ?_)
        · replace hf := ite_f hc_7 hf
          exact J82 k6 hk6 (f_X1_passDays_18 p0_width p0_size p0_N p1_width p1_size p1_N p1_cells k6 n) ih p0_cells v2 v3 v4 v5 v6 hf
        · replace hf := ite_t hc_7 hf
          refine g_aload_n X dX1_passDays_38 rfl 0 rfl ?_
          refine g_iload X dX1_passDays_39 6 rfl ?_
          obtain ⟨r_8, hk_9, hf⟩ := ob1_out hf
          refine g_cSR (st := []) (st1 := [.int r_8]) X (c_X0_members l D cI cZ h_p0 h_p0_cells p0_most p0_width p0_size p0_N p0_cells v6 _ hk_9) (Or.inl rfl) 2 gX1_passDays_X0_members rfl hs_X0_members ⟨Nat.le_of_ble_eq_true rfl, Nat.le_of_ble_eq_true rfl⟩ rfl rfl (Nat.le_of_ble_eq_true rfl) ⟨rfl, rfl⟩ (Nat.zero_le _) (Nat.zero_le _) dX1_passDays_41 [0, 1] rfl rfl rfl ?_
          refine g_istore (lv' := [(0, .ref h_p0), (1, .ref h_p1), (2, .int v2), (3, .int v3), (4, .int v4), (5, .int v5), (6, .int v6), (7, .int r_8)]) X dX1_passDays_44 (Nat.le_of_ble_eq_true rfl) [1, 2, 3, 4, 5, 6, 7, 0] rfl ?_
          refine g_aload_n X dX1_passDays_46 rfl 0 rfl ?_
          refine g_aload_n X dX1_passDays_47 rfl 1 rfl ?_
          refine g_iload X dX1_passDays_48 7 rfl ?_
          refine g_iload_n X dX1_passDays_50 rfl 2 rfl ?_
          refine g_iload X dX1_passDays_51 5 rfl ?_
          refine g_iadd X dX1_passDays_53 ?_
          obtain ⟨r_10, hk_11, hf⟩ := ob1_out hf
          refine g_cSR (st := []) (st1 := [.int r_10]) X (c_X1_step l D cI cZ h_p0 h_p0_cells h_p1 h_p1_cells p0_most p0_width p0_size p0_N p0_cells p1_most p1_width p1_size p1_N p1_cells r_8 (v2 + v5) _ hk_11) (Or.inl rfl) 4 gX1_passDays_X1_step rfl hs_X1_step ⟨Nat.le_of_ble_eq_true rfl, Nat.le_of_ble_eq_true rfl⟩ rfl rfl (Nat.le_of_ble_eq_true rfl) ⟨rfl, rfl⟩ (Nat.zero_le _) (Nat.zero_le _) dX1_passDays_54 [0, 1, 2, 3] rfl rfl rfl ?_
          refine g_istore (lv' := [(0, .ref h_p0), (1, .ref h_p1), (2, .int v2), (3, .int v3), (4, .int v4), (5, .int v5), (6, .int v6), (7, .int r_8), (8, .int r_10)]) X dX1_passDays_57 (Nat.le_of_ble_eq_true rfl) [1, 2, 3, 4, 5, 6, 7, 8, 0] rfl ?_
          refine g_aload_n X dX1_passDays_59 rfl 0 rfl ?_
          refine g_iload X dX1_passDays_60 7 rfl ?_
          refine g_iload X dX1_passDays_62 8 rfl ?_
          obtain ⟨p0_cells_12, hk_13, hf⟩ := ob1_out hf
          refine g_cSW (st := []) (st1 := []) (ws' := (wd_X1_passDays cI cZ h_p0 h_p0_cells h_p1 h_p1_cells p0_most p0_width p0_size p0_N p0_cells_12 p1_most p1_width p1_size p1_N p1_cells)) X (c_X1_move l D cI cZ h_p0 h_p0_cells p0_most p0_width p0_size p0_N p0_cells r_8 r_10 _ hk_13) (Or.inl rfl) 3 gX1_passDays_X1_move rfl hs_X1_move ⟨Nat.le_of_ble_eq_true rfl, Nat.le_of_ble_eq_true rfl⟩ rfl rfl (Nat.le_of_ble_eq_true rfl) ⟨rfl, rfl⟩ (Nat.zero_le _) (Nat.zero_le _) dX1_passDays_64 [0, 1] rfl rfl [2, 3] rfl rfl (by decide) [2, 3, 0, 1] rfl rfl rfl ?_
          refine g_iload X dX1_passDays_67 4 rfl ?_
          refine g_iload X dX1_passDays_69 8 rfl ?_
          refine g_if_eq (tgt := 78) X dX1_passDays_71 (by decide) (fun hc_14 => ?_) (fun hc_14 => ?_)
          · replace hf := ite_t hc_14 hf
            refine g_iconst (v := 0) X dX1_passDays_78 (by decide) ?_
            refine g_lv X (lv' := [(0, .ref h_p0), (1, .ref h_p1), (2, .int v2), (3, .int v3), (5, .int v5), (6, .int v6)]) [0, 1, 2, 3, 5, 6] rfl ?_
            exact J79 k6 hk6 (f_X1_passDays_18 p0_width p0_size p0_N p1_width p1_size p1_N p1_cells k6 n) ih p0_cells_12 v2 v3 v5 v6 v4 0 hf
          · replace hf := ite_f hc_14 hf
            refine g_iconst (v := 1) X dX1_passDays_74 (by decide) ?_
            refine g_goto (tgt := 79) X dX1_passDays_75 (by decide) ?_
            refine g_lv X (lv' := [(0, .ref h_p0), (1, .ref h_p1), (2, .int v2), (3, .int v3), (5, .int v5), (6, .int v6)]) [0, 1, 2, 3, 5, 6] rfl ?_
            exact J79 k6 hk6 (f_X1_passDays_18 p0_width p0_size p0_N p1_width p1_size p1_N p1_cells k6 n) ih p0_cells_12 v2 v3 v5 v6 v4 1 hf
  have J6 : ∀ (n : Nat) (p0_cells : (Nat → Int32)) (v2 : Int32) (v3 : Int32) (v4 : Int32) (v5 : Int32), f_X1_passDays_6 p0_width p0_size p0_N p1_width p1_size p1_N p1_cells n p0_cells v2 v3 v4 v5 = some res → G 0 0 (wd_X1_passDays cI cZ h_p0 h_p0_cells h_p1 h_p1_cells p0_most p0_width p0_size p0_N p0_cells p1_most p1_width p1_size p1_N p1_cells) [(0, .ref h_p0), (1, .ref h_p1), (2, .int v2), (3, .int v3), (4, .int v4), (5, .int v5)] 6 [] := by
    intro n
    induction n with
    | zero => intro p0_cells v2 v3 v4 v5 hf; rw [f_X1_passDays_6] at hf; cases hf
    | succ n ih =>
      intro p0_cells v2 v3 v4 v5 hf
      rw [f_X1_passDays_6] at hf
      refine g_iload X dX1_passDays_6 5 rfl ?_
      refine g_iload_n X dX1_passDays_8 rfl 3 rfl ?_
      refine g_icmp_ge (tgt := 94) X dX1_passDays_9 (by decide) (fun hc_1 => ?_) (fun hc_1 => ?_)
      · replace hf := ite_t hc_1 hf
        refine g_iload X dX1_passDays_94 4 rfl ?_
        exact hR _ _ _ _ dX1_passDays_96 (kV_in (u := (v4, p0_cells)) hf)
      · replace hf := ite_f hc_1 hf
        refine g_iconst (v := 0) X dX1_passDays_12 (by decide) ?_
        refine g_istore (lv' := [(0, .ref h_p0), (1, .ref h_p1), (2, .int v2), (3, .int v3), (4, .int 0), (5, .int v5)]) X dX1_passDays_13 (Nat.le_of_ble_eq_true rfl) [1, 2, 3, 4, 0, 5] rfl ?_
        refine g_iconst (v := 0) X dX1_passDays_15 (by decide) ?_
        refine g_istore (lv' := [(0, .ref h_p0), (1, .ref h_p1), (2, .int v2), (3, .int v3), (4, .int 0), (5, .int v5), (6, .int 0)]) X dX1_passDays_16 (Nat.le_of_ble_eq_true rfl) [1, 2, 3, 4, 5, 6, 0] rfl ?_
        exact J18 (f_X1_passDays_6 p0_width p0_size p0_N p1_width p1_size p1_N p1_cells n) ih FU p0_cells v2 v3 0 v5 0 hf
  refine g_iconst (v := 0) X dX1_passDays_0 (by decide) ?_
  refine g_istore (lv' := [(0, .ref h_p0), (1, .ref h_p1), (2, .int v2), (3, .int v3), (4, .int 0)]) X dX1_passDays_1 (Nat.le_of_ble_eq_true rfl) [1, 2, 3, 4, 0] rfl ?_
  refine g_iconst (v := 0) X dX1_passDays_3 (by decide) ?_
  refine g_istore (lv' := [(0, .ref h_p0), (1, .ref h_p1), (2, .int v2), (3, .int v3), (4, .int 0), (5, .int 0)]) X dX1_passDays_4 (Nat.le_of_ble_eq_true rfl) [1, 2, 3, 4, 5, 0] rfl ?_
  exact J6 FU p0_cells v2 v3 0 0 hf
def wd_X0_hooksBetween (cI cZ : ClassId) (h_p0 : Nat) (h_p0_cells : Nat) (p0_most : Int32) (p0_width : Int32) (p0_size : Int32) (p0_N : Nat) (p0_cells : (Nat → Int32)) : va_W := [(h_p0, .inr (3, [.int p0_most, .int p0_width, .ref h_p0_cells, .int p0_size])), (h_p0_cells, .inl (cI, p0_N, .inl p0_cells))]
abbrev rm_X0_hooksBetween : Room := { frames := 1, cells := 0, slots := 0, locals := 24 }
theorem hs_X0_hooksBetween : yX0_hooksBetween.cls ≠ "java/lang/invoke/MethodHandle" ∧ yX0_hooksBetween.cls ≠ "java/lang/invoke/VarHandle" ∧ (parseMethodDescriptor yX0_hooksBetween.desc).map (fun d => d.parameters.length) = some 3 := by decide +kernel
set_option maxHeartbeats 4000000 in
set_option maxRecDepth 100000 in
theorem c_X0_hooksBetween (l : Launch) (D : va_G) (cI cZ : ClassId) (h_p0 : Nat) (h_p0_cells : Nat) (p0_most : Int32) (p0_width : Int32) (p0_size : Int32) (p0_N : Nat) (p0_cells : (Nat → Int32)) (v1 : Int32) (v2 : Int32) (res : Int32) (hf : f_X0_hooksBetween p0_width p0_size p0_N p0_cells v1 v2 = some res) : MetR l yX0_hooksBetween wsX0_hooksBetween rm_X0_hooksBetween D cI cZ none [.ref h_p0, .int v1, .int v2] (wd_X0_hooksBetween cI cZ h_p0 h_p0_cells p0_most p0_width p0_size p0_N p0_cells) (kR res (fun u => some (.int u))) := by
  refine metR_of (cc := cX0_hooksBetween) (maxL := 7) (ret := (some .int)) (own := RX0) (lv0 := [(0, .ref h_p0), (1, .int v1), (2, .int v2)]) (by decide) rfl (Nat.le_of_ble_eq_true rfl) rfl rfl (fun G X hR => ?_)
  replace hR := rt_int hR
  unfold f_X0_hooksBetween at hf
  have J42 : ∀ (v4 : Int32) (v6 : Int32), f_X0_hooksBetween_42 p0_width p0_size p0_N p0_cells v4 v6 = some res → G 0 0 (wd_X0_hooksBetween cI cZ h_p0 h_p0_cells p0_most p0_width p0_size p0_N p0_cells) [(4, .int v4), (6, .int v6)] 42 [] := by
    intro v4 v6 hf
    unfold f_X0_hooksBetween_42 at hf
    refine g_iload X dX0_hooksBetween_42 0 rfl ?_
    refine g_iload X dX0_hooksBetween_44 1 rfl ?_
    refine g_iadd X dX0_hooksBetween_46 ?_
    exact hR _ _ _ _ dX0_hooksBetween_47 (kR_in (u := (v4 + v6)) hf)
  have J63 : ∀ (k5 : Int32 → Int32 → Int32 → Option (Int32)) (hk5 : ∀ (v2 : Int32) (v3 : Int32) (v4 : Int32), k5 v2 v3 v4 = some res → G 0 0 (wd_X0_hooksBetween cI cZ h_p0 h_p0_cells p0_most p0_width p0_size p0_N p0_cells) [(0, .ref h_p0), (2, .int v2), (3, .int v3), (4, .int v4)] 5 []) (v2 : Int32) (v3 : Int32) (v4 : Int32), f_X0_hooksBetween_63 p0_width p0_size p0_N p0_cells k5 v2 v3 v4 = some res → G 0 0 (wd_X0_hooksBetween cI cZ h_p0 h_p0_cells p0_most p0_width p0_size p0_N p0_cells) [(0, .ref h_p0), (2, .int v2), (3, .int v3), (4, .int v4)] 63 [] := by
    intro k5 hk5 v2 v3 v4 hf
    unfold f_X0_hooksBetween_63 at hf
    refine g_aload_n X dX0_hooksBetween_63 rfl 0 rfl ?_
    refine g_iload_n X dX0_hooksBetween_64 rfl 2 rfl ?_
    refine g_iconst (v := 4) X dX0_hooksBetween_65 (by decide) ?_
    obtain ⟨r_9, hk_10, hf⟩ := ob1_out hf
    refine g_cVR (st := []) (st1 := [.int r_9]) (C := RX7) (ci := 3) (q0 := 0) X (c_X7_get l D cI cZ h_p0 h_p0_cells p0_most p0_width p0_size p0_N p0_cells v3 4 _ hk_10) (Or.inl rfl) 2 gX0_hooksBetween_X7_get rfl hv_X7_get ⟨Nat.le_of_ble_eq_true rfl, Nat.le_of_ble_eq_true rfl⟩ rfl rfl (Nat.le_of_ble_eq_true rfl) ⟨rfl, rfl⟩ (Nat.zero_le _) (Nat.zero_le _) rfl rfl rfl dX0_hooksBetween_66 [0, 1] rfl rfl rfl ?_
    refine g_istore_n (lv' := [(0, .ref h_p0), (2, .int v2), (3, .int r_9), (4, .int v4)]) X dX0_hooksBetween_69 rfl (Nat.le_of_ble_eq_true rfl) [1, 2, 0, 3] rfl ?_
    obtain ⟨v4_11, ev4_11, hf⟩ := bnd_out hf
    refine g_iinc (v := v4_11) (lv' := [(0, .ref h_p0), (2, .int v2), (3, .int r_9), (4, .int v4_11)]) X dX0_hooksBetween_70 3 rfl (by rw [ev4_11]; rfl) (Nat.le_of_ble_eq_true rfl) [1, 2, 3, 0] rfl ?_
    refine g_goto (tgt := 5) X dX0_hooksBetween_73 (by decide) ?_
    exact hk5 v2 r_9 v4_11 hf
  have J23 : ∀ (k5 : Int32 → Int32 → Int32 → Option (Int32)) (hk5 : ∀ (v2 : Int32) (v3 : Int32) (v4 : Int32), k5 v2 v3 v4 = some res → G 0 0 (wd_X0_hooksBetween cI cZ h_p0 h_p0_cells p0_most p0_width p0_size p0_N p0_cells) [(0, .ref h_p0), (2, .int v2), (3, .int v3), (4, .int v4)] 5 []) (n : Nat) (v2 : Int32) (v3 : Int32) (v4 : Int32) (v5 : Int32) (v6 : Int32), f_X0_hooksBetween_23 p0_width p0_size p0_N p0_cells k5 n v2 v3 v4 v5 v6 = some res → G 0 0 (wd_X0_hooksBetween cI cZ h_p0 h_p0_cells p0_most p0_width p0_size p0_N p0_cells) [(0, .ref h_p0), (2, .int v2), (3, .int v3), (4, .int v4), (5, .int v5), (6, .int v6)] 23 [] := by
    intro k5 hk5 n
    induction n with
    | zero => intro v2 v3 v4 v5 v6 hf; rw [f_X0_hooksBetween_23] at hf; cases hf
    | succ n ih =>
      intro v2 v3 v4 v5 v6 hf
      rw [f_X0_hooksBetween_23] at hf
      refine g_iload X dX0_hooksBetween_23 5 rfl ?_
      refine g_bipush (v := 7) X dX0_hooksBetween_25 (by decide) ?_
      refine g_icmp_ge (tgt := 63) X dX0_hooksBetween_27 (by decide) (fun hc_3 => ?_) (fun hc_3 => ?_)
      · replace hf := ite_t hc_3 hf
        refine g_lv X (lv' := [(0, .ref h_p0), (2, .int v2), (3, .int v3), (4, .int v4)]) [0, 1, 2, 3] rfl ?_
        exact J63 k5 hk5 v2 v3 v4 hf
      · replace hf := ite_f hc_3 hf
        refine g_iload X dX0_hooksBetween_30 4 rfl ?_
        refine g_iconst (v := (-1)) X dX0_hooksBetween_32 (by decide) ?_
        refine g_icmp_eq (tgt := 63) X dX0_hooksBetween_33 (by decide) (fun hc_4 => ?_) (fun hc_4 => ?_)
        · replace hf := ite_t hc_4 hf
          refine g_lv X (lv' := [(0, .ref h_p0), (2, .int v2), (3, .int v3), (4, .int v4)]) [0, 1, 2, 3] rfl ?_
          exact J63 k5 hk5 v2 v3 v4 hf
        · replace hf := ite_f hc_4 hf
          refine g_iload_n X dX0_hooksBetween_36 rfl 2 rfl ?_
          refine g_iload X dX0_hooksBetween_37 4 rfl ?_
          refine g_icmp_ne (tgt := 48) X dX0_hooksBetween_39 (by decide) (fun hc_5 => ?_) (fun hc_5 => ?_)
          · replace hf := ite_f hc_5 hf
            refine g_aload_n X dX0_hooksBetween_48 rfl 0 rfl ?_
            refine g_iload X dX0_hooksBetween_49 4 rfl ?_
            refine g_iconst (v := 4) X dX0_hooksBetween_51 (by decide) ?_
            obtain ⟨r_6, hk_7, hf⟩ := ob1_out hf
            refine g_cVR (st := []) (st1 := [.int r_6]) (C := RX7) (ci := 3) (q0 := 0) X (c_X7_get l D cI cZ h_p0 h_p0_cells p0_most p0_width p0_size p0_N p0_cells v5 4 _ hk_7) (Or.inl rfl) 2 gX0_hooksBetween_X7_get rfl hv_X7_get ⟨Nat.le_of_ble_eq_true rfl, Nat.le_of_ble_eq_true rfl⟩ rfl rfl (Nat.le_of_ble_eq_true rfl) ⟨rfl, rfl⟩ (Nat.zero_le _) (Nat.zero_le _) rfl rfl rfl dX0_hooksBetween_52 [0, 1] rfl rfl rfl ?_
            refine g_istore (lv' := [(0, .ref h_p0), (2, .int v2), (3, .int v3), (4, .int v4), (5, .int r_6), (6, .int v6)]) X dX0_hooksBetween_55 (Nat.le_of_ble_eq_true rfl) [1, 2, 3, 4, 0, 5] rfl ?_
            obtain ⟨v6_8, ev6_8, hf⟩ := bnd_out hf
            refine g_iinc (v := v6_8) (lv' := [(0, .ref h_p0), (2, .int v2), (3, .int v3), (4, .int v4), (5, .int r_6), (6, .int v6_8)]) X dX0_hooksBetween_57 5 rfl (by rw [ev6_8]; rfl) (Nat.le_of_ble_eq_true rfl) [1, 2, 3, 4, 5, 0] rfl ?_
            refine g_goto (tgt := 23) X dX0_hooksBetween_60 (by decide) ?_
            exact ih v2 v3 v4 r_6 v6_8 hf
          · replace hf := ite_t hc_5 hf
            refine g_lv X (lv' := [(4, .int v4), (6, .int v6)]) [3, 5] rfl ?_
            exact J42 v4 v6 hf
  have J5 : ∀ (n : Nat) (v2 : Int32) (v3 : Int32) (v4 : Int32), f_X0_hooksBetween_5 p0_width p0_size p0_N p0_cells n v2 v3 v4 = some res → G 0 0 (wd_X0_hooksBetween cI cZ h_p0 h_p0_cells p0_most p0_width p0_size p0_N p0_cells) [(0, .ref h_p0), (2, .int v2), (3, .int v3), (4, .int v4)] 5 [] := by
    intro n
    induction n with
    | zero => intro v2 v3 v4 hf; rw [f_X0_hooksBetween_5] at hf; cases hf
    | succ n ih =>
      intro v2 v3 v4 hf
      rw [f_X0_hooksBetween_5] at hf
      refine g_iload X dX0_hooksBetween_5 3 rfl ?_
      refine g_bipush (v := 7) X dX0_hooksBetween_7 (by decide) ?_
      refine g_icmp_ge (tgt := 76) X dX0_hooksBetween_9 (by decide) (fun hc_1 => ?_) (fun hc_1 => ?_)
      · replace hf := ite_t hc_1 hf
        refine g_iconst (v := (-1)) X dX0_hooksBetween_76 (by decide) ?_
        exact hR _ _ _ _ dX0_hooksBetween_77 (kR_in (u := (-1)) hf)
      · replace hf := ite_f hc_1 hf
        refine g_iload_n X dX0_hooksBetween_12 rfl 2 rfl ?_
        refine g_iconst (v := (-1)) X dX0_hooksBetween_13 (by decide) ?_
        refine g_icmp_eq (tgt := 76) X dX0_hooksBetween_14 (by decide) (fun hc_2 => ?_) (fun hc_2 => ?_)
        · replace hf := ite_t hc_2 hf
          refine g_iconst (v := (-1)) X dX0_hooksBetween_76 (by decide) ?_
          exact hR _ _ _ _ dX0_hooksBetween_77 (kR_in (u := (-1)) hf)
        · replace hf := ite_f hc_2 hf
          refine g_iload_n X dX0_hooksBetween_17 rfl 1 rfl ?_
          refine g_istore (lv' := [(0, .ref h_p0), (2, .int v2), (3, .int v3), (4, .int v4), (5, .int v2)]) X dX0_hooksBetween_18 (Nat.le_of_ble_eq_true rfl) [1, 2, 3, 4, 0] rfl ?_
          refine g_iconst (v := 0) X dX0_hooksBetween_20 (by decide) ?_
          refine g_istore (lv' := [(0, .ref h_p0), (2, .int v2), (3, .int v3), (4, .int v4), (5, .int v2), (6, .int 0)]) X dX0_hooksBetween_21 (Nat.le_of_ble_eq_true rfl) [1, 2, 3, 4, 5, 0] rfl ?_
          exact J23 (f_X0_hooksBetween_5 p0_width p0_size p0_N p0_cells n) ih FU v2 v3 v4 v2 0 hf
  refine g_iload_n X dX0_hooksBetween_0 rfl 1 rfl ?_
  refine g_istore_n (lv' := [(0, .ref h_p0), (1, .int v1), (2, .int v2), (3, .int v1)]) X dX0_hooksBetween_1 rfl (Nat.le_of_ble_eq_true rfl) [1, 2, 3, 0] rfl ?_
  refine g_iconst (v := 0) X dX0_hooksBetween_2 (by decide) ?_
  refine g_istore (lv' := [(0, .ref h_p0), (1, .int v1), (2, .int v2), (3, .int v1), (4, .int 0)]) X dX0_hooksBetween_3 (Nat.le_of_ble_eq_true rfl) [1, 2, 3, 4, 0] rfl ?_
  refine g_lv X (lv' := [(0, .ref h_p0), (2, .int v2), (3, .int v1), (4, .int 0)]) [0, 2, 3, 4] rfl ?_
  exact J5 FU v2 v1 0 hf
def wd_X0_longest (cI cZ : ClassId) (h_p0 : Nat) (h_p0_cells : Nat) (p0_most : Int32) (p0_width : Int32) (p0_size : Int32) (p0_N : Nat) (p0_cells : (Nat → Int32)) : va_W := [(h_p0, .inr (3, [.int p0_most, .int p0_width, .ref h_p0_cells, .int p0_size])), (h_p0_cells, .inl (cI, p0_N, .inl p0_cells))]
abbrev rm_X0_longest : Room := { frames := 2, cells := 0, slots := 0, locals := 50 }
theorem hs_X0_longest : yX0_longest.cls ≠ "java/lang/invoke/MethodHandle" ∧ yX0_longest.cls ≠ "java/lang/invoke/VarHandle" ∧ (parseMethodDescriptor yX0_longest.desc).map (fun d => d.parameters.length) = some 2 := by decide +kernel
theorem lk_X0_longest_iX11 : Cond.initialized RX11 ∈ wsX0_longest := by decide +kernel
theorem lk_X0_longest_sX11_hasBit : Cond.static yX11_hasBit ∈ wsX0_longest := by decide +kernel
theorem lk_X0_longest_m47 : Cond.methodLink RX0 47 Lib.Math.max.name ∈ wsX0_longest := by decide +kernel
theorem lk_X0_longest_smax : Cond.static Lib.Math.max.name ∈ wsX0_longest := by decide +kernel
theorem lk_X0_longest_iMath : Cond.initialized "java/lang/Math" ∈ wsX0_longest := by decide +kernel
theorem lk_X0_longest_cmax : Cond.code Lib.Math.max.name Lib.Math.max.code 2 (some .int) ∈ wsX0_longest := by decide +kernel
set_option maxHeartbeats 4000000 in
set_option maxRecDepth 100000 in
theorem c_X0_longest (l : Launch) (D : va_G) (cI cZ : ClassId) (h_p0 : Nat) (h_p0_cells : Nat) (p0_most : Int32) (p0_width : Int32) (p0_size : Int32) (p0_N : Nat) (p0_cells : (Nat → Int32)) (v1 : Int32) (res : Int32) (hf : f_X0_longest p0_width p0_size p0_N p0_cells v1 = some res) : MetR l yX0_longest wsX0_longest rm_X0_longest D cI cZ none [.ref h_p0, .int v1] (wd_X0_longest cI cZ h_p0 h_p0_cells p0_most p0_width p0_size p0_N p0_cells) (kR res (fun u => some (.int u))) := by
  refine metR_of (cc := cX0_longest) (maxL := 5) (ret := (some .int)) (own := RX0) (lv0 := [(0, .ref h_p0), (1, .int v1)]) (by decide) rfl (Nat.le_of_ble_eq_true rfl) rfl rfl (fun G X hR => ?_)
  replace hR := rt_int hR
  unfold f_X0_longest at hf
  have J52 : ∀ (k4 : Int32 → Int32 → Int32 → Option (Int32)) (hk4 : ∀ (v1 : Int32) (v2 : Int32) (v3 : Int32), k4 v1 v2 v3 = some res → G 0 0 (wd_X0_longest cI cZ h_p0 h_p0_cells p0_most p0_width p0_size p0_N p0_cells) [(0, .ref h_p0), (1, .int v1), (2, .int v2), (3, .int v3)] 4 []) (k15 : Int32 → Int32 → Int32 → Int32 → Option (Int32)) (hk15 : ∀ (v1 : Int32) (v2 : Int32) (v3 : Int32) (v4 : Int32), k15 v1 v2 v3 v4 = some res → G 0 0 (wd_X0_longest cI cZ h_p0 h_p0_cells p0_most p0_width p0_size p0_N p0_cells) [(0, .ref h_p0), (1, .int v1), (2, .int v2), (3, .int v3), (4, .int v4)] 15 []) (v1 : Int32) (v2 : Int32) (v3 : Int32) (v4 : Int32), f_X0_longest_52 p0_width p0_size p0_N p0_cells k4 k15 v1 v2 v3 v4 = some res → G 0 0 (wd_X0_longest cI cZ h_p0 h_p0_cells p0_most p0_width p0_size p0_N p0_cells) [(0, .ref h_p0), (1, .int v1), (2, .int v2), (3, .int v3), (4, .int v4)] 52 [] := by
    intro k4 hk4 k15 hk15 v1 v2 v3 v4 hf
    unfold f_X0_longest_52 at hf
    obtain ⟨v4_14, ev4_14, hf⟩ := bnd_out hf
    refine g_iinc (v := v4_14) (lv' := [(0, .ref h_p0), (1, .int v1), (2, .int v2), (3, .int v3), (4, .int v4_14)]) X dX0_longest_52 4 rfl (by rw [ev4_14]; rfl) (Nat.le_of_ble_eq_true rfl) [1, 2, 3, 4, 0] rfl ?_
    refine g_goto (tgt := 15) X dX0_longest_55 (by decide) ?_
    exact hk15 v1 v2 v3 v4_14 hf
  have J58 : ∀ (k4 : Int32 → Int32 → Int32 → Option (Int32)) (hk4 : ∀ (v1 : Int32) (v2 : Int32) (v3 : Int32), k4 v1 v2 v3 = some res → G 0 0 (wd_X0_longest cI cZ h_p0 h_p0_cells p0_most p0_width p0_size p0_N p0_cells) [(0, .ref h_p0), (1, .int v1), (2, .int v2), (3, .int v3)] 4 []) (v1 : Int32) (v2 : Int32) (v3 : Int32), f_X0_longest_58 p0_width p0_size p0_N p0_cells k4 v1 v2 v3 = some res → G 0 0 (wd_X0_longest cI cZ h_p0 h_p0_cells p0_most p0_width p0_size p0_N p0_cells) [(0, .ref h_p0), (1, .int v1), (2, .int v2), (3, .int v3)] 58 [] := by
    intro k4 hk4 v1 v2 v3 hf
    unfold f_X0_longest_58 at hf
    obtain ⟨v3_15, ev3_15, hf⟩ := bnd_out hf
    refine g_iinc (v := v3_15) (lv' := [(0, .ref h_p0), (1, .int v1), (2, .int v2), (3, .int v3_15)]) X dX0_longest_58 3 rfl (by rw [ev3_15]; rfl) (Nat.le_of_ble_eq_true rfl) [1, 2, 3, 0] rfl ?_
    refine g_goto (tgt := 4) X dX0_longest_61 (by decide) ?_
    exact hk4 v1 v2 v3_15 hf
  have J15 : ∀ (k4 : Int32 → Int32 → Int32 → Option (Int32)) (hk4 : ∀ (v1 : Int32) (v2 : Int32) (v3 : Int32), k4 v1 v2 v3 = some res → G 0 0 (wd_X0_longest cI cZ h_p0 h_p0_cells p0_most p0_width p0_size p0_N p0_cells) [(0, .ref h_p0), (1, .int v1), (2, .int v2), (3, .int v3)] 4 []) (n : Nat) (v1 : Int32) (v2 : Int32) (v3 : Int32) (v4 : Int32), f_X0_longest_15 p0_width p0_size p0_N p0_cells k4 n v1 v2 v3 v4 = some res → G 0 0 (wd_X0_longest cI cZ h_p0 h_p0_cells p0_most p0_width p0_size p0_N p0_cells) [(0, .ref h_p0), (1, .int v1), (2, .int v2), (3, .int v3), (4, .int v4)] 15 [] := by
    intro k4 hk4 n
    induction n with
    | zero => intro v1 v2 v3 v4 hf; rw [f_X0_longest_15] at hf; cases hf
    | succ n ih =>
      intro v1 v2 v3 v4 hf
      rw [f_X0_longest_15] at hf
      refine g_iload X dX0_longest_15 4 rfl ?_
      refine g_iload_n X dX0_longest_17 rfl 3 rfl ?_
      refine g_icmp_ge (tgt := 58) X dX0_longest_18 (by decide) (fun hc_4 => ?_) (fun hc_4 => ?_)
      · replace hf := ite_t hc_4 hf
        refine g_lv X (lv' := [(0, .ref h_p0), (1, .int v1), (2, .int v2), (3, .int v3)]) [0, 1, 2, 3] rfl ?_
        exact J58 k4 hk4 v1 v2 v3 hf
      · replace hf := ite_f hc_4 hf
        refine g_iload_n X dX0_longest_21 rfl 1 rfl ?_
        refine g_iload_n X dX0_longest_22 rfl 3 rfl ?_
        obtain ⟨r_5, hk_6, hf⟩ := ob1_out hf
        refine g_cNR (st := []) (st1 := [.int r_5]) X (c_X11_hasBit l D cI cZ v1 v3 _ hk_6) (Or.inl rfl) 2 gX0_longest_X11_hasBit_n9 (by decide +kernel) lk_X0_longest_iX11 lk_X0_longest_sX11_hasBit rfl hs_X11_hasBit ⟨Nat.le_of_ble_eq_true rfl, Nat.le_of_ble_eq_true rfl⟩ rfl rfl (Nat.le_of_ble_eq_true rfl) ⟨rfl, rfl⟩ (Nat.zero_le _) (Nat.zero_le _) dX0_longest_23 [] rfl rfl rfl ?_
        refine g_if_eq (tgt := 52) X dX0_longest_26 (by decide) (fun hc_7 => ?_) (fun hc_7 => ?_)
        · replace hf := ite_t hc_7 hf
          exact J52 k4 hk4 (f_X0_longest_15 p0_width p0_size p0_N p0_cells k4 n) ih v1 v2 v3 v4 hf
        · replace hf := ite_f hc_7 hf
          refine g_iload_n X dX0_longest_29 rfl 1 rfl ?_
          refine g_iload X dX0_longest_30 4 rfl ?_
          obtain ⟨r_8, hk_9, hf⟩ := ob1_out hf
          refine g_cNR (st := []) (st1 := [.int r_8]) X (c_X11_hasBit l D cI cZ v1 v4 _ hk_9) (Or.inl rfl) 2 gX0_longest_X11_hasBit_n9 (by decide +kernel) lk_X0_longest_iX11 lk_X0_longest_sX11_hasBit rfl hs_X11_hasBit ⟨Nat.le_of_ble_eq_true rfl, Nat.le_of_ble_eq_true rfl⟩ rfl rfl (Nat.le_of_ble_eq_true rfl) ⟨rfl, rfl⟩ (Nat.zero_le _) (Nat.zero_le _) dX0_longest_32 [] rfl rfl rfl ?_
          refine g_if_eq (tgt := 52) X dX0_longest_35 (by decide) (fun hc_10 => ?_) (fun hc_10 => ?_)
          · replace hf := ite_t hc_10 hf
            exact J52 k4 hk4 (f_X0_longest_15 p0_width p0_size p0_N p0_cells k4 n) ih v1 v2 v3 v4 hf
          · replace hf := ite_f hc_10 hf
            refine g_iload_n X dX0_longest_38 rfl 2 rfl ?_
            refine g_aload_n X dX0_longest_39 rfl 0 rfl ?_
            refine g_iload_n X dX0_longest_40 rfl 3 rfl ?_
            refine g_iload X dX0_longest_41 4 rfl ?_
            obtain ⟨r_11, hk_12, hf⟩ := ob1_out hf
            refine g_cSR (st := [.int v2]) (st1 := [.int r_11, .int v2]) X (c_X0_hooksBetween l D cI cZ h_p0 h_p0_cells p0_most p0_width p0_size p0_N p0_cells v3 v4 _ hk_12) (Or.inl rfl) 3 gX0_longest_X0_hooksBetween rfl hs_X0_hooksBetween ⟨Nat.le_of_ble_eq_true rfl, Nat.le_of_ble_eq_true rfl⟩ rfl rfl (Nat.le_of_ble_eq_true rfl) ⟨rfl, rfl⟩ (Nat.zero_le _) (Nat.zero_le _) dX0_longest_43 [0, 1] rfl rfl rfl ?_
            refine g_iconst (v := 1) X dX0_longest_46 (by decide) ?_
            refine g_iadd X dX0_longest_47 ?_
            refine g_mmax X lk_X0_longest_m47 lk_X0_longest_smax lk_X0_longest_iMath lk_X0_longest_cmax dX0_longest_48 (Nat.le_of_ble_eq_true rfl) (Nat.le_of_ble_eq_true rfl) (Nat.zero_le _) (Nat.zero_le _) ?_
            obtain ⟨v2_13, ev2_13, hf⟩ := bnd_out hf
            refine g_nmI X ev2_13 ?_
            refine g_istore_n (lv' := [(0, .ref h_p0), (1, .int v1), (2, .int v2_13), (3, .int v3), (4, .int v4)]) X dX0_longest_51 rfl (Nat.le_of_ble_eq_true rfl) [1, 2, 0, 3, 4] rfl ?_
            exact J52 k4 hk4 (f_X0_longest_15 p0_width p0_size p0_N p0_cells k4 n) ih v1 v2_13 v3 v4 hf
  have J4 : ∀ (n : Nat) (v1 : Int32) (v2 : Int32) (v3 : Int32), f_X0_longest_4 p0_width p0_size p0_N p0_cells n v1 v2 v3 = some res → G 0 0 (wd_X0_longest cI cZ h_p0 h_p0_cells p0_most p0_width p0_size p0_N p0_cells) [(0, .ref h_p0), (1, .int v1), (2, .int v2), (3, .int v3)] 4 [] := by
    intro n
    induction n with
    | zero => intro v1 v2 v3 hf; rw [f_X0_longest_4] at hf; cases hf
    | succ n ih =>
      intro v1 v2 v3 hf
      rw [f_X0_longest_4] at hf
      refine g_iload_n X dX0_longest_4 rfl 3 rfl ?_
      refine g_aload_n X dX0_longest_5 rfl 0 rfl ?_
      obtain ⟨r_1, hk_2, hf⟩ := ob1_out hf
      refine g_cVR (st := [.int v3]) (st1 := [.int r_1, .int v3]) (C := RX7) (ci := 3) (q0 := 0) X (c_X7_size l D cI cZ h_p0 h_p0_cells p0_most p0_width p0_size _ hk_2) (Or.inl rfl) 0 gX0_longest_X7_size rfl hv_X7_size ⟨Nat.le_of_ble_eq_true rfl, Nat.le_of_ble_eq_true rfl⟩ rfl rfl (Nat.le_of_ble_eq_true rfl) ⟨rfl, rfl⟩ (Nat.zero_le _) (Nat.zero_le _) rfl rfl rfl dX0_longest_6 [0] rfl rfl rfl ?_
      refine g_icmp_ge (tgt := 64) X dX0_longest_9 (by decide) (fun hc_3 => ?_) (fun hc_3 => ?_)
      · replace hf := ite_t hc_3 hf
        refine g_iload_n X dX0_longest_64 rfl 2 rfl ?_
        exact hR _ _ _ _ dX0_longest_65 (kR_in (u := v2) hf)
      · replace hf := ite_f hc_3 hf
        refine g_iconst (v := 0) X dX0_longest_12 (by decide) ?_
        refine g_istore (lv' := [(0, .ref h_p0), (1, .int v1), (2, .int v2), (3, .int v3), (4, .int 0)]) X dX0_longest_13 (Nat.le_of_ble_eq_true rfl) [1, 2, 3, 4, 0] rfl ?_
        exact J15 (f_X0_longest_4 p0_width p0_size p0_N p0_cells n) ih FU v1 v2 v3 0 hf
  refine g_iconst (v := 1) X dX0_longest_0 (by decide) ?_
  refine g_istore_n (lv' := [(0, .ref h_p0), (1, .int v1), (2, .int 1)]) X dX0_longest_1 rfl (Nat.le_of_ble_eq_true rfl) [1, 2, 0] rfl ?_
  refine g_iconst (v := 0) X dX0_longest_2 (by decide) ?_
  refine g_istore_n (lv' := [(0, .ref h_p0), (1, .int v1), (2, .int 1), (3, .int 0)]) X dX0_longest_3 rfl (Nat.le_of_ble_eq_true rfl) [1, 2, 3, 0] rfl ?_
  exact J4 FU v1 1 0 hf
def wd_X0_howMany (cI cZ : ClassId) (h_p0 : Nat) (h_p0_cells : Nat) (p0_most : Int32) (p0_width : Int32) (p0_size : Int32) (p0_N : Nat) (p0_cells : (Nat → Int32)) : va_W := [(h_p0, .inr (3, [.int p0_most, .int p0_width, .ref h_p0_cells, .int p0_size])), (h_p0_cells, .inl (cI, p0_N, .inl p0_cells))]
abbrev rm_X0_howMany : Room := { frames := 2, cells := 0, slots := 0, locals := 47 }
theorem hs_X0_howMany : yX0_howMany.cls ≠ "java/lang/invoke/MethodHandle" ∧ yX0_howMany.cls ≠ "java/lang/invoke/VarHandle" ∧ (parseMethodDescriptor yX0_howMany.desc).map (fun d => d.parameters.length) = some 1 := by decide +kernel
set_option maxHeartbeats 4000000 in
set_option maxRecDepth 100000 in
theorem c_X0_howMany (l : Launch) (D : va_G) (cI cZ : ClassId) (h_p0 : Nat) (h_p0_cells : Nat) (p0_most : Int32) (p0_width : Int32) (p0_size : Int32) (p0_N : Nat) (p0_cells : (Nat → Int32)) (res : Int32) (hf : f_X0_howMany p0_width p0_size p0_N p0_cells = some res) : MetR l yX0_howMany wsX0_howMany rm_X0_howMany D cI cZ none [.ref h_p0] (wd_X0_howMany cI cZ h_p0 h_p0_cells p0_most p0_width p0_size p0_N p0_cells) (kR res (fun u => some (.int u))) := by
  refine metR_of (cc := cX0_howMany) (maxL := 1) (ret := (some .int)) (own := RX0) (lv0 := [(0, .ref h_p0)]) (by decide) rfl (Nat.le_of_ble_eq_true rfl) rfl rfl (fun G X hR => ?_)
  replace hR := rt_int hR
  unfold f_X0_howMany at hf
  refine g_aload_n X dX0_howMany_0 rfl 0 rfl ?_
  refine g_iconst (v := (-1)) X dX0_howMany_1 (by decide) ?_
  obtain ⟨r_1, hk_2, hf⟩ := ob1_out hf
  refine g_cSR (st := []) (st1 := [.int r_1]) X (c_X0_howManyOn l D cI cZ h_p0 h_p0_cells p0_most p0_width p0_size p0_N p0_cells (-1) _ hk_2) (Or.inl rfl) 2 gX0_howMany_X0_howManyOn rfl hs_X0_howManyOn ⟨Nat.le_of_ble_eq_true rfl, Nat.le_of_ble_eq_true rfl⟩ rfl rfl (Nat.le_of_ble_eq_true rfl) ⟨rfl, rfl⟩ (Nat.zero_le _) (Nat.zero_le _) dX0_howMany_2 [0, 1] rfl rfl rfl ?_
  exact hR _ _ _ _ dX0_howMany_5 (kR_in (u := r_1) hf)
def wd_X0_ends (cI cZ : ClassId) (h_p0 : Nat) (h_p0_cells : Nat) (p0_most : Int32) (p0_width : Int32) (p0_size : Int32) (p0_N : Nat) (p0_cells : (Nat → Int32)) : va_W := [(h_p0, .inr (3, [.int p0_most, .int p0_width, .ref h_p0_cells, .int p0_size])), (h_p0_cells, .inl (cI, p0_N, .inl p0_cells))]
abbrev rm_X0_ends : Room := { frames := 2, cells := 0, slots := 0, locals := 47 }
theorem hs_X0_ends : yX0_ends.cls ≠ "java/lang/invoke/MethodHandle" ∧ yX0_ends.cls ≠ "java/lang/invoke/VarHandle" ∧ (parseMethodDescriptor yX0_ends.desc).map (fun d => d.parameters.length) = some 1 := by decide +kernel
set_option maxHeartbeats 4000000 in
set_option maxRecDepth 100000 in
theorem c_X0_ends (l : Launch) (D : va_G) (cI cZ : ClassId) (h_p0 : Nat) (h_p0_cells : Nat) (p0_most : Int32) (p0_width : Int32) (p0_size : Int32) (p0_N : Nat) (p0_cells : (Nat → Int32)) (res : Int32) (hf : f_X0_ends p0_width p0_size p0_N p0_cells = some res) : MetR l yX0_ends wsX0_ends rm_X0_ends D cI cZ none [.ref h_p0] (wd_X0_ends cI cZ h_p0 h_p0_cells p0_most p0_width p0_size p0_N p0_cells) (kR res (fun u => some (.int u))) := by
  refine metR_of (cc := cX0_ends) (maxL := 4) (ret := (some .int)) (own := RX0) (lv0 := [(0, .ref h_p0)]) (by decide) rfl (Nat.le_of_ble_eq_true rfl) rfl rfl (fun G X hR => ?_)
  replace hR := rt_int hR
  unfold f_X0_ends at hf
  have J47 : ∀ (k4 : Int32 → Int32 → Option (Int32)) (hk4 : ∀ (v1 : Int32) (v2 : Int32), k4 v1 v2 = some res → G 0 0 (wd_X0_ends cI cZ h_p0 h_p0_cells p0_most p0_width p0_size p0_N p0_cells) [(0, .ref h_p0), (1, .int v1), (2, .int v2)] 4 []) (v2 : Int32) (s0 : Int32) (s1 : Int32), f_X0_ends_47 p0_width p0_size p0_N p0_cells k4 v2 s0 s1 = some res → G 0 0 (wd_X0_ends cI cZ h_p0 h_p0_cells p0_most p0_width p0_size p0_N p0_cells) [(0, .ref h_p0), (2, .int v2)] 47 [.int s1, .int s0] := by
    intro k4 hk4 v2 s0 s1 hf
    unfold f_X0_ends_47 at hf
    refine g_ior X dX0_ends_47 ?_
    obtain ⟨v1_11, ev1_11, hf⟩ := bnd_out hf
    refine g_nmI X ev1_11 ?_
    refine g_istore_n (lv' := [(0, .ref h_p0), (1, .int v1_11), (2, .int v2)]) X dX0_ends_48 rfl (Nat.le_of_ble_eq_true rfl) [1, 0, 2] rfl ?_
    obtain ⟨v2_12, ev2_12, hf⟩ := bnd_out hf
    refine g_iinc (v := v2_12) (lv' := [(0, .ref h_p0), (1, .int v1_11), (2, .int v2_12)]) X dX0_ends_49 2 rfl (by rw [ev2_12]; rfl) (Nat.le_of_ble_eq_true rfl) [1, 2, 0] rfl ?_
    refine g_goto (tgt := 4) X dX0_ends_52 (by decide) ?_
    exact hk4 v1_11 v2_12 hf
  have J32 : ∀ (k4 : Int32 → Int32 → Option (Int32)) (hk4 : ∀ (v1 : Int32) (v2 : Int32), k4 v1 v2 = some res → G 0 0 (wd_X0_ends cI cZ h_p0 h_p0_cells p0_most p0_width p0_size p0_N p0_cells) [(0, .ref h_p0), (1, .int v1), (2, .int v2)] 4 []) (v1 : Int32) (v2 : Int32) (s0 : Int32) (s1 : Int32), f_X0_ends_32 p0_width p0_size p0_N p0_cells k4 v1 v2 s0 s1 = some res → G 0 0 (wd_X0_ends cI cZ h_p0 h_p0_cells p0_most p0_width p0_size p0_N p0_cells) [(0, .ref h_p0), (1, .int v1), (2, .int v2)] 32 [.int s1, .int s0] := by
    intro k4 hk4 v1 v2 s0 s1 hf
    unfold f_X0_ends_32 at hf
    refine g_iadd X dX0_ends_32 ?_
    obtain ⟨v3_9, ev3_9, hf⟩ := bnd_out hf
    refine g_nmI X ev3_9 ?_
    refine g_istore_n (lv' := [(0, .ref h_p0), (1, .int v1), (2, .int v2), (3, .int v3_9)]) X dX0_ends_33 rfl (Nat.le_of_ble_eq_true rfl) [1, 2, 3, 0] rfl ?_
    refine g_iload_n X dX0_ends_34 rfl 1 rfl ?_
    refine g_iload_n X dX0_ends_35 rfl 3 rfl ?_
    refine g_iconst (v := 1) X dX0_ends_36 (by decide) ?_
    refine g_icmp_gt (tgt := 46) X dX0_ends_37 (by decide) (fun hc_10 => ?_) (fun hc_10 => ?_)
    · replace hf := ite_t hc_10 hf
      refine g_iconst (v := 0) X dX0_ends_46 (by decide) ?_
      refine g_lv X (lv' := [(0, .ref h_p0), (2, .int v2)]) [0, 2] rfl ?_
      exact J47 k4 hk4 v2 v1 0 hf
    · replace hf := ite_f hc_10 hf
      refine g_iconst (v := 1) X dX0_ends_40 (by decide) ?_
      refine g_iload_n X dX0_ends_41 rfl 2 rfl ?_
      refine g_ishl X dX0_ends_42 ?_
      refine g_goto (tgt := 47) X dX0_ends_43 (by decide) ?_
      refine g_lv X (lv' := [(0, .ref h_p0), (2, .int v2)]) [0, 2] rfl ?_
      exact J47 k4 hk4 v2 v1 (1 <<< (v2 &&& 31)) hf
  have J4 : ∀ (n : Nat) (v1 : Int32) (v2 : Int32), f_X0_ends_4 p0_width p0_size p0_N p0_cells n v1 v2 = some res → G 0 0 (wd_X0_ends cI cZ h_p0 h_p0_cells p0_most p0_width p0_size p0_N p0_cells) [(0, .ref h_p0), (1, .int v1), (2, .int v2)] 4 [] := by
    intro n
    induction n with
    | zero => intro v1 v2 hf; rw [f_X0_ends_4] at hf; cases hf
    | succ n ih =>
      intro v1 v2 hf
      rw [f_X0_ends_4] at hf
      refine g_iload_n X dX0_ends_4 rfl 2 rfl ?_
      refine g_aload_n X dX0_ends_5 rfl 0 rfl ?_
      obtain ⟨r_1, hk_2, hf⟩ := ob1_out hf
      refine g_cVR (st := [.int v2]) (st1 := [.int r_1, .int v2]) (C := RX7) (ci := 3) (q0 := 0) X (c_X7_size l D cI cZ h_p0 h_p0_cells p0_most p0_width p0_size _ hk_2) (Or.inl rfl) 0 gX0_ends_X7_size rfl hv_X7_size ⟨Nat.le_of_ble_eq_true rfl, Nat.le_of_ble_eq_true rfl⟩ rfl rfl (Nat.le_of_ble_eq_true rfl) ⟨rfl, rfl⟩ (Nat.zero_le _) (Nat.zero_le _) rfl rfl rfl dX0_ends_6 [0] rfl rfl rfl ?_
      refine g_icmp_ge (tgt := 55) X dX0_ends_9 (by decide) (fun hc_3 => ?_) (fun hc_3 => ?_)
      · replace hf := ite_t hc_3 hf
        refine g_iload_n X dX0_ends_55 rfl 1 rfl ?_
        exact hR _ _ _ _ dX0_ends_56 (kR_in (u := v1) hf)
      · replace hf := ite_f hc_3 hf
        refine g_aload_n X dX0_ends_12 rfl 0 rfl ?_
        refine g_iload_n X dX0_ends_13 rfl 2 rfl ?_
        obtain ⟨r_4, hk_5, hf⟩ := ob1_out hf
        refine g_cSR (st := []) (st1 := [.int r_4]) X (c_X0_howManyOn l D cI cZ h_p0 h_p0_cells p0_most p0_width p0_size p0_N p0_cells v2 _ hk_5) (Or.inl rfl) 2 gX0_ends_X0_howManyOn rfl hs_X0_howManyOn ⟨Nat.le_of_ble_eq_true rfl, Nat.le_of_ble_eq_true rfl⟩ rfl rfl (Nat.le_of_ble_eq_true rfl) ⟨rfl, rfl⟩ (Nat.zero_le _) (Nat.zero_le _) dX0_ends_14 [0, 1] rfl rfl rfl ?_
        refine g_aload_n X dX0_ends_17 rfl 0 rfl ?_
        refine g_iload_n X dX0_ends_18 rfl 2 rfl ?_
        refine g_iconst (v := 4) X dX0_ends_19 (by decide) ?_
        obtain ⟨r_6, hk_7, hf⟩ := ob1_out hf
        refine g_cVR (st := [.int r_4]) (st1 := [.int r_6, .int r_4]) (C := RX7) (ci := 3) (q0 := 0) X (c_X7_get l D cI cZ h_p0 h_p0_cells p0_most p0_width p0_size p0_N p0_cells v2 4 _ hk_7) (Or.inl rfl) 2 gX0_ends_X7_get rfl hv_X7_get ⟨Nat.le_of_ble_eq_true rfl, Nat.le_of_ble_eq_true rfl⟩ rfl rfl (Nat.le_of_ble_eq_true rfl) ⟨rfl, rfl⟩ (Nat.zero_le _) (Nat.zero_le _) rfl rfl rfl dX0_ends_20 [0, 1] rfl rfl rfl ?_
        refine g_iconst (v := (-1)) X dX0_ends_23 (by decide) ?_
        refine g_icmp_ne (tgt := 31) X dX0_ends_24 (by decide) (fun hc_8 => ?_) (fun hc_8 => ?_)
        · replace hf := ite_f hc_8 hf
          refine g_iconst (v := 1) X dX0_ends_31 (by decide) ?_
          exact J32 (f_X0_ends_4 p0_width p0_size p0_N p0_cells n) ih v1 v2 r_4 1 hf
        · replace hf := ite_t hc_8 hf
          refine g_iconst (v := 0) X dX0_ends_27 (by decide) ?_
          refine g_goto (tgt := 32) X dX0_ends_28 (by decide) ?_
          exact J32 (f_X0_ends_4 p0_width p0_size p0_N p0_cells n) ih v1 v2 r_4 0 hf
  refine g_iconst (v := 0) X dX0_ends_0 (by decide) ?_
  refine g_istore_n (lv' := [(0, .ref h_p0), (1, .int 0)]) X dX0_ends_1 rfl (Nat.le_of_ble_eq_true rfl) [1, 0] rfl ?_
  refine g_iconst (v := 0) X dX0_ends_2 (by decide) ?_
  refine g_istore_n (lv' := [(0, .ref h_p0), (1, .int 0), (2, .int 0)]) X dX0_ends_3 rfl (Nat.le_of_ble_eq_true rfl) [1, 2, 0] rfl ?_
  exact J4 FU 0 0 hf
def wd_X0_holdersFor (cI cZ : ClassId) (h_p0 : Nat) (h_p0_cells : Nat) (p0_most : Int32) (p0_width : Int32) (p0_size : Int32) (p0_N : Nat) (p0_cells : (Nat → Int32)) : va_W := [(h_p0, .inr (3, [.int p0_most, .int p0_width, .ref h_p0_cells, .int p0_size])), (h_p0_cells, .inl (cI, p0_N, .inl p0_cells))]
abbrev rm_X0_holdersFor : Room := { frames := 4, cells := 0, slots := 0, locals := 90 }
theorem hs_X0_holdersFor : yX0_holdersFor.cls ≠ "java/lang/invoke/MethodHandle" ∧ yX0_holdersFor.cls ≠ "java/lang/invoke/VarHandle" ∧ (parseMethodDescriptor yX0_holdersFor.desc).map (fun d => d.parameters.length) = some 2 := by decide +kernel
set_option maxHeartbeats 4000000 in
set_option maxRecDepth 100000 in
theorem c_X0_holdersFor (l : Launch) (D : va_G) (cI cZ : ClassId) (h_p0 : Nat) (h_p0_cells : Nat) (p0_most : Int32) (p0_width : Int32) (p0_size : Int32) (p0_N : Nat) (p0_cells : (Nat → Int32)) (v1 : Int32) (res : Int32) (hf : f_X0_holdersFor p0_width p0_size p0_N p0_cells v1 = some res) : MetR l yX0_holdersFor wsX0_holdersFor rm_X0_holdersFor D cI cZ none [.ref h_p0, .int v1] (wd_X0_holdersFor cI cZ h_p0 h_p0_cells p0_most p0_width p0_size p0_N p0_cells) (kR res (fun u => some (.int u))) := by
  refine metR_of (cc := cX0_holdersFor) (maxL := 4) (ret := (some .int)) (own := RX0) (lv0 := [(0, .ref h_p0), (1, .int v1)]) (by decide) rfl (Nat.le_of_ble_eq_true rfl) rfl rfl (fun G X hR => ?_)
  replace hR := rt_int hR
  unfold f_X0_holdersFor at hf
  have J29 : ∀ (k4 : Int32 → Int32 → Int32 → Option (Int32)) (hk4 : ∀ (v1 : Int32) (v2 : Int32) (v3 : Int32), k4 v1 v2 v3 = some res → G 0 0 (wd_X0_holdersFor cI cZ h_p0 h_p0_cells p0_most p0_width p0_size p0_N p0_cells) [(0, .ref h_p0), (1, .int v1), (2, .int v2), (3, .int v3)] 4 []) (v1 : Int32) (v3 : Int32) (s0 : Int32) (s1 : Int32), f_X0_holdersFor_29 p0_width p0_size p0_N p0_cells k4 v1 v3 s0 s1 = some res → G 0 0 (wd_X0_holdersFor cI cZ h_p0 h_p0_cells p0_most p0_width p0_size p0_N p0_cells) [(0, .ref h_p0), (1, .int v1), (3, .int v3)] 29 [.int s1, .int s0] := by
    intro k4 hk4 v1 v3 s0 s1 hf
    unfold f_X0_holdersFor_29 at hf
    refine g_ior X dX0_holdersFor_29 ?_
    obtain ⟨v2_7, ev2_7, hf⟩ := bnd_out hf
    refine g_nmI X ev2_7 ?_
    refine g_istore_n (lv' := [(0, .ref h_p0), (1, .int v1), (2, .int v2_7), (3, .int v3)]) X dX0_holdersFor_30 rfl (Nat.le_of_ble_eq_true rfl) [1, 2, 0, 3] rfl ?_
    obtain ⟨v3_8, ev3_8, hf⟩ := bnd_out hf
    refine g_iinc (v := v3_8) (lv' := [(0, .ref h_p0), (1, .int v1), (2, .int v2_7), (3, .int v3_8)]) X dX0_holdersFor_31 3 rfl (by rw [ev3_8]; rfl) (Nat.le_of_ble_eq_true rfl) [1, 2, 3, 0] rfl ?_
    refine g_goto (tgt := 4) X dX0_holdersFor_34 (by decide) ?_
    exact hk4 v1 v2_7 v3_8 hf
  have J4 : ∀ (n : Nat) (v1 : Int32) (v2 : Int32) (v3 : Int32), f_X0_holdersFor_4 p0_width p0_size p0_N p0_cells n v1 v2 v3 = some res → G 0 0 (wd_X0_holdersFor cI cZ h_p0 h_p0_cells p0_most p0_width p0_size p0_N p0_cells) [(0, .ref h_p0), (1, .int v1), (2, .int v2), (3, .int v3)] 4 [] := by
    intro n
    induction n with
    | zero => intro v1 v2 v3 hf; rw [f_X0_holdersFor_4] at hf; cases hf
    | succ n ih =>
      intro v1 v2 v3 hf
      rw [f_X0_holdersFor_4] at hf
      refine g_iload_n X dX0_holdersFor_4 rfl 3 rfl ?_
      refine g_aload_n X dX0_holdersFor_5 rfl 0 rfl ?_
      obtain ⟨r_1, hk_2, hf⟩ := ob1_out hf
      refine g_cVR (st := [.int v3]) (st1 := [.int r_1, .int v3]) (C := RX7) (ci := 3) (q0 := 0) X (c_X7_size l D cI cZ h_p0 h_p0_cells p0_most p0_width p0_size _ hk_2) (Or.inl rfl) 0 gX0_holdersFor_X7_size rfl hv_X7_size ⟨Nat.le_of_ble_eq_true rfl, Nat.le_of_ble_eq_true rfl⟩ rfl rfl (Nat.le_of_ble_eq_true rfl) ⟨rfl, rfl⟩ (Nat.zero_le _) (Nat.zero_le _) rfl rfl rfl dX0_holdersFor_6 [0] rfl rfl rfl ?_
      refine g_icmp_ge (tgt := 37) X dX0_holdersFor_9 (by decide) (fun hc_3 => ?_) (fun hc_3 => ?_)
      · replace hf := ite_t hc_3 hf
        refine g_iload_n X dX0_holdersFor_37 rfl 2 rfl ?_
        exact hR _ _ _ _ dX0_holdersFor_38 (kR_in (u := v2) hf)
      · replace hf := ite_f hc_3 hf
        refine g_iload_n X dX0_holdersFor_12 rfl 2 rfl ?_
        refine g_aload_n X dX0_holdersFor_13 rfl 0 rfl ?_
        refine g_iload_n X dX0_holdersFor_14 rfl 3 rfl ?_
        refine g_iload_n X dX0_holdersFor_15 rfl 1 rfl ?_
        obtain ⟨r_4, hk_5, hf⟩ := ob1_out hf
        refine g_cSR (st := [.int v2]) (st1 := [.int r_4, .int v2]) X (c_X0_canHold l D cI cZ h_p0 h_p0_cells p0_most p0_width p0_size p0_N p0_cells v3 v1 _ hk_5) (Or.inl rfl) 3 gX0_holdersFor_X0_canHold rfl hs_X0_canHold ⟨Nat.le_of_ble_eq_true rfl, Nat.le_of_ble_eq_true rfl⟩ rfl rfl (Nat.le_of_ble_eq_true rfl) ⟨rfl, rfl⟩ (Nat.zero_le _) (Nat.zero_le _) dX0_holdersFor_16 [0, 1] rfl rfl rfl ?_
        refine g_if_eq (tgt := 28) X dX0_holdersFor_19 (by decide) (fun hc_6 => ?_) (fun hc_6 => ?_)
        · replace hf := ite_t hc_6 hf
          refine g_iconst (v := 0) X dX0_holdersFor_28 (by decide) ?_
          refine g_lv X (lv' := [(0, .ref h_p0), (1, .int v1), (3, .int v3)]) [0, 1, 3] rfl ?_
          exact J29 (f_X0_holdersFor_4 p0_width p0_size p0_N p0_cells n) ih v1 v3 v2 0 hf
        · replace hf := ite_f hc_6 hf
          refine g_iconst (v := 1) X dX0_holdersFor_22 (by decide) ?_
          refine g_iload_n X dX0_holdersFor_23 rfl 3 rfl ?_
          refine g_ishl X dX0_holdersFor_24 ?_
          refine g_goto (tgt := 29) X dX0_holdersFor_25 (by decide) ?_
          refine g_lv X (lv' := [(0, .ref h_p0), (1, .int v1), (3, .int v3)]) [0, 1, 3] rfl ?_
          exact J29 (f_X0_holdersFor_4 p0_width p0_size p0_N p0_cells n) ih v1 v3 v2 (1 <<< (v3 &&& 31)) hf
  refine g_iconst (v := 0) X dX0_holdersFor_0 (by decide) ?_
  refine g_istore_n (lv' := [(0, .ref h_p0), (1, .int v1), (2, .int 0)]) X dX0_holdersFor_1 rfl (Nat.le_of_ble_eq_true rfl) [1, 2, 0] rfl ?_
  refine g_iconst (v := 0) X dX0_holdersFor_2 (by decide) ?_
  refine g_istore_n (lv' := [(0, .ref h_p0), (1, .int v1), (2, .int 0), (3, .int 0)]) X dX0_holdersFor_3 rfl (Nat.le_of_ble_eq_true rfl) [1, 2, 3, 0] rfl ?_
  exact J4 FU v1 0 0 hf
