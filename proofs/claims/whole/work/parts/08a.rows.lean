def wd_X11_within (cI cZ : ClassId) : va_W := []
abbrev rm_X11_within : Room := { frames := 0, cells := 0, slots := 0, locals := 0 }
theorem hs_X11_within : yX11_within.cls ≠ "java/lang/invoke/MethodHandle" ∧ yX11_within.cls ≠ "java/lang/invoke/VarHandle" ∧ (parseMethodDescriptor yX11_within.desc).map (fun d => d.parameters.length) = some 3 := by decide +kernel
set_option maxHeartbeats 4000000 in
set_option maxRecDepth 100000 in
theorem c_X11_within (l : Launch) (D : va_G) (cI cZ : ClassId) (v0 : Int32) (v1 : Int32) (v2 : Int32) (res : Int32) (hf : f_X11_within v0 v1 v2 = some res) : MetR l yX11_within wsX11_within rm_X11_within D cI cZ none [.int v0, .int v1, .int v2] (wd_X11_within cI cZ) (kR res (fun u => some (.int u))) := by
  refine metR_of (cc := cX11_within) (maxL := 3) (ret := (some .boolean)) (own := RX11) (lv0 := [(0, .int v0), (1, .int v1), (2, .int v2)]) (by decide) rfl (Nat.le_of_ble_eq_true rfl) rfl rfl (fun G X hR => ?_)
  replace hR := rt_bool hR
  unfold f_X11_within at hf
  refine g_iload_n X dX11_within_0 rfl 0 rfl ?_
  refine g_iload_n X dX11_within_1 rfl 1 rfl ?_
  refine g_icmp_lt (tgt := 14) X dX11_within_2 (by decide) (fun hc_1 => ?_) (fun hc_1 => ?_)
  · replace hf := ite_t hc_1 hf
    refine g_iconst (v := 0) X dX11_within_14 (by decide) ?_
    exact hR _ _ _ _ (Or.inl rfl) dX11_within_15 (kR_in (u := 0) hf)
  · replace hf := ite_f hc_1 hf
    refine g_iload_n X dX11_within_5 rfl 0 rfl ?_
    refine g_iload_n X dX11_within_6 rfl 2 rfl ?_
    refine g_icmp_gt (tgt := 14) X dX11_within_7 (by decide) (fun hc_2 => ?_) (fun hc_2 => ?_)
    · replace hf := ite_t hc_2 hf
      refine g_iconst (v := 0) X dX11_within_14 (by decide) ?_
      exact hR _ _ _ _ (Or.inl rfl) dX11_within_15 (kR_in (u := 0) hf)
    · replace hf := ite_f hc_2 hf
      refine g_iconst (v := 1) X dX11_within_10 (by decide) ?_
      refine g_goto (tgt := 15) X dX11_within_11 (by decide) ?_
      exact hR _ _ _ _ (Or.inr rfl) dX11_within_15 (kR_in (u := 1) hf)
def wd_X7_size (cI cZ : ClassId) (h_t : Nat) (h_t_cells : Nat) (t_most : Int32) (t_width : Int32) (t_size : Int32) : va_W := [(h_t, .inr (3, [.int t_most, .int t_width, .ref h_t_cells, .int t_size]))]
abbrev rm_X7_size : Room := { frames := 0, cells := 0, slots := 0, locals := 0 }
theorem hv_X7_size : yX7_size.cls = RX7 ∧ yX7_size.cls ≠ "java/lang/invoke/MethodHandle" ∧ yX7_size.cls ≠ "java/lang/invoke/VarHandle" ∧ (parseMethodDescriptor yX7_size.desc).map (fun d => d.parameters.length) = some 0 := by decide +kernel
theorem iw_X7_size_X7 : ∀ w ∈ u_ws RX7 TX7 4, w ∈ wsX7_size := by decide +kernel
theorem lk_X7_size_26 : Cond.fieldLink RX7 26 "ClerkChains$Rows" "size" "I" ∈ wsX7_size := by decide +kernel
set_option maxHeartbeats 4000000 in
set_option maxRecDepth 100000 in
theorem c_X7_size (l : Launch) (D : va_G) (cI cZ : ClassId) (h_t : Nat) (h_t_cells : Nat) (t_most : Int32) (t_width : Int32) (t_size : Int32) (res : Int32) (hf : f_X7_size t_size = some res) : MetR l yX7_size wsX7_size rm_X7_size D cI cZ none [.ref h_t] (wd_X7_size cI cZ h_t h_t_cells t_most t_width t_size) (kR res (fun u => some (.int u))) := by
  refine metR_of (cc := cX7_size) (maxL := 1) (ret := (some .int)) (own := RX7) (lv0 := [(0, .ref h_t)]) (by decide) rfl (Nat.le_of_ble_eq_true rfl) rfl rfl (fun G X hR => ?_)
  replace hR := rt_int hR
  unfold f_X7_size at hf
  refine g_aload_n X dX7_size_0 rfl 0 rfl ?_
  refine g_get (C := RX7) (T := TX7) (N := 4) (ci := 3) (v := (.int t_size)) X iw_X7_size_X7 0 rfl rfl 3 (by decide) lk_X7_size_26 rfl dX7_size_1 ?_
  exact hR _ _ _ _ dX7_size_4 (kR_in (u := t_size) hf)
def wd_X7_empty (cI cZ : ClassId) (h_t : Nat) (h_t_cells : Nat) (t_most : Int32) (t_width : Int32) (t_size : Int32) : va_W := [(h_t, .inr (3, [.int t_most, .int t_width, .ref h_t_cells, .int t_size]))]
abbrev rm_X7_empty : Room := { frames := 0, cells := 0, slots := 0, locals := 0 }
theorem hv_X7_empty : yX7_empty.cls = RX7 ∧ yX7_empty.cls ≠ "java/lang/invoke/MethodHandle" ∧ yX7_empty.cls ≠ "java/lang/invoke/VarHandle" ∧ (parseMethodDescriptor yX7_empty.desc).map (fun d => d.parameters.length) = some 0 := by decide +kernel
theorem iw_X7_empty_X7 : ∀ w ∈ u_ws RX7 TX7 4, w ∈ wsX7_empty := by decide +kernel
theorem lk_X7_empty_26 : Cond.fieldLink RX7 26 "ClerkChains$Rows" "size" "I" ∈ wsX7_empty := by decide +kernel
set_option maxHeartbeats 4000000 in
set_option maxRecDepth 100000 in
theorem c_X7_empty (l : Launch) (D : va_G) (cI cZ : ClassId) (h_t : Nat) (h_t_cells : Nat) (t_most : Int32) (t_width : Int32) (t_size : Int32) (res : Int32) (hf : f_X7_empty t_size = some res) : MetG l yX7_empty wsX7_empty rm_X7_empty D cI cZ none [.ref h_t] (wd_X7_empty cI cZ h_t h_t_cells t_most t_width t_size) (kV res (fun _ => none) (fun u => (wd_X7_empty cI cZ h_t h_t_cells t_most t_width u))) := by
  refine metG_of (cc := cX7_empty) (maxL := 1) (ret := none) (own := RX7) (lv0 := [(0, .ref h_t)]) (ini := false) (by decide) rfl (Nat.le_of_ble_eq_true rfl) rfl rfl (fun h => by cases h) (fun G X hR => ?_)
  replace hR := rt_void hR
  unfold f_X7_empty at hf
  refine g_aload_n X dX7_empty_0 rfl 0 rfl ?_
  refine g_iconst (v := 0) X dX7_empty_1 (by decide) ?_
  refine g_put (C := RX7) (T := TX7) (N := 4) (ci := 3) (v := .int 0) (ws' := (wd_X7_empty cI cZ h_t h_t_cells t_most t_width 0)) X iw_X7_empty_X7 tyX7 tyX7_ok nmX7 0 rfl rfl 3 (by decide) lk_X7_empty_26 rfl (tyX7_ok 3 (by decide)) rfl rfl (Nat.le_of_ble_eq_true rfl) dX7_empty_2 rfl ?_
  exact hR _ _ _ dX7_empty_5 (kV_in (u := 0) hf)
def wd_X11_isDesk (cI cZ : ClassId) : va_W := []
abbrev rm_X11_isDesk : Room := { frames := 1, cells := 0, slots := 0, locals := 22 }
theorem hs_X11_isDesk : yX11_isDesk.cls ≠ "java/lang/invoke/MethodHandle" ∧ yX11_isDesk.cls ≠ "java/lang/invoke/VarHandle" ∧ (parseMethodDescriptor yX11_isDesk.desc).map (fun d => d.parameters.length) = some 1 := by decide +kernel
set_option maxHeartbeats 4000000 in
set_option maxRecDepth 100000 in
theorem c_X11_isDesk (l : Launch) (D : va_G) (cI cZ : ClassId) (v0 : Int32) (res : Int32) (hf : f_X11_isDesk v0 = some res) : MetR l yX11_isDesk wsX11_isDesk rm_X11_isDesk D cI cZ none [.int v0] (wd_X11_isDesk cI cZ) (kR res (fun u => some (.int u))) := by
  refine metR_of (cc := cX11_isDesk) (maxL := 1) (ret := (some .boolean)) (own := RX11) (lv0 := [(0, .int v0)]) (by decide) rfl (Nat.le_of_ble_eq_true rfl) rfl rfl (fun G X hR => ?_)
  replace hR := rt_bool hR
  unfold f_X11_isDesk at hf
  refine g_iload_n X dX11_isDesk_0 rfl 0 rfl ?_
  refine g_iconst (v := 0) X dX11_isDesk_1 (by decide) ?_
  refine g_bipush (v := 11) X dX11_isDesk_2 (by decide) ?_
  obtain ⟨r_1, hk_2, hf⟩ := ob1_out hf
  refine g_cSR (st := []) (st1 := [.int r_1]) X (c_X11_within l D cI cZ v0 0 11 _ hk_2) (Or.inl rfl) 3 gX11_isDesk_X11_within rfl hs_X11_within ⟨Nat.le_of_ble_eq_true rfl, Nat.le_of_ble_eq_true rfl⟩ rfl rfl (Nat.le_of_ble_eq_true rfl) ⟨rfl, rfl⟩ (Nat.zero_le _) (Nat.zero_le _) dX11_isDesk_4 [] rfl rfl rfl ?_
  obtain ⟨hz_3, hf⟩ := chb_out hf
  exact hR _ _ _ _ hz_3 dX11_isDesk_7 (kR_in (u := r_1) hf)
def wd_X11_cell (cI cZ : ClassId) (h_p0 : Nat) (p0_N : Nat) (p0 : (Nat → Int32)) : va_W := [(h_p0, .inl (cI, p0_N, .inl p0))]
abbrev rm_X11_cell : Room := { frames := 0, cells := 0, slots := 0, locals := 0 }
theorem hs_X11_cell : yX11_cell.cls ≠ "java/lang/invoke/MethodHandle" ∧ yX11_cell.cls ≠ "java/lang/invoke/VarHandle" ∧ (parseMethodDescriptor yX11_cell.desc).map (fun d => d.parameters.length) = some 2 := by decide +kernel
set_option maxHeartbeats 4000000 in
set_option maxRecDepth 100000 in
theorem c_X11_cell (l : Launch) (D : va_G) (cI cZ : ClassId) (h_p0 : Nat) (p0_N : Nat) (p0 : (Nat → Int32)) (v1 : Int32) (res : Int32) (hf : f_X11_cell p0_N p0 v1 = some res) : MetR l yX11_cell wsX11_cell rm_X11_cell D cI cZ none [.ref h_p0, .int v1] (wd_X11_cell cI cZ h_p0 p0_N p0) (kR res (fun u => some (.int u))) := by
  refine metR_of (cc := cX11_cell) (maxL := 2) (ret := (some .int)) (own := RX11) (lv0 := [(0, .ref h_p0), (1, .int v1)]) (by decide) rfl (Nat.le_of_ble_eq_true rfl) rfl rfl (fun G X hR => ?_)
  replace hR := rt_int hR
  unfold f_X11_cell at hf
  refine g_iload_n X dX11_cell_0 rfl 1 rfl ?_
  refine g_if_lt (tgt := 16) X dX11_cell_1 (by decide) (fun hc_1 => ?_) (fun hc_1 => ?_)
  · replace hf := ite_t hc_1 hf
    refine g_iconst (v := 0) X dX11_cell_16 (by decide) ?_
    exact hR _ _ _ _ dX11_cell_17 (kR_in (u := 0) hf)
  · replace hf := ite_f hc_1 hf
    refine g_iload_n X dX11_cell_4 rfl 1 rfl ?_
    refine g_aload_n X dX11_cell_5 rfl 0 rfl ?_
    refine g_alen X 0 rfl dX11_cell_6 ?_
    refine g_icmp_ge (tgt := 16) X dX11_cell_7 (by decide) (fun hc_2 => ?_) (fun hc_2 => ?_)
    · replace hf := ite_t hc_2 hf
      refine g_iconst (v := 0) X dX11_cell_16 (by decide) ?_
      exact hR _ _ _ _ dX11_cell_17 (kR_in (u := 0) hf)
    · replace hf := ite_f hc_2 hf
      refine g_aload_n X dX11_cell_10 rfl 0 rfl ?_
      refine g_iload_n X dX11_cell_11 rfl 1 rfl ?_
      obtain ⟨hb_3, hf⟩ := chk_out hf
      refine g_iald X 0 rfl hb_3 dX11_cell_12 ?_
      refine g_goto (tgt := 17) X dX11_cell_13 (by decide) ?_
      exact hR _ _ _ _ dX11_cell_17 (kR_in (u := (p0 v1.toNatClampNeg)) hf)
def wd_X11_setCell (cI cZ : ClassId) (h_p0 : Nat) (p0_N : Nat) (p0 : (Nat → Int32)) : va_W := [(h_p0, .inl (cI, p0_N, .inl p0))]
abbrev rm_X11_setCell : Room := { frames := 0, cells := 0, slots := 0, locals := 0 }
theorem hs_X11_setCell : yX11_setCell.cls ≠ "java/lang/invoke/MethodHandle" ∧ yX11_setCell.cls ≠ "java/lang/invoke/VarHandle" ∧ (parseMethodDescriptor yX11_setCell.desc).map (fun d => d.parameters.length) = some 3 := by decide +kernel
set_option maxHeartbeats 4000000 in
set_option maxRecDepth 100000 in
theorem c_X11_setCell (l : Launch) (D : va_G) (cI cZ : ClassId) (h_p0 : Nat) (p0_N : Nat) (p0 : (Nat → Int32)) (v1 : Int32) (v2 : Int32) (res : (Nat → Int32)) (hf : f_X11_setCell p0_N p0 v1 v2 = some res) : MetG l yX11_setCell wsX11_setCell rm_X11_setCell D cI cZ none [.ref h_p0, .int v1, .int v2] (wd_X11_setCell cI cZ h_p0 p0_N p0) (kV res (fun _ => none) (fun u => (wd_X11_setCell cI cZ h_p0 p0_N u))) := by
  refine metG_of (cc := cX11_setCell) (maxL := 3) (ret := none) (own := RX11) (lv0 := [(0, .ref h_p0), (1, .int v1), (2, .int v2)]) (ini := false) (by decide) rfl (Nat.le_of_ble_eq_true rfl) rfl rfl (fun h => by cases h) (fun G X hR => ?_)
  replace hR := rt_void hR
  unfold f_X11_setCell at hf
  refine g_iload_n X dX11_setCell_0 rfl 1 rfl ?_
  refine g_if_lt (tgt := 14) X dX11_setCell_1 (by decide) (fun hc_1 => ?_) (fun hc_1 => ?_)
  · replace hf := ite_t hc_1 hf
    exact hR _ _ _ dX11_setCell_14 (kV_in (u := p0) hf)
  · replace hf := ite_f hc_1 hf
    refine g_iload_n X dX11_setCell_4 rfl 1 rfl ?_
    refine g_aload_n X dX11_setCell_5 rfl 0 rfl ?_
    refine g_alen X 0 rfl dX11_setCell_6 ?_
    refine g_icmp_ge (tgt := 14) X dX11_setCell_7 (by decide) (fun hc_2 => ?_) (fun hc_2 => ?_)
    · replace hf := ite_t hc_2 hf
      exact hR _ _ _ dX11_setCell_14 (kV_in (u := p0) hf)
    · replace hf := ite_f hc_2 hf
      refine g_aload_n X dX11_setCell_10 rfl 0 rfl ?_
      refine g_iload_n X dX11_setCell_11 rfl 1 rfl ?_
      refine g_iload_n X dX11_setCell_12 rfl 2 rfl ?_
      obtain ⟨hb_3, hf⟩ := chk_out hf
      obtain ⟨p0_4, ep0_4, hf⟩ := bnd_out hf
      refine g_iast (ws' := (wd_X11_setCell cI cZ h_p0 p0_N p0_4)) X 0 rfl hb_3 ep0_4 dX11_setCell_13 rfl ?_
      exact hR _ _ _ dX11_setCell_14 (kV_in (u := p0_4) hf)
def wd_X7_isFull (cI cZ : ClassId) (h_t : Nat) (h_t_cells : Nat) (t_most : Int32) (t_width : Int32) (t_size : Int32) : va_W := [(h_t, .inr (3, [.int t_most, .int t_width, .ref h_t_cells, .int t_size]))]
abbrev rm_X7_isFull : Room := { frames := 0, cells := 0, slots := 0, locals := 0 }
theorem hv_X7_isFull : yX7_isFull.cls = RX7 ∧ yX7_isFull.cls ≠ "java/lang/invoke/MethodHandle" ∧ yX7_isFull.cls ≠ "java/lang/invoke/VarHandle" ∧ (parseMethodDescriptor yX7_isFull.desc).map (fun d => d.parameters.length) = some 0 := by decide +kernel
theorem iw_X7_isFull_X7 : ∀ w ∈ u_ws RX7 TX7 4, w ∈ wsX7_isFull := by decide +kernel
theorem lk_X7_isFull_26 : Cond.fieldLink RX7 26 "ClerkChains$Rows" "size" "I" ∈ wsX7_isFull := by decide +kernel
theorem lk_X7_isFull_13 : Cond.fieldLink RX7 13 "ClerkChains$Rows" "most" "I" ∈ wsX7_isFull := by decide +kernel
set_option maxHeartbeats 4000000 in
set_option maxRecDepth 100000 in
theorem c_X7_isFull (l : Launch) (D : va_G) (cI cZ : ClassId) (h_t : Nat) (h_t_cells : Nat) (t_most : Int32) (t_width : Int32) (t_size : Int32) (res : Int32) (hf : f_X7_isFull t_most t_size = some res) : MetR l yX7_isFull wsX7_isFull rm_X7_isFull D cI cZ none [.ref h_t] (wd_X7_isFull cI cZ h_t h_t_cells t_most t_width t_size) (kR res (fun u => some (.int u))) := by
  refine metR_of (cc := cX7_isFull) (maxL := 1) (ret := (some .boolean)) (own := RX7) (lv0 := [(0, .ref h_t)]) (by decide) rfl (Nat.le_of_ble_eq_true rfl) rfl rfl (fun G X hR => ?_)
  replace hR := rt_bool hR
  unfold f_X7_isFull at hf
  refine g_aload_n X dX7_isFull_0 rfl 0 rfl ?_
  refine g_get (C := RX7) (T := TX7) (N := 4) (ci := 3) (v := (.int t_size)) X iw_X7_isFull_X7 0 rfl rfl 3 (by decide) lk_X7_isFull_26 rfl dX7_isFull_1 ?_
  refine g_aload_n X dX7_isFull_4 rfl 0 rfl ?_
  refine g_get (C := RX7) (T := TX7) (N := 4) (ci := 3) (v := (.int t_most)) X iw_X7_isFull_X7 0 rfl rfl 0 (by decide) lk_X7_isFull_13 rfl dX7_isFull_5 ?_
  refine g_icmp_lt (tgt := 15) X dX7_isFull_8 (by decide) (fun hc_1 => ?_) (fun hc_1 => ?_)
  · replace hf := ite_t hc_1 hf
    refine g_iconst (v := 0) X dX7_isFull_15 (by decide) ?_
    exact hR _ _ _ _ (Or.inl rfl) dX7_isFull_16 (kR_in (u := 0) hf)
  · replace hf := ite_f hc_1 hf
    refine g_iconst (v := 1) X dX7_isFull_11 (by decide) ?_
    refine g_goto (tgt := 16) X dX7_isFull_12 (by decide) ?_
    exact hR _ _ _ _ (Or.inr rfl) dX7_isFull_16 (kR_in (u := 1) hf)
def wd_X7_put (cI cZ : ClassId) (h_t : Nat) (h_t_cells : Nat) (t_most : Int32) (t_width : Int32) (t_size : Int32) (t_N : Nat) (t_cells : (Nat → Int32)) : va_W := [(h_t, .inr (3, [.int t_most, .int t_width, .ref h_t_cells, .int t_size])), (h_t_cells, .inl (cI, t_N, .inl t_cells))]
abbrev rm_X7_put : Room := { frames := 0, cells := 0, slots := 0, locals := 0 }
theorem hv_X7_put : yX7_put.cls = RX7 ∧ yX7_put.cls ≠ "java/lang/invoke/MethodHandle" ∧ yX7_put.cls ≠ "java/lang/invoke/VarHandle" ∧ (parseMethodDescriptor yX7_put.desc).map (fun d => d.parameters.length) = some 3 := by decide +kernel
theorem iw_X7_put_X7 : ∀ w ∈ u_ws RX7 TX7 4, w ∈ wsX7_put := by decide +kernel
theorem lk_X7_put_19 : Cond.fieldLink RX7 19 "ClerkChains$Rows" "width" "I" ∈ wsX7_put := by decide +kernel
theorem lk_X7_put_22 : Cond.fieldLink RX7 22 "ClerkChains$Rows" "cells" "[I" ∈ wsX7_put := by decide +kernel
theorem lk_X7_put_26 : Cond.fieldLink RX7 26 "ClerkChains$Rows" "size" "I" ∈ wsX7_put := by decide +kernel
set_option maxHeartbeats 4000000 in
set_option maxRecDepth 100000 in
theorem c_X7_put (l : Launch) (D : va_G) (cI cZ : ClassId) (h_t : Nat) (h_t_cells : Nat) (t_most : Int32) (t_width : Int32) (t_size : Int32) (t_N : Nat) (t_cells : (Nat → Int32)) (v1 : Int32) (v2 : Int32) (v3 : Int32) (res : (Nat → Int32)) (hf : f_X7_put t_width t_size t_N t_cells v1 v2 v3 = some res) : MetG l yX7_put wsX7_put rm_X7_put D cI cZ none [.ref h_t, .int v1, .int v2, .int v3] (wd_X7_put cI cZ h_t h_t_cells t_most t_width t_size t_N t_cells) (kV res (fun _ => none) (fun u => (wd_X7_put cI cZ h_t h_t_cells t_most t_width t_size t_N u))) := by
  refine metG_of (cc := cX7_put) (maxL := 6) (ret := none) (own := RX7) (lv0 := [(0, .ref h_t), (1, .int v1), (2, .int v2), (3, .int v3)]) (ini := false) (by decide) rfl (Nat.le_of_ble_eq_true rfl) rfl rfl (fun h => by cases h) (fun G X hR => ?_)
  replace hR := rt_void hR
  unfold f_X7_put at hf
  have J48 : ∀ (t_cells : (Nat → Int32)) (v3 : Int32) (s0 : Int32), f_X7_put_48 t_width t_size t_N t_cells v3 s0 = some res → G 0 0 (wd_X7_put cI cZ h_t h_t_cells t_most t_width t_size t_N t_cells) [(0, .ref h_t), (3, .int v3)] 48 [.int s0] := by
    intro t_cells v3 s0 hf
    unfold f_X7_put_48 at hf
    refine g_istore (lv' := [(0, .ref h_t), (3, .int v3), (5, .int s0)]) X dX7_put_48 (Nat.le_of_ble_eq_true rfl) [1, 2, 0] rfl ?_
    refine g_iload X dX7_put_50 2 rfl ?_
    refine g_if_lt (tgt := 73) X dX7_put_52 (by decide) (fun hc_2 => ?_) (fun hc_2 => ?_)
    · replace hf := ite_t hc_2 hf
      exact hR _ _ _ dX7_put_73 (kV_in (u := t_cells) hf)
    · replace hf := ite_f hc_2 hf
      refine g_iload X dX7_put_55 2 rfl ?_
      refine g_aload_n X dX7_put_57 rfl 0 rfl ?_
      refine g_get (C := RX7) (T := TX7) (N := 4) (ci := 3) (v := (.ref h_t_cells)) X iw_X7_put_X7 0 rfl rfl 2 (by decide) lk_X7_put_22 rfl dX7_put_58 ?_
      refine g_alen X 1 rfl dX7_put_61 ?_
      refine g_icmp_ge (tgt := 73) X dX7_put_62 (by decide) (fun hc_3 => ?_) (fun hc_3 => ?_)
      · replace hf := ite_t hc_3 hf
        exact hR _ _ _ dX7_put_73 (kV_in (u := t_cells) hf)
      · replace hf := ite_f hc_3 hf
        refine g_aload_n X dX7_put_65 rfl 0 rfl ?_
        refine g_get (C := RX7) (T := TX7) (N := 4) (ci := 3) (v := (.ref h_t_cells)) X iw_X7_put_X7 0 rfl rfl 2 (by decide) lk_X7_put_22 rfl dX7_put_66 ?_
        refine g_iload X dX7_put_69 2 rfl ?_
        refine g_iload_n X dX7_put_71 rfl 1 rfl ?_
        obtain ⟨hb_4, hf⟩ := chk_out hf
        obtain ⟨t_cells_5, et_cells_5, hf⟩ := bnd_out hf
        refine g_iast (ws' := (wd_X7_put cI cZ h_t h_t_cells t_most t_width t_size t_N t_cells_5)) X 1 rfl hb_4 et_cells_5 dX7_put_72 rfl ?_
        exact hR _ _ _ dX7_put_73 (kV_in (u := t_cells_5) hf)
  have J29 : ∀ (t_cells : (Nat → Int32)) (v1 : Int32) (v2 : Int32) (v3 : Int32) (s0 : Int32), f_X7_put_29 t_width t_size t_N t_cells v1 v2 v3 s0 = some res → G 0 0 (wd_X7_put cI cZ h_t h_t_cells t_most t_width t_size t_N t_cells) [(0, .ref h_t), (1, .int v1), (2, .int v2), (3, .int v3)] 29 [.int s0] := by
    intro t_cells v1 v2 v3 s0 hf
    unfold f_X7_put_29 at hf
    refine g_istore (lv' := [(0, .ref h_t), (1, .int v1), (2, .int v2), (3, .int v3), (4, .int s0)]) X dX7_put_29 (Nat.le_of_ble_eq_true rfl) [1, 2, 3, 4, 0] rfl ?_
    refine g_iload X dX7_put_31 4 rfl ?_
    refine g_if_eq (tgt := 47) X dX7_put_33 (by decide) (fun hc_1 => ?_) (fun hc_1 => ?_)
    · replace hf := ite_t hc_1 hf
      refine g_iconst (v := (-1)) X dX7_put_47 (by decide) ?_
      refine g_lv X (lv' := [(0, .ref h_t), (3, .int v3)]) [0, 3] rfl ?_
      exact J48 t_cells v3 (-1) hf
    · replace hf := ite_f hc_1 hf
      refine g_iload_n X dX7_put_36 rfl 1 rfl ?_
      refine g_aload_n X dX7_put_37 rfl 0 rfl ?_
      refine g_get (C := RX7) (T := TX7) (N := 4) (ci := 3) (v := (.int t_width)) X iw_X7_put_X7 0 rfl rfl 1 (by decide) lk_X7_put_19 rfl dX7_put_38 ?_
      refine g_imul X dX7_put_41 ?_
      refine g_iload_n X dX7_put_42 rfl 2 rfl ?_
      refine g_iadd X dX7_put_43 ?_
      refine g_goto (tgt := 48) X dX7_put_44 (by decide) ?_
      refine g_lv X (lv' := [(0, .ref h_t), (3, .int v3)]) [0, 3] rfl ?_
      exact J48 t_cells v3 ((v1 * t_width) + v2) hf
  have J28 : ∀ (t_cells : (Nat → Int32)) (v1 : Int32) (v2 : Int32) (v3 : Int32), f_X7_put_28 t_width t_size t_N t_cells v1 v2 v3 = some res → G 0 0 (wd_X7_put cI cZ h_t h_t_cells t_most t_width t_size t_N t_cells) [(0, .ref h_t), (1, .int v1), (2, .int v2), (3, .int v3)] 28 [] := by
    intro t_cells v1 v2 v3 hf
    unfold f_X7_put_28 at hf
    refine g_iconst (v := 0) X dX7_put_28 (by decide) ?_
    exact J29 t_cells v1 v2 v3 0 hf
  refine g_iload_n X dX7_put_0 rfl 1 rfl ?_
  refine g_if_lt (tgt := 28) X dX7_put_1 (by decide) (fun hc_6 => ?_) (fun hc_6 => ?_)
  · replace hf := ite_t hc_6 hf
    exact J28 t_cells v1 v2 v3 hf
  · replace hf := ite_f hc_6 hf
    refine g_iload_n X dX7_put_4 rfl 1 rfl ?_
    refine g_aload_n X dX7_put_5 rfl 0 rfl ?_
    refine g_get (C := RX7) (T := TX7) (N := 4) (ci := 3) (v := (.int t_size)) X iw_X7_put_X7 0 rfl rfl 3 (by decide) lk_X7_put_26 rfl dX7_put_6 ?_
    refine g_icmp_ge (tgt := 28) X dX7_put_9 (by decide) (fun hc_7 => ?_) (fun hc_7 => ?_)
    · replace hf := ite_t hc_7 hf
      exact J28 t_cells v1 v2 v3 hf
    · replace hf := ite_f hc_7 hf
      refine g_iload_n X dX7_put_12 rfl 2 rfl ?_
      refine g_if_lt (tgt := 28) X dX7_put_13 (by decide) (fun hc_8 => ?_) (fun hc_8 => ?_)
      · replace hf := ite_t hc_8 hf
        exact J28 t_cells v1 v2 v3 hf
      · replace hf := ite_f hc_8 hf
        refine g_iload_n X dX7_put_16 rfl 2 rfl ?_
        refine g_aload_n X dX7_put_17 rfl 0 rfl ?_
        refine g_get (C := RX7) (T := TX7) (N := 4) (ci := 3) (v := (.int t_width)) X iw_X7_put_X7 0 rfl rfl 1 (by decide) lk_X7_put_19 rfl dX7_put_18 ?_
        refine g_icmp_ge (tgt := 28) X dX7_put_21 (by decide) (fun hc_9 => ?_) (fun hc_9 => ?_)
        · replace hf := ite_t hc_9 hf
          exact J28 t_cells v1 v2 v3 hf
        · replace hf := ite_f hc_9 hf
          refine g_iconst (v := 1) X dX7_put_24 (by decide) ?_
          refine g_goto (tgt := 29) X dX7_put_25 (by decide) ?_
          exact J29 t_cells v1 v2 v3 1 hf
def wd_X7_add (cI cZ : ClassId) (h_t : Nat) (h_t_cells : Nat) (t_most : Int32) (t_width : Int32) (t_size : Int32) (t_N : Nat) (t_cells : (Nat → Int32)) : va_W := [(h_t, .inr (3, [.int t_most, .int t_width, .ref h_t_cells, .int t_size])), (h_t_cells, .inl (cI, t_N, .inl t_cells))]
abbrev rm_X7_add : Room := { frames := 1, cells := 0, slots := 0, locals := 25 }
theorem hv_X7_add : yX7_add.cls = RX7 ∧ yX7_add.cls ≠ "java/lang/invoke/MethodHandle" ∧ yX7_add.cls ≠ "java/lang/invoke/VarHandle" ∧ (parseMethodDescriptor yX7_add.desc).map (fun d => d.parameters.length) = some 5 := by decide +kernel
theorem iw_X7_add_X7 : ∀ w ∈ u_ws RX7 TX7 4, w ∈ wsX7_add := by decide +kernel
theorem lk_X7_add_26 : Cond.fieldLink RX7 26 "ClerkChains$Rows" "size" "I" ∈ wsX7_add := by decide +kernel
set_option maxHeartbeats 4000000 in
set_option maxRecDepth 100000 in
theorem c_X7_add (l : Launch) (D : va_G) (cI cZ : ClassId) (h_t : Nat) (h_t_cells : Nat) (t_most : Int32) (t_width : Int32) (t_size : Int32) (t_N : Nat) (t_cells : (Nat → Int32)) (v1 : Int32) (v2 : Int32) (v3 : Int32) (v4 : Int32) (v5 : Int32) (res : Int32 × Int32 × (Nat → Int32)) (hf : f_X7_add t_most t_width t_size t_N t_cells v1 v2 v3 v4 v5 = some res) : MetG l yX7_add wsX7_add rm_X7_add D cI cZ none [.ref h_t, .int v1, .int v2, .int v3, .int v4, .int v5] (wd_X7_add cI cZ h_t h_t_cells t_most t_width t_size t_N t_cells) (kV res (fun u => some (.int u.1)) (fun u => (wd_X7_add cI cZ h_t h_t_cells t_most t_width (u.2.1) t_N (u.2.2)))) := by
  refine metG_of (cc := cX7_add) (maxL := 7) (ret := (some .int)) (own := RX7) (lv0 := [(0, .ref h_t), (1, .int v1), (2, .int v2), (3, .int v3), (4, .int v4), (5, .int v5)]) (ini := false) (by decide) rfl (Nat.le_of_ble_eq_true rfl) rfl rfl (fun h => by cases h) (fun G X hR => ?_)
  replace hR := rt_int hR
  unfold f_X7_add at hf
  refine g_aload_n X dX7_add_0 rfl 0 rfl ?_
  obtain ⟨r_1, hk_2, hf⟩ := ob1_out hf
  refine g_cVR (st := []) (st1 := [.int r_1]) (C := RX7) (ci := 3) (q0 := 0) X (c_X7_isFull l D cI cZ h_t h_t_cells t_most t_width t_size _ hk_2) (Or.inl rfl) 0 gX7_add_X7_isFull rfl hv_X7_isFull ⟨Nat.le_of_ble_eq_true rfl, Nat.le_of_ble_eq_true rfl⟩ rfl rfl (Nat.le_of_ble_eq_true rfl) ⟨rfl, rfl⟩ (Nat.zero_le _) (Nat.zero_le _) rfl rfl rfl dX7_add_1 [0] rfl rfl rfl ?_
  refine g_if_eq (tgt := 9) X dX7_add_4 (by decide) (fun hc_3 => ?_) (fun hc_3 => ?_)
  · replace hf := ite_t hc_3 hf
    refine g_aload_n X dX7_add_9 rfl 0 rfl ?_
    refine g_get (C := RX7) (T := TX7) (N := 4) (ci := 3) (v := (.int t_size)) X iw_X7_add_X7 0 rfl rfl 3 (by decide) lk_X7_add_26 rfl dX7_add_10 ?_
    refine g_istore (lv' := [(0, .ref h_t), (1, .int v1), (2, .int v2), (3, .int v3), (4, .int v4), (5, .int v5), (6, .int t_size)]) X dX7_add_13 (Nat.le_of_ble_eq_true rfl) [1, 2, 3, 4, 5, 6, 0] rfl ?_
    refine g_aload_n X dX7_add_15 rfl 0 rfl ?_
    refine g_dup X dX7_add_16 rfl ?_
    refine g_get (C := RX7) (T := TX7) (N := 4) (ci := 3) (v := (.int t_size)) X iw_X7_add_X7 0 rfl rfl 3 (by decide) lk_X7_add_26 rfl dX7_add_17 ?_
    refine g_iconst (v := 1) X dX7_add_20 (by decide) ?_
    refine g_iadd X dX7_add_21 ?_
    obtain ⟨t_size_4, et_size_4, hf⟩ := bnd_out hf
    refine g_nmI X et_size_4 ?_
    refine g_put (C := RX7) (T := TX7) (N := 4) (ci := 3) (v := .int t_size_4) (ws' := (wd_X7_add cI cZ h_t h_t_cells t_most t_width t_size_4 t_N t_cells)) X iw_X7_add_X7 tyX7 tyX7_ok nmX7 0 rfl rfl 3 (by decide) lk_X7_add_26 rfl (tyX7_ok 3 (by decide)) rfl rfl (Nat.le_of_ble_eq_true rfl) dX7_add_22 rfl ?_
    refine g_aload_n X dX7_add_25 rfl 0 rfl ?_
    refine g_iload X dX7_add_26 6 rfl ?_
    refine g_iconst (v := 0) X dX7_add_28 (by decide) ?_
    refine g_iload_n X dX7_add_29 rfl 1 rfl ?_
    obtain ⟨t_cells_5, hk_6, hf⟩ := ob1_out hf
    refine g_cVW (st := []) (st1 := []) (C := RX7) (ci := 3) (q0 := 0) (ws' := (wd_X7_add cI cZ h_t h_t_cells t_most t_width t_size_4 t_N t_cells_5)) X (c_X7_put l D cI cZ h_t h_t_cells t_most t_width t_size_4 t_N t_cells t_size 0 v1 _ hk_6) (Or.inl rfl) 3 gX7_add_X7_put rfl hv_X7_put ⟨Nat.le_of_ble_eq_true rfl, Nat.le_of_ble_eq_true rfl⟩ rfl rfl (Nat.le_of_ble_eq_true rfl) ⟨rfl, rfl⟩ (Nat.zero_le _) (Nat.zero_le _) rfl rfl rfl dX7_add_30 [0, 1] rfl rfl [] rfl rfl (by decide) [0, 1] rfl rfl rfl ?_
    refine g_aload_n X dX7_add_33 rfl 0 rfl ?_
    refine g_iload X dX7_add_34 6 rfl ?_
    refine g_iconst (v := 1) X dX7_add_36 (by decide) ?_
    refine g_iload_n X dX7_add_37 rfl 2 rfl ?_
    obtain ⟨t_cells_7, hk_8, hf⟩ := ob1_out hf
    refine g_cVW (st := []) (st1 := []) (C := RX7) (ci := 3) (q0 := 0) (ws' := (wd_X7_add cI cZ h_t h_t_cells t_most t_width t_size_4 t_N t_cells_7)) X (c_X7_put l D cI cZ h_t h_t_cells t_most t_width t_size_4 t_N t_cells_5 t_size 1 v2 _ hk_8) (Or.inl rfl) 3 gX7_add_X7_put rfl hv_X7_put ⟨Nat.le_of_ble_eq_true rfl, Nat.le_of_ble_eq_true rfl⟩ rfl rfl (Nat.le_of_ble_eq_true rfl) ⟨rfl, rfl⟩ (Nat.zero_le _) (Nat.zero_le _) rfl rfl rfl dX7_add_38 [0, 1] rfl rfl [] rfl rfl (by decide) [0, 1] rfl rfl rfl ?_
    refine g_aload_n X dX7_add_41 rfl 0 rfl ?_
    refine g_iload X dX7_add_42 6 rfl ?_
    refine g_iconst (v := 2) X dX7_add_44 (by decide) ?_
    refine g_iload_n X dX7_add_45 rfl 3 rfl ?_
    obtain ⟨t_cells_9, hk_10, hf⟩ := ob1_out hf
    refine g_cVW (st := []) (st1 := []) (C := RX7) (ci := 3) (q0 := 0) (ws' := (wd_X7_add cI cZ h_t h_t_cells t_most t_width t_size_4 t_N t_cells_9)) X (c_X7_put l D cI cZ h_t h_t_cells t_most t_width t_size_4 t_N t_cells_7 t_size 2 v3 _ hk_10) (Or.inl rfl) 3 gX7_add_X7_put rfl hv_X7_put ⟨Nat.le_of_ble_eq_true rfl, Nat.le_of_ble_eq_true rfl⟩ rfl rfl (Nat.le_of_ble_eq_true rfl) ⟨rfl, rfl⟩ (Nat.zero_le _) (Nat.zero_le _) rfl rfl rfl dX7_add_46 [0, 1] rfl rfl [] rfl rfl (by decide) [0, 1] rfl rfl rfl ?_
    refine g_aload_n X dX7_add_49 rfl 0 rfl ?_
    refine g_iload X dX7_add_50 6 rfl ?_
    refine g_iconst (v := 3) X dX7_add_52 (by decide) ?_
    refine g_iload X dX7_add_53 4 rfl ?_
    obtain ⟨t_cells_11, hk_12, hf⟩ := ob1_out hf
    refine g_cVW (st := []) (st1 := []) (C := RX7) (ci := 3) (q0 := 0) (ws' := (wd_X7_add cI cZ h_t h_t_cells t_most t_width t_size_4 t_N t_cells_11)) X (c_X7_put l D cI cZ h_t h_t_cells t_most t_width t_size_4 t_N t_cells_9 t_size 3 v4 _ hk_12) (Or.inl rfl) 3 gX7_add_X7_put rfl hv_X7_put ⟨Nat.le_of_ble_eq_true rfl, Nat.le_of_ble_eq_true rfl⟩ rfl rfl (Nat.le_of_ble_eq_true rfl) ⟨rfl, rfl⟩ (Nat.zero_le _) (Nat.zero_le _) rfl rfl rfl dX7_add_55 [0, 1] rfl rfl [] rfl rfl (by decide) [0, 1] rfl rfl rfl ?_
    refine g_aload_n X dX7_add_58 rfl 0 rfl ?_
    refine g_iload X dX7_add_59 6 rfl ?_
    refine g_iconst (v := 4) X dX7_add_61 (by decide) ?_
    refine g_iload X dX7_add_62 5 rfl ?_
    obtain ⟨t_cells_13, hk_14, hf⟩ := ob1_out hf
    refine g_cVW (st := []) (st1 := []) (C := RX7) (ci := 3) (q0 := 0) (ws' := (wd_X7_add cI cZ h_t h_t_cells t_most t_width t_size_4 t_N t_cells_13)) X (c_X7_put l D cI cZ h_t h_t_cells t_most t_width t_size_4 t_N t_cells_11 t_size 4 v5 _ hk_14) (Or.inl rfl) 3 gX7_add_X7_put rfl hv_X7_put ⟨Nat.le_of_ble_eq_true rfl, Nat.le_of_ble_eq_true rfl⟩ rfl rfl (Nat.le_of_ble_eq_true rfl) ⟨rfl, rfl⟩ (Nat.zero_le _) (Nat.zero_le _) rfl rfl rfl dX7_add_64 [0, 1] rfl rfl [] rfl rfl (by decide) [0, 1] rfl rfl rfl ?_
    refine g_iload X dX7_add_67 6 rfl ?_
    exact hR _ _ _ _ dX7_add_69 (kV_in (u := (t_size, t_size_4, t_cells_13)) hf)
  · replace hf := ite_f hc_3 hf
    refine g_iconst (v := (-1)) X dX7_add_7 (by decide) ?_
    exact hR _ _ _ _ dX7_add_8 (kV_in (u := ((-1), t_size, t_cells)) hf)
def wd_X7_get (cI cZ : ClassId) (h_t : Nat) (h_t_cells : Nat) (t_most : Int32) (t_width : Int32) (t_size : Int32) (t_N : Nat) (t_cells : (Nat → Int32)) : va_W := [(h_t, .inr (3, [.int t_most, .int t_width, .ref h_t_cells, .int t_size])), (h_t_cells, .inl (cI, t_N, .inl t_cells))]
abbrev rm_X7_get : Room := { frames := 0, cells := 0, slots := 0, locals := 0 }
theorem hv_X7_get : yX7_get.cls = RX7 ∧ yX7_get.cls ≠ "java/lang/invoke/MethodHandle" ∧ yX7_get.cls ≠ "java/lang/invoke/VarHandle" ∧ (parseMethodDescriptor yX7_get.desc).map (fun d => d.parameters.length) = some 2 := by decide +kernel
theorem iw_X7_get_X7 : ∀ w ∈ u_ws RX7 TX7 4, w ∈ wsX7_get := by decide +kernel
theorem lk_X7_get_19 : Cond.fieldLink RX7 19 "ClerkChains$Rows" "width" "I" ∈ wsX7_get := by decide +kernel
theorem lk_X7_get_22 : Cond.fieldLink RX7 22 "ClerkChains$Rows" "cells" "[I" ∈ wsX7_get := by decide +kernel
theorem lk_X7_get_26 : Cond.fieldLink RX7 26 "ClerkChains$Rows" "size" "I" ∈ wsX7_get := by decide +kernel
set_option maxHeartbeats 4000000 in
set_option maxRecDepth 100000 in
theorem c_X7_get (l : Launch) (D : va_G) (cI cZ : ClassId) (h_t : Nat) (h_t_cells : Nat) (t_most : Int32) (t_width : Int32) (t_size : Int32) (t_N : Nat) (t_cells : (Nat → Int32)) (v1 : Int32) (v2 : Int32) (res : Int32) (hf : f_X7_get t_width t_size t_N t_cells v1 v2 = some res) : MetR l yX7_get wsX7_get rm_X7_get D cI cZ none [.ref h_t, .int v1, .int v2] (wd_X7_get cI cZ h_t h_t_cells t_most t_width t_size t_N t_cells) (kR res (fun u => some (.int u))) := by
  refine metR_of (cc := cX7_get) (maxL := 5) (ret := (some .int)) (own := RX7) (lv0 := [(0, .ref h_t), (1, .int v1), (2, .int v2)]) (by decide) rfl (Nat.le_of_ble_eq_true rfl) rfl rfl (fun G X hR => ?_)
  replace hR := rt_int hR
  unfold f_X7_get at hf
  have J46 : ∀ (s0 : Int32), f_X7_get_46 t_width t_size t_N t_cells s0 = some res → G 0 0 (wd_X7_get cI cZ h_t h_t_cells t_most t_width t_size t_N t_cells) [(0, .ref h_t)] 46 [.int s0] := by
    intro s0 hf
    unfold f_X7_get_46 at hf
    refine g_istore (lv' := [(0, .ref h_t), (4, .int s0)]) X dX7_get_46 (Nat.le_of_ble_eq_true rfl) [1, 0] rfl ?_
    refine g_iload X dX7_get_48 1 rfl ?_
    refine g_if_lt (tgt := 73) X dX7_get_50 (by decide) (fun hc_2 => ?_) (fun hc_2 => ?_)
    · replace hf := ite_t hc_2 hf
      refine g_iconst (v := (-1)) X dX7_get_73 (by decide) ?_
      exact hR _ _ _ _ dX7_get_74 (kR_in (u := (-1)) hf)
    · replace hf := ite_f hc_2 hf
      refine g_iload X dX7_get_53 1 rfl ?_
      refine g_aload_n X dX7_get_55 rfl 0 rfl ?_
      refine g_get (C := RX7) (T := TX7) (N := 4) (ci := 3) (v := (.ref h_t_cells)) X iw_X7_get_X7 0 rfl rfl 2 (by decide) lk_X7_get_22 rfl dX7_get_56 ?_
      refine g_alen X 1 rfl dX7_get_59 ?_
      refine g_icmp_ge (tgt := 73) X dX7_get_60 (by decide) (fun hc_3 => ?_) (fun hc_3 => ?_)
      · replace hf := ite_t hc_3 hf
        refine g_iconst (v := (-1)) X dX7_get_73 (by decide) ?_
        exact hR _ _ _ _ dX7_get_74 (kR_in (u := (-1)) hf)
      · replace hf := ite_f hc_3 hf
        refine g_aload_n X dX7_get_63 rfl 0 rfl ?_
        refine g_get (C := RX7) (T := TX7) (N := 4) (ci := 3) (v := (.ref h_t_cells)) X iw_X7_get_X7 0 rfl rfl 2 (by decide) lk_X7_get_22 rfl dX7_get_64 ?_
        refine g_iload X dX7_get_67 1 rfl ?_
        obtain ⟨hb_4, hf⟩ := chk_out hf
        refine g_iald X 1 rfl hb_4 dX7_get_69 ?_
        refine g_goto (tgt := 74) X dX7_get_70 (by decide) ?_
        exact hR _ _ _ _ dX7_get_74 (kR_in (u := (t_cells s0.toNatClampNeg)) hf)
  have J29 : ∀ (v1 : Int32) (v2 : Int32) (s0 : Int32), f_X7_get_29 t_width t_size t_N t_cells v1 v2 s0 = some res → G 0 0 (wd_X7_get cI cZ h_t h_t_cells t_most t_width t_size t_N t_cells) [(0, .ref h_t), (1, .int v1), (2, .int v2)] 29 [.int s0] := by
    intro v1 v2 s0 hf
    unfold f_X7_get_29 at hf
    refine g_istore_n (lv' := [(0, .ref h_t), (1, .int v1), (2, .int v2), (3, .int s0)]) X dX7_get_29 rfl (Nat.le_of_ble_eq_true rfl) [1, 2, 3, 0] rfl ?_
    refine g_iload_n X dX7_get_30 rfl 3 rfl ?_
    refine g_if_eq (tgt := 45) X dX7_get_31 (by decide) (fun hc_1 => ?_) (fun hc_1 => ?_)
    · replace hf := ite_t hc_1 hf
      refine g_iconst (v := (-1)) X dX7_get_45 (by decide) ?_
      refine g_lv X (lv' := [(0, .ref h_t)]) [0] rfl ?_
      exact J46 (-1) hf
    · replace hf := ite_f hc_1 hf
      refine g_iload_n X dX7_get_34 rfl 1 rfl ?_
      refine g_aload_n X dX7_get_35 rfl 0 rfl ?_
      refine g_get (C := RX7) (T := TX7) (N := 4) (ci := 3) (v := (.int t_width)) X iw_X7_get_X7 0 rfl rfl 1 (by decide) lk_X7_get_19 rfl dX7_get_36 ?_
      refine g_imul X dX7_get_39 ?_
      refine g_iload_n X dX7_get_40 rfl 2 rfl ?_
      refine g_iadd X dX7_get_41 ?_
      refine g_goto (tgt := 46) X dX7_get_42 (by decide) ?_
      refine g_lv X (lv' := [(0, .ref h_t)]) [0] rfl ?_
      exact J46 ((v1 * t_width) + v2) hf
  have J28 : ∀ (v1 : Int32) (v2 : Int32), f_X7_get_28 t_width t_size t_N t_cells v1 v2 = some res → G 0 0 (wd_X7_get cI cZ h_t h_t_cells t_most t_width t_size t_N t_cells) [(0, .ref h_t), (1, .int v1), (2, .int v2)] 28 [] := by
    intro v1 v2 hf
    unfold f_X7_get_28 at hf
    refine g_iconst (v := 0) X dX7_get_28 (by decide) ?_
    exact J29 v1 v2 0 hf
  refine g_iload_n X dX7_get_0 rfl 1 rfl ?_
  refine g_if_lt (tgt := 28) X dX7_get_1 (by decide) (fun hc_5 => ?_) (fun hc_5 => ?_)
  · replace hf := ite_t hc_5 hf
    exact J28 v1 v2 hf
  · replace hf := ite_f hc_5 hf
    refine g_iload_n X dX7_get_4 rfl 1 rfl ?_
    refine g_aload_n X dX7_get_5 rfl 0 rfl ?_
    refine g_get (C := RX7) (T := TX7) (N := 4) (ci := 3) (v := (.int t_size)) X iw_X7_get_X7 0 rfl rfl 3 (by decide) lk_X7_get_26 rfl dX7_get_6 ?_
    refine g_icmp_ge (tgt := 28) X dX7_get_9 (by decide) (fun hc_6 => ?_) (fun hc_6 => ?_)
    · replace hf := ite_t hc_6 hf
      exact J28 v1 v2 hf
    · replace hf := ite_f hc_6 hf
      refine g_iload_n X dX7_get_12 rfl 2 rfl ?_
      refine g_if_lt (tgt := 28) X dX7_get_13 (by decide) (fun hc_7 => ?_) (fun hc_7 => ?_)
      · replace hf := ite_t hc_7 hf
        exact J28 v1 v2 hf
      · replace hf := ite_f hc_7 hf
        refine g_iload_n X dX7_get_16 rfl 2 rfl ?_
        refine g_aload_n X dX7_get_17 rfl 0 rfl ?_
        refine g_get (C := RX7) (T := TX7) (N := 4) (ci := 3) (v := (.int t_width)) X iw_X7_get_X7 0 rfl rfl 1 (by decide) lk_X7_get_19 rfl dX7_get_18 ?_
        refine g_icmp_ge (tgt := 28) X dX7_get_21 (by decide) (fun hc_8 => ?_) (fun hc_8 => ?_)
        · replace hf := ite_t hc_8 hf
          exact J28 v1 v2 hf
        · replace hf := ite_f hc_8 hf
          refine g_iconst (v := 1) X dX7_get_24 (by decide) ?_
          refine g_goto (tgt := 29) X dX7_get_25 (by decide) ?_
          exact J29 v1 v2 1 hf
def wd_X11_hasBit (cI cZ : ClassId) : va_W := []
abbrev rm_X11_hasBit : Room := { frames := 0, cells := 0, slots := 0, locals := 0 }
theorem hs_X11_hasBit : yX11_hasBit.cls ≠ "java/lang/invoke/MethodHandle" ∧ yX11_hasBit.cls ≠ "java/lang/invoke/VarHandle" ∧ (parseMethodDescriptor yX11_hasBit.desc).map (fun d => d.parameters.length) = some 2 := by decide +kernel
set_option maxHeartbeats 4000000 in
set_option maxRecDepth 100000 in
theorem c_X11_hasBit (l : Launch) (D : va_G) (cI cZ : ClassId) (v0 : Int32) (v1 : Int32) (res : Int32) (hf : f_X11_hasBit v0 v1 = some res) : MetR l yX11_hasBit wsX11_hasBit rm_X11_hasBit D cI cZ none [.int v0, .int v1] (wd_X11_hasBit cI cZ) (kR res (fun u => some (.int u))) := by
  refine metR_of (cc := cX11_hasBit) (maxL := 2) (ret := (some .boolean)) (own := RX11) (lv0 := [(0, .int v0), (1, .int v1)]) (by decide) rfl (Nat.le_of_ble_eq_true rfl) rfl rfl (fun G X hR => ?_)
  replace hR := rt_bool hR
  unfold f_X11_hasBit at hf
  refine g_iload_n X dX11_hasBit_0 rfl 0 rfl ?_
  refine g_iload_n X dX11_hasBit_1 rfl 1 rfl ?_
  refine g_ishr X dX11_hasBit_2 ?_
  refine g_iconst (v := 1) X dX11_hasBit_3 (by decide) ?_
  refine g_iand X dX11_hasBit_4 ?_
  refine g_if_eq (tgt := 12) X dX11_hasBit_5 (by decide) (fun hc_1 => ?_) (fun hc_1 => ?_)
  · replace hf := ite_t hc_1 hf
    refine g_iconst (v := 0) X dX11_hasBit_12 (by decide) ?_
    exact hR _ _ _ _ (Or.inl rfl) dX11_hasBit_13 (kR_in (u := 0) hf)
  · replace hf := ite_f hc_1 hf
    refine g_iconst (v := 1) X dX11_hasBit_8 (by decide) ?_
    refine g_goto (tgt := 13) X dX11_hasBit_9 (by decide) ?_
    exact hR _ _ _ _ (Or.inr rfl) dX11_hasBit_13 (kR_in (u := 1) hf)
def wd_X4_pulls (cI cZ : ClassId) : va_W := []
abbrev rm_X4_pulls : Room := { frames := 1, cells := 0, slots := 0, locals := 21 }
theorem hs_X4_pulls : yX4_pulls.cls ≠ "java/lang/invoke/MethodHandle" ∧ yX4_pulls.cls ≠ "java/lang/invoke/VarHandle" ∧ (parseMethodDescriptor yX4_pulls.desc).map (fun d => d.parameters.length) = some 4 := by decide +kernel
theorem lk_X4_pulls_m15 : Cond.methodLink RX4 15 Lib.Math.max.name ∈ wsX4_pulls := by decide +kernel
theorem lk_X4_pulls_smax : Cond.static Lib.Math.max.name ∈ wsX4_pulls := by decide +kernel
theorem lk_X4_pulls_iMath : Cond.initialized "java/lang/Math" ∈ wsX4_pulls := by decide +kernel
theorem lk_X4_pulls_cmax : Cond.code Lib.Math.max.name Lib.Math.max.code 2 (some .int) ∈ wsX4_pulls := by decide +kernel
set_option maxHeartbeats 4000000 in
set_option maxRecDepth 100000 in
theorem c_X4_pulls (l : Launch) (D : va_G) (cI cZ : ClassId) (v0 : Int32) (v1 : Int32) (v2 : Int32) (v3 : Int32) (res : Int32) (hf : f_X4_pulls v0 v1 v2 v3 = some res) : MetR l yX4_pulls wsX4_pulls rm_X4_pulls D cI cZ none [.int v0, .int v1, .int v2, .int v3] (wd_X4_pulls cI cZ) (kR res (fun u => some (.int u))) := by
  refine metR_of (cc := cX4_pulls) (maxL := 7) (ret := (some .int)) (own := RX4) (lv0 := [(0, .int v0), (1, .int v1), (2, .int v2), (3, .int v3)]) (by decide) rfl (Nat.le_of_ble_eq_true rfl) rfl rfl (fun G X hR => ?_)
  replace hR := rt_int hR
  unfold f_X4_pulls at hf
  have J25 : ∀ (v0 : Int32) (v3 : Int32) (v4 : Int32) (s0 : Int32), f_X4_pulls_25 v0 v3 v4 s0 = some res → G 0 0 (wd_X4_pulls cI cZ) [(0, .int v0), (3, .int v3), (4, .int v4)] 25 [.int s0] := by
    intro v0 v3 v4 s0 hf
    unfold f_X4_pulls_25 at hf
    refine g_istore (lv' := [(0, .int v0), (3, .int v3), (4, .int v4), (5, .int s0)]) X dX4_pulls_25 (Nat.le_of_ble_eq_true rfl) [1, 2, 3, 0] rfl ?_
    refine g_iload X dX4_pulls_27 2 rfl ?_
    refine g_iconst (v := 1) X dX4_pulls_29 (by decide) ?_
    refine g_iadd X dX4_pulls_30 ?_
    refine g_iconst (v := 2) X dX4_pulls_31 (by decide) ?_
    obtain ⟨hz_1, hf⟩ := chz_out hf
    refine g_idiv X dX4_pulls_32 hz_1 ?_
    obtain ⟨v6_2, ev6_2, hf⟩ := bnd_out hf
    refine g_nmI X ev6_2 ?_
    refine g_istore (lv' := [(0, .int v0), (3, .int v3), (4, .int v4), (5, .int s0), (6, .int v6_2)]) X dX4_pulls_33 (Nat.le_of_ble_eq_true rfl) [1, 2, 3, 4, 0] rfl ?_
    refine g_iload_n X dX4_pulls_35 rfl 0 rfl ?_
    by_cases hc_3 : v0 = 1
    · replace hf := ite_t hc_3 hf
      refine g_tableIn (tgt := 72) X dX4_pulls_36 (by rw [hc_3]; decide) (by rw [hc_3]; decide) (by rw [hc_3]; rfl) (by decide) ?_
      refine g_iload X dX4_pulls_72 3 rfl ?_
      exact hR _ _ _ _ dX4_pulls_74 (kR_in (u := s0) hf)
    · replace hf := ite_f hc_3 hf
      by_cases hc_4 : v0 = 2
      · replace hf := ite_t hc_4 hf
        refine g_tableIn (tgt := 75) X dX4_pulls_36 (by rw [hc_4]; decide) (by rw [hc_4]; decide) (by rw [hc_4]; rfl) (by decide) ?_
        refine g_iload X dX4_pulls_75 4 rfl ?_
        exact hR _ _ _ _ dX4_pulls_77 (kR_in (u := v6_2) hf)
      · replace hf := ite_f hc_4 hf
        by_cases hc_5 : v0 = 3
        · replace hf := ite_t hc_5 hf
          refine g_tableIn (tgt := 78) X dX4_pulls_36 (by rw [hc_5]; decide) (by rw [hc_5]; decide) (by rw [hc_5]; rfl) (by decide) ?_
          refine g_iload_n X dX4_pulls_78 rfl 1 rfl ?_
          refine g_iconst (v := 2) X dX4_pulls_79 (by decide) ?_
          obtain ⟨hz_6, hf⟩ := chz_out hf
          refine g_irem X dX4_pulls_80 hz_6 ?_
          refine g_if_ne (tgt := 89) X dX4_pulls_81 (by decide) (fun hc_7 => ?_) (fun hc_7 => ?_)
          · replace hf := ite_f hc_7 hf
            refine g_iconst (v := 0) X dX4_pulls_89 (by decide) ?_
            exact hR _ _ _ _ dX4_pulls_90 (kR_in (u := 0) hf)
          · replace hf := ite_t hc_7 hf
            refine g_iload X dX4_pulls_84 4 rfl ?_
            refine g_goto (tgt := 90) X dX4_pulls_86 (by decide) ?_
            exact hR _ _ _ _ dX4_pulls_90 (kR_in (u := v6_2) hf)
        · replace hf := ite_f hc_5 hf
          by_cases hc_8 : v0 = 4
          · replace hf := ite_t hc_8 hf
            refine g_tableIn (tgt := 91) X dX4_pulls_36 (by rw [hc_8]; decide) (by rw [hc_8]; decide) (by rw [hc_8]; rfl) (by decide) ?_
            refine g_iload X dX4_pulls_91 2 rfl ?_
            refine g_ineg X dX4_pulls_93 ?_
            exact hR _ _ _ _ dX4_pulls_94 (kR_in (u := (-v4)) hf)
          · replace hf := ite_f hc_8 hf
            by_cases hc_9 : v0 = 5
            · replace hf := ite_t hc_9 hf
              refine g_tableIn (tgt := 95) X dX4_pulls_36 (by rw [hc_9]; decide) (by rw [hc_9]; decide) (by rw [hc_9]; rfl) (by decide) ?_
              refine g_iload X dX4_pulls_95 3 rfl ?_
              refine g_iconst (v := 1) X dX4_pulls_97 (by decide) ?_
              refine g_icmp_lt (tgt := 108) X dX4_pulls_98 (by decide) (fun hc_10 => ?_) (fun hc_10 => ?_)
              · replace hf := ite_t hc_10 hf
                refine g_iload X dX4_pulls_108 3 rfl ?_
                exact hR _ _ _ _ dX4_pulls_110 (kR_in (u := s0) hf)
              · replace hf := ite_f hc_10 hf
                refine g_iload X dX4_pulls_101 3 rfl ?_
                refine g_iconst (v := 3) X dX4_pulls_103 (by decide) ?_
                refine g_iadd X dX4_pulls_104 ?_
                refine g_goto (tgt := 110) X dX4_pulls_105 (by decide) ?_
                exact hR _ _ _ _ dX4_pulls_110 (kR_in (u := (s0 + 3)) hf)
            · replace hf := ite_f hc_9 hf
              have thc_3 := lv_neT hc_3 (show (1 : Int32).toInt = 1 by decide)
              have thc_4 := lv_neT hc_4 (show (2 : Int32).toInt = 2 by decide)
              have thc_5 := lv_neT hc_5 (show (3 : Int32).toInt = 3 by decide)
              have thc_8 := lv_neT hc_8 (show (4 : Int32).toInt = 4 by decide)
              have thc_9 := lv_neT hc_9 (show (5 : Int32).toInt = 5 by decide)
              refine g_tableOut (tgt := 111) X dX4_pulls_36 (by omega) (by decide) ?_
              refine g_iload X dX4_pulls_111 2 rfl ?_
              exact hR _ _ _ _ dX4_pulls_113 (kR_in (u := v4) hf)
  refine g_iconst (v := 0) X dX4_pulls_0 (by decide) ?_
  refine g_iconst (v := 2) X dX4_pulls_1 (by decide) ?_
  refine g_iload_n X dX4_pulls_2 rfl 1 rfl ?_
  refine g_imul X dX4_pulls_3 ?_
  refine g_iload_n X dX4_pulls_4 rfl 2 rfl ?_
  refine g_isub X dX4_pulls_5 ?_
  refine g_mmax X lk_X4_pulls_m15 lk_X4_pulls_smax lk_X4_pulls_iMath lk_X4_pulls_cmax dX4_pulls_6 (Nat.le_of_ble_eq_true rfl) (Nat.le_of_ble_eq_true rfl) (Nat.zero_le _) (Nat.zero_le _) ?_
  obtain ⟨v4_11, ev4_11, hf⟩ := bnd_out hf
  refine g_nmI X ev4_11 ?_
  refine g_istore (lv' := [(0, .int v0), (1, .int v1), (2, .int v2), (3, .int v3), (4, .int v4_11)]) X dX4_pulls_9 (Nat.le_of_ble_eq_true rfl) [1, 2, 3, 4, 0] rfl ?_
  refine g_iload_n X dX4_pulls_11 rfl 2 rfl ?_
  refine g_iconst (v := 2) X dX4_pulls_12 (by decide) ?_
  refine g_icmp_gt (tgt := 23) X dX4_pulls_13 (by decide) (fun hc_12 => ?_) (fun hc_12 => ?_)
  · replace hf := ite_t hc_12 hf
    refine g_iload X dX4_pulls_23 4 rfl ?_
    refine g_lv X (lv' := [(0, .int v0), (3, .int v3), (4, .int v4_11)]) [0, 3, 4] rfl ?_
    exact J25 v0 v3 v4_11 v4_11 hf
  · replace hf := ite_f hc_12 hf
    refine g_iconst (v := 2) X dX4_pulls_16 (by decide) ?_
    refine g_iload X dX4_pulls_17 4 rfl ?_
    refine g_imul X dX4_pulls_19 ?_
    refine g_goto (tgt := 25) X dX4_pulls_20 (by decide) ?_
    refine g_lv X (lv' := [(0, .int v0), (3, .int v3), (4, .int v4_11)]) [0, 3, 4] rfl ?_
    exact J25 v0 v3 v4_11 (2 * v4_11) hf
def wd_J6_signum_0f7a4 (cI cZ : ClassId) : va_W := []
abbrev rm_J6_signum_0f7a4 : Room := { frames := 0, cells := 0, slots := 0, locals := 0 }
theorem hs_J6_signum_0f7a4 : yJ6_signum_0f7a4.cls ≠ "java/lang/invoke/MethodHandle" ∧ yJ6_signum_0f7a4.cls ≠ "java/lang/invoke/VarHandle" ∧ (parseMethodDescriptor yJ6_signum_0f7a4.desc).map (fun d => d.parameters.length) = some 1 := by decide +kernel
set_option maxHeartbeats 4000000 in
set_option maxRecDepth 100000 in
theorem c_J6_signum_0f7a4 (l : Launch) (D : va_G) (cI cZ : ClassId) (v0 : Int32) (res : Int32) (hf : f_J6_signum_0f7a4 v0 = some res) : MetR l yJ6_signum_0f7a4 wsJ6_signum_0f7a4 rm_J6_signum_0f7a4 D cI cZ none [.int v0] (wd_J6_signum_0f7a4 cI cZ) (kR res (fun u => some (.int u))) := by
  refine metR_of (cc := cJ6_signum_0f7a4) (maxL := 1) (ret := (some .int)) (own := RJ6) (lv0 := [(0, .int v0)]) (by decide) rfl (Nat.le_of_ble_eq_true rfl) rfl rfl (fun G X hR => ?_)
  replace hR := rt_int hR
  unfold f_J6_signum_0f7a4 at hf
  refine g_iload_n X dJ6_signum_0f7a4_0 rfl 0 rfl ?_
  refine g_bipush (v := 31) X dJ6_signum_0f7a4_1 (by decide) ?_
  refine g_ishr X dJ6_signum_0f7a4_3 ?_
  refine g_iload_n X dJ6_signum_0f7a4_4 rfl 0 rfl ?_
  refine g_ineg X dJ6_signum_0f7a4_5 ?_
  refine g_bipush (v := 31) X dJ6_signum_0f7a4_6 (by decide) ?_
  refine g_iushr X dJ6_signum_0f7a4_8 rfl ?_
  refine g_ior X dJ6_signum_0f7a4_9 ?_
  exact hR _ _ _ _ dJ6_signum_0f7a4_10 (kR_in (u := ((v0 >>> (31 &&& 31)) ||| (((-v0).toUInt32 >>> ((31 : Int32).toUInt32 &&& Int32.toUInt32 31)).toInt32))) hf)
def wd_X7_copyFrom (cI cZ : ClassId) (h_t : Nat) (h_t_cells : Nat) (h_p1 : Nat) (h_p1_cells : Nat) (t_most : Int32) (t_width : Int32) (t_size : Int32) (t_N : Nat) (t_cells : (Nat → Int32)) (p1_most : Int32) (p1_width : Int32) (p1_size : Int32) (p1_N : Nat) (p1_cells : (Nat → Int32)) : va_W := [(h_t, .inr (3, [.int t_most, .int t_width, .ref h_t_cells, .int t_size])), (h_t_cells, .inl (cI, t_N, .inl t_cells)), (h_p1, .inr (3, [.int p1_most, .int p1_width, .ref h_p1_cells, .int p1_size])), (h_p1_cells, .inl (cI, p1_N, .inl p1_cells))]
abbrev rm_X7_copyFrom : Room := { frames := 1, cells := 0, slots := 0, locals := 22 }
theorem hv_X7_copyFrom : yX7_copyFrom.cls = RX7 ∧ yX7_copyFrom.cls ≠ "java/lang/invoke/MethodHandle" ∧ yX7_copyFrom.cls ≠ "java/lang/invoke/VarHandle" ∧ (parseMethodDescriptor yX7_copyFrom.desc).map (fun d => d.parameters.length) = some 1 := by decide +kernel
theorem iw_X7_copyFrom_X7 : ∀ w ∈ u_ws RX7 TX7 4, w ∈ wsX7_copyFrom := by decide +kernel
theorem lk_X7_copyFrom_26 : Cond.fieldLink RX7 26 "ClerkChains$Rows" "size" "I" ∈ wsX7_copyFrom := by decide +kernel
theorem lk_X7_copyFrom_19 : Cond.fieldLink RX7 19 "ClerkChains$Rows" "width" "I" ∈ wsX7_copyFrom := by decide +kernel
theorem lk_X7_copyFrom_22 : Cond.fieldLink RX7 22 "ClerkChains$Rows" "cells" "[I" ∈ wsX7_copyFrom := by decide +kernel
theorem lk_X7_copyFrom_iX11 : Cond.initialized RX11 ∈ wsX7_copyFrom := by decide +kernel
theorem lk_X7_copyFrom_sX11_cell : Cond.static yX11_cell ∈ wsX7_copyFrom := by decide +kernel
theorem lk_X7_copyFrom_sX11_setCell : Cond.static yX11_setCell ∈ wsX7_copyFrom := by decide +kernel
theorem lk_X7_copyFrom_13 : Cond.fieldLink RX7 13 "ClerkChains$Rows" "most" "I" ∈ wsX7_copyFrom := by decide +kernel
theorem lk_X7_copyFrom_m48 : Cond.methodLink RX7 48 Lib.Math.min.name ∈ wsX7_copyFrom := by decide +kernel
theorem lk_X7_copyFrom_smin : Cond.static Lib.Math.min.name ∈ wsX7_copyFrom := by decide +kernel
theorem lk_X7_copyFrom_iMath : Cond.initialized "java/lang/Math" ∈ wsX7_copyFrom := by decide +kernel
theorem lk_X7_copyFrom_cmin : Cond.code Lib.Math.min.name Lib.Math.min.code 2 (some .int) ∈ wsX7_copyFrom := by decide +kernel
set_option maxHeartbeats 4000000 in
set_option maxRecDepth 100000 in
theorem c_X7_copyFrom (l : Launch) (D : va_G) (cI cZ : ClassId) (h_t : Nat) (h_t_cells : Nat) (h_p1 : Nat) (h_p1_cells : Nat) (t_most : Int32) (t_width : Int32) (t_size : Int32) (t_N : Nat) (t_cells : (Nat → Int32)) (p1_most : Int32) (p1_width : Int32) (p1_size : Int32) (p1_N : Nat) (p1_cells : (Nat → Int32)) (res : Int32 × (Nat → Int32)) (hf : f_X7_copyFrom t_most t_width t_size t_N t_cells p1_size p1_N p1_cells = some res) : MetG l yX7_copyFrom wsX7_copyFrom rm_X7_copyFrom D cI cZ none [.ref h_t, .ref h_p1] (wd_X7_copyFrom cI cZ h_t h_t_cells h_p1 h_p1_cells t_most t_width t_size t_N t_cells p1_most p1_width p1_size p1_N p1_cells) (kV res (fun _ => none) (fun u => (wd_X7_copyFrom cI cZ h_t h_t_cells h_p1 h_p1_cells t_most t_width (u.1) t_N (u.2) p1_most p1_width p1_size p1_N p1_cells))) := by
  refine metG_of (cc := cX7_copyFrom) (maxL := 3) (ret := none) (own := RX7) (lv0 := [(0, .ref h_t), (1, .ref h_p1)]) (ini := false) (by decide) rfl (Nat.le_of_ble_eq_true rfl) rfl rfl (fun h => by cases h) (fun G X hR => ?_)
  replace hR := rt_void hR
  unfold f_X7_copyFrom at hf
  have J17 : ∀ (n : Nat) (t_size : Int32) (t_cells : (Nat → Int32)) (v2 : Int32), f_X7_copyFrom_17 t_most t_width t_N p1_size p1_N p1_cells n t_size t_cells v2 = some res → G 0 0 (wd_X7_copyFrom cI cZ h_t h_t_cells h_p1 h_p1_cells t_most t_width t_size t_N t_cells p1_most p1_width p1_size p1_N p1_cells) [(0, .ref h_t), (1, .ref h_p1), (2, .int v2)] 17 [] := by
    intro n
    induction n with
    | zero => intro t_size t_cells v2 hf; rw [f_X7_copyFrom_17] at hf; cases hf
    | succ n ih =>
      intro t_size t_cells v2 hf
      rw [f_X7_copyFrom_17] at hf
      refine g_iload_n X dX7_copyFrom_17 rfl 2 rfl ?_
      refine g_aload_n X dX7_copyFrom_18 rfl 0 rfl ?_
      refine g_get (C := RX7) (T := TX7) (N := 4) (ci := 3) (v := (.int t_size)) X iw_X7_copyFrom_X7 0 rfl rfl 3 (by decide) lk_X7_copyFrom_26 rfl dX7_copyFrom_19 ?_
      refine g_aload_n X dX7_copyFrom_22 rfl 0 rfl ?_
      refine g_get (C := RX7) (T := TX7) (N := 4) (ci := 3) (v := (.int t_width)) X iw_X7_copyFrom_X7 0 rfl rfl 1 (by decide) lk_X7_copyFrom_19 rfl dX7_copyFrom_23 ?_
      refine g_imul X dX7_copyFrom_26 ?_
      refine g_icmp_ge (tgt := 52) X dX7_copyFrom_27 (by decide) (fun hc_1 => ?_) (fun hc_1 => ?_)
      · replace hf := ite_t hc_1 hf
        exact hR _ _ _ dX7_copyFrom_52 (kV_in (u := (t_size, t_cells)) hf)
      · replace hf := ite_f hc_1 hf
        refine g_aload_n X dX7_copyFrom_30 rfl 0 rfl ?_
        refine g_get (C := RX7) (T := TX7) (N := 4) (ci := 3) (v := (.ref h_t_cells)) X iw_X7_copyFrom_X7 0 rfl rfl 2 (by decide) lk_X7_copyFrom_22 rfl dX7_copyFrom_31 ?_
        refine g_iload_n X dX7_copyFrom_34 rfl 2 rfl ?_
        refine g_aload_n X dX7_copyFrom_35 rfl 1 rfl ?_
        refine g_get (C := RX7) (T := TX7) (N := 4) (ci := 3) (v := (.ref h_p1_cells)) X iw_X7_copyFrom_X7 2 rfl rfl 2 (by decide) lk_X7_copyFrom_22 rfl dX7_copyFrom_36 ?_
        refine g_iload_n X dX7_copyFrom_39 rfl 2 rfl ?_
        obtain ⟨r_2, hk_3, hf⟩ := ob1_out hf
        refine g_cNR (st := [.int v2, .ref h_t_cells]) (st1 := [.int r_2, .int v2, .ref h_t_cells]) X (c_X11_cell l D cI cZ h_p1_cells p1_N p1_cells v2 _ hk_3) (Or.inl rfl) 2 gX7_copyFrom_X11_cell_n37 (by decide +kernel) lk_X7_copyFrom_iX11 lk_X7_copyFrom_sX11_cell rfl hs_X11_cell ⟨Nat.le_of_ble_eq_true rfl, Nat.le_of_ble_eq_true rfl⟩ rfl rfl (Nat.le_of_ble_eq_true rfl) ⟨rfl, rfl⟩ (Nat.zero_le _) (Nat.zero_le _) dX7_copyFrom_40 [3] rfl rfl rfl ?_
        obtain ⟨t_cells_4, hk_5, hf⟩ := ob1_out hf
        refine g_cNW (st := []) (st1 := []) (ws' := (wd_X7_copyFrom cI cZ h_t h_t_cells h_p1 h_p1_cells t_most t_width t_size t_N t_cells_4 p1_most p1_width p1_size p1_N p1_cells)) X (c_X11_setCell l D cI cZ h_t_cells t_N t_cells v2 r_2 _ hk_5) (Or.inl rfl) 3 gX7_copyFrom_X11_setCell_n41 (by decide +kernel) lk_X7_copyFrom_iX11 lk_X7_copyFrom_sX11_setCell rfl hs_X11_setCell ⟨Nat.le_of_ble_eq_true rfl, Nat.le_of_ble_eq_true rfl⟩ rfl rfl (Nat.le_of_ble_eq_true rfl) ⟨rfl, rfl⟩ (Nat.zero_le _) (Nat.zero_le _) dX7_copyFrom_43 [1] rfl rfl [0, 2, 3] rfl rfl (by decide) [0, 3, 1, 2] rfl rfl rfl ?_
        obtain ⟨v2_6, ev2_6, hf⟩ := bnd_out hf
        refine g_iinc (v := v2_6) (lv' := [(0, .ref h_t), (1, .ref h_p1), (2, .int v2_6)]) X dX7_copyFrom_46 2 rfl (by rw [ev2_6]; rfl) (Nat.le_of_ble_eq_true rfl) [1, 2, 0] rfl ?_
        refine g_goto (tgt := 17) X dX7_copyFrom_49 (by decide) ?_
        exact ih t_size t_cells_4 v2_6 hf
  refine g_aload_n X dX7_copyFrom_0 rfl 0 rfl ?_
  refine g_aload_n X dX7_copyFrom_1 rfl 1 rfl ?_
  refine g_get (C := RX7) (T := TX7) (N := 4) (ci := 3) (v := (.int p1_size)) X iw_X7_copyFrom_X7 2 rfl rfl 3 (by decide) lk_X7_copyFrom_26 rfl dX7_copyFrom_2 ?_
  refine g_aload_n X dX7_copyFrom_5 rfl 0 rfl ?_
  refine g_get (C := RX7) (T := TX7) (N := 4) (ci := 3) (v := (.int t_most)) X iw_X7_copyFrom_X7 0 rfl rfl 0 (by decide) lk_X7_copyFrom_13 rfl dX7_copyFrom_6 ?_
  refine g_mmin X lk_X7_copyFrom_m48 lk_X7_copyFrom_smin lk_X7_copyFrom_iMath lk_X7_copyFrom_cmin dX7_copyFrom_9 (Nat.le_of_ble_eq_true rfl) (Nat.le_of_ble_eq_true rfl) (Nat.zero_le _) (Nat.zero_le _) ?_
  obtain ⟨t_size_7, et_size_7, hf⟩ := bnd_out hf
  refine g_nmI X et_size_7 ?_
  refine g_put (C := RX7) (T := TX7) (N := 4) (ci := 3) (v := .int t_size_7) (ws' := (wd_X7_copyFrom cI cZ h_t h_t_cells h_p1 h_p1_cells t_most t_width t_size_7 t_N t_cells p1_most p1_width p1_size p1_N p1_cells)) X iw_X7_copyFrom_X7 tyX7 tyX7_ok nmX7 0 rfl rfl 3 (by decide) lk_X7_copyFrom_26 rfl (tyX7_ok 3 (by decide)) rfl rfl (Nat.le_of_ble_eq_true rfl) dX7_copyFrom_12 rfl ?_
  refine g_iconst (v := 0) X dX7_copyFrom_15 (by decide) ?_
  refine g_istore_n (lv' := [(0, .ref h_t), (1, .ref h_p1), (2, .int 0)]) X dX7_copyFrom_16 rfl (Nat.le_of_ble_eq_true rfl) [1, 2, 0] rfl ?_
  exact J17 FU t_size_7 t_cells 0 hf
def wd_X7_has (cI cZ : ClassId) (h_t : Nat) (h_t_cells : Nat) (t_most : Int32) (t_width : Int32) (t_size : Int32) : va_W := [(h_t, .inr (3, [.int t_most, .int t_width, .ref h_t_cells, .int t_size]))]
abbrev rm_X7_has : Room := { frames := 0, cells := 0, slots := 0, locals := 0 }
theorem hv_X7_has : yX7_has.cls = RX7 ∧ yX7_has.cls ≠ "java/lang/invoke/MethodHandle" ∧ yX7_has.cls ≠ "java/lang/invoke/VarHandle" ∧ (parseMethodDescriptor yX7_has.desc).map (fun d => d.parameters.length) = some 1 := by decide +kernel
theorem iw_X7_has_X7 : ∀ w ∈ u_ws RX7 TX7 4, w ∈ wsX7_has := by decide +kernel
theorem lk_X7_has_26 : Cond.fieldLink RX7 26 "ClerkChains$Rows" "size" "I" ∈ wsX7_has := by decide +kernel
set_option maxHeartbeats 4000000 in
set_option maxRecDepth 100000 in
theorem c_X7_has (l : Launch) (D : va_G) (cI cZ : ClassId) (h_t : Nat) (h_t_cells : Nat) (t_most : Int32) (t_width : Int32) (t_size : Int32) (v1 : Int32) (res : Int32) (hf : f_X7_has t_size v1 = some res) : MetR l yX7_has wsX7_has rm_X7_has D cI cZ none [.ref h_t, .int v1] (wd_X7_has cI cZ h_t h_t_cells t_most t_width t_size) (kR res (fun u => some (.int u))) := by
  refine metR_of (cc := cX7_has) (maxL := 2) (ret := (some .boolean)) (own := RX7) (lv0 := [(0, .ref h_t), (1, .int v1)]) (by decide) rfl (Nat.le_of_ble_eq_true rfl) rfl rfl (fun G X hR => ?_)
  replace hR := rt_bool hR
  unfold f_X7_has at hf
  refine g_iload_n X dX7_has_0 rfl 1 rfl ?_
  refine g_if_lt (tgt := 16) X dX7_has_1 (by decide) (fun hc_1 => ?_) (fun hc_1 => ?_)
  · replace hf := ite_t hc_1 hf
    refine g_iconst (v := 0) X dX7_has_16 (by decide) ?_
    exact hR _ _ _ _ (Or.inl rfl) dX7_has_17 (kR_in (u := 0) hf)
  · replace hf := ite_f hc_1 hf
    refine g_iload_n X dX7_has_4 rfl 1 rfl ?_
    refine g_aload_n X dX7_has_5 rfl 0 rfl ?_
    refine g_get (C := RX7) (T := TX7) (N := 4) (ci := 3) (v := (.int t_size)) X iw_X7_has_X7 0 rfl rfl 3 (by decide) lk_X7_has_26 rfl dX7_has_6 ?_
    refine g_icmp_ge (tgt := 16) X dX7_has_9 (by decide) (fun hc_2 => ?_) (fun hc_2 => ?_)
    · replace hf := ite_t hc_2 hf
      refine g_iconst (v := 0) X dX7_has_16 (by decide) ?_
      exact hR _ _ _ _ (Or.inl rfl) dX7_has_17 (kR_in (u := 0) hf)
    · replace hf := ite_f hc_2 hf
      refine g_iconst (v := 1) X dX7_has_12 (by decide) ?_
      refine g_goto (tgt := 17) X dX7_has_13 (by decide) ?_
      exact hR _ _ _ _ (Or.inr rfl) dX7_has_17 (kR_in (u := 1) hf)
def wd_X7_dropLast (cI cZ : ClassId) (h_t : Nat) (h_t_cells : Nat) (t_most : Int32) (t_width : Int32) (t_size : Int32) : va_W := [(h_t, .inr (3, [.int t_most, .int t_width, .ref h_t_cells, .int t_size]))]
abbrev rm_X7_dropLast : Room := { frames := 0, cells := 0, slots := 0, locals := 0 }
theorem hv_X7_dropLast : yX7_dropLast.cls = RX7 ∧ yX7_dropLast.cls ≠ "java/lang/invoke/MethodHandle" ∧ yX7_dropLast.cls ≠ "java/lang/invoke/VarHandle" ∧ (parseMethodDescriptor yX7_dropLast.desc).map (fun d => d.parameters.length) = some 0 := by decide +kernel
theorem iw_X7_dropLast_X7 : ∀ w ∈ u_ws RX7 TX7 4, w ∈ wsX7_dropLast := by decide +kernel
theorem lk_X7_dropLast_26 : Cond.fieldLink RX7 26 "ClerkChains$Rows" "size" "I" ∈ wsX7_dropLast := by decide +kernel
set_option maxHeartbeats 4000000 in
set_option maxRecDepth 100000 in
theorem c_X7_dropLast (l : Launch) (D : va_G) (cI cZ : ClassId) (h_t : Nat) (h_t_cells : Nat) (t_most : Int32) (t_width : Int32) (t_size : Int32) (res : Int32) (hf : f_X7_dropLast t_size = some res) : MetG l yX7_dropLast wsX7_dropLast rm_X7_dropLast D cI cZ none [.ref h_t] (wd_X7_dropLast cI cZ h_t h_t_cells t_most t_width t_size) (kV res (fun _ => none) (fun u => (wd_X7_dropLast cI cZ h_t h_t_cells t_most t_width u))) := by
  refine metG_of (cc := cX7_dropLast) (maxL := 1) (ret := none) (own := RX7) (lv0 := [(0, .ref h_t)]) (ini := false) (by decide) rfl (Nat.le_of_ble_eq_true rfl) rfl rfl (fun h => by cases h) (fun G X hR => ?_)
  replace hR := rt_void hR
  unfold f_X7_dropLast at hf
  refine g_aload_n X dX7_dropLast_0 rfl 0 rfl ?_
  refine g_get (C := RX7) (T := TX7) (N := 4) (ci := 3) (v := (.int t_size)) X iw_X7_dropLast_X7 0 rfl rfl 3 (by decide) lk_X7_dropLast_26 rfl dX7_dropLast_1 ?_
  refine g_if_le (tgt := 17) X dX7_dropLast_4 (by decide) (fun hc_1 => ?_) (fun hc_1 => ?_)
  · replace hf := ite_t hc_1 hf
    exact hR _ _ _ dX7_dropLast_17 (kV_in (u := t_size) hf)
  · replace hf := ite_f hc_1 hf
    refine g_aload_n X dX7_dropLast_7 rfl 0 rfl ?_
    refine g_dup X dX7_dropLast_8 rfl ?_
    refine g_get (C := RX7) (T := TX7) (N := 4) (ci := 3) (v := (.int t_size)) X iw_X7_dropLast_X7 0 rfl rfl 3 (by decide) lk_X7_dropLast_26 rfl dX7_dropLast_9 ?_
    refine g_iconst (v := 1) X dX7_dropLast_12 (by decide) ?_
    refine g_isub X dX7_dropLast_13 ?_
    obtain ⟨t_size_2, et_size_2, hf⟩ := bnd_out hf
    refine g_nmI X et_size_2 ?_
    refine g_put (C := RX7) (T := TX7) (N := 4) (ci := 3) (v := .int t_size_2) (ws' := (wd_X7_dropLast cI cZ h_t h_t_cells t_most t_width t_size_2)) X iw_X7_dropLast_X7 tyX7 tyX7_ok nmX7 0 rfl rfl 3 (by decide) lk_X7_dropLast_26 rfl (tyX7_ok 3 (by decide)) rfl rfl (Nat.le_of_ble_eq_true rfl) dX7_dropLast_14 rfl ?_
    exact hR _ _ _ dX7_dropLast_17 (kV_in (u := t_size_2) hf)
def wd_X7_dropFirst (cI cZ : ClassId) (h_t : Nat) (h_t_cells : Nat) (t_most : Int32) (t_width : Int32) (t_size : Int32) (t_N : Nat) (t_cells : (Nat → Int32)) : va_W := [(h_t, .inr (3, [.int t_most, .int t_width, .ref h_t_cells, .int t_size])), (h_t_cells, .inl (cI, t_N, .inl t_cells))]
abbrev rm_X7_dropFirst : Room := { frames := 1, cells := 0, slots := 0, locals := 22 }
theorem hv_X7_dropFirst : yX7_dropFirst.cls = RX7 ∧ yX7_dropFirst.cls ≠ "java/lang/invoke/MethodHandle" ∧ yX7_dropFirst.cls ≠ "java/lang/invoke/VarHandle" ∧ (parseMethodDescriptor yX7_dropFirst.desc).map (fun d => d.parameters.length) = some 0 := by decide +kernel
theorem iw_X7_dropFirst_X7 : ∀ w ∈ u_ws RX7 TX7 4, w ∈ wsX7_dropFirst := by decide +kernel
theorem lk_X7_dropFirst_22 : Cond.fieldLink RX7 22 "ClerkChains$Rows" "cells" "[I" ∈ wsX7_dropFirst := by decide +kernel
theorem lk_X7_dropFirst_19 : Cond.fieldLink RX7 19 "ClerkChains$Rows" "width" "I" ∈ wsX7_dropFirst := by decide +kernel
theorem lk_X7_dropFirst_iX11 : Cond.initialized RX11 ∈ wsX7_dropFirst := by decide +kernel
theorem lk_X7_dropFirst_sX11_cell : Cond.static yX11_cell ∈ wsX7_dropFirst := by decide +kernel
theorem lk_X7_dropFirst_sX11_setCell : Cond.static yX11_setCell ∈ wsX7_dropFirst := by decide +kernel
set_option maxHeartbeats 4000000 in
set_option maxRecDepth 100000 in
theorem c_X7_dropFirst (l : Launch) (D : va_G) (cI cZ : ClassId) (h_t : Nat) (h_t_cells : Nat) (t_most : Int32) (t_width : Int32) (t_size : Int32) (t_N : Nat) (t_cells : (Nat → Int32)) (res : Int32 × (Nat → Int32)) (hf : f_X7_dropFirst t_width t_size t_N t_cells = some res) : MetG l yX7_dropFirst wsX7_dropFirst rm_X7_dropFirst D cI cZ none [.ref h_t] (wd_X7_dropFirst cI cZ h_t h_t_cells t_most t_width t_size t_N t_cells) (kV res (fun _ => none) (fun u => (wd_X7_dropFirst cI cZ h_t h_t_cells t_most t_width (u.1) t_N (u.2)))) := by
  refine metG_of (cc := cX7_dropFirst) (maxL := 2) (ret := none) (own := RX7) (lv0 := [(0, .ref h_t)]) (ini := false) (by decide) rfl (Nat.le_of_ble_eq_true rfl) rfl rfl (fun h => by cases h) (fun G X hR => ?_)
  replace hR := rt_void hR
  unfold f_X7_dropFirst at hf
  have J41 : ∀ (t_size : Int32) (t_cells : (Nat → Int32)), f_X7_dropFirst_41 t_width t_N t_size t_cells = some res → G 0 0 (wd_X7_dropFirst cI cZ h_t h_t_cells t_most t_width t_size t_N t_cells) [(0, .ref h_t)] 41 [] := by
    intro t_size t_cells hf
    unfold f_X7_dropFirst_41 at hf
    refine g_aload_n X dX7_dropFirst_41 rfl 0 rfl ?_
    obtain ⟨t_size_7, hk_8, hf⟩ := ob1_out hf
    refine g_cVW (st := []) (st1 := []) (C := RX7) (ci := 3) (q0 := 0) (ws' := (wd_X7_dropFirst cI cZ h_t h_t_cells t_most t_width t_size_7 t_N t_cells)) X (c_X7_dropLast l D cI cZ h_t h_t_cells t_most t_width t_size _ hk_8) (Or.inl rfl) 0 gX7_dropFirst_X7_dropLast rfl hv_X7_dropLast ⟨Nat.le_of_ble_eq_true rfl, Nat.le_of_ble_eq_true rfl⟩ rfl rfl (Nat.le_of_ble_eq_true rfl) ⟨rfl, rfl⟩ (Nat.zero_le _) (Nat.zero_le _) rfl rfl rfl dX7_dropFirst_42 [0] rfl rfl [1] rfl rfl (by decide) [1, 0] rfl rfl rfl ?_
    exact hR _ _ _ dX7_dropFirst_45 (kV_in (u := (t_size_7, t_cells)) hf)
  have J5 : ∀ (n : Nat) (t_size : Int32) (t_cells : (Nat → Int32)) (v1 : Int32), f_X7_dropFirst_5 t_width t_N n t_size t_cells v1 = some res → G 0 0 (wd_X7_dropFirst cI cZ h_t h_t_cells t_most t_width t_size t_N t_cells) [(0, .ref h_t), (1, .int v1)] 5 [] := by
    intro n
    induction n with
    | zero => intro t_size t_cells v1 hf; rw [f_X7_dropFirst_5] at hf; cases hf
    | succ n ih =>
      intro t_size t_cells v1 hf
      rw [f_X7_dropFirst_5] at hf
      refine g_iload_n X dX7_dropFirst_5 rfl 1 rfl ?_
      refine g_aload_n X dX7_dropFirst_6 rfl 0 rfl ?_
      refine g_get (C := RX7) (T := TX7) (N := 4) (ci := 3) (v := (.ref h_t_cells)) X iw_X7_dropFirst_X7 0 rfl rfl 2 (by decide) lk_X7_dropFirst_22 rfl dX7_dropFirst_7 ?_
      refine g_alen X 1 rfl dX7_dropFirst_10 ?_
      refine g_icmp_ge (tgt := 41) X dX7_dropFirst_11 (by decide) (fun hc_1 => ?_) (fun hc_1 => ?_)
      · replace hf := ite_t hc_1 hf
        refine g_lv X (lv' := [(0, .ref h_t)]) [0] rfl ?_
        exact J41 t_size t_cells hf
      · replace hf := ite_f hc_1 hf
        refine g_aload_n X dX7_dropFirst_14 rfl 0 rfl ?_
        refine g_get (C := RX7) (T := TX7) (N := 4) (ci := 3) (v := (.ref h_t_cells)) X iw_X7_dropFirst_X7 0 rfl rfl 2 (by decide) lk_X7_dropFirst_22 rfl dX7_dropFirst_15 ?_
        refine g_iload_n X dX7_dropFirst_18 rfl 1 rfl ?_
        refine g_aload_n X dX7_dropFirst_19 rfl 0 rfl ?_
        refine g_get (C := RX7) (T := TX7) (N := 4) (ci := 3) (v := (.int t_width)) X iw_X7_dropFirst_X7 0 rfl rfl 1 (by decide) lk_X7_dropFirst_19 rfl dX7_dropFirst_20 ?_
        refine g_isub X dX7_dropFirst_23 ?_
        refine g_aload_n X dX7_dropFirst_24 rfl 0 rfl ?_
        refine g_get (C := RX7) (T := TX7) (N := 4) (ci := 3) (v := (.ref h_t_cells)) X iw_X7_dropFirst_X7 0 rfl rfl 2 (by decide) lk_X7_dropFirst_22 rfl dX7_dropFirst_25 ?_
        refine g_iload_n X dX7_dropFirst_28 rfl 1 rfl ?_
        obtain ⟨r_2, hk_3, hf⟩ := ob1_out hf
        refine g_cNR (st := [.int (v1 - t_width), .ref h_t_cells]) (st1 := [.int r_2, .int (v1 - t_width), .ref h_t_cells]) X (c_X11_cell l D cI cZ h_t_cells t_N t_cells v1 _ hk_3) (Or.inl rfl) 2 gX7_dropFirst_X11_cell_n37 (by decide +kernel) lk_X7_dropFirst_iX11 lk_X7_dropFirst_sX11_cell rfl hs_X11_cell ⟨Nat.le_of_ble_eq_true rfl, Nat.le_of_ble_eq_true rfl⟩ rfl rfl (Nat.le_of_ble_eq_true rfl) ⟨rfl, rfl⟩ (Nat.zero_le _) (Nat.zero_le _) dX7_dropFirst_29 [1] rfl rfl rfl ?_
        obtain ⟨t_cells_4, hk_5, hf⟩ := ob1_out hf
        refine g_cNW (st := []) (st1 := []) (ws' := (wd_X7_dropFirst cI cZ h_t h_t_cells t_most t_width t_size t_N t_cells_4)) X (c_X11_setCell l D cI cZ h_t_cells t_N t_cells (v1 - t_width) r_2 _ hk_5) (Or.inl rfl) 3 gX7_dropFirst_X11_setCell_n41 (by decide +kernel) lk_X7_dropFirst_iX11 lk_X7_dropFirst_sX11_setCell rfl hs_X11_setCell ⟨Nat.le_of_ble_eq_true rfl, Nat.le_of_ble_eq_true rfl⟩ rfl rfl (Nat.le_of_ble_eq_true rfl) ⟨rfl, rfl⟩ (Nat.zero_le _) (Nat.zero_le _) dX7_dropFirst_32 [1] rfl rfl [0] rfl rfl (by decide) [0, 1] rfl rfl rfl ?_
        obtain ⟨v1_6, ev1_6, hf⟩ := bnd_out hf
        refine g_iinc (v := v1_6) (lv' := [(0, .ref h_t), (1, .int v1_6)]) X dX7_dropFirst_35 1 rfl (by rw [ev1_6]; rfl) (Nat.le_of_ble_eq_true rfl) [1, 0] rfl ?_
        refine g_goto (tgt := 5) X dX7_dropFirst_38 (by decide) ?_
        exact ih t_size t_cells_4 v1_6 hf
  refine g_aload_n X dX7_dropFirst_0 rfl 0 rfl ?_
  refine g_get (C := RX7) (T := TX7) (N := 4) (ci := 3) (v := (.int t_width)) X iw_X7_dropFirst_X7 0 rfl rfl 1 (by decide) lk_X7_dropFirst_19 rfl dX7_dropFirst_1 ?_
  refine g_istore_n (lv' := [(0, .ref h_t), (1, .int t_width)]) X dX7_dropFirst_4 rfl (Nat.le_of_ble_eq_true rfl) [1, 0] rfl ?_
  exact J5 FU t_size t_cells t_width hf
def wd_J6_bitCount_0f7a4 (cI cZ : ClassId) : va_W := []
abbrev rm_J6_bitCount_0f7a4 : Room := { frames := 0, cells := 0, slots := 0, locals := 0 }
theorem hs_J6_bitCount_0f7a4 : yJ6_bitCount_0f7a4.cls ≠ "java/lang/invoke/MethodHandle" ∧ yJ6_bitCount_0f7a4.cls ≠ "java/lang/invoke/VarHandle" ∧ (parseMethodDescriptor yJ6_bitCount_0f7a4.desc).map (fun d => d.parameters.length) = some 1 := by decide +kernel
theorem lk_J6_bitCount_0f7a4_265 : Cond.constant RJ6 265 1431655765 ∈ wsJ6_bitCount_0f7a4 := by decide +kernel
theorem lk_J6_bitCount_0f7a4_266 : Cond.constant RJ6 266 858993459 ∈ wsJ6_bitCount_0f7a4 := by decide +kernel
theorem lk_J6_bitCount_0f7a4_267 : Cond.constant RJ6 267 252645135 ∈ wsJ6_bitCount_0f7a4 := by decide +kernel
set_option maxHeartbeats 4000000 in
set_option maxRecDepth 100000 in
theorem c_J6_bitCount_0f7a4 (l : Launch) (D : va_G) (cI cZ : ClassId) (v0 : Int32) (res : Int32) (hf : f_J6_bitCount_0f7a4 v0 = some res) : MetR l yJ6_bitCount_0f7a4 wsJ6_bitCount_0f7a4 rm_J6_bitCount_0f7a4 D cI cZ none [.int v0] (wd_J6_bitCount_0f7a4 cI cZ) (kR res (fun u => some (.int u))) := by
  refine metR_of (cc := cJ6_bitCount_0f7a4) (maxL := 1) (ret := (some .int)) (own := RJ6) (lv0 := [(0, .int v0)]) (by decide) rfl (Nat.le_of_ble_eq_true rfl) rfl rfl (fun G X hR => ?_)
  replace hR := rt_int hR
  unfold f_J6_bitCount_0f7a4 at hf
  refine g_iload_n X dJ6_bitCount_0f7a4_0 rfl 0 rfl ?_
  refine g_iload_n X dJ6_bitCount_0f7a4_1 rfl 0 rfl ?_
  refine g_iconst (v := 1) X dJ6_bitCount_0f7a4_2 (by decide) ?_
  refine g_iushr X dJ6_bitCount_0f7a4_3 rfl ?_
  refine g_ldcw (v := 1431655765) X dJ6_bitCount_0f7a4_4 lk_J6_bitCount_0f7a4_265 ?_
  refine g_iand X dJ6_bitCount_0f7a4_7 ?_
  refine g_isub X dJ6_bitCount_0f7a4_8 ?_
  obtain ⟨v0_1, ev0_1, hf⟩ := bnd_out hf
  refine g_nmI X ev0_1 ?_
  refine g_istore_n (lv' := [(0, .int v0_1)]) X dJ6_bitCount_0f7a4_9 rfl (Nat.le_of_ble_eq_true rfl) [0] rfl ?_
  refine g_iload_n X dJ6_bitCount_0f7a4_10 rfl 0 rfl ?_
  refine g_ldcw (v := 858993459) X dJ6_bitCount_0f7a4_11 lk_J6_bitCount_0f7a4_266 ?_
  refine g_iand X dJ6_bitCount_0f7a4_14 ?_
  refine g_iload_n X dJ6_bitCount_0f7a4_15 rfl 0 rfl ?_
  refine g_iconst (v := 2) X dJ6_bitCount_0f7a4_16 (by decide) ?_
  refine g_iushr X dJ6_bitCount_0f7a4_17 rfl ?_
  refine g_ldcw (v := 858993459) X dJ6_bitCount_0f7a4_18 lk_J6_bitCount_0f7a4_266 ?_
  refine g_iand X dJ6_bitCount_0f7a4_21 ?_
  refine g_iadd X dJ6_bitCount_0f7a4_22 ?_
  obtain ⟨v0_2, ev0_2, hf⟩ := bnd_out hf
  refine g_nmI X ev0_2 ?_
  refine g_istore_n (lv' := [(0, .int v0_2)]) X dJ6_bitCount_0f7a4_23 rfl (Nat.le_of_ble_eq_true rfl) [0] rfl ?_
  refine g_iload_n X dJ6_bitCount_0f7a4_24 rfl 0 rfl ?_
  refine g_iload_n X dJ6_bitCount_0f7a4_25 rfl 0 rfl ?_
  refine g_iconst (v := 4) X dJ6_bitCount_0f7a4_26 (by decide) ?_
  refine g_iushr X dJ6_bitCount_0f7a4_27 rfl ?_
  refine g_iadd X dJ6_bitCount_0f7a4_28 ?_
  refine g_ldcw (v := 252645135) X dJ6_bitCount_0f7a4_29 lk_J6_bitCount_0f7a4_267 ?_
  refine g_iand X dJ6_bitCount_0f7a4_32 ?_
  obtain ⟨v0_3, ev0_3, hf⟩ := bnd_out hf
  refine g_nmI X ev0_3 ?_
  refine g_istore_n (lv' := [(0, .int v0_3)]) X dJ6_bitCount_0f7a4_33 rfl (Nat.le_of_ble_eq_true rfl) [0] rfl ?_
  refine g_iload_n X dJ6_bitCount_0f7a4_34 rfl 0 rfl ?_
  refine g_iload_n X dJ6_bitCount_0f7a4_35 rfl 0 rfl ?_
  refine g_bipush (v := 8) X dJ6_bitCount_0f7a4_36 (by decide) ?_
  refine g_iushr X dJ6_bitCount_0f7a4_38 rfl ?_
  refine g_iadd X dJ6_bitCount_0f7a4_39 ?_
  obtain ⟨v0_4, ev0_4, hf⟩ := bnd_out hf
  refine g_nmI X ev0_4 ?_
  refine g_istore_n (lv' := [(0, .int v0_4)]) X dJ6_bitCount_0f7a4_40 rfl (Nat.le_of_ble_eq_true rfl) [0] rfl ?_
  refine g_iload_n X dJ6_bitCount_0f7a4_41 rfl 0 rfl ?_
  refine g_iload_n X dJ6_bitCount_0f7a4_42 rfl 0 rfl ?_
  refine g_bipush (v := 16) X dJ6_bitCount_0f7a4_43 (by decide) ?_
  refine g_iushr X dJ6_bitCount_0f7a4_45 rfl ?_
  refine g_iadd X dJ6_bitCount_0f7a4_46 ?_
  obtain ⟨v0_5, ev0_5, hf⟩ := bnd_out hf
  refine g_nmI X ev0_5 ?_
  refine g_istore_n (lv' := [(0, .int v0_5)]) X dJ6_bitCount_0f7a4_47 rfl (Nat.le_of_ble_eq_true rfl) [0] rfl ?_
  refine g_iload_n X dJ6_bitCount_0f7a4_48 rfl 0 rfl ?_
  refine g_bipush (v := 63) X dJ6_bitCount_0f7a4_49 (by decide) ?_
  refine g_iand X dJ6_bitCount_0f7a4_51 ?_
  exact hR _ _ _ _ dJ6_bitCount_0f7a4_52 (kR_in (u := (v0_5 &&& 63)) hf)
def wd_X4_letsGo (cI cZ : ClassId) : va_W := []
abbrev rm_X4_letsGo : Room := { frames := 1, cells := 0, slots := 0, locals := 21 }
theorem hs_X4_letsGo : yX4_letsGo.cls ≠ "java/lang/invoke/MethodHandle" ∧ yX4_letsGo.cls ≠ "java/lang/invoke/VarHandle" ∧ (parseMethodDescriptor yX4_letsGo.desc).map (fun d => d.parameters.length) = some 3 := by decide +kernel
theorem lk_X4_letsGo_m9 : Cond.methodLink RX4 9 Lib.Math.min.name ∈ wsX4_letsGo := by decide +kernel
theorem lk_X4_letsGo_smin : Cond.static Lib.Math.min.name ∈ wsX4_letsGo := by decide +kernel
theorem lk_X4_letsGo_iMath : Cond.initialized "java/lang/Math" ∈ wsX4_letsGo := by decide +kernel
theorem lk_X4_letsGo_cmin : Cond.code Lib.Math.min.name Lib.Math.min.code 2 (some .int) ∈ wsX4_letsGo := by decide +kernel
theorem lk_X4_letsGo_m15 : Cond.methodLink RX4 15 Lib.Math.max.name ∈ wsX4_letsGo := by decide +kernel
theorem lk_X4_letsGo_smax : Cond.static Lib.Math.max.name ∈ wsX4_letsGo := by decide +kernel
theorem lk_X4_letsGo_cmax : Cond.code Lib.Math.max.name Lib.Math.max.code 2 (some .int) ∈ wsX4_letsGo := by decide +kernel
set_option maxHeartbeats 4000000 in
set_option maxRecDepth 100000 in
theorem c_X4_letsGo (l : Launch) (D : va_G) (cI cZ : ClassId) (v0 : Int32) (v1 : Int32) (v2 : Int32) (res : Int32) (hf : f_X4_letsGo v0 v1 v2 = some res) : MetR l yX4_letsGo wsX4_letsGo rm_X4_letsGo D cI cZ none [.int v0, .int v1, .int v2] (wd_X4_letsGo cI cZ) (kR res (fun u => some (.int u))) := by
  refine metR_of (cc := cX4_letsGo) (maxL := 6) (ret := (some .int)) (own := RX4) (lv0 := [(0, .int v0), (1, .int v1), (2, .int v2)]) (by decide) rfl (Nat.le_of_ble_eq_true rfl) rfl rfl (fun G X hR => ?_)
  replace hR := rt_int hR
  unfold f_X4_letsGo at hf
  refine g_iload_n X dX4_letsGo_0 rfl 1 rfl ?_
  refine g_iconst (v := 1) X dX4_letsGo_1 (by decide) ?_
  refine g_isub X dX4_letsGo_2 ?_
  obtain ⟨v3_1, ev3_1, hf⟩ := bnd_out hf
  refine g_nmI X ev3_1 ?_
  refine g_istore_n (lv' := [(0, .int v0), (1, .int v1), (2, .int v2), (3, .int v3_1)]) X dX4_letsGo_3 rfl (Nat.le_of_ble_eq_true rfl) [1, 2, 3, 0] rfl ?_
  refine g_iconst (v := 0) X dX4_letsGo_4 (by decide) ?_
  refine g_iload_n X dX4_letsGo_5 rfl 3 rfl ?_
  refine g_iload_n X dX4_letsGo_6 rfl 2 rfl ?_
  refine g_iconst (v := 4) X dX4_letsGo_7 (by decide) ?_
  refine g_mmin X lk_X4_letsGo_m9 lk_X4_letsGo_smin lk_X4_letsGo_iMath lk_X4_letsGo_cmin dX4_letsGo_8 (Nat.le_of_ble_eq_true rfl) (Nat.le_of_ble_eq_true rfl) (Nat.zero_le _) (Nat.zero_le _) ?_
  refine g_isub X dX4_letsGo_11 ?_
  refine g_mmax X lk_X4_letsGo_m15 lk_X4_letsGo_smax lk_X4_letsGo_iMath lk_X4_letsGo_cmax dX4_letsGo_12 (Nat.le_of_ble_eq_true rfl) (Nat.le_of_ble_eq_true rfl) (Nat.zero_le _) (Nat.zero_le _) ?_
  obtain ⟨v4_2, ev4_2, hf⟩ := bnd_out hf
  refine g_nmI X ev4_2 ?_
  refine g_istore (lv' := [(0, .int v0), (1, .int v1), (2, .int v2), (3, .int v3_1), (4, .int v4_2)]) X dX4_letsGo_15 (Nat.le_of_ble_eq_true rfl) [1, 2, 3, 4, 0] rfl ?_
  refine g_iload_n X dX4_letsGo_17 rfl 3 rfl ?_
  refine g_iconst (v := 1) X dX4_letsGo_18 (by decide) ?_
  refine g_iadd X dX4_letsGo_19 ?_
  obtain ⟨v5_3, ev5_3, hf⟩ := bnd_out hf
  refine g_nmI X ev5_3 ?_
  refine g_istore (lv' := [(0, .int v0), (1, .int v1), (2, .int v2), (3, .int v3_1), (4, .int v4_2), (5, .int v5_3)]) X dX4_letsGo_20 (Nat.le_of_ble_eq_true rfl) [1, 2, 3, 4, 5, 0] rfl ?_
  refine g_iload_n X dX4_letsGo_22 rfl 0 rfl ?_
  by_cases hc_4 : v0 = 1
  · replace hf := ite_t hc_4 hf
    refine g_tableIn (tgt := 56) X dX4_letsGo_23 (by rw [hc_4]; decide) (by rw [hc_4]; decide) (by rw [hc_4]; rfl) (by decide) ?_
    refine g_iload X dX4_letsGo_56 4 rfl ?_
    exact hR _ _ _ _ dX4_letsGo_58 (kR_in (u := v4_2) hf)
  · replace hf := ite_f hc_4 hf
    by_cases hc_5 : v0 = 2
    · replace hf := ite_t hc_5 hf
      refine g_tableIn (tgt := 59) X dX4_letsGo_23 (by rw [hc_5]; decide) (by rw [hc_5]; decide) (by rw [hc_5]; rfl) (by decide) ?_
      refine g_iload X dX4_letsGo_59 5 rfl ?_
      exact hR _ _ _ _ dX4_letsGo_61 (kR_in (u := v5_3) hf)
    · replace hf := ite_f hc_5 hf
      by_cases hc_6 : v0 = 3
      · replace hf := ite_t hc_6 hf
        refine g_tableIn (tgt := 62) X dX4_letsGo_23 (by rw [hc_6]; decide) (by rw [hc_6]; decide) (by rw [hc_6]; rfl) (by decide) ?_
        refine g_iload X dX4_letsGo_62 4 rfl ?_
        refine g_iconst (v := 2) X dX4_letsGo_64 (by decide) ?_
        obtain ⟨hz_7, hf⟩ := chz_out hf
        refine g_idiv X dX4_letsGo_65 hz_7 ?_
        exact hR _ _ _ _ dX4_letsGo_66 (kR_in (u := (v4_2 / 2)) hf)
      · replace hf := ite_f hc_6 hf
        by_cases hc_8 : v0 = 4
        · replace hf := ite_t hc_8 hf
          refine g_tableIn (tgt := 67) X dX4_letsGo_23 (by rw [hc_8]; decide) (by rw [hc_8]; decide) (by rw [hc_8]; rfl) (by decide) ?_
          refine g_iload_n X dX4_letsGo_67 rfl 1 rfl ?_
          refine g_iconst (v := 5) X dX4_letsGo_68 (by decide) ?_
          refine g_icmp_lt (tgt := 76) X dX4_letsGo_69 (by decide) (fun hc_9 => ?_) (fun hc_9 => ?_)
          · replace hf := ite_t hc_9 hf
            refine g_iconst (v := 0) X dX4_letsGo_76 (by decide) ?_
            exact hR _ _ _ _ dX4_letsGo_77 (kR_in (u := 0) hf)
          · replace hf := ite_f hc_9 hf
            refine g_iload_n X dX4_letsGo_72 rfl 3 rfl ?_
            refine g_goto (tgt := 77) X dX4_letsGo_73 (by decide) ?_
            exact hR _ _ _ _ dX4_letsGo_77 (kR_in (u := v3_1) hf)
        · replace hf := ite_f hc_8 hf
          by_cases hc_10 : v0 = 5
          · replace hf := ite_t hc_10 hf
            refine g_tableIn (tgt := 78) X dX4_letsGo_23 (by rw [hc_10]; decide) (by rw [hc_10]; decide) (by rw [hc_10]; rfl) (by decide) ?_
            refine g_bipush (v := 20) X dX4_letsGo_78 (by decide) ?_
            refine g_iconst (v := 2) X dX4_letsGo_80 (by decide) ?_
            refine g_iload X dX4_letsGo_81 5 rfl ?_
            refine g_imul X dX4_letsGo_83 ?_
            refine g_mmin X lk_X4_letsGo_m9 lk_X4_letsGo_smin lk_X4_letsGo_iMath lk_X4_letsGo_cmin dX4_letsGo_84 (Nat.le_of_ble_eq_true rfl) (Nat.le_of_ble_eq_true rfl) (Nat.zero_le _) (Nat.zero_le _) ?_
            exact hR _ _ _ _ dX4_letsGo_87 (kR_in (u := (if (2 * v5_3) < 20 then (2 * v5_3) else 20)) hf)
          · replace hf := ite_f hc_10 hf
            have thc_4 := lv_neT hc_4 (show (1 : Int32).toInt = 1 by decide)
            have thc_5 := lv_neT hc_5 (show (2 : Int32).toInt = 2 by decide)
            have thc_6 := lv_neT hc_6 (show (3 : Int32).toInt = 3 by decide)
            have thc_8 := lv_neT hc_8 (show (4 : Int32).toInt = 4 by decide)
            have thc_10 := lv_neT hc_10 (show (5 : Int32).toInt = 5 by decide)
            refine g_tableOut (tgt := 88) X dX4_letsGo_23 (by omega) (by decide) ?_
            refine g_iload_n X dX4_letsGo_88 rfl 3 rfl ?_
            exact hR _ _ _ _ dX4_letsGo_89 (kR_in (u := v3_1) hf)
def wd_J6_numberOfLeadingZeros_0f7a4 (cI cZ : ClassId) : va_W := []
abbrev rm_J6_numberOfLeadingZeros_0f7a4 : Room := { frames := 0, cells := 0, slots := 0, locals := 0 }
theorem hs_J6_numberOfLeadingZeros_0f7a4 : yJ6_numberOfLeadingZeros_0f7a4.cls ≠ "java/lang/invoke/MethodHandle" ∧ yJ6_numberOfLeadingZeros_0f7a4.cls ≠ "java/lang/invoke/VarHandle" ∧ (parseMethodDescriptor yJ6_numberOfLeadingZeros_0f7a4.desc).map (fun d => d.parameters.length) = some 1 := by decide +kernel
theorem lk_J6_numberOfLeadingZeros_0f7a4_264 : Cond.constant RJ6 264 65536 ∈ wsJ6_numberOfLeadingZeros_0f7a4 := by decide +kernel
set_option maxHeartbeats 4000000 in
set_option maxRecDepth 100000 in
theorem c_J6_numberOfLeadingZeros_0f7a4 (l : Launch) (D : va_G) (cI cZ : ClassId) (v0 : Int32) (res : Int32) (hf : f_J6_numberOfLeadingZeros_0f7a4 v0 = some res) : MetR l yJ6_numberOfLeadingZeros_0f7a4 wsJ6_numberOfLeadingZeros_0f7a4 rm_J6_numberOfLeadingZeros_0f7a4 D cI cZ none [.int v0] (wd_J6_numberOfLeadingZeros_0f7a4 cI cZ) (kR res (fun u => some (.int u))) := by
  refine metR_of (cc := cJ6_numberOfLeadingZeros_0f7a4) (maxL := 2) (ret := (some .int)) (own := RJ6) (lv0 := [(0, .int v0)]) (by decide) rfl (Nat.le_of_ble_eq_true rfl) rfl rfl (fun G X hR => ?_)
  replace hR := rt_int hR
  unfold f_J6_numberOfLeadingZeros_0f7a4 at hf
  have J73 : ∀ (v0 : Int32) (v1 : Int32), f_J6_numberOfLeadingZeros_0f7a4_73 v0 v1 = some res → G 0 0 (wd_J6_numberOfLeadingZeros_0f7a4 cI cZ) [(0, .int v0), (1, .int v1)] 73 [] := by
    intro v0 v1 hf
    unfold f_J6_numberOfLeadingZeros_0f7a4_73 at hf
    refine g_iload_n X dJ6_numberOfLeadingZeros_0f7a4_73 rfl 1 rfl ?_
    refine g_iload_n X dJ6_numberOfLeadingZeros_0f7a4_74 rfl 0 rfl ?_
    refine g_iconst (v := 1) X dJ6_numberOfLeadingZeros_0f7a4_75 (by decide) ?_
    refine g_iushr X dJ6_numberOfLeadingZeros_0f7a4_76 rfl ?_
    refine g_isub X dJ6_numberOfLeadingZeros_0f7a4_77 ?_
    exact hR _ _ _ _ dJ6_numberOfLeadingZeros_0f7a4_78 (kR_in (u := (v1 - ((v0.toUInt32 >>> ((1 : Int32).toUInt32 &&& Int32.toUInt32 31)).toInt32))) hf)
  have J61 : ∀ (v0 : Int32) (v1 : Int32), f_J6_numberOfLeadingZeros_0f7a4_61 v0 v1 = some res → G 0 0 (wd_J6_numberOfLeadingZeros_0f7a4 cI cZ) [(0, .int v0), (1, .int v1)] 61 [] := by
    intro v0 v1 hf
    unfold f_J6_numberOfLeadingZeros_0f7a4_61 at hf
    refine g_iload_n X dJ6_numberOfLeadingZeros_0f7a4_61 rfl 0 rfl ?_
    refine g_iconst (v := 4) X dJ6_numberOfLeadingZeros_0f7a4_62 (by decide) ?_
    refine g_icmp_lt (tgt := 73) X dJ6_numberOfLeadingZeros_0f7a4_63 (by decide) (fun hc_7 => ?_) (fun hc_7 => ?_)
    · replace hf := ite_t hc_7 hf
      exact J73 v0 v1 hf
    · replace hf := ite_f hc_7 hf
      obtain ⟨v1_8, ev1_8, hf⟩ := bnd_out hf
      refine g_iinc (v := v1_8) (lv' := [(0, .int v0), (1, .int v1_8)]) X dJ6_numberOfLeadingZeros_0f7a4_66 1 rfl (by rw [ev1_8]; rfl) (Nat.le_of_ble_eq_true rfl) [1, 0] rfl ?_
      refine g_iload_n X dJ6_numberOfLeadingZeros_0f7a4_69 rfl 0 rfl ?_
      refine g_iconst (v := 2) X dJ6_numberOfLeadingZeros_0f7a4_70 (by decide) ?_
      refine g_iushr X dJ6_numberOfLeadingZeros_0f7a4_71 rfl ?_
      obtain ⟨v0_9, ev0_9, hf⟩ := bnd_out hf
      refine g_nmI X ev0_9 ?_
      refine g_istore_n (lv' := [(0, .int v0_9), (1, .int v1_8)]) X dJ6_numberOfLeadingZeros_0f7a4_72 rfl (Nat.le_of_ble_eq_true rfl) [0, 1] rfl ?_
      exact J73 v0_9 v1_8 hf
  have J48 : ∀ (v0 : Int32) (v1 : Int32), f_J6_numberOfLeadingZeros_0f7a4_48 v0 v1 = some res → G 0 0 (wd_J6_numberOfLeadingZeros_0f7a4 cI cZ) [(0, .int v0), (1, .int v1)] 48 [] := by
    intro v0 v1 hf
    unfold f_J6_numberOfLeadingZeros_0f7a4_48 at hf
    refine g_iload_n X dJ6_numberOfLeadingZeros_0f7a4_48 rfl 0 rfl ?_
    refine g_bipush (v := 16) X dJ6_numberOfLeadingZeros_0f7a4_49 (by decide) ?_
    refine g_icmp_lt (tgt := 61) X dJ6_numberOfLeadingZeros_0f7a4_51 (by decide) (fun hc_4 => ?_) (fun hc_4 => ?_)
    · replace hf := ite_t hc_4 hf
      exact J61 v0 v1 hf
    · replace hf := ite_f hc_4 hf
      obtain ⟨v1_5, ev1_5, hf⟩ := bnd_out hf
      refine g_iinc (v := v1_5) (lv' := [(0, .int v0), (1, .int v1_5)]) X dJ6_numberOfLeadingZeros_0f7a4_54 1 rfl (by rw [ev1_5]; rfl) (Nat.le_of_ble_eq_true rfl) [1, 0] rfl ?_
      refine g_iload_n X dJ6_numberOfLeadingZeros_0f7a4_57 rfl 0 rfl ?_
      refine g_iconst (v := 4) X dJ6_numberOfLeadingZeros_0f7a4_58 (by decide) ?_
      refine g_iushr X dJ6_numberOfLeadingZeros_0f7a4_59 rfl ?_
      obtain ⟨v0_6, ev0_6, hf⟩ := bnd_out hf
      refine g_nmI X ev0_6 ?_
      refine g_istore_n (lv' := [(0, .int v0_6), (1, .int v1_5)]) X dJ6_numberOfLeadingZeros_0f7a4_60 rfl (Nat.le_of_ble_eq_true rfl) [0, 1] rfl ?_
      exact J61 v0_6 v1_5 hf
  have J33 : ∀ (v0 : Int32) (v1 : Int32), f_J6_numberOfLeadingZeros_0f7a4_33 v0 v1 = some res → G 0 0 (wd_J6_numberOfLeadingZeros_0f7a4 cI cZ) [(0, .int v0), (1, .int v1)] 33 [] := by
    intro v0 v1 hf
    unfold f_J6_numberOfLeadingZeros_0f7a4_33 at hf
    refine g_iload_n X dJ6_numberOfLeadingZeros_0f7a4_33 rfl 0 rfl ?_
    refine g_sipush (v := 256) X dJ6_numberOfLeadingZeros_0f7a4_34 (by decide) ?_
    refine g_icmp_lt (tgt := 48) X dJ6_numberOfLeadingZeros_0f7a4_37 (by decide) (fun hc_1 => ?_) (fun hc_1 => ?_)
    · replace hf := ite_t hc_1 hf
      exact J48 v0 v1 hf
    · replace hf := ite_f hc_1 hf
      obtain ⟨v1_2, ev1_2, hf⟩ := bnd_out hf
      refine g_iinc (v := v1_2) (lv' := [(0, .int v0), (1, .int v1_2)]) X dJ6_numberOfLeadingZeros_0f7a4_40 1 rfl (by rw [ev1_2]; rfl) (Nat.le_of_ble_eq_true rfl) [1, 0] rfl ?_
      refine g_iload_n X dJ6_numberOfLeadingZeros_0f7a4_43 rfl 0 rfl ?_
      refine g_bipush (v := 8) X dJ6_numberOfLeadingZeros_0f7a4_44 (by decide) ?_
      refine g_iushr X dJ6_numberOfLeadingZeros_0f7a4_46 rfl ?_
      obtain ⟨v0_3, ev0_3, hf⟩ := bnd_out hf
      refine g_nmI X ev0_3 ?_
      refine g_istore_n (lv' := [(0, .int v0_3), (1, .int v1_2)]) X dJ6_numberOfLeadingZeros_0f7a4_47 rfl (Nat.le_of_ble_eq_true rfl) [0, 1] rfl ?_
      exact J48 v0_3 v1_2 hf
  refine g_iload_n X dJ6_numberOfLeadingZeros_0f7a4_0 rfl 0 rfl ?_
  refine g_if_gt (tgt := 15) X dJ6_numberOfLeadingZeros_0f7a4_1 (by decide) (fun hc_10 => ?_) (fun hc_10 => ?_)
  · replace hf := ite_t hc_10 hf
    refine g_bipush (v := 31) X dJ6_numberOfLeadingZeros_0f7a4_15 (by decide) ?_
    refine g_istore_n (lv' := [(0, .int v0), (1, .int 31)]) X dJ6_numberOfLeadingZeros_0f7a4_17 rfl (Nat.le_of_ble_eq_true rfl) [1, 0] rfl ?_
    refine g_iload_n X dJ6_numberOfLeadingZeros_0f7a4_18 rfl 0 rfl ?_
    refine g_ldcw (v := 65536) X dJ6_numberOfLeadingZeros_0f7a4_19 lk_J6_numberOfLeadingZeros_0f7a4_264 ?_
    refine g_icmp_lt (tgt := 33) X dJ6_numberOfLeadingZeros_0f7a4_22 (by decide) (fun hc_11 => ?_) (fun hc_11 => ?_)
    · replace hf := ite_t hc_11 hf
      exact J33 v0 31 hf
    · replace hf := ite_f hc_11 hf
      obtain ⟨v1_12, ev1_12, hf⟩ := bnd_out hf
      refine g_iinc (v := v1_12) (lv' := [(0, .int v0), (1, .int v1_12)]) X dJ6_numberOfLeadingZeros_0f7a4_25 1 rfl (by rw [ev1_12]; rfl) (Nat.le_of_ble_eq_true rfl) [1, 0] rfl ?_
      refine g_iload_n X dJ6_numberOfLeadingZeros_0f7a4_28 rfl 0 rfl ?_
      refine g_bipush (v := 16) X dJ6_numberOfLeadingZeros_0f7a4_29 (by decide) ?_
      refine g_iushr X dJ6_numberOfLeadingZeros_0f7a4_31 rfl ?_
      obtain ⟨v0_13, ev0_13, hf⟩ := bnd_out hf
      refine g_nmI X ev0_13 ?_
      refine g_istore_n (lv' := [(0, .int v0_13), (1, .int v1_12)]) X dJ6_numberOfLeadingZeros_0f7a4_32 rfl (Nat.le_of_ble_eq_true rfl) [0, 1] rfl ?_
      exact J33 v0_13 v1_12 hf
  · replace hf := ite_f hc_10 hf
    refine g_iload_n X dJ6_numberOfLeadingZeros_0f7a4_4 rfl 0 rfl ?_
    refine g_if_ne (tgt := 13) X dJ6_numberOfLeadingZeros_0f7a4_5 (by decide) (fun hc_14 => ?_) (fun hc_14 => ?_)
    · replace hf := ite_f hc_14 hf
      refine g_iconst (v := 0) X dJ6_numberOfLeadingZeros_0f7a4_13 (by decide) ?_
      exact hR _ _ _ _ dJ6_numberOfLeadingZeros_0f7a4_14 (kR_in (u := 0) hf)
    · replace hf := ite_t hc_14 hf
      refine g_bipush (v := 32) X dJ6_numberOfLeadingZeros_0f7a4_8 (by decide) ?_
      refine g_goto (tgt := 14) X dJ6_numberOfLeadingZeros_0f7a4_10 (by decide) ?_
      exact hR _ _ _ _ dJ6_numberOfLeadingZeros_0f7a4_14 (kR_in (u := 32) hf)
def wd_X5_thirdOf (cI cZ : ClassId) : va_W := []
abbrev rm_X5_thirdOf : Room := { frames := 0, cells := 0, slots := 0, locals := 0 }
theorem hs_X5_thirdOf : yX5_thirdOf.cls ≠ "java/lang/invoke/MethodHandle" ∧ yX5_thirdOf.cls ≠ "java/lang/invoke/VarHandle" ∧ (parseMethodDescriptor yX5_thirdOf.desc).map (fun d => d.parameters.length) = some 1 := by decide +kernel
set_option maxHeartbeats 4000000 in
set_option maxRecDepth 100000 in
theorem c_X5_thirdOf (l : Launch) (D : va_G) (cI cZ : ClassId) (v0 : Int32) (res : Int32) (hf : f_X5_thirdOf v0 = some res) : MetR l yX5_thirdOf wsX5_thirdOf rm_X5_thirdOf D cI cZ none [.int v0] (wd_X5_thirdOf cI cZ) (kR res (fun u => some (.int u))) := by
  refine metR_of (cc := cX5_thirdOf) (maxL := 1) (ret := (some .int)) (own := RX5) (lv0 := [(0, .int v0)]) (by decide) rfl (Nat.le_of_ble_eq_true rfl) rfl rfl (fun G X hR => ?_)
  replace hR := rt_int hR
  unfold f_X5_thirdOf at hf
  refine g_iload_n X dX5_thirdOf_0 rfl 0 rfl ?_
  refine g_iconst (v := 2) X dX5_thirdOf_1 (by decide) ?_
  refine g_iadd X dX5_thirdOf_2 ?_
  refine g_iconst (v := 3) X dX5_thirdOf_3 (by decide) ?_
  obtain ⟨hz_1, hf⟩ := chz_out hf
  refine g_idiv X dX5_thirdOf_4 hz_1 ?_
  exact hR _ _ _ _ dX5_thirdOf_5 (kR_in (u := ((v0 + 2) / 3)) hf)
def wd_X5_firstGets (cI cZ : ClassId) : va_W := []
abbrev rm_X5_firstGets : Room := { frames := 1, cells := 0, slots := 0, locals := 20 }
theorem hs_X5_firstGets : yX5_firstGets.cls ≠ "java/lang/invoke/MethodHandle" ∧ yX5_firstGets.cls ≠ "java/lang/invoke/VarHandle" ∧ (parseMethodDescriptor yX5_firstGets.desc).map (fun d => d.parameters.length) = some 3 := by decide +kernel
set_option maxHeartbeats 4000000 in
set_option maxRecDepth 100000 in
theorem c_X5_firstGets (l : Launch) (D : va_G) (cI cZ : ClassId) (v0 : Int32) (v1 : Int32) (v2 : Int32) (res : Int32) (hf : f_X5_firstGets v0 v1 v2 = some res) : MetR l yX5_firstGets wsX5_firstGets rm_X5_firstGets D cI cZ none [.int v0, .int v1, .int v2] (wd_X5_firstGets cI cZ) (kR res (fun u => some (.int u))) := by
  refine metR_of (cc := cX5_firstGets) (maxL := 3) (ret := (some .int)) (own := RX5) (lv0 := [(0, .int v0), (1, .int v1), (2, .int v2)]) (by decide) rfl (Nat.le_of_ble_eq_true rfl) rfl rfl (fun G X hR => ?_)
  replace hR := rt_int hR
  unfold f_X5_firstGets at hf
  have J18 : ∀ (v0 : Int32) (s0 : Int32), f_X5_firstGets_18 v0 s0 = some res → G 0 0 (wd_X5_firstGets cI cZ) [(0, .int v0)] 18 [.int s0] := by
    intro v0 s0 hf
    unfold f_X5_firstGets_18 at hf
    refine g_iload_n X dX5_firstGets_18 rfl 0 rfl ?_
    refine g_isub X dX5_firstGets_19 ?_
    exact hR _ _ _ _ dX5_firstGets_20 (kR_in (u := (s0 - v0)) hf)
  have J17 : ∀ (v0 : Int32), f_X5_firstGets_17 v0 = some res → G 0 0 (wd_X5_firstGets cI cZ) [(0, .int v0)] 17 [] := by
    intro v0 hf
    unfold f_X5_firstGets_17 at hf
    refine g_iconst (v := 0) X dX5_firstGets_17 (by decide) ?_
    exact J18 v0 0 hf
  refine g_iload_n X dX5_firstGets_0 rfl 0 rfl ?_
  refine g_iload_n X dX5_firstGets_1 rfl 1 rfl ?_
  refine g_icmp_lt (tgt := 17) X dX5_firstGets_2 (by decide) (fun hc_1 => ?_) (fun hc_1 => ?_)
  · replace hf := ite_t hc_1 hf
    refine g_lv X (lv' := [(0, .int v0)]) [0] rfl ?_
    exact J17 v0 hf
  · replace hf := ite_f hc_1 hf
    refine g_iload_n X dX5_firstGets_5 rfl 0 rfl ?_
    refine g_iload_n X dX5_firstGets_6 rfl 2 rfl ?_
    obtain ⟨r_2, hk_3, hf⟩ := ob1_out hf
    refine g_cSR (st := [.int v0]) (st1 := [.int r_2, .int v0]) X (c_X5_thirdOf l D cI cZ v2 _ hk_3) (Or.inl rfl) 1 gX5_firstGets_X5_thirdOf rfl hs_X5_thirdOf ⟨Nat.le_of_ble_eq_true rfl, Nat.le_of_ble_eq_true rfl⟩ rfl rfl (Nat.le_of_ble_eq_true rfl) ⟨rfl, rfl⟩ (Nat.zero_le _) (Nat.zero_le _) dX5_firstGets_7 [] rfl rfl rfl ?_
    refine g_icmp_lt (tgt := 17) X dX5_firstGets_10 (by decide) (fun hc_4 => ?_) (fun hc_4 => ?_)
    · replace hf := ite_t hc_4 hf
      refine g_lv X (lv' := [(0, .int v0)]) [0] rfl ?_
      exact J17 v0 hf
    · replace hf := ite_f hc_4 hf
      refine g_iload_n X dX5_firstGets_13 rfl 2 rfl ?_
      refine g_goto (tgt := 18) X dX5_firstGets_14 (by decide) ?_
      refine g_lv X (lv' := [(0, .int v0)]) [0] rfl ?_
      exact J18 v0 v2 hf
def wd_X5_secondGets (cI cZ : ClassId) : va_W := []
abbrev rm_X5_secondGets : Room := { frames := 1, cells := 0, slots := 0, locals := 20 }
theorem hs_X5_secondGets : yX5_secondGets.cls ≠ "java/lang/invoke/MethodHandle" ∧ yX5_secondGets.cls ≠ "java/lang/invoke/VarHandle" ∧ (parseMethodDescriptor yX5_secondGets.desc).map (fun d => d.parameters.length) = some 3 := by decide +kernel
set_option maxHeartbeats 4000000 in
set_option maxRecDepth 100000 in
theorem c_X5_secondGets (l : Launch) (D : va_G) (cI cZ : ClassId) (v0 : Int32) (v1 : Int32) (v2 : Int32) (res : Int32) (hf : f_X5_secondGets v0 v1 v2 = some res) : MetR l yX5_secondGets wsX5_secondGets rm_X5_secondGets D cI cZ none [.int v0, .int v1, .int v2] (wd_X5_secondGets cI cZ) (kR res (fun u => some (.int u))) := by
  refine metR_of (cc := cX5_secondGets) (maxL := 3) (ret := (some .int)) (own := RX5) (lv0 := [(0, .int v0), (1, .int v1), (2, .int v2)]) (by decide) rfl (Nat.le_of_ble_eq_true rfl) rfl rfl (fun G X hR => ?_)
  replace hR := rt_int hR
  unfold f_X5_secondGets at hf
  have J18 : ∀ (v1 : Int32) (s0 : Int32), f_X5_secondGets_18 v1 s0 = some res → G 0 0 (wd_X5_secondGets cI cZ) [(1, .int v1)] 18 [.int s0] := by
    intro v1 s0 hf
    unfold f_X5_secondGets_18 at hf
    refine g_iload_n X dX5_secondGets_18 rfl 0 rfl ?_
    refine g_isub X dX5_secondGets_19 ?_
    exact hR _ _ _ _ dX5_secondGets_20 (kR_in (u := (s0 - v1)) hf)
  have J17 : ∀ (v1 : Int32), f_X5_secondGets_17 v1 = some res → G 0 0 (wd_X5_secondGets cI cZ) [(1, .int v1)] 17 [] := by
    intro v1 hf
    unfold f_X5_secondGets_17 at hf
    refine g_iconst (v := 0) X dX5_secondGets_17 (by decide) ?_
    exact J18 v1 0 hf
  refine g_iload_n X dX5_secondGets_0 rfl 1 rfl ?_
  refine g_iload_n X dX5_secondGets_1 rfl 0 rfl ?_
  refine g_icmp_le (tgt := 17) X dX5_secondGets_2 (by decide) (fun hc_1 => ?_) (fun hc_1 => ?_)
  · replace hf := ite_t hc_1 hf
    refine g_lv X (lv' := [(1, .int v1)]) [1] rfl ?_
    exact J17 v1 hf
  · replace hf := ite_f hc_1 hf
    refine g_iload_n X dX5_secondGets_5 rfl 1 rfl ?_
    refine g_iload_n X dX5_secondGets_6 rfl 2 rfl ?_
    obtain ⟨r_2, hk_3, hf⟩ := ob1_out hf
    refine g_cSR (st := [.int v1]) (st1 := [.int r_2, .int v1]) X (c_X5_thirdOf l D cI cZ v2 _ hk_3) (Or.inl rfl) 1 gX5_secondGets_X5_thirdOf rfl hs_X5_thirdOf ⟨Nat.le_of_ble_eq_true rfl, Nat.le_of_ble_eq_true rfl⟩ rfl rfl (Nat.le_of_ble_eq_true rfl) ⟨rfl, rfl⟩ (Nat.zero_le _) (Nat.zero_le _) dX5_secondGets_7 [] rfl rfl rfl ?_
    refine g_icmp_lt (tgt := 17) X dX5_secondGets_10 (by decide) (fun hc_4 => ?_) (fun hc_4 => ?_)
    · replace hf := ite_t hc_4 hf
      refine g_lv X (lv' := [(1, .int v1)]) [1] rfl ?_
      exact J17 v1 hf
    · replace hf := ite_f hc_4 hf
      refine g_iload_n X dX5_secondGets_13 rfl 2 rfl ?_
      refine g_goto (tgt := 18) X dX5_secondGets_14 (by decide) ?_
      refine g_lv X (lv' := [(1, .int v1)]) [1] rfl ?_
      exact J18 v1 v2 hf
def wd_X5_rests (cI cZ : ClassId) : va_W := []
abbrev rm_X5_rests : Room := { frames := 2, cells := 0, slots := 0, locals := 42 }
theorem hs_X5_rests : yX5_rests.cls ≠ "java/lang/invoke/MethodHandle" ∧ yX5_rests.cls ≠ "java/lang/invoke/VarHandle" ∧ (parseMethodDescriptor yX5_rests.desc).map (fun d => d.parameters.length) = some 4 := by decide +kernel
set_option maxHeartbeats 4000000 in
set_option maxRecDepth 100000 in
theorem c_X5_rests (l : Launch) (D : va_G) (cI cZ : ClassId) (v0 : Int32) (v1 : Int32) (v2 : Int32) (v3 : Int32) (res : Int32) (hf : f_X5_rests v0 v1 v2 v3 = some res) : MetR l yX5_rests wsX5_rests rm_X5_rests D cI cZ none [.int v0, .int v1, .int v2, .int v3] (wd_X5_rests cI cZ) (kR res (fun u => some (.int u))) := by
  refine metR_of (cc := cX5_rests) (maxL := 7) (ret := (some .boolean)) (own := RX5) (lv0 := [(0, .int v0), (1, .int v1), (2, .int v2), (3, .int v3)]) (by decide) rfl (Nat.le_of_ble_eq_true rfl) rfl rfl (fun G X hR => ?_)
  replace hR := rt_bool hR
  unfold f_X5_rests at hf
  have J54 : ∀ (k3 : Int32 → Int32 → Int32 → Int32 → Int32 → Option (Int32)) (hk3 : ∀ (v0 : Int32) (v1 : Int32) (v2 : Int32) (v3 : Int32) (v4 : Int32), k3 v0 v1 v2 v3 v4 = some res → G 0 0 (wd_X5_rests cI cZ) [(0, .int v0), (1, .int v1), (2, .int v2), (3, .int v3), (4, .int v4)] 3 []) (v0 : Int32) (v1 : Int32) (v2 : Int32) (v3 : Int32) (v4 : Int32) (v5 : Int32) (s0 : Int32), f_X5_rests_54 k3 v0 v1 v2 v3 v4 v5 s0 = some res → G 0 0 (wd_X5_rests cI cZ) [(0, .int v0), (1, .int v1), (2, .int v2), (3, .int v3), (4, .int v4), (5, .int v5)] 54 [.int s0] := by
    intro k3 hk3 v0 v1 v2 v3 v4 v5 s0 hf
    unfold f_X5_rests_54 at hf
    refine g_istore (lv' := [(0, .int v0), (1, .int v1), (2, .int v2), (3, .int v3), (4, .int v4), (5, .int v5), (6, .int s0)]) X dX5_rests_54 (Nat.le_of_ble_eq_true rfl) [1, 2, 3, 4, 5, 6, 0] rfl ?_
    refine g_iload X dX5_rests_56 5 rfl ?_
    refine g_if_ne (tgt := 66) X dX5_rests_58 (by decide) (fun hc_12 => ?_) (fun hc_12 => ?_)
    · replace hf := ite_f hc_12 hf
      refine g_iconst (v := 0) X dX5_rests_66 (by decide) ?_
      exact hR _ _ _ _ (Or.inl rfl) dX5_rests_67 (kR_in (u := 0) hf)
    · replace hf := ite_t hc_12 hf
      refine g_iload X dX5_rests_61 6 rfl ?_
      refine g_if_eq (tgt := 68) X dX5_rests_63 (by decide) (fun hc_13 => ?_) (fun hc_13 => ?_)
      · replace hf := ite_t hc_13 hf
        obtain ⟨v4_14, ev4_14, hf⟩ := bnd_out hf
        refine g_iinc (v := v4_14) (lv' := [(0, .int v0), (1, .int v1), (2, .int v2), (3, .int v3), (4, .int v4_14), (5, .int v5), (6, .int s0)]) X dX5_rests_68 4 rfl (by rw [ev4_14]; rfl) (Nat.le_of_ble_eq_true rfl) [1, 2, 3, 4, 0, 5, 6] rfl ?_
        refine g_goto (tgt := 3) X dX5_rests_71 (by decide) ?_
        refine g_lv X (lv' := [(0, .int v0), (1, .int v1), (2, .int v2), (3, .int v3), (4, .int v4_14)]) [0, 1, 2, 3, 4] rfl ?_
        exact hk3 v0 v1 v2 v3 v4_14 hf
      · replace hf := ite_f hc_13 hf
        refine g_iconst (v := 0) X dX5_rests_66 (by decide) ?_
        exact hR _ _ _ _ (Or.inl rfl) dX5_rests_67 (kR_in (u := 0) hf)
  have J31 : ∀ (k3 : Int32 → Int32 → Int32 → Int32 → Int32 → Option (Int32)) (hk3 : ∀ (v0 : Int32) (v1 : Int32) (v2 : Int32) (v3 : Int32) (v4 : Int32), k3 v0 v1 v2 v3 v4 = some res → G 0 0 (wd_X5_rests cI cZ) [(0, .int v0), (1, .int v1), (2, .int v2), (3, .int v3), (4, .int v4)] 3 []) (v0 : Int32) (v1 : Int32) (v2 : Int32) (v3 : Int32) (v4 : Int32) (s0 : Int32), f_X5_rests_31 k3 v0 v1 v2 v3 v4 s0 = some res → G 0 0 (wd_X5_rests cI cZ) [(0, .int v0), (1, .int v1), (2, .int v2), (3, .int v3), (4, .int v4)] 31 [.int s0] := by
    intro k3 hk3 v0 v1 v2 v3 v4 s0 hf
    unfold f_X5_rests_31 at hf
    refine g_istore (lv' := [(0, .int v0), (1, .int v1), (2, .int v2), (3, .int v3), (4, .int v4), (5, .int s0)]) X dX5_rests_31 (Nat.le_of_ble_eq_true rfl) [1, 2, 3, 4, 5, 0] rfl ?_
    refine g_iload_n X dX5_rests_33 rfl 0 rfl ?_
    refine g_iload X dX5_rests_34 4 rfl ?_
    refine g_iload_n X dX5_rests_36 rfl 3 rfl ?_
    obtain ⟨r_7, hk_8, hf⟩ := ob1_out hf
    refine g_cSR (st := []) (st1 := [.int r_7]) X (c_X5_secondGets l D cI cZ v0 v4 v3 _ hk_8) (Or.inl rfl) 3 gX5_rests_X5_secondGets rfl hs_X5_secondGets ⟨Nat.le_of_ble_eq_true rfl, Nat.le_of_ble_eq_true rfl⟩ rfl rfl (Nat.le_of_ble_eq_true rfl) ⟨rfl, rfl⟩ (Nat.zero_le _) (Nat.zero_le _) dX5_rests_37 [] rfl rfl rfl ?_
    refine g_iload_n X dX5_rests_40 rfl 0 rfl ?_
    refine g_iload_n X dX5_rests_41 rfl 1 rfl ?_
    refine g_iload_n X dX5_rests_42 rfl 3 rfl ?_
    obtain ⟨r_9, hk_10, hf⟩ := ob1_out hf
    refine g_cSR (st := [.int r_7]) (st1 := [.int r_9, .int r_7]) X (c_X5_secondGets l D cI cZ v0 v1 v3 _ hk_10) (Or.inl rfl) 3 gX5_rests_X5_secondGets rfl hs_X5_secondGets ⟨Nat.le_of_ble_eq_true rfl, Nat.le_of_ble_eq_true rfl⟩ rfl rfl (Nat.le_of_ble_eq_true rfl) ⟨rfl, rfl⟩ (Nat.zero_le _) (Nat.zero_le _) dX5_rests_43 [] rfl rfl rfl ?_
    refine g_icmp_le (tgt := 53) X dX5_rests_46 (by decide) (fun hc_11 => ?_) (fun hc_11 => ?_)
    · replace hf := ite_t hc_11 hf
      refine g_iconst (v := 0) X dX5_rests_53 (by decide) ?_
      exact J54 k3 hk3 v0 v1 v2 v3 v4 s0 0 hf
    · replace hf := ite_f hc_11 hf
      refine g_iconst (v := 1) X dX5_rests_49 (by decide) ?_
      refine g_goto (tgt := 54) X dX5_rests_50 (by decide) ?_
      exact J54 k3 hk3 v0 v1 v2 v3 v4 s0 1 hf
  have J3 : ∀ (n : Nat) (v0 : Int32) (v1 : Int32) (v2 : Int32) (v3 : Int32) (v4 : Int32), f_X5_rests_3 n v0 v1 v2 v3 v4 = some res → G 0 0 (wd_X5_rests cI cZ) [(0, .int v0), (1, .int v1), (2, .int v2), (3, .int v3), (4, .int v4)] 3 [] := by
    intro n
    induction n with
    | zero => intro v0 v1 v2 v3 v4 hf; rw [f_X5_rests_3] at hf; cases hf
    | succ n ih =>
      intro v0 v1 v2 v3 v4 hf
      rw [f_X5_rests_3] at hf
      refine g_iload X dX5_rests_3 4 rfl ?_
      refine g_bipush (v := 9) X dX5_rests_5 (by decide) ?_
      refine g_icmp_gt (tgt := 74) X dX5_rests_7 (by decide) (fun hc_1 => ?_) (fun hc_1 => ?_)
      · replace hf := ite_t hc_1 hf
        refine g_iconst (v := 1) X dX5_rests_74 (by decide) ?_
        exact hR _ _ _ _ (Or.inr rfl) dX5_rests_75 (kR_in (u := 1) hf)
      · replace hf := ite_f hc_1 hf
        refine g_iload X dX5_rests_10 4 rfl ?_
        refine g_iload_n X dX5_rests_12 rfl 1 rfl ?_
        refine g_iload_n X dX5_rests_13 rfl 2 rfl ?_
        obtain ⟨r_2, hk_3, hf⟩ := ob1_out hf
        refine g_cSR (st := []) (st1 := [.int r_2]) X (c_X5_firstGets l D cI cZ v4 v1 v2 _ hk_3) (Or.inl rfl) 3 gX5_rests_X5_firstGets rfl hs_X5_firstGets ⟨Nat.le_of_ble_eq_true rfl, Nat.le_of_ble_eq_true rfl⟩ rfl rfl (Nat.le_of_ble_eq_true rfl) ⟨rfl, rfl⟩ (Nat.zero_le _) (Nat.zero_le _) dX5_rests_14 [] rfl rfl rfl ?_
        refine g_iload_n X dX5_rests_17 rfl 0 rfl ?_
        refine g_iload_n X dX5_rests_18 rfl 1 rfl ?_
        refine g_iload_n X dX5_rests_19 rfl 2 rfl ?_
        obtain ⟨r_4, hk_5, hf⟩ := ob1_out hf
        refine g_cSR (st := [.int r_2]) (st1 := [.int r_4, .int r_2]) X (c_X5_firstGets l D cI cZ v0 v1 v2 _ hk_5) (Or.inl rfl) 3 gX5_rests_X5_firstGets rfl hs_X5_firstGets ⟨Nat.le_of_ble_eq_true rfl, Nat.le_of_ble_eq_true rfl⟩ rfl rfl (Nat.le_of_ble_eq_true rfl) ⟨rfl, rfl⟩ (Nat.zero_le _) (Nat.zero_le _) dX5_rests_20 [] rfl rfl rfl ?_
        refine g_icmp_le (tgt := 30) X dX5_rests_23 (by decide) (fun hc_6 => ?_) (fun hc_6 => ?_)
        · replace hf := ite_t hc_6 hf
          refine g_iconst (v := 0) X dX5_rests_30 (by decide) ?_
          exact J31 (f_X5_rests_3 n) ih v0 v1 v2 v3 v4 0 hf
        · replace hf := ite_f hc_6 hf
          refine g_iconst (v := 1) X dX5_rests_26 (by decide) ?_
          refine g_goto (tgt := 31) X dX5_rests_27 (by decide) ?_
          exact J31 (f_X5_rests_3 n) ih v0 v1 v2 v3 v4 1 hf
  refine g_iconst (v := 0) X dX5_rests_0 (by decide) ?_
  refine g_istore (lv' := [(0, .int v0), (1, .int v1), (2, .int v2), (3, .int v3), (4, .int 0)]) X dX5_rests_1 (Nat.le_of_ble_eq_true rfl) [1, 2, 3, 4, 0] rfl ?_
  exact J3 FU v0 v1 v2 v3 0 hf
def wd_X5_howMany (cI cZ : ClassId) : va_W := []
abbrev rm_X5_howMany : Room := { frames := 3, cells := 0, slots := 0, locals := 68 }
theorem hs_X5_howMany : yX5_howMany.cls ≠ "java/lang/invoke/MethodHandle" ∧ yX5_howMany.cls ≠ "java/lang/invoke/VarHandle" ∧ (parseMethodDescriptor yX5_howMany.desc).map (fun d => d.parameters.length) = some 2 := by decide +kernel
set_option maxHeartbeats 4000000 in
set_option maxRecDepth 100000 in
theorem c_X5_howMany (l : Launch) (D : va_G) (cI cZ : ClassId) (v0 : Int32) (v1 : Int32) (res : Int32) (hf : f_X5_howMany v0 v1 = some res) : MetR l yX5_howMany wsX5_howMany rm_X5_howMany D cI cZ none [.int v0, .int v1] (wd_X5_howMany cI cZ) (kR res (fun u => some (.int u))) := by
  refine metR_of (cc := cX5_howMany) (maxL := 5) (ret := (some .int)) (own := RX5) (lv0 := [(0, .int v0), (1, .int v1)]) (by decide) rfl (Nat.le_of_ble_eq_true rfl) rfl rfl (fun G X hR => ?_)
  replace hR := rt_int hR
  unfold f_X5_howMany at hf
  have J37 : ∀ (k4 : Int32 → Int32 → Int32 → Int32 → Option (Int32)) (hk4 : ∀ (v0 : Int32) (v1 : Int32) (v2 : Int32) (v3 : Int32), k4 v0 v1 v2 v3 = some res → G 0 0 (wd_X5_howMany cI cZ) [(0, .int v0), (1, .int v1), (2, .int v2), (3, .int v3)] 4 []) (k13 : Int32 → Int32 → Int32 → Int32 → Int32 → Option (Int32)) (hk13 : ∀ (v0 : Int32) (v1 : Int32) (v2 : Int32) (v3 : Int32) (v4 : Int32), k13 v0 v1 v2 v3 v4 = some res → G 0 0 (wd_X5_howMany cI cZ) [(0, .int v0), (1, .int v1), (2, .int v2), (3, .int v3), (4, .int v4)] 13 []) (v0 : Int32) (v1 : Int32) (v3 : Int32) (v4 : Int32) (s0 : Int32) (s1 : Int32), f_X5_howMany_37 k4 k13 v0 v1 v3 v4 s0 s1 = some res → G 0 0 (wd_X5_howMany cI cZ) [(0, .int v0), (1, .int v1), (3, .int v3), (4, .int v4)] 37 [.int s1, .int s0] := by
    intro k4 hk4 k13 hk13 v0 v1 v3 v4 s0 s1 hf
    unfold f_X5_howMany_37 at hf
    refine g_iadd X dX5_howMany_37 ?_
    obtain ⟨v2_6, ev2_6, hf⟩ := bnd_out hf
    refine g_nmI X ev2_6 ?_
    refine g_istore_n (lv' := [(0, .int v0), (1, .int v1), (2, .int v2_6), (3, .int v3), (4, .int v4)]) X dX5_howMany_38 rfl (Nat.le_of_ble_eq_true rfl) [1, 2, 0, 3, 4] rfl ?_
    obtain ⟨v4_7, ev4_7, hf⟩ := bnd_out hf
    refine g_iinc (v := v4_7) (lv' := [(0, .int v0), (1, .int v1), (2, .int v2_6), (3, .int v3), (4, .int v4_7)]) X dX5_howMany_39 4 rfl (by rw [ev4_7]; rfl) (Nat.le_of_ble_eq_true rfl) [1, 2, 3, 4, 0] rfl ?_
    refine g_goto (tgt := 13) X dX5_howMany_42 (by decide) ?_
    exact hk13 v0 v1 v2_6 v3 v4_7 hf
  have J45 : ∀ (k4 : Int32 → Int32 → Int32 → Int32 → Option (Int32)) (hk4 : ∀ (v0 : Int32) (v1 : Int32) (v2 : Int32) (v3 : Int32), k4 v0 v1 v2 v3 = some res → G 0 0 (wd_X5_howMany cI cZ) [(0, .int v0), (1, .int v1), (2, .int v2), (3, .int v3)] 4 []) (v0 : Int32) (v1 : Int32) (v2 : Int32) (v3 : Int32), f_X5_howMany_45 k4 v0 v1 v2 v3 = some res → G 0 0 (wd_X5_howMany cI cZ) [(0, .int v0), (1, .int v1), (2, .int v2), (3, .int v3)] 45 [] := by
    intro k4 hk4 v0 v1 v2 v3 hf
    unfold f_X5_howMany_45 at hf
    obtain ⟨v3_8, ev3_8, hf⟩ := bnd_out hf
    refine g_iinc (v := v3_8) (lv' := [(0, .int v0), (1, .int v1), (2, .int v2), (3, .int v3_8)]) X dX5_howMany_45 3 rfl (by rw [ev3_8]; rfl) (Nat.le_of_ble_eq_true rfl) [1, 2, 3, 0] rfl ?_
    refine g_goto (tgt := 4) X dX5_howMany_48 (by decide) ?_
    exact hk4 v0 v1 v2 v3_8 hf
  have J13 : ∀ (k4 : Int32 → Int32 → Int32 → Int32 → Option (Int32)) (hk4 : ∀ (v0 : Int32) (v1 : Int32) (v2 : Int32) (v3 : Int32), k4 v0 v1 v2 v3 = some res → G 0 0 (wd_X5_howMany cI cZ) [(0, .int v0), (1, .int v1), (2, .int v2), (3, .int v3)] 4 []) (n : Nat) (v0 : Int32) (v1 : Int32) (v2 : Int32) (v3 : Int32) (v4 : Int32), f_X5_howMany_13 k4 n v0 v1 v2 v3 v4 = some res → G 0 0 (wd_X5_howMany cI cZ) [(0, .int v0), (1, .int v1), (2, .int v2), (3, .int v3), (4, .int v4)] 13 [] := by
    intro k4 hk4 n
    induction n with
    | zero => intro v0 v1 v2 v3 v4 hf; rw [f_X5_howMany_13] at hf; cases hf
    | succ n ih =>
      intro v0 v1 v2 v3 v4 hf
      rw [f_X5_howMany_13] at hf
      refine g_iload X dX5_howMany_13 4 rfl ?_
      refine g_bipush (v := 9) X dX5_howMany_15 (by decide) ?_
      refine g_icmp_gt (tgt := 45) X dX5_howMany_17 (by decide) (fun hc_2 => ?_) (fun hc_2 => ?_)
      · replace hf := ite_t hc_2 hf
        refine g_lv X (lv' := [(0, .int v0), (1, .int v1), (2, .int v2), (3, .int v3)]) [0, 1, 2, 3] rfl ?_
        exact J45 k4 hk4 v0 v1 v2 v3 hf
      · replace hf := ite_f hc_2 hf
        refine g_iload_n X dX5_howMany_20 rfl 2 rfl ?_
        refine g_iload_n X dX5_howMany_21 rfl 3 rfl ?_
        refine g_iload X dX5_howMany_22 4 rfl ?_
        refine g_iload_n X dX5_howMany_24 rfl 0 rfl ?_
        refine g_iload_n X dX5_howMany_25 rfl 1 rfl ?_
        obtain ⟨r_3, hk_4, hf⟩ := ob1_out hf
        refine g_cSR (st := [.int v2]) (st1 := [.int r_3, .int v2]) X (c_X5_rests l D cI cZ v3 v4 v0 v1 _ hk_4) (Or.inl rfl) 4 gX5_howMany_X5_rests rfl hs_X5_rests ⟨Nat.le_of_ble_eq_true rfl, Nat.le_of_ble_eq_true rfl⟩ rfl rfl (Nat.le_of_ble_eq_true rfl) ⟨rfl, rfl⟩ (Nat.zero_le _) (Nat.zero_le _) dX5_howMany_26 [] rfl rfl rfl ?_
        refine g_if_eq (tgt := 36) X dX5_howMany_29 (by decide) (fun hc_5 => ?_) (fun hc_5 => ?_)
        · replace hf := ite_t hc_5 hf
          refine g_iconst (v := 0) X dX5_howMany_36 (by decide) ?_
          refine g_lv X (lv' := [(0, .int v0), (1, .int v1), (3, .int v3), (4, .int v4)]) [0, 1, 3, 4] rfl ?_
          exact J37 k4 hk4 (f_X5_howMany_13 k4 n) ih v0 v1 v3 v4 v2 0 hf
        · replace hf := ite_f hc_5 hf
          refine g_iconst (v := 1) X dX5_howMany_32 (by decide) ?_
          refine g_goto (tgt := 37) X dX5_howMany_33 (by decide) ?_
          refine g_lv X (lv' := [(0, .int v0), (1, .int v1), (3, .int v3), (4, .int v4)]) [0, 1, 3, 4] rfl ?_
          exact J37 k4 hk4 (f_X5_howMany_13 k4 n) ih v0 v1 v3 v4 v2 1 hf
  have J4 : ∀ (n : Nat) (v0 : Int32) (v1 : Int32) (v2 : Int32) (v3 : Int32), f_X5_howMany_4 n v0 v1 v2 v3 = some res → G 0 0 (wd_X5_howMany cI cZ) [(0, .int v0), (1, .int v1), (2, .int v2), (3, .int v3)] 4 [] := by
    intro n
    induction n with
    | zero => intro v0 v1 v2 v3 hf; rw [f_X5_howMany_4] at hf; cases hf
    | succ n ih =>
      intro v0 v1 v2 v3 hf
      rw [f_X5_howMany_4] at hf
      refine g_iload_n X dX5_howMany_4 rfl 3 rfl ?_
      refine g_bipush (v := 9) X dX5_howMany_5 (by decide) ?_
      refine g_icmp_gt (tgt := 51) X dX5_howMany_7 (by decide) (fun hc_1 => ?_) (fun hc_1 => ?_)
      · replace hf := ite_t hc_1 hf
        refine g_iload_n X dX5_howMany_51 rfl 2 rfl ?_
        exact hR _ _ _ _ dX5_howMany_52 (kR_in (u := v2) hf)
      · replace hf := ite_f hc_1 hf
        refine g_iconst (v := 0) X dX5_howMany_10 (by decide) ?_
        refine g_istore (lv' := [(0, .int v0), (1, .int v1), (2, .int v2), (3, .int v3), (4, .int 0)]) X dX5_howMany_11 (Nat.le_of_ble_eq_true rfl) [1, 2, 3, 4, 0] rfl ?_
        exact J13 (f_X5_howMany_4 n) ih FU v0 v1 v2 v3 0 hf
  refine g_iconst (v := 0) X dX5_howMany_0 (by decide) ?_
  refine g_istore_n (lv' := [(0, .int v0), (1, .int v1), (2, .int 0)]) X dX5_howMany_1 rfl (Nat.le_of_ble_eq_true rfl) [1, 2, 0] rfl ?_
  refine g_iconst (v := 0) X dX5_howMany_2 (by decide) ?_
  refine g_istore_n (lv' := [(0, .int v0), (1, .int v1), (2, .int 0), (3, .int 0)]) X dX5_howMany_3 rfl (Nat.le_of_ble_eq_true rfl) [1, 2, 3, 0] rfl ?_
  exact J4 FU v0 v1 0 0 hf
def wd_X5_pair (cI cZ : ClassId) : va_W := []
abbrev rm_X5_pair : Room := { frames := 3, cells := 0, slots := 0, locals := 68 }
theorem hs_X5_pair : yX5_pair.cls ≠ "java/lang/invoke/MethodHandle" ∧ yX5_pair.cls ≠ "java/lang/invoke/VarHandle" ∧ (parseMethodDescriptor yX5_pair.desc).map (fun d => d.parameters.length) = some 3 := by decide +kernel
set_option maxHeartbeats 4000000 in
set_option maxRecDepth 100000 in
theorem c_X5_pair (l : Launch) (D : va_G) (cI cZ : ClassId) (v0 : Int32) (v1 : Int32) (v2 : Int32) (res : Int32) (hf : f_X5_pair v0 v1 v2 = some res) : MetR l yX5_pair wsX5_pair rm_X5_pair D cI cZ none [.int v0, .int v1, .int v2] (wd_X5_pair cI cZ) (kR res (fun u => some (.int u))) := by
  refine metR_of (cc := cX5_pair) (maxL := 6) (ret := (some .int)) (own := RX5) (lv0 := [(0, .int v0), (1, .int v1), (2, .int v2)]) (by decide) rfl (Nat.le_of_ble_eq_true rfl) rfl rfl (fun G X hR => ?_)
  replace hR := rt_int hR
  unfold f_X5_pair at hf
  have J39 : ∀ (v4 : Int32) (v5 : Int32), f_X5_pair_39 v4 v5 = some res → G 0 0 (wd_X5_pair cI cZ) [(4, .int v4), (5, .int v5)] 39 [] := by
    intro v4 v5 hf
    unfold f_X5_pair_39 at hf
    refine g_bipush (v := 10) X dX5_pair_39 (by decide) ?_
    refine g_iload X dX5_pair_41 0 rfl ?_
    refine g_imul X dX5_pair_43 ?_
    refine g_iload X dX5_pair_44 1 rfl ?_
    refine g_iadd X dX5_pair_46 ?_
    exact hR _ _ _ _ dX5_pair_47 (kR_in (u := ((10 * v4) + v5)) hf)
  have J51 : ∀ (k5 : Int32 → Int32 → Int32 → Int32 → Int32 → Option (Int32)) (hk5 : ∀ (v0 : Int32) (v1 : Int32) (v2 : Int32) (v3 : Int32) (v4 : Int32), k5 v0 v1 v2 v3 v4 = some res → G 0 0 (wd_X5_pair cI cZ) [(0, .int v0), (1, .int v1), (2, .int v2), (3, .int v3), (4, .int v4)] 5 []) (k15 : Int32 → Int32 → Int32 → Int32 → Int32 → Int32 → Option (Int32)) (hk15 : ∀ (v0 : Int32) (v1 : Int32) (v2 : Int32) (v3 : Int32) (v4 : Int32) (v5 : Int32), k15 v0 v1 v2 v3 v4 v5 = some res → G 0 0 (wd_X5_pair cI cZ) [(0, .int v0), (1, .int v1), (2, .int v2), (3, .int v3), (4, .int v4), (5, .int v5)] 15 []) (v0 : Int32) (v1 : Int32) (v2 : Int32) (v3 : Int32) (v4 : Int32) (v5 : Int32), f_X5_pair_51 k5 k15 v0 v1 v2 v3 v4 v5 = some res → G 0 0 (wd_X5_pair cI cZ) [(0, .int v0), (1, .int v1), (2, .int v2), (3, .int v3), (4, .int v4), (5, .int v5)] 51 [] := by
    intro k5 hk5 k15 hk15 v0 v1 v2 v3 v4 v5 hf
    unfold f_X5_pair_51 at hf
    obtain ⟨v5_8, ev5_8, hf⟩ := bnd_out hf
    refine g_iinc (v := v5_8) (lv' := [(0, .int v0), (1, .int v1), (2, .int v2), (3, .int v3), (4, .int v4), (5, .int v5_8)]) X dX5_pair_51 5 rfl (by rw [ev5_8]; rfl) (Nat.le_of_ble_eq_true rfl) [1, 2, 3, 4, 5, 0] rfl ?_
    refine g_goto (tgt := 15) X dX5_pair_54 (by decide) ?_
    exact hk15 v0 v1 v2 v3 v4 v5_8 hf
  have J57 : ∀ (k5 : Int32 → Int32 → Int32 → Int32 → Int32 → Option (Int32)) (hk5 : ∀ (v0 : Int32) (v1 : Int32) (v2 : Int32) (v3 : Int32) (v4 : Int32), k5 v0 v1 v2 v3 v4 = some res → G 0 0 (wd_X5_pair cI cZ) [(0, .int v0), (1, .int v1), (2, .int v2), (3, .int v3), (4, .int v4)] 5 []) (v0 : Int32) (v1 : Int32) (v2 : Int32) (v3 : Int32) (v4 : Int32), f_X5_pair_57 k5 v0 v1 v2 v3 v4 = some res → G 0 0 (wd_X5_pair cI cZ) [(0, .int v0), (1, .int v1), (2, .int v2), (3, .int v3), (4, .int v4)] 57 [] := by
    intro k5 hk5 v0 v1 v2 v3 v4 hf
    unfold f_X5_pair_57 at hf
    obtain ⟨v4_9, ev4_9, hf⟩ := bnd_out hf
    refine g_iinc (v := v4_9) (lv' := [(0, .int v0), (1, .int v1), (2, .int v2), (3, .int v3), (4, .int v4_9)]) X dX5_pair_57 4 rfl (by rw [ev4_9]; rfl) (Nat.le_of_ble_eq_true rfl) [1, 2, 3, 4, 0] rfl ?_
    refine g_goto (tgt := 5) X dX5_pair_60 (by decide) ?_
    exact hk5 v0 v1 v2 v3 v4_9 hf
  have J15 : ∀ (k5 : Int32 → Int32 → Int32 → Int32 → Int32 → Option (Int32)) (hk5 : ∀ (v0 : Int32) (v1 : Int32) (v2 : Int32) (v3 : Int32) (v4 : Int32), k5 v0 v1 v2 v3 v4 = some res → G 0 0 (wd_X5_pair cI cZ) [(0, .int v0), (1, .int v1), (2, .int v2), (3, .int v3), (4, .int v4)] 5 []) (n : Nat) (v0 : Int32) (v1 : Int32) (v2 : Int32) (v3 : Int32) (v4 : Int32) (v5 : Int32), f_X5_pair_15 k5 n v0 v1 v2 v3 v4 v5 = some res → G 0 0 (wd_X5_pair cI cZ) [(0, .int v0), (1, .int v1), (2, .int v2), (3, .int v3), (4, .int v4), (5, .int v5)] 15 [] := by
    intro k5 hk5 n
    induction n with
    | zero => intro v0 v1 v2 v3 v4 v5 hf; rw [f_X5_pair_15] at hf; cases hf
    | succ n ih =>
      intro v0 v1 v2 v3 v4 v5 hf
      rw [f_X5_pair_15] at hf
      refine g_iload X dX5_pair_15 5 rfl ?_
      refine g_bipush (v := 9) X dX5_pair_17 (by decide) ?_
      refine g_icmp_gt (tgt := 57) X dX5_pair_19 (by decide) (fun hc_2 => ?_) (fun hc_2 => ?_)
      · replace hf := ite_t hc_2 hf
        refine g_lv X (lv' := [(0, .int v0), (1, .int v1), (2, .int v2), (3, .int v3), (4, .int v4)]) [0, 1, 2, 3, 4] rfl ?_
        exact J57 k5 hk5 v0 v1 v2 v3 v4 hf
      · replace hf := ite_f hc_2 hf
        refine g_iload X dX5_pair_22 4 rfl ?_
        refine g_iload X dX5_pair_24 5 rfl ?_
        refine g_iload_n X dX5_pair_26 rfl 0 rfl ?_
        refine g_iload_n X dX5_pair_27 rfl 1 rfl ?_
        obtain ⟨r_3, hk_4, hf⟩ := ob1_out hf
        refine g_cSR (st := []) (st1 := [.int r_3]) X (c_X5_rests l D cI cZ v4 v5 v0 v1 _ hk_4) (Or.inl rfl) 4 gX5_pair_X5_rests rfl hs_X5_rests ⟨Nat.le_of_ble_eq_true rfl, Nat.le_of_ble_eq_true rfl⟩ rfl rfl (Nat.le_of_ble_eq_true rfl) ⟨rfl, rfl⟩ (Nat.zero_le _) (Nat.zero_le _) dX5_pair_28 [] rfl rfl rfl ?_
        refine g_if_eq (tgt := 51) X dX5_pair_31 (by decide) (fun hc_5 => ?_) (fun hc_5 => ?_)
        · replace hf := ite_t hc_5 hf
          exact J51 k5 hk5 (f_X5_pair_15 k5 n) ih v0 v1 v2 v3 v4 v5 hf
        · replace hf := ite_f hc_5 hf
          refine g_iload_n X dX5_pair_34 rfl 3 rfl ?_
          refine g_iload_n X dX5_pair_35 rfl 2 rfl ?_
          refine g_icmp_ne (tgt := 48) X dX5_pair_36 (by decide) (fun hc_6 => ?_) (fun hc_6 => ?_)
          · replace hf := ite_f hc_6 hf
            obtain ⟨v3_7, ev3_7, hf⟩ := bnd_out hf
            refine g_iinc (v := v3_7) (lv' := [(0, .int v0), (1, .int v1), (2, .int v2), (3, .int v3_7), (4, .int v4), (5, .int v5)]) X dX5_pair_48 3 rfl (by rw [ev3_7]; rfl) (Nat.le_of_ble_eq_true rfl) [1, 2, 3, 0, 4, 5] rfl ?_
            exact J51 k5 hk5 (f_X5_pair_15 k5 n) ih v0 v1 v2 v3_7 v4 v5 hf
          · replace hf := ite_t hc_6 hf
            refine g_lv X (lv' := [(4, .int v4), (5, .int v5)]) [4, 5] rfl ?_
            exact J39 v4 v5 hf
  have J5 : ∀ (n : Nat) (v0 : Int32) (v1 : Int32) (v2 : Int32) (v3 : Int32) (v4 : Int32), f_X5_pair_5 n v0 v1 v2 v3 v4 = some res → G 0 0 (wd_X5_pair cI cZ) [(0, .int v0), (1, .int v1), (2, .int v2), (3, .int v3), (4, .int v4)] 5 [] := by
    intro n
    induction n with
    | zero => intro v0 v1 v2 v3 v4 hf; rw [f_X5_pair_5] at hf; cases hf
    | succ n ih =>
      intro v0 v1 v2 v3 v4 hf
      rw [f_X5_pair_5] at hf
      refine g_iload X dX5_pair_5 4 rfl ?_
      refine g_bipush (v := 9) X dX5_pair_7 (by decide) ?_
      refine g_icmp_gt (tgt := 63) X dX5_pair_9 (by decide) (fun hc_1 => ?_) (fun hc_1 => ?_)
      · replace hf := ite_t hc_1 hf
        refine g_bipush (v := (-5)) X dX5_pair_63 (by decide) ?_
        exact hR _ _ _ _ dX5_pair_65 (kR_in (u := (-5)) hf)
      · replace hf := ite_f hc_1 hf
        refine g_iconst (v := 0) X dX5_pair_12 (by decide) ?_
        refine g_istore (lv' := [(0, .int v0), (1, .int v1), (2, .int v2), (3, .int v3), (4, .int v4), (5, .int 0)]) X dX5_pair_13 (Nat.le_of_ble_eq_true rfl) [1, 2, 3, 4, 5, 0] rfl ?_
        exact J15 (f_X5_pair_5 n) ih FU v0 v1 v2 v3 v4 0 hf
  refine g_iconst (v := 0) X dX5_pair_0 (by decide) ?_
  refine g_istore_n (lv' := [(0, .int v0), (1, .int v1), (2, .int v2), (3, .int 0)]) X dX5_pair_1 rfl (Nat.le_of_ble_eq_true rfl) [1, 2, 3, 0] rfl ?_
  refine g_iconst (v := 0) X dX5_pair_2 (by decide) ?_
  refine g_istore (lv' := [(0, .int v0), (1, .int v1), (2, .int v2), (3, .int 0), (4, .int 0)]) X dX5_pair_3 (Nat.le_of_ble_eq_true rfl) [1, 2, 3, 4, 0] rfl ?_
  exact J5 FU v0 v1 v2 0 0 hf
def wd_X2_greatestShared (cI cZ : ClassId) : va_W := []
abbrev rm_X2_greatestShared : Room := { frames := 0, cells := 0, slots := 0, locals := 0 }
theorem hs_X2_greatestShared : yX2_greatestShared.cls ≠ "java/lang/invoke/MethodHandle" ∧ yX2_greatestShared.cls ≠ "java/lang/invoke/VarHandle" ∧ (parseMethodDescriptor yX2_greatestShared.desc).map (fun d => d.parameters.length) = some 2 := by decide +kernel
set_option maxHeartbeats 4000000 in
set_option maxRecDepth 100000 in
theorem c_X2_greatestShared (l : Launch) (D : va_G) (cI cZ : ClassId) (v0 : Int32) (v1 : Int32) (res : Int32) (hf : f_X2_greatestShared v0 v1 = some res) : MetR l yX2_greatestShared wsX2_greatestShared rm_X2_greatestShared D cI cZ none [.int v0, .int v1] (wd_X2_greatestShared cI cZ) (kR res (fun u => some (.int u))) := by
  refine metR_of (cc := cX2_greatestShared) (maxL := 3) (ret := (some .int)) (own := RX2) (lv0 := [(0, .int v0), (1, .int v1)]) (by decide) rfl (Nat.le_of_ble_eq_true rfl) rfl rfl (fun G X hR => ?_)
  replace hR := rt_int hR
  unfold f_X2_greatestShared at hf
  have J22 : ∀ (k3 : Int32 → Int32 → Int32 → Option (Int32)) (hk3 : ∀ (v0 : Int32) (v1 : Int32) (v2 : Int32), k3 v0 v1 v2 = some res → G 0 0 (wd_X2_greatestShared cI cZ) [(0, .int v0), (1, .int v1), (2, .int v2)] 3 []) (v0 : Int32) (v1 : Int32) (v2 : Int32), f_X2_greatestShared_22 k3 v0 v1 v2 = some res → G 0 0 (wd_X2_greatestShared cI cZ) [(0, .int v0), (1, .int v1), (2, .int v2)] 22 [] := by
    intro k3 hk3 v0 v1 v2 hf
    unfold f_X2_greatestShared_22 at hf
    obtain ⟨v2_6, ev2_6, hf⟩ := bnd_out hf
    refine g_iinc (v := v2_6) (lv' := [(0, .int v0), (1, .int v1), (2, .int v2_6)]) X dX2_greatestShared_22 2 rfl (by rw [ev2_6]; rfl) (Nat.le_of_ble_eq_true rfl) [1, 2, 0] rfl ?_
    refine g_goto (tgt := 3) X dX2_greatestShared_25 (by decide) ?_
    exact hk3 v0 v1 v2_6 hf
  have J3 : ∀ (n : Nat) (v0 : Int32) (v1 : Int32) (v2 : Int32), f_X2_greatestShared_3 n v0 v1 v2 = some res → G 0 0 (wd_X2_greatestShared cI cZ) [(0, .int v0), (1, .int v1), (2, .int v2)] 3 [] := by
    intro n
    induction n with
    | zero => intro v0 v1 v2 hf; rw [f_X2_greatestShared_3] at hf; cases hf
    | succ n ih =>
      intro v0 v1 v2 hf
      rw [f_X2_greatestShared_3] at hf
      refine g_iload_n X dX2_greatestShared_3 rfl 2 rfl ?_
      refine g_iconst (v := 1) X dX2_greatestShared_4 (by decide) ?_
      refine g_icmp_le (tgt := 28) X dX2_greatestShared_5 (by decide) (fun hc_1 => ?_) (fun hc_1 => ?_)
      · replace hf := ite_t hc_1 hf
        refine g_iconst (v := 1) X dX2_greatestShared_28 (by decide) ?_
        exact hR _ _ _ _ dX2_greatestShared_29 (kR_in (u := 1) hf)
      · replace hf := ite_f hc_1 hf
        refine g_iload_n X dX2_greatestShared_8 rfl 0 rfl ?_
        refine g_iload_n X dX2_greatestShared_9 rfl 2 rfl ?_
        obtain ⟨hz_2, hf⟩ := chz_out hf
        refine g_irem X dX2_greatestShared_10 hz_2 ?_
        refine g_if_ne (tgt := 22) X dX2_greatestShared_11 (by decide) (fun hc_3 => ?_) (fun hc_3 => ?_)
        · replace hf := ite_f hc_3 hf
          exact J22 (f_X2_greatestShared_3 n) ih v0 v1 v2 hf
        · replace hf := ite_t hc_3 hf
          refine g_iload_n X dX2_greatestShared_14 rfl 1 rfl ?_
          refine g_iload_n X dX2_greatestShared_15 rfl 2 rfl ?_
          obtain ⟨hz_4, hf⟩ := chz_out hf
          refine g_irem X dX2_greatestShared_16 hz_4 ?_
          refine g_if_ne (tgt := 22) X dX2_greatestShared_17 (by decide) (fun hc_5 => ?_) (fun hc_5 => ?_)
          · replace hf := ite_f hc_5 hf
            exact J22 (f_X2_greatestShared_3 n) ih v0 v1 v2 hf
          · replace hf := ite_t hc_5 hf
            refine g_iload_n X dX2_greatestShared_20 rfl 2 rfl ?_
            exact hR _ _ _ _ dX2_greatestShared_21 (kR_in (u := v2) hf)
  refine g_bipush (v := 10) X dX2_greatestShared_0 (by decide) ?_
  refine g_istore_n (lv' := [(0, .int v0), (1, .int v1), (2, .int 10)]) X dX2_greatestShared_2 rfl (Nat.le_of_ble_eq_true rfl) [1, 2, 0] rfl ?_
  exact J3 FU v0 v1 10 hf
def wd_X2_setPower (cI cZ : ClassId) (h_t : Nat) (t_above : Int64) (t_below : Int64) : va_W := [(h_t, .inr (0, [.long t_above, .long t_below]))]
abbrev rm_X2_setPower : Room := { frames := 1, cells := 0, slots := 0, locals := 22 }
theorem hv_X2_setPower : yX2_setPower.cls = RX2 ∧ yX2_setPower.cls ≠ "java/lang/invoke/MethodHandle" ∧ yX2_setPower.cls ≠ "java/lang/invoke/VarHandle" ∧ (parseMethodDescriptor yX2_setPower.desc).map (fun d => d.parameters.length) = some 3 := by decide +kernel
theorem iw_X2_setPower_X2 : ∀ w ∈ u_ws RX2 TX2 2, w ∈ wsX2_setPower := by decide +kernel
theorem lk_X2_setPower_7 : Cond.fieldLink RX2 7 "ClerkChains$Fraction" "above" "J" ∈ wsX2_setPower := by decide +kernel
theorem lk_X2_setPower_13 : Cond.fieldLink RX2 13 "ClerkChains$Fraction" "below" "J" ∈ wsX2_setPower := by decide +kernel
set_option maxHeartbeats 4000000 in
set_option maxRecDepth 100000 in
theorem c_X2_setPower (l : Launch) (D : va_G) (cI cZ : ClassId) (h_t : Nat) (t_above : Int64) (t_below : Int64) (v1 : Int32) (v2 : Int32) (v3 : Int32) (res : Int64 × Int64) (hf : f_X2_setPower t_above t_below v1 v2 v3 = some res) : MetG l yX2_setPower wsX2_setPower rm_X2_setPower D cI cZ none [.ref h_t, .int v1, .int v2, .int v3] (wd_X2_setPower cI cZ h_t t_above t_below) (kV res (fun _ => none) (fun u => (wd_X2_setPower cI cZ h_t (u.1) (u.2)))) := by
  refine metG_of (cc := cX2_setPower) (maxL := 6) (ret := none) (own := RX2) (lv0 := [(0, .ref h_t), (1, .int v1), (2, .int v2), (3, .int v3)]) (ini := false) (by decide) rfl (Nat.le_of_ble_eq_true rfl) rfl rfl (fun h => by cases h) (fun G X hR => ?_)
  replace hR := rt_void hR
  unfold f_X2_setPower at hf
  have J69 : ∀ (k20 : Int64 → Int64 → Int32 → Int32 → Int32 → Int32 → Int32 → Option (Int64 × Int64)) (hk20 : ∀ (t_above : Int64) (t_below : Int64) (v1 : Int32) (v2 : Int32) (v3 : Int32) (v4 : Int32) (v5 : Int32), k20 t_above t_below v1 v2 v3 v4 v5 = some res → G 0 0 (wd_X2_setPower cI cZ h_t t_above t_below) [(0, .ref h_t), (1, .int v1), (2, .int v2), (3, .int v3), (4, .int v4), (5, .int v5)] 20 []) (t_above : Int64) (t_below : Int64) (v1 : Int32) (v2 : Int32) (v3 : Int32) (v4 : Int32) (v5 : Int32) (s1 : Int64), f_X2_setPower_69 k20 t_above t_below v1 v2 v3 v4 v5 s1 = some res → G 0 0 (wd_X2_setPower cI cZ h_t t_above t_below) [(0, .ref h_t), (1, .int v1), (2, .int v2), (3, .int v3), (4, .int v4), (5, .int v5)] 69 [.long s1, .ref h_t] := by
    intro k20 hk20 t_above t_below v1 v2 v3 v4 v5 s1 hf
    unfold f_X2_setPower_69 at hf
    refine g_put (C := RX2) (T := TX2) (N := 2) (ci := 0) (v := .long s1) (ws' := (wd_X2_setPower cI cZ h_t t_above s1)) X iw_X2_setPower_X2 tyX2 tyX2_ok nmX2 0 rfl rfl 1 (by decide) lk_X2_setPower_13 rfl (tyX2_ok 1 (by decide)) rfl rfl (Nat.le_of_ble_eq_true rfl) dX2_setPower_69 rfl ?_
    obtain ⟨v5_7, ev5_7, hf⟩ := bnd_out hf
    refine g_iinc (v := v5_7) (lv' := [(0, .ref h_t), (1, .int v1), (2, .int v2), (3, .int v3), (4, .int v4), (5, .int v5_7)]) X dX2_setPower_72 5 rfl (by rw [ev5_7]; rfl) (Nat.le_of_ble_eq_true rfl) [1, 2, 3, 4, 5, 0] rfl ?_
    refine g_goto (tgt := 20) X dX2_setPower_75 (by decide) ?_
    exact hk20 t_above s1 v1 v2 v3 v4 v5_7 hf
  have J20 : ∀ (n : Nat) (t_above : Int64) (t_below : Int64) (v1 : Int32) (v2 : Int32) (v3 : Int32) (v4 : Int32) (v5 : Int32), f_X2_setPower_20 n t_above t_below v1 v2 v3 v4 v5 = some res → G 0 0 (wd_X2_setPower cI cZ h_t t_above t_below) [(0, .ref h_t), (1, .int v1), (2, .int v2), (3, .int v3), (4, .int v4), (5, .int v5)] 20 [] := by
    intro n
    induction n with
    | zero => intro t_above t_below v1 v2 v3 v4 v5 hf; rw [f_X2_setPower_20] at hf; cases hf
    | succ n ih =>
      intro t_above t_below v1 v2 v3 v4 v5 hf
      rw [f_X2_setPower_20] at hf
      refine g_iload X dX2_setPower_20 5 rfl ?_
      refine g_iload_n X dX2_setPower_22 rfl 3 rfl ?_
      refine g_icmp_ge (tgt := 78) X dX2_setPower_23 (by decide) (fun hc_1 => ?_) (fun hc_1 => ?_)
      · replace hf := ite_t hc_1 hf
        exact hR _ _ _ dX2_setPower_78 (kV_in (u := (t_above, t_below)) hf)
      · replace hf := ite_f hc_1 hf
        refine g_iload X dX2_setPower_26 4 rfl ?_
        refine g_if_le (tgt := 78) X dX2_setPower_28 (by decide) (fun hc_2 => ?_) (fun hc_2 => ?_)
        · replace hf := ite_t hc_2 hf
          exact hR _ _ _ dX2_setPower_78 (kV_in (u := (t_above, t_below)) hf)
        · replace hf := ite_f hc_2 hf
          refine g_aload_n X dX2_setPower_31 rfl 0 rfl ?_
          refine g_aload_n X dX2_setPower_32 rfl 0 rfl ?_
          refine g_get (C := RX2) (T := TX2) (N := 2) (ci := 0) (v := (.long t_above)) X iw_X2_setPower_X2 0 rfl rfl 0 (by decide) lk_X2_setPower_7 rfl dX2_setPower_33 ?_
          refine g_iload_n X dX2_setPower_36 rfl 1 rfl ?_
          refine g_iload X dX2_setPower_37 4 rfl ?_
          obtain ⟨hz_3, hf⟩ := chz_out hf
          refine g_idiv X dX2_setPower_39 hz_3 ?_
          refine g_i2l X dX2_setPower_40 ?_
          refine g_lmul X dX2_setPower_41 ?_
          obtain ⟨t_above_4, et_above_4, hf⟩ := bnd_out hf
          refine g_nmJ X et_above_4 ?_
          refine g_put (C := RX2) (T := TX2) (N := 2) (ci := 0) (v := .long t_above_4) (ws' := (wd_X2_setPower cI cZ h_t t_above_4 t_below)) X iw_X2_setPower_X2 tyX2 tyX2_ok nmX2 0 rfl rfl 0 (by decide) lk_X2_setPower_7 rfl (tyX2_ok 0 (by decide)) rfl rfl (Nat.le_of_ble_eq_true rfl) dX2_setPower_42 rfl ?_
          refine g_aload_n X dX2_setPower_45 rfl 0 rfl ?_
          refine g_aload_n X dX2_setPower_46 rfl 0 rfl ?_
          refine g_get (C := RX2) (T := TX2) (N := 2) (ci := 0) (v := (.long t_above_4)) X iw_X2_setPower_X2 0 rfl rfl 0 (by decide) lk_X2_setPower_7 rfl dX2_setPower_47 ?_
          refine g_lconst (v := 0) X dX2_setPower_50 (by decide) ?_
          refine g_lcmp X dX2_setPower_51 ?_
          refine g_if_ne (tgt := 59) X dX2_setPower_52 (by decide) (fun hc_5 => ?_) (fun hc_5 => ?_)
          · replace hf := ite_f hc_5 hf
            refine g_aload_n X dX2_setPower_59 rfl 0 rfl ?_
            refine g_get (C := RX2) (T := TX2) (N := 2) (ci := 0) (v := (.long t_below)) X iw_X2_setPower_X2 0 rfl rfl 1 (by decide) lk_X2_setPower_13 rfl dX2_setPower_60 ?_
            refine g_iload_n X dX2_setPower_63 rfl 2 rfl ?_
            refine g_iload X dX2_setPower_64 4 rfl ?_
            obtain ⟨hz_6, hf⟩ := chz_out hf
            refine g_idiv X dX2_setPower_66 hz_6 ?_
            refine g_i2l X dX2_setPower_67 ?_
            refine g_lmul X dX2_setPower_68 ?_
            exact J69 (f_X2_setPower_20 n) ih t_above_4 t_below v1 v2 v3 v4 v5 (t_below * ((v2 / v4).toInt64)) hf
          · replace hf := ite_t hc_5 hf
            refine g_lconst (v := 1) X dX2_setPower_55 (by decide) ?_
            refine g_goto (tgt := 69) X dX2_setPower_56 (by decide) ?_
            exact J69 (f_X2_setPower_20 n) ih t_above_4 t_below v1 v2 v3 v4 v5 1 hf
  refine g_iload_n X dX2_setPower_0 rfl 1 rfl ?_
  refine g_iload_n X dX2_setPower_1 rfl 2 rfl ?_
  obtain ⟨r_8, hk_9, hf⟩ := ob1_out hf
  refine g_cSR (st := []) (st1 := [.int r_8]) X (c_X2_greatestShared l D cI cZ v1 v2 _ hk_9) (Or.inl rfl) 2 gX2_setPower_X2_greatestShared rfl hs_X2_greatestShared ⟨Nat.le_of_ble_eq_true rfl, Nat.le_of_ble_eq_true rfl⟩ rfl rfl (Nat.le_of_ble_eq_true rfl) ⟨rfl, rfl⟩ (Nat.zero_le _) (Nat.zero_le _) dX2_setPower_2 [] rfl rfl rfl ?_
  refine g_istore (lv' := [(0, .ref h_t), (1, .int v1), (2, .int v2), (3, .int v3), (4, .int r_8)]) X dX2_setPower_5 (Nat.le_of_ble_eq_true rfl) [1, 2, 3, 4, 0] rfl ?_
  refine g_aload_n X dX2_setPower_7 rfl 0 rfl ?_
  refine g_lconst (v := 1) X dX2_setPower_8 (by decide) ?_
  refine g_put (C := RX2) (T := TX2) (N := 2) (ci := 0) (v := .long 1) (ws' := (wd_X2_setPower cI cZ h_t 1 t_below)) X iw_X2_setPower_X2 tyX2 tyX2_ok nmX2 0 rfl rfl 0 (by decide) lk_X2_setPower_7 rfl (tyX2_ok 0 (by decide)) rfl rfl (Nat.le_of_ble_eq_true rfl) dX2_setPower_9 rfl ?_
  refine g_aload_n X dX2_setPower_12 rfl 0 rfl ?_
  refine g_lconst (v := 1) X dX2_setPower_13 (by decide) ?_
  refine g_put (C := RX2) (T := TX2) (N := 2) (ci := 0) (v := .long 1) (ws' := (wd_X2_setPower cI cZ h_t 1 1)) X iw_X2_setPower_X2 tyX2 tyX2_ok nmX2 0 rfl rfl 1 (by decide) lk_X2_setPower_13 rfl (tyX2_ok 1 (by decide)) rfl rfl (Nat.le_of_ble_eq_true rfl) dX2_setPower_14 rfl ?_
  refine g_iconst (v := 0) X dX2_setPower_17 (by decide) ?_
  refine g_istore (lv' := [(0, .ref h_t), (1, .int v1), (2, .int v2), (3, .int v3), (4, .int r_8), (5, .int 0)]) X dX2_setPower_18 (Nat.le_of_ble_eq_true rfl) [1, 2, 3, 4, 5, 0] rfl ?_
  exact J20 FU 1 1 v1 v2 v3 r_8 0 hf
def wd_X7_sum (cI cZ : ClassId) (h_t : Nat) (h_t_cells : Nat) (t_most : Int32) (t_width : Int32) (t_size : Int32) (t_N : Nat) (t_cells : (Nat → Int32)) : va_W := [(h_t, .inr (3, [.int t_most, .int t_width, .ref h_t_cells, .int t_size])), (h_t_cells, .inl (cI, t_N, .inl t_cells))]
abbrev rm_X7_sum : Room := { frames := 1, cells := 0, slots := 0, locals := 24 }
theorem hv_X7_sum : yX7_sum.cls = RX7 ∧ yX7_sum.cls ≠ "java/lang/invoke/MethodHandle" ∧ yX7_sum.cls ≠ "java/lang/invoke/VarHandle" ∧ (parseMethodDescriptor yX7_sum.desc).map (fun d => d.parameters.length) = some 1 := by decide +kernel
theorem iw_X7_sum_X7 : ∀ w ∈ u_ws RX7 TX7 4, w ∈ wsX7_sum := by decide +kernel
theorem lk_X7_sum_26 : Cond.fieldLink RX7 26 "ClerkChains$Rows" "size" "I" ∈ wsX7_sum := by decide +kernel
set_option maxHeartbeats 4000000 in
set_option maxRecDepth 100000 in
theorem c_X7_sum (l : Launch) (D : va_G) (cI cZ : ClassId) (h_t : Nat) (h_t_cells : Nat) (t_most : Int32) (t_width : Int32) (t_size : Int32) (t_N : Nat) (t_cells : (Nat → Int32)) (v1 : Int32) (res : Int32) (hf : f_X7_sum t_width t_size t_N t_cells v1 = some res) : MetR l yX7_sum wsX7_sum rm_X7_sum D cI cZ none [.ref h_t, .int v1] (wd_X7_sum cI cZ h_t h_t_cells t_most t_width t_size t_N t_cells) (kR res (fun u => some (.int u))) := by
  refine metR_of (cc := cX7_sum) (maxL := 4) (ret := (some .int)) (own := RX7) (lv0 := [(0, .ref h_t), (1, .int v1)]) (by decide) rfl (Nat.le_of_ble_eq_true rfl) rfl rfl (fun G X hR => ?_)
  replace hR := rt_int hR
  unfold f_X7_sum at hf
  have J4 : ∀ (n : Nat) (v1 : Int32) (v2 : Int32) (v3 : Int32), f_X7_sum_4 t_width t_size t_N t_cells n v1 v2 v3 = some res → G 0 0 (wd_X7_sum cI cZ h_t h_t_cells t_most t_width t_size t_N t_cells) [(0, .ref h_t), (1, .int v1), (2, .int v2), (3, .int v3)] 4 [] := by
    intro n
    induction n with
    | zero => intro v1 v2 v3 hf; rw [f_X7_sum_4] at hf; cases hf
    | succ n ih =>
      intro v1 v2 v3 hf
      rw [f_X7_sum_4] at hf
      refine g_iload_n X dX7_sum_4 rfl 3 rfl ?_
      refine g_aload_n X dX7_sum_5 rfl 0 rfl ?_
      refine g_get (C := RX7) (T := TX7) (N := 4) (ci := 3) (v := (.int t_size)) X iw_X7_sum_X7 0 rfl rfl 3 (by decide) lk_X7_sum_26 rfl dX7_sum_6 ?_
      refine g_icmp_ge (tgt := 27) X dX7_sum_9 (by decide) (fun hc_1 => ?_) (fun hc_1 => ?_)
      · replace hf := ite_t hc_1 hf
        refine g_iload_n X dX7_sum_27 rfl 2 rfl ?_
        exact hR _ _ _ _ dX7_sum_28 (kR_in (u := v2) hf)
      · replace hf := ite_f hc_1 hf
        refine g_iload_n X dX7_sum_12 rfl 2 rfl ?_
        refine g_aload_n X dX7_sum_13 rfl 0 rfl ?_
        refine g_iload_n X dX7_sum_14 rfl 3 rfl ?_
        refine g_iload_n X dX7_sum_15 rfl 1 rfl ?_
        obtain ⟨r_2, hk_3, hf⟩ := ob1_out hf
        refine g_cVR (st := [.int v2]) (st1 := [.int r_2, .int v2]) (C := RX7) (ci := 3) (q0 := 0) X (c_X7_get l D cI cZ h_t h_t_cells t_most t_width t_size t_N t_cells v3 v1 _ hk_3) (Or.inl rfl) 2 gX7_sum_X7_get rfl hv_X7_get ⟨Nat.le_of_ble_eq_true rfl, Nat.le_of_ble_eq_true rfl⟩ rfl rfl (Nat.le_of_ble_eq_true rfl) ⟨rfl, rfl⟩ (Nat.zero_le _) (Nat.zero_le _) rfl rfl rfl dX7_sum_16 [0, 1] rfl rfl rfl ?_
        refine g_iadd X dX7_sum_19 ?_
        obtain ⟨v2_4, ev2_4, hf⟩ := bnd_out hf
        refine g_nmI X ev2_4 ?_
        refine g_istore_n (lv' := [(0, .ref h_t), (1, .int v1), (2, .int v2_4), (3, .int v3)]) X dX7_sum_20 rfl (Nat.le_of_ble_eq_true rfl) [1, 2, 0, 3] rfl ?_
        obtain ⟨v3_5, ev3_5, hf⟩ := bnd_out hf
        refine g_iinc (v := v3_5) (lv' := [(0, .ref h_t), (1, .int v1), (2, .int v2_4), (3, .int v3_5)]) X dX7_sum_21 3 rfl (by rw [ev3_5]; rfl) (Nat.le_of_ble_eq_true rfl) [1, 2, 3, 0] rfl ?_
        refine g_goto (tgt := 4) X dX7_sum_24 (by decide) ?_
        exact ih v1 v2_4 v3_5 hf
  refine g_iconst (v := 0) X dX7_sum_0 (by decide) ?_
  refine g_istore_n (lv' := [(0, .ref h_t), (1, .int v1), (2, .int 0)]) X dX7_sum_1 rfl (Nat.le_of_ble_eq_true rfl) [1, 2, 0] rfl ?_
  refine g_iconst (v := 0) X dX7_sum_2 (by decide) ?_
  refine g_istore_n (lv' := [(0, .ref h_t), (1, .int v1), (2, .int 0), (3, .int 0)]) X dX7_sum_3 rfl (Nat.le_of_ble_eq_true rfl) [1, 2, 3, 0] rfl ?_
  exact J4 FU v1 0 0 hf
def wd_X7_digestOn (cI cZ : ClassId) (h_t : Nat) (h_t_cells : Nat) (t_most : Int32) (t_width : Int32) (t_size : Int32) (t_N : Nat) (t_cells : (Nat → Int32)) : va_W := [(h_t, .inr (3, [.int t_most, .int t_width, .ref h_t_cells, .int t_size])), (h_t_cells, .inl (cI, t_N, .inl t_cells))]
abbrev rm_X7_digestOn : Room := { frames := 1, cells := 0, slots := 0, locals := 21 }
theorem hv_X7_digestOn : yX7_digestOn.cls = RX7 ∧ yX7_digestOn.cls ≠ "java/lang/invoke/MethodHandle" ∧ yX7_digestOn.cls ≠ "java/lang/invoke/VarHandle" ∧ (parseMethodDescriptor yX7_digestOn.desc).map (fun d => d.parameters.length) = some 1 := by decide +kernel
theorem iw_X7_digestOn_X7 : ∀ w ∈ u_ws RX7 TX7 4, w ∈ wsX7_digestOn := by decide +kernel
theorem lk_X7_digestOn_26 : Cond.fieldLink RX7 26 "ClerkChains$Rows" "size" "I" ∈ wsX7_digestOn := by decide +kernel
theorem lk_X7_digestOn_19 : Cond.fieldLink RX7 19 "ClerkChains$Rows" "width" "I" ∈ wsX7_digestOn := by decide +kernel
theorem lk_X7_digestOn_57 : Cond.constantLong RX7 57 31 ∈ wsX7_digestOn := by decide +kernel
theorem lk_X7_digestOn_22 : Cond.fieldLink RX7 22 "ClerkChains$Rows" "cells" "[I" ∈ wsX7_digestOn := by decide +kernel
theorem lk_X7_digestOn_iX11 : Cond.initialized RX11 ∈ wsX7_digestOn := by decide +kernel
theorem lk_X7_digestOn_sX11_cell : Cond.static yX11_cell ∈ wsX7_digestOn := by decide +kernel
set_option maxHeartbeats 4000000 in
set_option maxRecDepth 100000 in
theorem c_X7_digestOn (l : Launch) (D : va_G) (cI cZ : ClassId) (h_t : Nat) (h_t_cells : Nat) (t_most : Int32) (t_width : Int32) (t_size : Int32) (t_N : Nat) (t_cells : (Nat → Int32)) (v1 : Int64) (res : Int64) (hf : f_X7_digestOn t_width t_size t_N t_cells v1 = some res) : MetR l yX7_digestOn wsX7_digestOn rm_X7_digestOn D cI cZ none [.ref h_t, .long v1] (wd_X7_digestOn cI cZ h_t h_t_cells t_most t_width t_size t_N t_cells) (kR res (fun u => some (.long u))) := by
  refine metR_of (cc := cX7_digestOn) (maxL := 6) (ret := (some .long)) (own := RX7) (lv0 := [(0, .ref h_t), (1, .long v1)]) (by decide) rfl (Nat.le_of_ble_eq_true rfl) rfl rfl (fun G X hR => ?_)
  replace hR := rt_long hR
  unfold f_X7_digestOn at hf
  have J5 : ∀ (n : Nat) (v3 : Int64) (v5 : Int32), f_X7_digestOn_5 t_width t_size t_N t_cells n v3 v5 = some res → G 0 0 (wd_X7_digestOn cI cZ h_t h_t_cells t_most t_width t_size t_N t_cells) [(0, .ref h_t), (3, .long v3), (5, .int v5)] 5 [] := by
    intro n
    induction n with
    | zero => intro v3 v5 hf; rw [f_X7_digestOn_5] at hf; cases hf
    | succ n ih =>
      intro v3 v5 hf
      rw [f_X7_digestOn_5] at hf
      refine g_iload X dX7_digestOn_5 2 rfl ?_
      refine g_aload_n X dX7_digestOn_7 rfl 0 rfl ?_
      refine g_get (C := RX7) (T := TX7) (N := 4) (ci := 3) (v := (.int t_size)) X iw_X7_digestOn_X7 0 rfl rfl 3 (by decide) lk_X7_digestOn_26 rfl dX7_digestOn_8 ?_
      refine g_aload_n X dX7_digestOn_11 rfl 0 rfl ?_
      refine g_get (C := RX7) (T := TX7) (N := 4) (ci := 3) (v := (.int t_width)) X iw_X7_digestOn_X7 0 rfl rfl 1 (by decide) lk_X7_digestOn_19 rfl dX7_digestOn_12 ?_
      refine g_imul X dX7_digestOn_15 ?_
      refine g_icmp_ge (tgt := 42) X dX7_digestOn_16 (by decide) (fun hc_1 => ?_) (fun hc_1 => ?_)
      · replace hf := ite_t hc_1 hf
        refine g_lload_n X dX7_digestOn_42 rfl 1 rfl ?_
        exact hR _ _ _ _ dX7_digestOn_43 (kR_in (u := v3) hf)
      · replace hf := ite_f hc_1 hf
        refine g_ldc2 (v := 31) X dX7_digestOn_19 lk_X7_digestOn_57 ?_
        refine g_lload_n X dX7_digestOn_22 rfl 1 rfl ?_
        refine g_lmul X dX7_digestOn_23 ?_
        refine g_aload_n X dX7_digestOn_24 rfl 0 rfl ?_
        refine g_get (C := RX7) (T := TX7) (N := 4) (ci := 3) (v := (.ref h_t_cells)) X iw_X7_digestOn_X7 0 rfl rfl 2 (by decide) lk_X7_digestOn_22 rfl dX7_digestOn_25 ?_
        refine g_iload X dX7_digestOn_28 2 rfl ?_
        obtain ⟨r_2, hk_3, hf⟩ := ob1_out hf
        refine g_cNR (st := [.long (31 * v3)]) (st1 := [.int r_2, .long (31 * v3)]) X (c_X11_cell l D cI cZ h_t_cells t_N t_cells v5 _ hk_3) (Or.inl rfl) 2 gX7_digestOn_X11_cell_n37 (by decide +kernel) lk_X7_digestOn_iX11 lk_X7_digestOn_sX11_cell rfl hs_X11_cell ⟨Nat.le_of_ble_eq_true rfl, Nat.le_of_ble_eq_true rfl⟩ rfl rfl (Nat.le_of_ble_eq_true rfl) ⟨rfl, rfl⟩ (Nat.zero_le _) (Nat.zero_le _) dX7_digestOn_30 [1] rfl rfl rfl ?_
        refine g_i2l X dX7_digestOn_33 ?_
        refine g_ladd X dX7_digestOn_34 ?_
        obtain ⟨v3_4, ev3_4, hf⟩ := bnd_out hf
        refine g_nmJ X ev3_4 ?_
        refine g_lstore_n (lv' := [(0, .ref h_t), (3, .long v3_4), (5, .int v5)]) X dX7_digestOn_35 rfl (Nat.le_of_ble_eq_true rfl) [1, 0, 2] rfl ?_
        obtain ⟨v5_5, ev5_5, hf⟩ := bnd_out hf
        refine g_iinc (v := v5_5) (lv' := [(0, .ref h_t), (3, .long v3_4), (5, .int v5_5)]) X dX7_digestOn_36 2 rfl (by rw [ev5_5]; rfl) (Nat.le_of_ble_eq_true rfl) [1, 2, 0] rfl ?_
        refine g_goto (tgt := 5) X dX7_digestOn_39 (by decide) ?_
        exact ih v3_4 v5_5 hf
  refine g_lload_n X dX7_digestOn_0 rfl 1 rfl ?_
  refine g_lstore_n (lv' := [(0, .ref h_t), (1, .long v1), (3, .long v1)]) X dX7_digestOn_1 rfl (Nat.le_of_ble_eq_true rfl) [1, 2, 0] rfl ?_
  refine g_iconst (v := 0) X dX7_digestOn_2 (by decide) ?_
  refine g_istore (lv' := [(0, .ref h_t), (1, .long v1), (3, .long v1), (5, .int 0)]) X dX7_digestOn_3 (Nat.le_of_ble_eq_true rfl) [1, 2, 3, 0] rfl ?_
  refine g_lv X (lv' := [(0, .ref h_t), (3, .long v1), (5, .int 0)]) [0, 2, 3] rfl ?_
  exact J5 FU v1 0 hf
