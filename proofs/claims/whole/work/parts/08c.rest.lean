def wd_X6_empty (cI cZ : ClassId) (h_t : Nat) (h_t_clerks : Nat) (h_t_magnets : Nat) (h_t_told : Nat) (h_t_notes : Nat) (h_t_marks : Nat) (h_t_past : Nat) (h_t_clerks_cells : Nat) (h_t_magnets_cells : Nat) (h_t_told_cells : Nat) (h_t_notes_cells : Nat) (h_t_marks_cells : Nat) (h_t_past_cells : Nat) (t_day : Int32) (t_clerks_size : Int32) (t_magnets_size : Int32) (t_told_size : Int32) (t_notes_size : Int32) (t_marks_size : Int32) (t_past_size : Int32) : va_W := [(h_t, .inr (2, [.ref h_t_clerks, .ref h_t_magnets, .ref h_t_told, .ref h_t_notes, .ref h_t_marks, .ref h_t_past, .int t_day])), (h_t_clerks, .inr (3, [.int 7, .int 5, .ref h_t_clerks_cells, .int t_clerks_size])), (h_t_magnets, .inr (3, [.int 3, .int 3, .ref h_t_magnets_cells, .int t_magnets_size])), (h_t_told, .inr (3, [.int 5, .int 4, .ref h_t_told_cells, .int t_told_size])), (h_t_notes, .inr (3, [.int 6, .int 4, .ref h_t_notes_cells, .int t_notes_size])), (h_t_marks, .inr (3, [.int 6, .int 5, .ref h_t_marks_cells, .int t_marks_size])), (h_t_past, .inr (3, [.int 8, .int 22, .ref h_t_past_cells, .int t_past_size]))]
abbrev rm_X6_empty : Room := { frames := 1, cells := 0, slots := 0, locals := 20 }
theorem hv_X6_empty : yX6_empty.cls = RX6 ∧ yX6_empty.cls ≠ "java/lang/invoke/MethodHandle" ∧ yX6_empty.cls ≠ "java/lang/invoke/VarHandle" ∧ (parseMethodDescriptor yX6_empty.desc).map (fun d => d.parameters.length) = some 0 := by decide +kernel
theorem iw_X6_empty_X6 : ∀ w ∈ u_ws RX6 TX6 7, w ∈ wsX6_empty := by decide +kernel
theorem lk_X6_empty_14 : Cond.fieldLink RX6 14 "ClerkChains$Office" "clerks" "LClerkChains$Rows;" ∈ wsX6_empty := by decide +kernel
theorem lk_X6_empty_20 : Cond.fieldLink RX6 20 "ClerkChains$Office" "magnets" "LClerkChains$Rows;" ∈ wsX6_empty := by decide +kernel
theorem lk_X6_empty_23 : Cond.fieldLink RX6 23 "ClerkChains$Office" "told" "LClerkChains$Rows;" ∈ wsX6_empty := by decide +kernel
theorem lk_X6_empty_26 : Cond.fieldLink RX6 26 "ClerkChains$Office" "notes" "LClerkChains$Rows;" ∈ wsX6_empty := by decide +kernel
theorem lk_X6_empty_29 : Cond.fieldLink RX6 29 "ClerkChains$Office" "marks" "LClerkChains$Rows;" ∈ wsX6_empty := by decide +kernel
theorem lk_X6_empty_32 : Cond.fieldLink RX6 32 "ClerkChains$Office" "past" "LClerkChains$Rows;" ∈ wsX6_empty := by decide +kernel
theorem lk_X6_empty_38 : Cond.fieldLink RX6 38 "ClerkChains$Office" "day" "I" ∈ wsX6_empty := by decide +kernel
set_option maxHeartbeats 4000000 in
set_option maxRecDepth 100000 in
theorem c_X6_empty (l : Launch) (D : va_G) (cI cZ : ClassId) (h_t : Nat) (h_t_clerks : Nat) (h_t_magnets : Nat) (h_t_told : Nat) (h_t_notes : Nat) (h_t_marks : Nat) (h_t_past : Nat) (h_t_clerks_cells : Nat) (h_t_magnets_cells : Nat) (h_t_told_cells : Nat) (h_t_notes_cells : Nat) (h_t_marks_cells : Nat) (h_t_past_cells : Nat) (t_day : Int32) (t_clerks_size : Int32) (t_magnets_size : Int32) (t_told_size : Int32) (t_notes_size : Int32) (t_marks_size : Int32) (t_past_size : Int32) (res : Int32 × Int32 × Int32 × Int32 × Int32 × Int32 × Int32) (hf : f_X6_empty t_day t_clerks_size t_magnets_size t_told_size t_notes_size t_marks_size t_past_size = some res) : MetG l yX6_empty wsX6_empty rm_X6_empty D cI cZ none [.ref h_t] (wd_X6_empty cI cZ h_t h_t_clerks h_t_magnets h_t_told h_t_notes h_t_marks h_t_past h_t_clerks_cells h_t_magnets_cells h_t_told_cells h_t_notes_cells h_t_marks_cells h_t_past_cells t_day t_clerks_size t_magnets_size t_told_size t_notes_size t_marks_size t_past_size) (kV res (fun _ => none) (fun u => (wd_X6_empty cI cZ h_t h_t_clerks h_t_magnets h_t_told h_t_notes h_t_marks h_t_past h_t_clerks_cells h_t_magnets_cells h_t_told_cells h_t_notes_cells h_t_marks_cells h_t_past_cells (u.1) (u.2.1) (u.2.2.1) (u.2.2.2.1) (u.2.2.2.2.1) (u.2.2.2.2.2.1) (u.2.2.2.2.2.2)))) := by
  refine metG_of (cc := cX6_empty) (maxL := 1) (ret := none) (own := RX6) (lv0 := [(0, .ref h_t)]) (ini := false) (by decide) rfl (Nat.le_of_ble_eq_true rfl) rfl rfl (fun h => by cases h) (fun G X hR => ?_)
  replace hR := rt_void hR
  unfold f_X6_empty at hf
  refine g_aload_n X dX6_empty_0 rfl 0 rfl ?_
  refine g_get (C := RX6) (T := TX6) (N := 7) (ci := 2) (v := (.ref h_t_clerks)) X iw_X6_empty_X6 0 rfl rfl 0 (by decide) lk_X6_empty_14 rfl dX6_empty_1 ?_
  obtain ⟨t_clerks_size_1, hk_2, hf⟩ := ob1_out hf
  refine g_cVW (st := []) (st1 := []) (C := RX7) (ci := 3) (q0 := 1) (ws' := (wd_X6_empty cI cZ h_t h_t_clerks h_t_magnets h_t_told h_t_notes h_t_marks h_t_past h_t_clerks_cells h_t_magnets_cells h_t_told_cells h_t_notes_cells h_t_marks_cells h_t_past_cells t_day t_clerks_size_1 t_magnets_size t_told_size t_notes_size t_marks_size t_past_size)) X (c_X7_empty l D cI cZ h_t_clerks h_t_clerks_cells 7 5 t_clerks_size _ hk_2) (Or.inl rfl) 0 gX6_empty_X7_empty rfl hv_X7_empty ⟨Nat.le_of_ble_eq_true rfl, Nat.le_of_ble_eq_true rfl⟩ rfl rfl (Nat.le_of_ble_eq_true rfl) ⟨rfl, rfl⟩ (Nat.zero_le _) (Nat.zero_le _) rfl rfl rfl dX6_empty_4 [1] rfl rfl [0, 2, 3, 4, 5, 6] rfl rfl (by decide) [0, 6, 1, 2, 3, 4, 5] rfl rfl rfl ?_
  refine g_aload_n X dX6_empty_7 rfl 0 rfl ?_
  refine g_get (C := RX6) (T := TX6) (N := 7) (ci := 2) (v := (.ref h_t_magnets)) X iw_X6_empty_X6 0 rfl rfl 1 (by decide) lk_X6_empty_20 rfl dX6_empty_8 ?_
  obtain ⟨t_magnets_size_3, hk_4, hf⟩ := ob1_out hf
  refine g_cVW (st := []) (st1 := []) (C := RX7) (ci := 3) (q0 := 2) (ws' := (wd_X6_empty cI cZ h_t h_t_clerks h_t_magnets h_t_told h_t_notes h_t_marks h_t_past h_t_clerks_cells h_t_magnets_cells h_t_told_cells h_t_notes_cells h_t_marks_cells h_t_past_cells t_day t_clerks_size_1 t_magnets_size_3 t_told_size t_notes_size t_marks_size t_past_size)) X (c_X7_empty l D cI cZ h_t_magnets h_t_magnets_cells 3 3 t_magnets_size _ hk_4) (Or.inl rfl) 0 gX6_empty_X7_empty rfl hv_X7_empty ⟨Nat.le_of_ble_eq_true rfl, Nat.le_of_ble_eq_true rfl⟩ rfl rfl (Nat.le_of_ble_eq_true rfl) ⟨rfl, rfl⟩ (Nat.zero_le _) (Nat.zero_le _) rfl rfl rfl dX6_empty_11 [2] rfl rfl [0, 1, 3, 4, 5, 6] rfl rfl (by decide) [0, 1, 6, 2, 3, 4, 5] rfl rfl rfl ?_
  refine g_aload_n X dX6_empty_14 rfl 0 rfl ?_
  refine g_get (C := RX6) (T := TX6) (N := 7) (ci := 2) (v := (.ref h_t_told)) X iw_X6_empty_X6 0 rfl rfl 2 (by decide) lk_X6_empty_23 rfl dX6_empty_15 ?_
  obtain ⟨t_told_size_5, hk_6, hf⟩ := ob1_out hf
  refine g_cVW (st := []) (st1 := []) (C := RX7) (ci := 3) (q0 := 3) (ws' := (wd_X6_empty cI cZ h_t h_t_clerks h_t_magnets h_t_told h_t_notes h_t_marks h_t_past h_t_clerks_cells h_t_magnets_cells h_t_told_cells h_t_notes_cells h_t_marks_cells h_t_past_cells t_day t_clerks_size_1 t_magnets_size_3 t_told_size_5 t_notes_size t_marks_size t_past_size)) X (c_X7_empty l D cI cZ h_t_told h_t_told_cells 5 4 t_told_size _ hk_6) (Or.inl rfl) 0 gX6_empty_X7_empty rfl hv_X7_empty ⟨Nat.le_of_ble_eq_true rfl, Nat.le_of_ble_eq_true rfl⟩ rfl rfl (Nat.le_of_ble_eq_true rfl) ⟨rfl, rfl⟩ (Nat.zero_le _) (Nat.zero_le _) rfl rfl rfl dX6_empty_18 [3] rfl rfl [0, 1, 2, 4, 5, 6] rfl rfl (by decide) [0, 1, 2, 6, 3, 4, 5] rfl rfl rfl ?_
  refine g_aload_n X dX6_empty_21 rfl 0 rfl ?_
  refine g_get (C := RX6) (T := TX6) (N := 7) (ci := 2) (v := (.ref h_t_notes)) X iw_X6_empty_X6 0 rfl rfl 3 (by decide) lk_X6_empty_26 rfl dX6_empty_22 ?_
  obtain ⟨t_notes_size_7, hk_8, hf⟩ := ob1_out hf
  refine g_cVW (st := []) (st1 := []) (C := RX7) (ci := 3) (q0 := 4) (ws' := (wd_X6_empty cI cZ h_t h_t_clerks h_t_magnets h_t_told h_t_notes h_t_marks h_t_past h_t_clerks_cells h_t_magnets_cells h_t_told_cells h_t_notes_cells h_t_marks_cells h_t_past_cells t_day t_clerks_size_1 t_magnets_size_3 t_told_size_5 t_notes_size_7 t_marks_size t_past_size)) X (c_X7_empty l D cI cZ h_t_notes h_t_notes_cells 6 4 t_notes_size _ hk_8) (Or.inl rfl) 0 gX6_empty_X7_empty rfl hv_X7_empty ⟨Nat.le_of_ble_eq_true rfl, Nat.le_of_ble_eq_true rfl⟩ rfl rfl (Nat.le_of_ble_eq_true rfl) ⟨rfl, rfl⟩ (Nat.zero_le _) (Nat.zero_le _) rfl rfl rfl dX6_empty_25 [4] rfl rfl [0, 1, 2, 3, 5, 6] rfl rfl (by decide) [0, 1, 2, 3, 6, 4, 5] rfl rfl rfl ?_
  refine g_aload_n X dX6_empty_28 rfl 0 rfl ?_
  refine g_get (C := RX6) (T := TX6) (N := 7) (ci := 2) (v := (.ref h_t_marks)) X iw_X6_empty_X6 0 rfl rfl 4 (by decide) lk_X6_empty_29 rfl dX6_empty_29 ?_
  obtain ⟨t_marks_size_9, hk_10, hf⟩ := ob1_out hf
  refine g_cVW (st := []) (st1 := []) (C := RX7) (ci := 3) (q0 := 5) (ws' := (wd_X6_empty cI cZ h_t h_t_clerks h_t_magnets h_t_told h_t_notes h_t_marks h_t_past h_t_clerks_cells h_t_magnets_cells h_t_told_cells h_t_notes_cells h_t_marks_cells h_t_past_cells t_day t_clerks_size_1 t_magnets_size_3 t_told_size_5 t_notes_size_7 t_marks_size_9 t_past_size)) X (c_X7_empty l D cI cZ h_t_marks h_t_marks_cells 6 5 t_marks_size _ hk_10) (Or.inl rfl) 0 gX6_empty_X7_empty rfl hv_X7_empty ⟨Nat.le_of_ble_eq_true rfl, Nat.le_of_ble_eq_true rfl⟩ rfl rfl (Nat.le_of_ble_eq_true rfl) ⟨rfl, rfl⟩ (Nat.zero_le _) (Nat.zero_le _) rfl rfl rfl dX6_empty_32 [5] rfl rfl [0, 1, 2, 3, 4, 6] rfl rfl (by decide) [0, 1, 2, 3, 4, 6, 5] rfl rfl rfl ?_
  refine g_aload_n X dX6_empty_35 rfl 0 rfl ?_
  refine g_get (C := RX6) (T := TX6) (N := 7) (ci := 2) (v := (.ref h_t_past)) X iw_X6_empty_X6 0 rfl rfl 5 (by decide) lk_X6_empty_32 rfl dX6_empty_36 ?_
  obtain ⟨t_past_size_11, hk_12, hf⟩ := ob1_out hf
  refine g_cVW (st := []) (st1 := []) (C := RX7) (ci := 3) (q0 := 6) (ws' := (wd_X6_empty cI cZ h_t h_t_clerks h_t_magnets h_t_told h_t_notes h_t_marks h_t_past h_t_clerks_cells h_t_magnets_cells h_t_told_cells h_t_notes_cells h_t_marks_cells h_t_past_cells t_day t_clerks_size_1 t_magnets_size_3 t_told_size_5 t_notes_size_7 t_marks_size_9 t_past_size_11)) X (c_X7_empty l D cI cZ h_t_past h_t_past_cells 8 22 t_past_size _ hk_12) (Or.inl rfl) 0 gX6_empty_X7_empty rfl hv_X7_empty ⟨Nat.le_of_ble_eq_true rfl, Nat.le_of_ble_eq_true rfl⟩ rfl rfl (Nat.le_of_ble_eq_true rfl) ⟨rfl, rfl⟩ (Nat.zero_le _) (Nat.zero_le _) rfl rfl rfl dX6_empty_39 [6] rfl rfl [0, 1, 2, 3, 4, 5] rfl rfl (by decide) [0, 1, 2, 3, 4, 5, 6] rfl rfl rfl ?_
  refine g_aload_n X dX6_empty_42 rfl 0 rfl ?_
  refine g_iconst (v := 0) X dX6_empty_43 (by decide) ?_
  refine g_put (C := RX6) (T := TX6) (N := 7) (ci := 2) (v := .int 0) (ws' := (wd_X6_empty cI cZ h_t h_t_clerks h_t_magnets h_t_told h_t_notes h_t_marks h_t_past h_t_clerks_cells h_t_magnets_cells h_t_told_cells h_t_notes_cells h_t_marks_cells h_t_past_cells 0 t_clerks_size_1 t_magnets_size_3 t_told_size_5 t_notes_size_7 t_marks_size_9 t_past_size_11)) X iw_X6_empty_X6 tyX6 tyX6_ok nmX6 0 rfl rfl 6 (by decide) lk_X6_empty_38 rfl (tyX6_ok 6 (by decide)) rfl rfl (Nat.le_of_ble_eq_true rfl) dX6_empty_44 rfl ?_
  exact hR _ _ _ dX6_empty_47 (kV_in (u := (0, t_clerks_size_1, t_magnets_size_3, t_told_size_5, t_notes_size_7, t_marks_size_9, t_past_size_11)) hf)
def wd_X6_addClerk (cI cZ : ClassId) (h_t : Nat) (h_t_clerks : Nat) (h_t_magnets : Nat) (h_t_told : Nat) (h_t_notes : Nat) (h_t_marks : Nat) (h_t_past : Nat) (h_t_clerks_cells : Nat) (h_t_past_cells : Nat) (t_day : Int32) (t_clerks_size : Int32) (t_clerks_cells : (Nat → Int32)) (t_past_size : Int32) : va_W := [(h_t, .inr (2, [.ref h_t_clerks, .ref h_t_magnets, .ref h_t_told, .ref h_t_notes, .ref h_t_marks, .ref h_t_past, .int t_day])), (h_t_clerks, .inr (3, [.int 7, .int 5, .ref h_t_clerks_cells, .int t_clerks_size])), (h_t_clerks_cells, .inl (cI, 35, .inl t_clerks_cells)), (h_t_past, .inr (3, [.int 8, .int 22, .ref h_t_past_cells, .int t_past_size]))]
abbrev rm_X6_addClerk : Room := { frames := 2, cells := 0, slots := 0, locals := 51 }
theorem hv_X6_addClerk : yX6_addClerk.cls = RX6 ∧ yX6_addClerk.cls ≠ "java/lang/invoke/MethodHandle" ∧ yX6_addClerk.cls ≠ "java/lang/invoke/VarHandle" ∧ (parseMethodDescriptor yX6_addClerk.desc).map (fun d => d.parameters.length) = some 3 := by decide +kernel
theorem iw_X6_addClerk_X6 : ∀ w ∈ u_ws RX6 TX6 7, w ∈ wsX6_addClerk := by decide +kernel
theorem lk_X6_addClerk_32 : Cond.fieldLink RX6 32 "ClerkChains$Office" "past" "LClerkChains$Rows;" ∈ wsX6_addClerk := by decide +kernel
theorem lk_X6_addClerk_14 : Cond.fieldLink RX6 14 "ClerkChains$Office" "clerks" "LClerkChains$Rows;" ∈ wsX6_addClerk := by decide +kernel
set_option maxHeartbeats 4000000 in
set_option maxRecDepth 100000 in
theorem c_X6_addClerk (l : Launch) (D : va_G) (cI cZ : ClassId) (h_t : Nat) (h_t_clerks : Nat) (h_t_magnets : Nat) (h_t_told : Nat) (h_t_notes : Nat) (h_t_marks : Nat) (h_t_past : Nat) (h_t_clerks_cells : Nat) (h_t_past_cells : Nat) (t_day : Int32) (t_clerks_size : Int32) (t_clerks_cells : (Nat → Int32)) (t_past_size : Int32) (v1 : Int32) (v2 : Int32) (v3 : Int32) (res : Int32 × Int32 × (Nat → Int32) × Int32) (hf : f_X6_addClerk t_clerks_size t_clerks_cells t_past_size v1 v2 v3 = some res) : MetG l yX6_addClerk wsX6_addClerk rm_X6_addClerk D cI cZ none [.ref h_t, .int v1, .int v2, .int v3] (wd_X6_addClerk cI cZ h_t h_t_clerks h_t_magnets h_t_told h_t_notes h_t_marks h_t_past h_t_clerks_cells h_t_past_cells t_day t_clerks_size t_clerks_cells t_past_size) (kV res (fun u => some (.int u.1)) (fun u => (wd_X6_addClerk cI cZ h_t h_t_clerks h_t_magnets h_t_told h_t_notes h_t_marks h_t_past h_t_clerks_cells h_t_past_cells t_day (u.2.1) (u.2.2.1) (u.2.2.2)))) := by
  refine metG_of (cc := cX6_addClerk) (maxL := 4) (ret := (some .int)) (own := RX6) (lv0 := [(0, .ref h_t), (1, .int v1), (2, .int v2), (3, .int v3)]) (ini := false) (by decide) rfl (Nat.le_of_ble_eq_true rfl) rfl rfl (fun h => by cases h) (fun G X hR => ?_)
  replace hR := rt_int hR
  unfold f_X6_addClerk at hf
  refine g_aload_n X dX6_addClerk_0 rfl 0 rfl ?_
  refine g_get (C := RX6) (T := TX6) (N := 7) (ci := 2) (v := (.ref h_t_past)) X iw_X6_addClerk_X6 0 rfl rfl 5 (by decide) lk_X6_addClerk_32 rfl dX6_addClerk_1 ?_
  obtain ⟨t_past_size_1, hk_2, hf⟩ := ob1_out hf
  refine g_cVW (st := []) (st1 := []) (C := RX7) (ci := 3) (q0 := 3) (ws' := (wd_X6_addClerk cI cZ h_t h_t_clerks h_t_magnets h_t_told h_t_notes h_t_marks h_t_past h_t_clerks_cells h_t_past_cells t_day t_clerks_size t_clerks_cells t_past_size_1)) X (c_X7_empty l D cI cZ h_t_past h_t_past_cells 8 22 t_past_size _ hk_2) (Or.inl rfl) 0 gX6_addClerk_X7_empty rfl hv_X7_empty ⟨Nat.le_of_ble_eq_true rfl, Nat.le_of_ble_eq_true rfl⟩ rfl rfl (Nat.le_of_ble_eq_true rfl) ⟨rfl, rfl⟩ (Nat.zero_le _) (Nat.zero_le _) rfl rfl rfl dX6_addClerk_4 [3] rfl rfl [0, 1, 2] rfl rfl (by decide) [0, 1, 2, 3] rfl rfl rfl ?_
  refine g_aload_n X dX6_addClerk_7 rfl 0 rfl ?_
  refine g_get (C := RX6) (T := TX6) (N := 7) (ci := 2) (v := (.ref h_t_clerks)) X iw_X6_addClerk_X6 0 rfl rfl 0 (by decide) lk_X6_addClerk_14 rfl dX6_addClerk_8 ?_
  refine g_iload_n X dX6_addClerk_11 rfl 1 rfl ?_
  refine g_iload_n X dX6_addClerk_12 rfl 2 rfl ?_
  refine g_iload_n X dX6_addClerk_13 rfl 3 rfl ?_
  refine g_iconst (v := 0) X dX6_addClerk_14 (by decide) ?_
  refine g_iconst (v := (-1)) X dX6_addClerk_15 (by decide) ?_
  obtain ⟨r_3, t_clerks_size_4, t_clerks_cells_5, hk_6, hf⟩ := ob3_out hf
  refine g_cVW (st := []) (st1 := [.int r_3]) (C := RX7) (ci := 3) (q0 := 1) (ws' := (wd_X6_addClerk cI cZ h_t h_t_clerks h_t_magnets h_t_told h_t_notes h_t_marks h_t_past h_t_clerks_cells h_t_past_cells t_day t_clerks_size_4 t_clerks_cells_5 t_past_size_1)) X (c_X7_add l D cI cZ h_t_clerks h_t_clerks_cells 7 5 t_clerks_size 35 t_clerks_cells v1 v2 v3 0 (-1) _ hk_6) (Or.inl rfl) 5 gX6_addClerk_X7_add rfl hv_X7_add ⟨Nat.le_of_ble_eq_true rfl, Nat.le_of_ble_eq_true rfl⟩ rfl rfl (Nat.le_of_ble_eq_true rfl) ⟨rfl, rfl⟩ (Nat.zero_le _) (Nat.zero_le _) rfl rfl rfl dX6_addClerk_16 [1, 2] rfl rfl [0, 3] rfl rfl (by decide) [0, 2, 3, 1] rfl rfl rfl ?_
  exact hR _ _ _ _ dX6_addClerk_19 (kV_in (u := (r_3, t_clerks_size_4, t_clerks_cells_5, t_past_size_1)) hf)
def wd_X6_addMagnet (cI cZ : ClassId) (h_t : Nat) (h_t_clerks : Nat) (h_t_magnets : Nat) (h_t_told : Nat) (h_t_notes : Nat) (h_t_marks : Nat) (h_t_past : Nat) (h_t_magnets_cells : Nat) (h_t_past_cells : Nat) (t_day : Int32) (t_magnets_size : Int32) (t_magnets_cells : (Nat → Int32)) (t_past_size : Int32) : va_W := [(h_t, .inr (2, [.ref h_t_clerks, .ref h_t_magnets, .ref h_t_told, .ref h_t_notes, .ref h_t_marks, .ref h_t_past, .int t_day])), (h_t_magnets, .inr (3, [.int 3, .int 3, .ref h_t_magnets_cells, .int t_magnets_size])), (h_t_magnets_cells, .inl (cI, 9, .inl t_magnets_cells)), (h_t_past, .inr (3, [.int 8, .int 22, .ref h_t_past_cells, .int t_past_size]))]
abbrev rm_X6_addMagnet : Room := { frames := 2, cells := 0, slots := 0, locals := 51 }
theorem hv_X6_addMagnet : yX6_addMagnet.cls = RX6 ∧ yX6_addMagnet.cls ≠ "java/lang/invoke/MethodHandle" ∧ yX6_addMagnet.cls ≠ "java/lang/invoke/VarHandle" ∧ (parseMethodDescriptor yX6_addMagnet.desc).map (fun d => d.parameters.length) = some 3 := by decide +kernel
theorem iw_X6_addMagnet_X6 : ∀ w ∈ u_ws RX6 TX6 7, w ∈ wsX6_addMagnet := by decide +kernel
theorem lk_X6_addMagnet_32 : Cond.fieldLink RX6 32 "ClerkChains$Office" "past" "LClerkChains$Rows;" ∈ wsX6_addMagnet := by decide +kernel
theorem lk_X6_addMagnet_20 : Cond.fieldLink RX6 20 "ClerkChains$Office" "magnets" "LClerkChains$Rows;" ∈ wsX6_addMagnet := by decide +kernel
set_option maxHeartbeats 4000000 in
set_option maxRecDepth 100000 in
theorem c_X6_addMagnet (l : Launch) (D : va_G) (cI cZ : ClassId) (h_t : Nat) (h_t_clerks : Nat) (h_t_magnets : Nat) (h_t_told : Nat) (h_t_notes : Nat) (h_t_marks : Nat) (h_t_past : Nat) (h_t_magnets_cells : Nat) (h_t_past_cells : Nat) (t_day : Int32) (t_magnets_size : Int32) (t_magnets_cells : (Nat → Int32)) (t_past_size : Int32) (v1 : Int32) (v2 : Int32) (v3 : Int32) (res : Int32 × Int32 × (Nat → Int32) × Int32) (hf : f_X6_addMagnet t_magnets_size t_magnets_cells t_past_size v1 v2 v3 = some res) : MetG l yX6_addMagnet wsX6_addMagnet rm_X6_addMagnet D cI cZ none [.ref h_t, .int v1, .int v2, .int v3] (wd_X6_addMagnet cI cZ h_t h_t_clerks h_t_magnets h_t_told h_t_notes h_t_marks h_t_past h_t_magnets_cells h_t_past_cells t_day t_magnets_size t_magnets_cells t_past_size) (kV res (fun u => some (.int u.1)) (fun u => (wd_X6_addMagnet cI cZ h_t h_t_clerks h_t_magnets h_t_told h_t_notes h_t_marks h_t_past h_t_magnets_cells h_t_past_cells t_day (u.2.1) (u.2.2.1) (u.2.2.2)))) := by
  refine metG_of (cc := cX6_addMagnet) (maxL := 4) (ret := (some .int)) (own := RX6) (lv0 := [(0, .ref h_t), (1, .int v1), (2, .int v2), (3, .int v3)]) (ini := false) (by decide) rfl (Nat.le_of_ble_eq_true rfl) rfl rfl (fun h => by cases h) (fun G X hR => ?_)
  replace hR := rt_int hR
  unfold f_X6_addMagnet at hf
  refine g_aload_n X dX6_addMagnet_0 rfl 0 rfl ?_
  refine g_get (C := RX6) (T := TX6) (N := 7) (ci := 2) (v := (.ref h_t_past)) X iw_X6_addMagnet_X6 0 rfl rfl 5 (by decide) lk_X6_addMagnet_32 rfl dX6_addMagnet_1 ?_
  obtain ⟨t_past_size_1, hk_2, hf⟩ := ob1_out hf
  refine g_cVW (st := []) (st1 := []) (C := RX7) (ci := 3) (q0 := 3) (ws' := (wd_X6_addMagnet cI cZ h_t h_t_clerks h_t_magnets h_t_told h_t_notes h_t_marks h_t_past h_t_magnets_cells h_t_past_cells t_day t_magnets_size t_magnets_cells t_past_size_1)) X (c_X7_empty l D cI cZ h_t_past h_t_past_cells 8 22 t_past_size _ hk_2) (Or.inl rfl) 0 gX6_addMagnet_X7_empty rfl hv_X7_empty ⟨Nat.le_of_ble_eq_true rfl, Nat.le_of_ble_eq_true rfl⟩ rfl rfl (Nat.le_of_ble_eq_true rfl) ⟨rfl, rfl⟩ (Nat.zero_le _) (Nat.zero_le _) rfl rfl rfl dX6_addMagnet_4 [3] rfl rfl [0, 1, 2] rfl rfl (by decide) [0, 1, 2, 3] rfl rfl rfl ?_
  refine g_aload_n X dX6_addMagnet_7 rfl 0 rfl ?_
  refine g_get (C := RX6) (T := TX6) (N := 7) (ci := 2) (v := (.ref h_t_magnets)) X iw_X6_addMagnet_X6 0 rfl rfl 1 (by decide) lk_X6_addMagnet_20 rfl dX6_addMagnet_8 ?_
  refine g_iload_n X dX6_addMagnet_11 rfl 1 rfl ?_
  refine g_iload_n X dX6_addMagnet_12 rfl 2 rfl ?_
  refine g_iload_n X dX6_addMagnet_13 rfl 3 rfl ?_
  refine g_iconst (v := 0) X dX6_addMagnet_14 (by decide) ?_
  refine g_iconst (v := 0) X dX6_addMagnet_15 (by decide) ?_
  obtain ⟨r_3, t_magnets_size_4, t_magnets_cells_5, hk_6, hf⟩ := ob3_out hf
  refine g_cVW (st := []) (st1 := [.int r_3]) (C := RX7) (ci := 3) (q0 := 1) (ws' := (wd_X6_addMagnet cI cZ h_t h_t_clerks h_t_magnets h_t_told h_t_notes h_t_marks h_t_past h_t_magnets_cells h_t_past_cells t_day t_magnets_size_4 t_magnets_cells_5 t_past_size_1)) X (c_X7_add l D cI cZ h_t_magnets h_t_magnets_cells 3 3 t_magnets_size 9 t_magnets_cells v1 v2 v3 0 0 _ hk_6) (Or.inl rfl) 5 gX6_addMagnet_X7_add rfl hv_X7_add ⟨Nat.le_of_ble_eq_true rfl, Nat.le_of_ble_eq_true rfl⟩ rfl rfl (Nat.le_of_ble_eq_true rfl) ⟨rfl, rfl⟩ (Nat.zero_le _) (Nat.zero_le _) rfl rfl rfl dX6_addMagnet_16 [1, 2] rfl rfl [0, 3] rfl rfl (by decide) [0, 2, 3, 1] rfl rfl rfl ?_
  exact hR _ _ _ _ dX6_addMagnet_19 (kV_in (u := (r_3, t_magnets_size_4, t_magnets_cells_5, t_past_size_1)) hf)
def wd_X9_isFull (cI cZ : ClassId) (h_t : Nat) (h_t_bytes : Nat) (t_length : Int32) (t_start : Int32) (t_token : Int32) (t_value : Int32) (t_kind : Int32) (t_desk : Int32) (t_place : Int32) : va_W := [(h_t, .inr (5, [.ref h_t_bytes, .int t_length, .int t_start, .int t_token, .int t_value, .int t_kind, .int t_desk, .int t_place]))]
abbrev rm_X9_isFull : Room := { frames := 0, cells := 0, slots := 0, locals := 0 }
theorem hv_X9_isFull : yX9_isFull.cls = RX9 ∧ yX9_isFull.cls ≠ "java/lang/invoke/MethodHandle" ∧ yX9_isFull.cls ≠ "java/lang/invoke/VarHandle" ∧ (parseMethodDescriptor yX9_isFull.desc).map (fun d => d.parameters.length) = some 0 := by decide +kernel
theorem iw_X9_isFull_X9 : ∀ w ∈ u_ws RX9 TX9 8, w ∈ wsX9_isFull := by decide +kernel
theorem lk_X9_isFull_15 : Cond.fieldLink RX9 15 "ClerkChains$Text" "length" "I" ∈ wsX9_isFull := by decide +kernel
set_option maxHeartbeats 4000000 in
set_option maxRecDepth 100000 in
theorem c_X9_isFull (l : Launch) (D : va_G) (cI cZ : ClassId) (h_t : Nat) (h_t_bytes : Nat) (t_length : Int32) (t_start : Int32) (t_token : Int32) (t_value : Int32) (t_kind : Int32) (t_desk : Int32) (t_place : Int32) (res : Int32) (hf : f_X9_isFull t_length = some res) : MetR l yX9_isFull wsX9_isFull rm_X9_isFull D cI cZ none [.ref h_t] (wd_X9_isFull cI cZ h_t h_t_bytes t_length t_start t_token t_value t_kind t_desk t_place) (kR res (fun u => some (.int u))) := by
  refine metR_of (cc := cX9_isFull) (maxL := 1) (ret := (some .boolean)) (own := RX9) (lv0 := [(0, .ref h_t)]) (by decide) rfl (Nat.le_of_ble_eq_true rfl) rfl rfl (fun G X hR => ?_)
  replace hR := rt_bool hR
  unfold f_X9_isFull at hf
  refine g_aload_n X dX9_isFull_0 rfl 0 rfl ?_
  refine g_get (C := RX9) (T := TX9) (N := 8) (ci := 5) (v := (.int t_length)) X iw_X9_isFull_X9 0 rfl rfl 1 (by decide) lk_X9_isFull_15 rfl dX9_isFull_1 ?_
  refine g_sipush (v := 150) X dX9_isFull_4 (by decide) ?_
  refine g_icmp_lt (tgt := 14) X dX9_isFull_7 (by decide) (fun hc_1 => ?_) (fun hc_1 => ?_)
  · replace hf := ite_t hc_1 hf
    refine g_iconst (v := 0) X dX9_isFull_14 (by decide) ?_
    exact hR _ _ _ _ (Or.inl rfl) dX9_isFull_15 (kR_in (u := 0) hf)
  · replace hf := ite_f hc_1 hf
    refine g_iconst (v := 1) X dX9_isFull_10 (by decide) ?_
    refine g_goto (tgt := 15) X dX9_isFull_11 (by decide) ?_
    exact hR _ _ _ _ (Or.inr rfl) dX9_isFull_15 (kR_in (u := 1) hf)
def wd_X9_append (cI cZ : ClassId) (h_t : Nat) (h_t_bytes : Nat) (t_length : Int32) (t_start : Int32) (t_token : Int32) (t_value : Int32) (t_kind : Int32) (t_desk : Int32) (t_place : Int32) (t_bytes : (Nat → Int32)) : va_W := [(h_t, .inr (5, [.ref h_t_bytes, .int t_length, .int t_start, .int t_token, .int t_value, .int t_kind, .int t_desk, .int t_place])), (h_t_bytes, .inl (cI, 150, .inl t_bytes))]
abbrev rm_X9_append : Room := { frames := 1, cells := 0, slots := 0, locals := 22 }
theorem hv_X9_append : yX9_append.cls = RX9 ∧ yX9_append.cls ≠ "java/lang/invoke/MethodHandle" ∧ yX9_append.cls ≠ "java/lang/invoke/VarHandle" ∧ (parseMethodDescriptor yX9_append.desc).map (fun d => d.parameters.length) = some 1 := by decide +kernel
theorem iw_X9_append_X9 : ∀ w ∈ u_ws RX9 TX9 8, w ∈ wsX9_append := by decide +kernel
theorem lk_X9_append_9 : Cond.fieldLink RX9 9 "ClerkChains$Text" "bytes" "[I" ∈ wsX9_append := by decide +kernel
theorem lk_X9_append_15 : Cond.fieldLink RX9 15 "ClerkChains$Text" "length" "I" ∈ wsX9_append := by decide +kernel
theorem lk_X9_append_iX11 : Cond.initialized RX11 ∈ wsX9_append := by decide +kernel
theorem lk_X9_append_sX11_setCell : Cond.static yX11_setCell ∈ wsX9_append := by decide +kernel
set_option maxHeartbeats 4000000 in
set_option maxRecDepth 100000 in
theorem c_X9_append (l : Launch) (D : va_G) (cI cZ : ClassId) (h_t : Nat) (h_t_bytes : Nat) (t_length : Int32) (t_start : Int32) (t_token : Int32) (t_value : Int32) (t_kind : Int32) (t_desk : Int32) (t_place : Int32) (t_bytes : (Nat → Int32)) (v1 : Int32) (res : Int32 × Int32 × (Nat → Int32)) (hf : f_X9_append t_length t_bytes v1 = some res) : MetG l yX9_append wsX9_append rm_X9_append D cI cZ none [.ref h_t, .int v1] (wd_X9_append cI cZ h_t h_t_bytes t_length t_start t_token t_value t_kind t_desk t_place t_bytes) (kV res (fun u => some (.int u.1)) (fun u => (wd_X9_append cI cZ h_t h_t_bytes (u.2.1) t_start t_token t_value t_kind t_desk t_place (u.2.2)))) := by
  refine metG_of (cc := cX9_append) (maxL := 2) (ret := (some .int)) (own := RX9) (lv0 := [(0, .ref h_t), (1, .int v1)]) (ini := false) (by decide) rfl (Nat.le_of_ble_eq_true rfl) rfl rfl (fun h => by cases h) (fun G X hR => ?_)
  replace hR := rt_int hR
  unfold f_X9_append at hf
  refine g_aload_n X dX9_append_0 rfl 0 rfl ?_
  refine g_get (C := RX9) (T := TX9) (N := 8) (ci := 5) (v := (.ref h_t_bytes)) X iw_X9_append_X9 0 rfl rfl 0 (by decide) lk_X9_append_9 rfl dX9_append_1 ?_
  refine g_aload_n X dX9_append_4 rfl 0 rfl ?_
  refine g_get (C := RX9) (T := TX9) (N := 8) (ci := 5) (v := (.int t_length)) X iw_X9_append_X9 0 rfl rfl 1 (by decide) lk_X9_append_15 rfl dX9_append_5 ?_
  refine g_iload_n X dX9_append_8 rfl 1 rfl ?_
  obtain ⟨t_bytes_1, hk_2, hf⟩ := ob1_out hf
  refine g_cNW (st := []) (st1 := []) (ws' := (wd_X9_append cI cZ h_t h_t_bytes t_length t_start t_token t_value t_kind t_desk t_place t_bytes_1)) X (c_X11_setCell l D cI cZ h_t_bytes 150 t_bytes t_length v1 _ hk_2) (Or.inl rfl) 3 gX9_append_X11_setCell_n19 (by decide +kernel) lk_X9_append_iX11 lk_X9_append_sX11_setCell rfl hs_X11_setCell ⟨Nat.le_of_ble_eq_true rfl, Nat.le_of_ble_eq_true rfl⟩ rfl rfl (Nat.le_of_ble_eq_true rfl) ⟨rfl, rfl⟩ (Nat.zero_le _) (Nat.zero_le _) dX9_append_9 [1] rfl rfl [0] rfl rfl (by decide) [0, 1] rfl rfl rfl ?_
  refine g_aload_n X dX9_append_12 rfl 0 rfl ?_
  refine g_dup X dX9_append_13 rfl ?_
  refine g_get (C := RX9) (T := TX9) (N := 8) (ci := 5) (v := (.int t_length)) X iw_X9_append_X9 0 rfl rfl 1 (by decide) lk_X9_append_15 rfl dX9_append_14 ?_
  refine g_iconst (v := 1) X dX9_append_17 (by decide) ?_
  refine g_iadd X dX9_append_18 ?_
  obtain ⟨t_length_3, et_length_3, hf⟩ := bnd_out hf
  refine g_nmI X et_length_3 ?_
  refine g_put (C := RX9) (T := TX9) (N := 8) (ci := 5) (v := .int t_length_3) (ws' := (wd_X9_append cI cZ h_t h_t_bytes t_length_3 t_start t_token t_value t_kind t_desk t_place t_bytes_1)) X iw_X9_append_X9 tyX9 tyX9_ok nmX9 0 rfl rfl 1 (by decide) lk_X9_append_15 rfl (tyX9_ok 1 (by decide)) rfl rfl (Nat.le_of_ble_eq_true rfl) dX9_append_19 rfl ?_
  refine g_aload_n X dX9_append_22 rfl 0 rfl ?_
  refine g_get (C := RX9) (T := TX9) (N := 8) (ci := 5) (v := (.int t_length_3)) X iw_X9_append_X9 0 rfl rfl 1 (by decide) lk_X9_append_15 rfl dX9_append_23 ?_
  exact hR _ _ _ _ dX9_append_26 (kV_in (u := (t_length_3, t_length_3, t_bytes_1)) hf)
def wd_X9_length (cI cZ : ClassId) (h_t : Nat) (h_t_bytes : Nat) (t_length : Int32) (t_start : Int32) (t_token : Int32) (t_value : Int32) (t_kind : Int32) (t_desk : Int32) (t_place : Int32) : va_W := [(h_t, .inr (5, [.ref h_t_bytes, .int t_length, .int t_start, .int t_token, .int t_value, .int t_kind, .int t_desk, .int t_place]))]
abbrev rm_X9_length : Room := { frames := 0, cells := 0, slots := 0, locals := 0 }
theorem hv_X9_length : yX9_length.cls = RX9 ∧ yX9_length.cls ≠ "java/lang/invoke/MethodHandle" ∧ yX9_length.cls ≠ "java/lang/invoke/VarHandle" ∧ (parseMethodDescriptor yX9_length.desc).map (fun d => d.parameters.length) = some 0 := by decide +kernel
theorem iw_X9_length_X9 : ∀ w ∈ u_ws RX9 TX9 8, w ∈ wsX9_length := by decide +kernel
theorem lk_X9_length_15 : Cond.fieldLink RX9 15 "ClerkChains$Text" "length" "I" ∈ wsX9_length := by decide +kernel
set_option maxHeartbeats 4000000 in
set_option maxRecDepth 100000 in
theorem c_X9_length (l : Launch) (D : va_G) (cI cZ : ClassId) (h_t : Nat) (h_t_bytes : Nat) (t_length : Int32) (t_start : Int32) (t_token : Int32) (t_value : Int32) (t_kind : Int32) (t_desk : Int32) (t_place : Int32) (res : Int32) (hf : f_X9_length t_length = some res) : MetR l yX9_length wsX9_length rm_X9_length D cI cZ none [.ref h_t] (wd_X9_length cI cZ h_t h_t_bytes t_length t_start t_token t_value t_kind t_desk t_place) (kR res (fun u => some (.int u))) := by
  refine metR_of (cc := cX9_length) (maxL := 1) (ret := (some .int)) (own := RX9) (lv0 := [(0, .ref h_t)]) (by decide) rfl (Nat.le_of_ble_eq_true rfl) rfl rfl (fun G X hR => ?_)
  replace hR := rt_int hR
  unfold f_X9_length at hf
  refine g_aload_n X dX9_length_0 rfl 0 rfl ?_
  refine g_get (C := RX9) (T := TX9) (N := 8) (ci := 5) (v := (.int t_length)) X iw_X9_length_X9 0 rfl rfl 1 (by decide) lk_X9_length_15 rfl dX9_length_1 ?_
  exact hR _ _ _ _ dX9_length_4 (kR_in (u := t_length) hf)
def wd_X9_empty (cI cZ : ClassId) (h_t : Nat) (h_t_bytes : Nat) (t_length : Int32) (t_start : Int32) (t_token : Int32) (t_value : Int32) (t_kind : Int32) (t_desk : Int32) (t_place : Int32) : va_W := [(h_t, .inr (5, [.ref h_t_bytes, .int t_length, .int t_start, .int t_token, .int t_value, .int t_kind, .int t_desk, .int t_place]))]
abbrev rm_X9_empty : Room := { frames := 0, cells := 0, slots := 0, locals := 0 }
theorem hv_X9_empty : yX9_empty.cls = RX9 ∧ yX9_empty.cls ≠ "java/lang/invoke/MethodHandle" ∧ yX9_empty.cls ≠ "java/lang/invoke/VarHandle" ∧ (parseMethodDescriptor yX9_empty.desc).map (fun d => d.parameters.length) = some 0 := by decide +kernel
theorem iw_X9_empty_X9 : ∀ w ∈ u_ws RX9 TX9 8, w ∈ wsX9_empty := by decide +kernel
theorem lk_X9_empty_15 : Cond.fieldLink RX9 15 "ClerkChains$Text" "length" "I" ∈ wsX9_empty := by decide +kernel
set_option maxHeartbeats 4000000 in
set_option maxRecDepth 100000 in
theorem c_X9_empty (l : Launch) (D : va_G) (cI cZ : ClassId) (h_t : Nat) (h_t_bytes : Nat) (t_length : Int32) (t_start : Int32) (t_token : Int32) (t_value : Int32) (t_kind : Int32) (t_desk : Int32) (t_place : Int32) (res : Int32) (hf : f_X9_empty t_length = some res) : MetG l yX9_empty wsX9_empty rm_X9_empty D cI cZ none [.ref h_t] (wd_X9_empty cI cZ h_t h_t_bytes t_length t_start t_token t_value t_kind t_desk t_place) (kV res (fun _ => none) (fun u => (wd_X9_empty cI cZ h_t h_t_bytes u t_start t_token t_value t_kind t_desk t_place))) := by
  refine metG_of (cc := cX9_empty) (maxL := 1) (ret := none) (own := RX9) (lv0 := [(0, .ref h_t)]) (ini := false) (by decide) rfl (Nat.le_of_ble_eq_true rfl) rfl rfl (fun h => by cases h) (fun G X hR => ?_)
  replace hR := rt_void hR
  unfold f_X9_empty at hf
  refine g_aload_n X dX9_empty_0 rfl 0 rfl ?_
  refine g_iconst (v := 0) X dX9_empty_1 (by decide) ?_
  refine g_put (C := RX9) (T := TX9) (N := 8) (ci := 5) (v := .int 0) (ws' := (wd_X9_empty cI cZ h_t h_t_bytes 0 t_start t_token t_value t_kind t_desk t_place)) X iw_X9_empty_X9 tyX9 tyX9_ok nmX9 0 rfl rfl 1 (by decide) lk_X9_empty_15 rfl (tyX9_ok 1 (by decide)) rfl rfl (Nat.le_of_ble_eq_true rfl) dX9_empty_2 rfl ?_
  exact hR _ _ _ dX9_empty_5 (kV_in (u := 0) hf)
def wd_X9_behind (cI cZ : ClassId) (h_t : Nat) (h_t_bytes : Nat) (t_length : Int32) (t_start : Int32) (t_token : Int32) (t_value : Int32) (t_kind : Int32) (t_desk : Int32) (t_place : Int32) (t_bytes : (Nat → Int32)) : va_W := [(h_t, .inr (5, [.ref h_t_bytes, .int t_length, .int t_start, .int t_token, .int t_value, .int t_kind, .int t_desk, .int t_place])), (h_t_bytes, .inl (cI, 150, .inl t_bytes))]
abbrev rm_X9_behind : Room := { frames := 1, cells := 0, slots := 0, locals := 22 }
theorem hv_X9_behind : yX9_behind.cls = RX9 ∧ yX9_behind.cls ≠ "java/lang/invoke/MethodHandle" ∧ yX9_behind.cls ≠ "java/lang/invoke/VarHandle" ∧ (parseMethodDescriptor yX9_behind.desc).map (fun d => d.parameters.length) = some 2 := by decide +kernel
theorem iw_X9_behind_X9 : ∀ w ∈ u_ws RX9 TX9 8, w ∈ wsX9_behind := by decide +kernel
theorem lk_X9_behind_15 : Cond.fieldLink RX9 15 "ClerkChains$Text" "length" "I" ∈ wsX9_behind := by decide +kernel
theorem lk_X9_behind_9 : Cond.fieldLink RX9 9 "ClerkChains$Text" "bytes" "[I" ∈ wsX9_behind := by decide +kernel
theorem lk_X9_behind_iX11 : Cond.initialized RX11 ∈ wsX9_behind := by decide +kernel
theorem lk_X9_behind_sX11_cell : Cond.static yX11_cell ∈ wsX9_behind := by decide +kernel
theorem lk_X9_behind_sX11_within : Cond.static yX11_within ∈ wsX9_behind := by decide +kernel
theorem lk_X9_behind_28 : Cond.fieldLink RX9 28 "ClerkChains$Text" "place" "I" ∈ wsX9_behind := by decide +kernel
set_option maxHeartbeats 4000000 in
set_option maxRecDepth 100000 in
theorem c_X9_behind (l : Launch) (D : va_G) (cI cZ : ClassId) (h_t : Nat) (h_t_bytes : Nat) (t_length : Int32) (t_start : Int32) (t_token : Int32) (t_value : Int32) (t_kind : Int32) (t_desk : Int32) (t_place : Int32) (t_bytes : (Nat → Int32)) (v1 : Int32) (v2 : Int32) (res : Int32) (hf : f_X9_behind t_length t_place t_bytes v1 v2 = some res) : MetR l yX9_behind wsX9_behind rm_X9_behind D cI cZ none [.ref h_t, .int v1, .int v2] (wd_X9_behind cI cZ h_t h_t_bytes t_length t_start t_token t_value t_kind t_desk t_place t_bytes) (kR res (fun u => some (.int u))) := by
  refine metR_of (cc := cX9_behind) (maxL := 4) (ret := (some .int)) (own := RX9) (lv0 := [(0, .ref h_t), (1, .int v1), (2, .int v2)]) (by decide) rfl (Nat.le_of_ble_eq_true rfl) rfl rfl (fun G X hR => ?_)
  replace hR := rt_int hR
  unfold f_X9_behind at hf
  have J5 : ∀ (n : Nat) (v1 : Int32) (v2 : Int32) (v3 : Int32), f_X9_behind_5 t_length t_place t_bytes n v1 v2 v3 = some res → G 0 0 (wd_X9_behind cI cZ h_t h_t_bytes t_length t_start t_token t_value t_kind t_desk t_place t_bytes) [(0, .ref h_t), (1, .int v1), (2, .int v2), (3, .int v3)] 5 [] := by
    intro n
    induction n with
    | zero => intro v1 v2 v3 hf; rw [f_X9_behind_5] at hf; cases hf
    | succ n ih =>
      intro v1 v2 v3 hf
      rw [f_X9_behind_5] at hf
      refine g_iload_n X dX9_behind_5 rfl 3 rfl ?_
      refine g_aload_n X dX9_behind_6 rfl 0 rfl ?_
      refine g_get (C := RX9) (T := TX9) (N := 8) (ci := 5) (v := (.int t_length)) X iw_X9_behind_X9 0 rfl rfl 1 (by decide) lk_X9_behind_15 rfl dX9_behind_7 ?_
      refine g_icmp_ge (tgt := 35) X dX9_behind_10 (by decide) (fun hc_1 => ?_) (fun hc_1 => ?_)
      · replace hf := ite_t hc_1 hf
        refine g_iload_n X dX9_behind_35 rfl 3 rfl ?_
        exact hR _ _ _ _ dX9_behind_36 (kR_in (u := v3) hf)
      · replace hf := ite_f hc_1 hf
        refine g_aload_n X dX9_behind_13 rfl 0 rfl ?_
        refine g_get (C := RX9) (T := TX9) (N := 8) (ci := 5) (v := (.ref h_t_bytes)) X iw_X9_behind_X9 0 rfl rfl 0 (by decide) lk_X9_behind_9 rfl dX9_behind_14 ?_
        refine g_iload_n X dX9_behind_17 rfl 3 rfl ?_
        obtain ⟨r_2, hk_3, hf⟩ := ob1_out hf
        refine g_cNR (st := []) (st1 := [.int r_2]) X (c_X11_cell l D cI cZ h_t_bytes 150 t_bytes v3 _ hk_3) (Or.inl rfl) 2 gX9_behind_X11_cell_n112 (by decide +kernel) lk_X9_behind_iX11 lk_X9_behind_sX11_cell rfl hs_X11_cell ⟨Nat.le_of_ble_eq_true rfl, Nat.le_of_ble_eq_true rfl⟩ rfl rfl (Nat.le_of_ble_eq_true rfl) ⟨rfl, rfl⟩ (Nat.zero_le _) (Nat.zero_le _) dX9_behind_18 [1] rfl rfl rfl ?_
        refine g_iload_n X dX9_behind_21 rfl 1 rfl ?_
        refine g_iload_n X dX9_behind_22 rfl 2 rfl ?_
        obtain ⟨r_4, hk_5, hf⟩ := ob1_out hf
        refine g_cNR (st := []) (st1 := [.int r_4]) X (c_X11_within l D cI cZ r_2 v1 v2 _ hk_5) (Or.inl rfl) 3 gX9_behind_X11_within_n105 (by decide +kernel) lk_X9_behind_iX11 lk_X9_behind_sX11_within rfl hs_X11_within ⟨Nat.le_of_ble_eq_true rfl, Nat.le_of_ble_eq_true rfl⟩ rfl rfl (Nat.le_of_ble_eq_true rfl) ⟨rfl, rfl⟩ (Nat.zero_le _) (Nat.zero_le _) dX9_behind_23 [] rfl rfl rfl ?_
        refine g_if_eq (tgt := 35) X dX9_behind_26 (by decide) (fun hc_6 => ?_) (fun hc_6 => ?_)
        · replace hf := ite_t hc_6 hf
          refine g_iload_n X dX9_behind_35 rfl 3 rfl ?_
          exact hR _ _ _ _ dX9_behind_36 (kR_in (u := v3) hf)
        · replace hf := ite_f hc_6 hf
          obtain ⟨v3_7, ev3_7, hf⟩ := bnd_out hf
          refine g_iinc (v := v3_7) (lv' := [(0, .ref h_t), (1, .int v1), (2, .int v2), (3, .int v3_7)]) X dX9_behind_29 3 rfl (by rw [ev3_7]; rfl) (Nat.le_of_ble_eq_true rfl) [1, 2, 3, 0] rfl ?_
          refine g_goto (tgt := 5) X dX9_behind_32 (by decide) ?_
          exact ih v1 v2 v3_7 hf
  refine g_aload_n X dX9_behind_0 rfl 0 rfl ?_
  refine g_get (C := RX9) (T := TX9) (N := 8) (ci := 5) (v := (.int t_place)) X iw_X9_behind_X9 0 rfl rfl 7 (by decide) lk_X9_behind_28 rfl dX9_behind_1 ?_
  refine g_istore_n (lv' := [(0, .ref h_t), (1, .int v1), (2, .int v2), (3, .int t_place)]) X dX9_behind_4 rfl (Nat.le_of_ble_eq_true rfl) [1, 2, 3, 0] rfl ?_
  exact J5 FU v1 v2 t_place hf
def wd_X9_isWord (cI cZ : ClassId) (h_t : Nat) (h_t_bytes : Nat) (t_length : Int32) (t_start : Int32) (t_token : Int32) (t_value : Int32) (t_kind : Int32) (t_desk : Int32) (t_place : Int32) (t_bytes : (Nat → Int32)) : va_W := [(h_t, .inr (5, [.ref h_t_bytes, .int t_length, .int t_start, .int t_token, .int t_value, .int t_kind, .int t_desk, .int t_place])), (h_t_bytes, .inl (cI, 150, .inl t_bytes))]
abbrev rm_X9_isWord : Room := { frames := 4, cells := 0, slots := 0, locals := 85 }
theorem hv_X9_isWord : yX9_isWord.cls = RX9 ∧ yX9_isWord.cls ≠ "java/lang/invoke/MethodHandle" ∧ yX9_isWord.cls ≠ "java/lang/invoke/VarHandle" ∧ (parseMethodDescriptor yX9_isWord.desc).map (fun d => d.parameters.length) = some 1 := by decide +kernel
theorem iw_X9_isWord_X9 : ∀ w ∈ u_ws RX9 TX9 8, w ∈ wsX9_isWord := by decide +kernel
theorem lk_X9_isWord_9 : Cond.fieldLink RX9 9 "ClerkChains$Text" "bytes" "[I" ∈ wsX9_isWord := by decide +kernel
theorem lk_X9_isWord_84 : Cond.fieldLink RX9 84 "ClerkChains$Text" "start" "I" ∈ wsX9_isWord := by decide +kernel
theorem lk_X9_isWord_iX11 : Cond.initialized RX11 ∈ wsX9_isWord := by decide +kernel
theorem lk_X9_isWord_sX11_cell : Cond.static yX11_cell ∈ wsX9_isWord := by decide +kernel
theorem lk_X9_isWord_28 : Cond.fieldLink RX9 28 "ClerkChains$Text" "place" "I" ∈ wsX9_isWord := by decide +kernel
set_option maxHeartbeats 4000000 in
set_option maxRecDepth 100000 in
theorem c_X9_isWord (l : Launch) (D : va_G) (cI cZ : ClassId) (q : (Nat → Nat) × (Nat → Nat)) (h_t : Nat) (h_t_bytes : Nat) (t_length : Int32) (t_start : Int32) (t_token : Int32) (t_value : Int32) (t_kind : Int32) (t_desk : Int32) (t_place : Int32) (t_bytes : (Nat → Int32)) (w1 : Nat) (hw1 : w1 < 5) (res : Int32) (hf : f_X9_isWord t_start t_place t_bytes w1 = some res) : MetR l yX9_isWord wsX9_isWord rm_X9_isWord D cI cZ (some q) [.ref h_t, .ref (q.1 w1)] (wd_X9_isWord cI cZ h_t h_t_bytes t_length t_start t_token t_value t_kind t_desk t_place t_bytes) (kR res (fun u => some (.int u))) := by
  refine metR_of (cc := cX9_isWord) (maxL := 4) (ret := (some .boolean)) (own := RX9) (lv0 := [(0, .ref h_t), (1, .ref (q.1 w1))]) (by decide) rfl (Nat.le_of_ble_eq_true rfl) rfl rfl (fun G X hR => ?_)
  replace hR := rt_bool hR
  unfold f_X9_isWord at hf
  have J62 : ∀ (k24 : Int32 → Int32 → Option (Int32)) (hk24 : ∀ (v2 : Int32) (v3 : Int32), k24 v2 v3 = some res → G 0 0 (wd_X9_isWord cI cZ h_t h_t_bytes t_length t_start t_token t_value t_kind t_desk t_place t_bytes) [(0, .ref h_t), (1, .ref (q.1 w1)), (2, .int v2), (3, .int v3)] 24 []) (v3 : Int32) (s0 : Int32), f_X9_isWord_62 t_start t_place t_bytes w1 k24 v3 s0 = some res → G 0 0 (wd_X9_isWord cI cZ h_t h_t_bytes t_length t_start t_token t_value t_kind t_desk t_place t_bytes) [(0, .ref h_t), (1, .ref (q.1 w1)), (3, .int v3)] 62 [.int s0] := by
    intro k24 hk24 v3 s0 hf
    unfold f_X9_isWord_62 at hf
    refine g_istore_n (lv' := [(0, .ref h_t), (1, .ref (q.1 w1)), (2, .int s0), (3, .int v3)]) X dX9_isWord_62 rfl (Nat.le_of_ble_eq_true rfl) [1, 2, 0, 3] rfl ?_
    obtain ⟨v3_12, ev3_12, hf⟩ := bnd_out hf
    refine g_iinc (v := v3_12) (lv' := [(0, .ref h_t), (1, .ref (q.1 w1)), (2, .int s0), (3, .int v3_12)]) X dX9_isWord_63 3 rfl (by rw [ev3_12]; rfl) (Nat.le_of_ble_eq_true rfl) [1, 2, 3, 0] rfl ?_
    refine g_goto (tgt := 24) X dX9_isWord_66 (by decide) ?_
    exact hk24 s0 v3_12 hf
  have J24 : ∀ (n : Nat) (v2 : Int32) (v3 : Int32), f_X9_isWord_24 t_start t_place t_bytes w1 n v2 v3 = some res → G 0 0 (wd_X9_isWord cI cZ h_t h_t_bytes t_length t_start t_token t_value t_kind t_desk t_place t_bytes) [(0, .ref h_t), (1, .ref (q.1 w1)), (2, .int v2), (3, .int v3)] 24 [] := by
    intro n
    induction n with
    | zero => intro v2 v3 hf; rw [f_X9_isWord_24] at hf; cases hf
    | succ n ih =>
      intro v2 v3 hf
      rw [f_X9_isWord_24] at hf
      refine g_iload_n X dX9_isWord_24 rfl 2 rfl ?_
      refine g_if_eq (tgt := 69) X dX9_isWord_25 (by decide) (fun hc_1 => ?_) (fun hc_1 => ?_)
      · replace hf := ite_t hc_1 hf
        refine g_iload_n X dX9_isWord_69 rfl 2 rfl ?_
        obtain ⟨hz_2, hf⟩ := chb_out hf
        exact hR _ _ _ _ hz_2 dX9_isWord_70 (kR_in (u := v2) hf)
      · replace hf := ite_f hc_1 hf
        refine g_iload_n X dX9_isWord_28 rfl 3 rfl ?_
        refine g_aload_n X dX9_isWord_29 rfl 1 rfl ?_
        obtain ⟨r_3, hk_4, hf⟩ := ob1_out hf
        refine g_callT (st := [.int v3]) (st1 := [.int r_3, .int v3]) X hw1 (c_J0_length l D cI cZ q w1 hw1 _ hk_4) 0 gX9_isWord_J0_length_8abf5 rfl (by decide +kernel) ⟨Nat.le_of_ble_eq_true rfl, Nat.le_of_ble_eq_true rfl⟩ rfl rfl (Nat.le_of_ble_eq_true rfl) ⟨rfl, rfl⟩ (Nat.zero_le _) (Nat.zero_le _) dX9_isWord_30 rfl ?_
        refine g_icmp_ge (tgt := 69) X dX9_isWord_33 (by decide) (fun hc_5 => ?_) (fun hc_5 => ?_)
        · replace hf := ite_t hc_5 hf
          refine g_iload_n X dX9_isWord_69 rfl 2 rfl ?_
          obtain ⟨hz_6, hf⟩ := chb_out hf
          exact hR _ _ _ _ hz_6 dX9_isWord_70 (kR_in (u := v2) hf)
        · replace hf := ite_f hc_5 hf
          refine g_aload_n X dX9_isWord_36 rfl 0 rfl ?_
          refine g_get (C := RX9) (T := TX9) (N := 8) (ci := 5) (v := (.ref h_t_bytes)) X iw_X9_isWord_X9 0 rfl rfl 0 (by decide) lk_X9_isWord_9 rfl dX9_isWord_37 ?_
          refine g_aload_n X dX9_isWord_40 rfl 0 rfl ?_
          refine g_get (C := RX9) (T := TX9) (N := 8) (ci := 5) (v := (.int t_start)) X iw_X9_isWord_X9 0 rfl rfl 2 (by decide) lk_X9_isWord_84 rfl dX9_isWord_41 ?_
          refine g_iload_n X dX9_isWord_44 rfl 3 rfl ?_
          refine g_iadd X dX9_isWord_45 ?_
          obtain ⟨r_7, hk_8, hf⟩ := ob1_out hf
          refine g_cNR (st := []) (st1 := [.int r_7]) X (c_X11_cell l D cI cZ h_t_bytes 150 t_bytes (t_start + v3) _ hk_8) (Or.inl rfl) 2 gX9_isWord_X11_cell_n112 (by decide +kernel) lk_X9_isWord_iX11 lk_X9_isWord_sX11_cell rfl hs_X11_cell ⟨Nat.le_of_ble_eq_true rfl, Nat.le_of_ble_eq_true rfl⟩ rfl rfl (Nat.le_of_ble_eq_true rfl) ⟨rfl, rfl⟩ (Nat.zero_le _) (Nat.zero_le _) dX9_isWord_46 [1] rfl rfl rfl ?_
          refine g_aload_n X dX9_isWord_49 rfl 1 rfl ?_
          refine g_iload_n X dX9_isWord_50 rfl 3 rfl ?_
          obtain ⟨r_9, hk_10, hf⟩ := ob1_out hf
          refine g_callT (st := [.int r_7]) (st1 := [.int r_9, .int r_7]) X hw1 (c_J0_charAt l D cI cZ q w1 hw1 v3 _ hk_10) 1 gX9_isWord_J0_charAt_5068e rfl (by decide +kernel) ⟨Nat.le_of_ble_eq_true rfl, Nat.le_of_ble_eq_true rfl⟩ rfl rfl (Nat.le_of_ble_eq_true rfl) ⟨rfl, rfl⟩ (Nat.zero_le _) (Nat.zero_le _) dX9_isWord_51 rfl ?_
          refine g_icmp_ne (tgt := 61) X dX9_isWord_54 (by decide) (fun hc_11 => ?_) (fun hc_11 => ?_)
          · replace hf := ite_f hc_11 hf
            refine g_iconst (v := 0) X dX9_isWord_61 (by decide) ?_
            refine g_lv X (lv' := [(0, .ref h_t), (1, .ref (q.1 w1)), (3, .int v3)]) [0, 1, 3] rfl ?_
            exact J62 (f_X9_isWord_24 t_start t_place t_bytes w1 n) ih v3 0 hf
          · replace hf := ite_t hc_11 hf
            refine g_iconst (v := 1) X dX9_isWord_57 (by decide) ?_
            refine g_goto (tgt := 62) X dX9_isWord_58 (by decide) ?_
            refine g_lv X (lv' := [(0, .ref h_t), (1, .ref (q.1 w1)), (3, .int v3)]) [0, 1, 3] rfl ?_
            exact J62 (f_X9_isWord_24 t_start t_place t_bytes w1 n) ih v3 1 hf
  have J21 : ∀ (s0 : Int32), f_X9_isWord_21 t_start t_place t_bytes w1 s0 = some res → G 0 0 (wd_X9_isWord cI cZ h_t h_t_bytes t_length t_start t_token t_value t_kind t_desk t_place t_bytes) [(0, .ref h_t), (1, .ref (q.1 w1))] 21 [.int s0] := by
    intro s0 hf
    unfold f_X9_isWord_21 at hf
    refine g_istore_n (lv' := [(0, .ref h_t), (1, .ref (q.1 w1)), (2, .int s0)]) X dX9_isWord_21 rfl (Nat.le_of_ble_eq_true rfl) [1, 2, 0] rfl ?_
    refine g_iconst (v := 0) X dX9_isWord_22 (by decide) ?_
    refine g_istore_n (lv' := [(0, .ref h_t), (1, .ref (q.1 w1)), (2, .int s0), (3, .int 0)]) X dX9_isWord_23 rfl (Nat.le_of_ble_eq_true rfl) [1, 2, 3, 0] rfl ?_
    exact J24 FU s0 0 hf
  refine g_aload_n X dX9_isWord_0 rfl 0 rfl ?_
  refine g_get (C := RX9) (T := TX9) (N := 8) (ci := 5) (v := (.int t_place)) X iw_X9_isWord_X9 0 rfl rfl 7 (by decide) lk_X9_isWord_28 rfl dX9_isWord_1 ?_
  refine g_aload_n X dX9_isWord_4 rfl 0 rfl ?_
  refine g_get (C := RX9) (T := TX9) (N := 8) (ci := 5) (v := (.int t_start)) X iw_X9_isWord_X9 0 rfl rfl 2 (by decide) lk_X9_isWord_84 rfl dX9_isWord_5 ?_
  refine g_isub X dX9_isWord_8 ?_
  refine g_aload_n X dX9_isWord_9 rfl 1 rfl ?_
  obtain ⟨r_13, hk_14, hf⟩ := ob1_out hf
  refine g_callT (st := [.int (t_place - t_start)]) (st1 := [.int r_13, .int (t_place - t_start)]) X hw1 (c_J0_length l D cI cZ q w1 hw1 _ hk_14) 0 gX9_isWord_J0_length_8abf5 rfl (by decide +kernel) ⟨Nat.le_of_ble_eq_true rfl, Nat.le_of_ble_eq_true rfl⟩ rfl rfl (Nat.le_of_ble_eq_true rfl) ⟨rfl, rfl⟩ (Nat.zero_le _) (Nat.zero_le _) dX9_isWord_10 rfl ?_
  refine g_icmp_ne (tgt := 20) X dX9_isWord_13 (by decide) (fun hc_15 => ?_) (fun hc_15 => ?_)
  · replace hf := ite_f hc_15 hf
    refine g_iconst (v := 0) X dX9_isWord_20 (by decide) ?_
    exact J21 0 hf
  · replace hf := ite_t hc_15 hf
    refine g_iconst (v := 1) X dX9_isWord_16 (by decide) ?_
    refine g_goto (tgt := 21) X dX9_isWord_17 (by decide) ?_
    exact J21 1 hf
def wd_X9_numberAt (cI cZ : ClassId) (h_t : Nat) (h_t_bytes : Nat) (t_length : Int32) (t_start : Int32) (t_token : Int32) (t_value : Int32) (t_kind : Int32) (t_desk : Int32) (t_place : Int32) (t_bytes : (Nat → Int32)) : va_W := [(h_t, .inr (5, [.ref h_t_bytes, .int t_length, .int t_start, .int t_token, .int t_value, .int t_kind, .int t_desk, .int t_place])), (h_t_bytes, .inl (cI, 150, .inl t_bytes))]
abbrev rm_X9_numberAt : Room := { frames := 1, cells := 0, slots := 0, locals := 21 }
theorem hv_X9_numberAt : yX9_numberAt.cls = RX9 ∧ yX9_numberAt.cls ≠ "java/lang/invoke/MethodHandle" ∧ yX9_numberAt.cls ≠ "java/lang/invoke/VarHandle" ∧ (parseMethodDescriptor yX9_numberAt.desc).map (fun d => d.parameters.length) = some 0 := by decide +kernel
theorem iw_X9_numberAt_X9 : ∀ w ∈ u_ws RX9 TX9 8, w ∈ wsX9_numberAt := by decide +kernel
theorem lk_X9_numberAt_28 : Cond.fieldLink RX9 28 "ClerkChains$Text" "place" "I" ∈ wsX9_numberAt := by decide +kernel
theorem lk_X9_numberAt_84 : Cond.fieldLink RX9 84 "ClerkChains$Text" "start" "I" ∈ wsX9_numberAt := by decide +kernel
theorem lk_X9_numberAt_9 : Cond.fieldLink RX9 9 "ClerkChains$Text" "bytes" "[I" ∈ wsX9_numberAt := by decide +kernel
theorem lk_X9_numberAt_iX11 : Cond.initialized RX11 ∈ wsX9_numberAt := by decide +kernel
theorem lk_X9_numberAt_sX11_cell : Cond.static yX11_cell ∈ wsX9_numberAt := by decide +kernel
set_option maxHeartbeats 4000000 in
set_option maxRecDepth 100000 in
theorem c_X9_numberAt (l : Launch) (D : va_G) (cI cZ : ClassId) (h_t : Nat) (h_t_bytes : Nat) (t_length : Int32) (t_start : Int32) (t_token : Int32) (t_value : Int32) (t_kind : Int32) (t_desk : Int32) (t_place : Int32) (t_bytes : (Nat → Int32)) (res : Int32) (hf : f_X9_numberAt t_start t_place t_bytes = some res) : MetR l yX9_numberAt wsX9_numberAt rm_X9_numberAt D cI cZ none [.ref h_t] (wd_X9_numberAt cI cZ h_t h_t_bytes t_length t_start t_token t_value t_kind t_desk t_place t_bytes) (kR res (fun u => some (.int u))) := by
  refine metR_of (cc := cX9_numberAt) (maxL := 3) (ret := (some .int)) (own := RX9) (lv0 := [(0, .ref h_t)]) (by decide) rfl (Nat.le_of_ble_eq_true rfl) rfl rfl (fun G X hR => ?_)
  replace hR := rt_int hR
  unfold f_X9_numberAt at hf
  have J7 : ∀ (n : Nat) (v1 : Int32) (v2 : Int32), f_X9_numberAt_7 t_start t_place t_bytes n v1 v2 = some res → G 0 0 (wd_X9_numberAt cI cZ h_t h_t_bytes t_length t_start t_token t_value t_kind t_desk t_place t_bytes) [(0, .ref h_t), (1, .int v1), (2, .int v2)] 7 [] := by
    intro n
    induction n with
    | zero => intro v1 v2 hf; rw [f_X9_numberAt_7] at hf; cases hf
    | succ n ih =>
      intro v1 v2 hf
      rw [f_X9_numberAt_7] at hf
      refine g_iload_n X dX9_numberAt_7 rfl 2 rfl ?_
      refine g_aload_n X dX9_numberAt_8 rfl 0 rfl ?_
      refine g_get (C := RX9) (T := TX9) (N := 8) (ci := 5) (v := (.int t_place)) X iw_X9_numberAt_X9 0 rfl rfl 7 (by decide) lk_X9_numberAt_28 rfl dX9_numberAt_9 ?_
      refine g_icmp_ge (tgt := 48) X dX9_numberAt_12 (by decide) (fun hc_1 => ?_) (fun hc_1 => ?_)
      · replace hf := ite_t hc_1 hf
        refine g_iload_n X dX9_numberAt_48 rfl 1 rfl ?_
        exact hR _ _ _ _ dX9_numberAt_49 (kR_in (u := v1) hf)
      · replace hf := ite_f hc_1 hf
        refine g_iload_n X dX9_numberAt_15 rfl 2 rfl ?_
        refine g_aload_n X dX9_numberAt_16 rfl 0 rfl ?_
        refine g_get (C := RX9) (T := TX9) (N := 8) (ci := 5) (v := (.int t_start)) X iw_X9_numberAt_X9 0 rfl rfl 2 (by decide) lk_X9_numberAt_84 rfl dX9_numberAt_17 ?_
        refine g_iconst (v := 2) X dX9_numberAt_20 (by decide) ?_
        refine g_iadd X dX9_numberAt_21 ?_
        refine g_icmp_ge (tgt := 48) X dX9_numberAt_22 (by decide) (fun hc_2 => ?_) (fun hc_2 => ?_)
        · replace hf := ite_t hc_2 hf
          refine g_iload_n X dX9_numberAt_48 rfl 1 rfl ?_
          exact hR _ _ _ _ dX9_numberAt_49 (kR_in (u := v1) hf)
        · replace hf := ite_f hc_2 hf
          refine g_bipush (v := 10) X dX9_numberAt_25 (by decide) ?_
          refine g_iload_n X dX9_numberAt_27 rfl 1 rfl ?_
          refine g_imul X dX9_numberAt_28 ?_
          refine g_aload_n X dX9_numberAt_29 rfl 0 rfl ?_
          refine g_get (C := RX9) (T := TX9) (N := 8) (ci := 5) (v := (.ref h_t_bytes)) X iw_X9_numberAt_X9 0 rfl rfl 0 (by decide) lk_X9_numberAt_9 rfl dX9_numberAt_30 ?_
          refine g_iload_n X dX9_numberAt_33 rfl 2 rfl ?_
          obtain ⟨r_3, hk_4, hf⟩ := ob1_out hf
          refine g_cNR (st := [.int (10 * v1)]) (st1 := [.int r_3, .int (10 * v1)]) X (c_X11_cell l D cI cZ h_t_bytes 150 t_bytes v2 _ hk_4) (Or.inl rfl) 2 gX9_numberAt_X11_cell_n112 (by decide +kernel) lk_X9_numberAt_iX11 lk_X9_numberAt_sX11_cell rfl hs_X11_cell ⟨Nat.le_of_ble_eq_true rfl, Nat.le_of_ble_eq_true rfl⟩ rfl rfl (Nat.le_of_ble_eq_true rfl) ⟨rfl, rfl⟩ (Nat.zero_le _) (Nat.zero_le _) dX9_numberAt_34 [1] rfl rfl rfl ?_
          refine g_iadd X dX9_numberAt_37 ?_
          refine g_bipush (v := 48) X dX9_numberAt_38 (by decide) ?_
          refine g_isub X dX9_numberAt_40 ?_
          obtain ⟨v1_5, ev1_5, hf⟩ := bnd_out hf
          refine g_nmI X ev1_5 ?_
          refine g_istore_n (lv' := [(0, .ref h_t), (1, .int v1_5), (2, .int v2)]) X dX9_numberAt_41 rfl (Nat.le_of_ble_eq_true rfl) [1, 0, 2] rfl ?_
          obtain ⟨v2_6, ev2_6, hf⟩ := bnd_out hf
          refine g_iinc (v := v2_6) (lv' := [(0, .ref h_t), (1, .int v1_5), (2, .int v2_6)]) X dX9_numberAt_42 2 rfl (by rw [ev2_6]; rfl) (Nat.le_of_ble_eq_true rfl) [1, 2, 0] rfl ?_
          refine g_goto (tgt := 7) X dX9_numberAt_45 (by decide) ?_
          exact ih v1_5 v2_6 hf
  refine g_iconst (v := 0) X dX9_numberAt_0 (by decide) ?_
  refine g_istore_n (lv' := [(0, .ref h_t), (1, .int 0)]) X dX9_numberAt_1 rfl (Nat.le_of_ble_eq_true rfl) [1, 0] rfl ?_
  refine g_aload_n X dX9_numberAt_2 rfl 0 rfl ?_
  refine g_get (C := RX9) (T := TX9) (N := 8) (ci := 5) (v := (.int t_start)) X iw_X9_numberAt_X9 0 rfl rfl 2 (by decide) lk_X9_numberAt_84 rfl dX9_numberAt_3 ?_
  refine g_istore_n (lv' := [(0, .ref h_t), (1, .int 0), (2, .int t_start)]) X dX9_numberAt_6 rfl (Nat.le_of_ble_eq_true rfl) [1, 2, 0] rfl ?_
  exact J7 FU 0 t_start hf
def wd_X9_next (cI cZ : ClassId) (h_t : Nat) (h_t_bytes : Nat) (t_length : Int32) (t_start : Int32) (t_token : Int32) (t_value : Int32) (t_kind : Int32) (t_desk : Int32) (t_place : Int32) (t_bytes : (Nat → Int32)) : va_W := [(h_t, .inr (5, [.ref h_t_bytes, .int t_length, .int t_start, .int t_token, .int t_value, .int t_kind, .int t_desk, .int t_place])), (h_t_bytes, .inl (cI, 150, .inl t_bytes))]
abbrev rm_X9_next : Room := { frames := 5, cells := 0, slots := 0, locals := 108 }
theorem hv_X9_next : yX9_next.cls = RX9 ∧ yX9_next.cls ≠ "java/lang/invoke/MethodHandle" ∧ yX9_next.cls ≠ "java/lang/invoke/VarHandle" ∧ (parseMethodDescriptor yX9_next.desc).map (fun d => d.parameters.length) = some 0 := by decide +kernel
theorem iw_X9_next_X9 : ∀ w ∈ u_ws RX9 TX9 8, w ∈ wsX9_next := by decide +kernel
theorem lk_X9_next_34 : Cond.fieldLink RX9 34 "ClerkChains$Text" "token" "I" ∈ wsX9_next := by decide +kernel
theorem lk_X9_next_59 : Cond.fieldLink RX9 59 "ClerkChains$Text" "value" "I" ∈ wsX9_next := by decide +kernel
theorem lk_X9_next_28 : Cond.fieldLink RX9 28 "ClerkChains$Text" "place" "I" ∈ wsX9_next := by decide +kernel
theorem lk_X9_next_84 : Cond.fieldLink RX9 84 "ClerkChains$Text" "start" "I" ∈ wsX9_next := by decide +kernel
theorem lk_X9_next_9 : Cond.fieldLink RX9 9 "ClerkChains$Text" "bytes" "[I" ∈ wsX9_next := by decide +kernel
theorem lk_X9_next_iX11 : Cond.initialized RX11 ∈ wsX9_next := by decide +kernel
theorem lk_X9_next_sX11_cell : Cond.static yX11_cell ∈ wsX9_next := by decide +kernel
theorem lk_X9_next_15 : Cond.fieldLink RX9 15 "ClerkChains$Text" "length" "I" ∈ wsX9_next := by decide +kernel
theorem lk_X9_next_sX11_within : Cond.static yX11_within ∈ wsX9_next := by decide +kernel
set_option maxHeartbeats 4000000 in
set_option maxRecDepth 100000 in
theorem c_X9_next (l : Launch) (D : va_G) (cI cZ : ClassId) (q : (Nat → Nat) × (Nat → Nat)) (h_t : Nat) (h_t_bytes : Nat) (t_length : Int32) (t_start : Int32) (t_token : Int32) (t_value : Int32) (t_kind : Int32) (t_desk : Int32) (t_place : Int32) (t_bytes : (Nat → Int32)) (res : Int32 × Int32 × Int32 × Int32) (hf : f_X9_next t_length t_start t_token t_value t_place t_bytes = some res) : MetG l yX9_next wsX9_next rm_X9_next D cI cZ (some q) [.ref h_t] (wd_X9_next cI cZ h_t h_t_bytes t_length t_start t_token t_value t_kind t_desk t_place t_bytes) (kV res (fun _ => none) (fun u => (wd_X9_next cI cZ h_t h_t_bytes t_length (u.1) (u.2.1) (u.2.2.1) t_kind t_desk (u.2.2.2) t_bytes))) := by
  refine metG_of (cc := cX9_next) (maxL := 2) (ret := none) (own := RX9) (lv0 := [(0, .ref h_t)]) (ini := false) (by decide) rfl (Nat.le_of_ble_eq_true rfl) rfl rfl (fun h => by cases h) (fun G X hR => ?_)
  replace hR := rt_void hR
  unfold f_X9_next at hf
  have J144 : ∀ (t_start : Int32) (t_token : Int32) (t_value : Int32) (t_place : Int32) (s1 : Int32), f_X9_next_144 t_length t_bytes t_start t_token t_value t_place s1 = some res → G 0 0 (wd_X9_next cI cZ h_t h_t_bytes t_length t_start t_token t_value t_kind t_desk t_place t_bytes) [] 144 [.int s1, .ref h_t] := by
    intro t_start t_token t_value t_place s1 hf
    unfold f_X9_next_144 at hf
    refine g_put (C := RX9) (T := TX9) (N := 8) (ci := 5) (v := .int s1) (ws' := (wd_X9_next cI cZ h_t h_t_bytes t_length t_start s1 t_value t_kind t_desk t_place t_bytes)) X iw_X9_next_X9 tyX9 tyX9_ok nmX9 0 rfl rfl 3 (by decide) lk_X9_next_34 rfl (tyX9_ok 3 (by decide)) rfl rfl (Nat.le_of_ble_eq_true rfl) dX9_next_144 rfl ?_
    refine g_goto (tgt := 231) X dX9_next_147 (by decide) ?_
    exact hR _ _ _ dX9_next_231 (kV_in (u := (t_start, s1, t_value, t_place)) hf)
  have J192 : ∀ (t_start : Int32) (t_token : Int32) (t_value : Int32) (t_place : Int32) (s1 : Int32), f_X9_next_192 t_length t_bytes t_start t_token t_value t_place s1 = some res → G 0 0 (wd_X9_next cI cZ h_t h_t_bytes t_length t_start t_token t_value t_kind t_desk t_place t_bytes) [(0, .ref h_t)] 192 [.int s1, .ref h_t] := by
    intro t_start t_token t_value t_place s1 hf
    unfold f_X9_next_192 at hf
    refine g_put (C := RX9) (T := TX9) (N := 8) (ci := 5) (v := .int s1) (ws' := (wd_X9_next cI cZ h_t h_t_bytes t_length t_start s1 t_value t_kind t_desk t_place t_bytes)) X iw_X9_next_X9 tyX9 tyX9_ok nmX9 0 rfl rfl 3 (by decide) lk_X9_next_34 rfl (tyX9_ok 3 (by decide)) rfl rfl (Nat.le_of_ble_eq_true rfl) dX9_next_192 rfl ?_
    refine g_aload_n X dX9_next_195 rfl 0 rfl ?_
    refine g_aload_n X dX9_next_196 rfl 0 rfl ?_
    obtain ⟨r_1, hk_2, hf⟩ := ob1_out hf
    refine g_cVR (st := [.ref h_t]) (st1 := [.int r_1, .ref h_t]) (C := RX9) (ci := 5) (q0 := 0) X (c_X9_numberAt l D cI cZ h_t h_t_bytes t_length t_start s1 t_value t_kind t_desk t_place t_bytes _ hk_2) (Or.inl rfl) 0 gX9_next_X9_numberAt rfl hv_X9_numberAt ⟨Nat.le_of_ble_eq_true rfl, Nat.le_of_ble_eq_true rfl⟩ rfl rfl (Nat.le_of_ble_eq_true rfl) ⟨rfl, rfl⟩ (Nat.zero_le _) (Nat.zero_le _) rfl rfl rfl dX9_next_197 [0, 1] rfl rfl rfl ?_
    refine g_put (C := RX9) (T := TX9) (N := 8) (ci := 5) (v := .int r_1) (ws' := (wd_X9_next cI cZ h_t h_t_bytes t_length t_start s1 r_1 t_kind t_desk t_place t_bytes)) X iw_X9_next_X9 tyX9 tyX9_ok nmX9 0 rfl rfl 4 (by decide) lk_X9_next_59 rfl (tyX9_ok 4 (by decide)) rfl rfl (Nat.le_of_ble_eq_true rfl) dX9_next_200 rfl ?_
    refine g_goto (tgt := 231) X dX9_next_203 (by decide) ?_
    exact hR _ _ _ dX9_next_231 (kV_in (u := (t_start, s1, r_1, t_place)) hf)
  have J228 : ∀ (t_start : Int32) (t_token : Int32) (t_value : Int32) (t_place : Int32) (s1 : Int32), f_X9_next_228 t_length t_bytes t_start t_token t_value t_place s1 = some res → G 0 0 (wd_X9_next cI cZ h_t h_t_bytes t_length t_start t_token t_value t_kind t_desk t_place t_bytes) [] 228 [.int s1, .ref h_t] := by
    intro t_start t_token t_value t_place s1 hf
    unfold f_X9_next_228 at hf
    refine g_put (C := RX9) (T := TX9) (N := 8) (ci := 5) (v := .int s1) (ws' := (wd_X9_next cI cZ h_t h_t_bytes t_length t_start s1 t_value t_kind t_desk t_place t_bytes)) X iw_X9_next_X9 tyX9 tyX9_ok nmX9 0 rfl rfl 3 (by decide) lk_X9_next_34 rfl (tyX9_ok 3 (by decide)) rfl rfl (Nat.le_of_ble_eq_true rfl) dX9_next_228 rfl ?_
    exact hR _ _ _ dX9_next_231 (kV_in (u := (t_start, s1, t_value, t_place)) hf)
  refine g_aload_n X dX9_next_0 rfl 0 rfl ?_
  refine g_aload_n X dX9_next_1 rfl 0 rfl ?_
  refine g_bipush (v := 32) X dX9_next_2 (by decide) ?_
  refine g_bipush (v := 32) X dX9_next_4 (by decide) ?_
  obtain ⟨r_3, hk_4, hf⟩ := ob1_out hf
  refine g_cVR (st := [.ref h_t]) (st1 := [.int r_3, .ref h_t]) (C := RX9) (ci := 5) (q0 := 0) X (c_X9_behind l D cI cZ h_t h_t_bytes t_length t_start t_token t_value t_kind t_desk t_place t_bytes 32 32 _ hk_4) (Or.inl rfl) 2 gX9_next_X9_behind rfl hv_X9_behind ⟨Nat.le_of_ble_eq_true rfl, Nat.le_of_ble_eq_true rfl⟩ rfl rfl (Nat.le_of_ble_eq_true rfl) ⟨rfl, rfl⟩ (Nat.zero_le _) (Nat.zero_le _) rfl rfl rfl dX9_next_6 [0, 1] rfl rfl rfl ?_
  refine g_put (C := RX9) (T := TX9) (N := 8) (ci := 5) (v := .int r_3) (ws' := (wd_X9_next cI cZ h_t h_t_bytes t_length t_start t_token t_value t_kind t_desk r_3 t_bytes)) X iw_X9_next_X9 tyX9 tyX9_ok nmX9 0 rfl rfl 7 (by decide) lk_X9_next_28 rfl (tyX9_ok 7 (by decide)) rfl rfl (Nat.le_of_ble_eq_true rfl) dX9_next_9 rfl ?_
  refine g_aload_n X dX9_next_12 rfl 0 rfl ?_
  refine g_aload_n X dX9_next_13 rfl 0 rfl ?_
  refine g_get (C := RX9) (T := TX9) (N := 8) (ci := 5) (v := (.int r_3)) X iw_X9_next_X9 0 rfl rfl 7 (by decide) lk_X9_next_28 rfl dX9_next_14 ?_
  refine g_put (C := RX9) (T := TX9) (N := 8) (ci := 5) (v := .int r_3) (ws' := (wd_X9_next cI cZ h_t h_t_bytes t_length r_3 t_token t_value t_kind t_desk r_3 t_bytes)) X iw_X9_next_X9 tyX9 tyX9_ok nmX9 0 rfl rfl 2 (by decide) lk_X9_next_84 rfl (tyX9_ok 2 (by decide)) rfl rfl (Nat.le_of_ble_eq_true rfl) dX9_next_17 rfl ?_
  refine g_aload_n X dX9_next_20 rfl 0 rfl ?_
  refine g_get (C := RX9) (T := TX9) (N := 8) (ci := 5) (v := (.ref h_t_bytes)) X iw_X9_next_X9 0 rfl rfl 0 (by decide) lk_X9_next_9 rfl dX9_next_21 ?_
  refine g_aload_n X dX9_next_24 rfl 0 rfl ?_
  refine g_get (C := RX9) (T := TX9) (N := 8) (ci := 5) (v := (.int r_3)) X iw_X9_next_X9 0 rfl rfl 2 (by decide) lk_X9_next_84 rfl dX9_next_25 ?_
  obtain ⟨r_5, hk_6, hf⟩ := ob1_out hf
  refine g_cNR (st := []) (st1 := [.int r_5]) X (c_X11_cell l D cI cZ h_t_bytes 150 t_bytes r_3 _ hk_6) (Or.inl rfl) 2 gX9_next_X11_cell_n112 (by decide +kernel) lk_X9_next_iX11 lk_X9_next_sX11_cell rfl hs_X11_cell ⟨Nat.le_of_ble_eq_true rfl, Nat.le_of_ble_eq_true rfl⟩ rfl rfl (Nat.le_of_ble_eq_true rfl) ⟨rfl, rfl⟩ (Nat.zero_le _) (Nat.zero_le _) dX9_next_28 [1] rfl rfl rfl ?_
  refine g_istore_n (lv' := [(0, .ref h_t), (1, .int r_5)]) X dX9_next_31 rfl (Nat.le_of_ble_eq_true rfl) [1, 0] rfl ?_
  refine g_aload_n X dX9_next_32 rfl 0 rfl ?_
  refine g_get (C := RX9) (T := TX9) (N := 8) (ci := 5) (v := (.int r_3)) X iw_X9_next_X9 0 rfl rfl 2 (by decide) lk_X9_next_84 rfl dX9_next_33 ?_
  refine g_aload_n X dX9_next_36 rfl 0 rfl ?_
  refine g_get (C := RX9) (T := TX9) (N := 8) (ci := 5) (v := (.int t_length)) X iw_X9_next_X9 0 rfl rfl 1 (by decide) lk_X9_next_15 rfl dX9_next_37 ?_
  refine g_icmp_lt (tgt := 51) X dX9_next_40 (by decide) (fun hc_7 => ?_) (fun hc_7 => ?_)
  · replace hf := ite_t hc_7 hf
    refine g_iload_n X dX9_next_51 rfl 1 rfl ?_
    refine g_bipush (v := 97) X dX9_next_52 (by decide) ?_
    refine g_bipush (v := 122) X dX9_next_54 (by decide) ?_
    obtain ⟨r_8, hk_9, hf⟩ := ob1_out hf
    refine g_cNR (st := []) (st1 := [.int r_8]) X (c_X11_within l D cI cZ r_5 97 122 _ hk_9) (Or.inl rfl) 3 gX9_next_X11_within_n105 (by decide +kernel) lk_X9_next_iX11 lk_X9_next_sX11_within rfl hs_X11_within ⟨Nat.le_of_ble_eq_true rfl, Nat.le_of_ble_eq_true rfl⟩ rfl rfl (Nat.le_of_ble_eq_true rfl) ⟨rfl, rfl⟩ (Nat.zero_le _) (Nat.zero_le _) dX9_next_56 [] rfl rfl rfl ?_
    refine g_if_eq (tgt := 150) X dX9_next_59 (by decide) (fun hc_10 => ?_) (fun hc_10 => ?_)
    · replace hf := ite_t hc_10 hf
      refine g_iload_n X dX9_next_150 rfl 1 rfl ?_
      refine g_bipush (v := 48) X dX9_next_151 (by decide) ?_
      refine g_bipush (v := 57) X dX9_next_153 (by decide) ?_
      obtain ⟨r_11, hk_12, hf⟩ := ob1_out hf
      refine g_cNR (st := []) (st1 := [.int r_11]) X (c_X11_within l D cI cZ r_5 48 57 _ hk_12) (Or.inl rfl) 3 gX9_next_X11_within_n105 (by decide +kernel) lk_X9_next_iX11 lk_X9_next_sX11_within rfl hs_X11_within ⟨Nat.le_of_ble_eq_true rfl, Nat.le_of_ble_eq_true rfl⟩ rfl rfl (Nat.le_of_ble_eq_true rfl) ⟨rfl, rfl⟩ (Nat.zero_le _) (Nat.zero_le _) dX9_next_155 [] rfl rfl rfl ?_
      refine g_if_eq (tgt := 206) X dX9_next_158 (by decide) (fun hc_13 => ?_) (fun hc_13 => ?_)
      · replace hf := ite_t hc_13 hf
        refine g_aload_n X dX9_next_206 rfl 0 rfl ?_
        refine g_aload_n X dX9_next_207 rfl 0 rfl ?_
        refine g_get (C := RX9) (T := TX9) (N := 8) (ci := 5) (v := (.int r_3)) X iw_X9_next_X9 0 rfl rfl 2 (by decide) lk_X9_next_84 rfl dX9_next_208 ?_
        refine g_iconst (v := 1) X dX9_next_211 (by decide) ?_
        refine g_iadd X dX9_next_212 ?_
        obtain ⟨t_place_14, et_place_14, hf⟩ := bnd_out hf
        refine g_nmI X et_place_14 ?_
        refine g_put (C := RX9) (T := TX9) (N := 8) (ci := 5) (v := .int t_place_14) (ws' := (wd_X9_next cI cZ h_t h_t_bytes t_length r_3 t_token t_value t_kind t_desk t_place_14 t_bytes)) X iw_X9_next_X9 tyX9 tyX9_ok nmX9 0 rfl rfl 7 (by decide) lk_X9_next_28 rfl (tyX9_ok 7 (by decide)) rfl rfl (Nat.le_of_ble_eq_true rfl) dX9_next_213 rfl ?_
        refine g_aload_n X dX9_next_216 rfl 0 rfl ?_
        refine g_iload_n X dX9_next_217 rfl 1 rfl ?_
        refine g_bipush (v := 59) X dX9_next_218 (by decide) ?_
        refine g_icmp_ne (tgt := 227) X dX9_next_220 (by decide) (fun hc_15 => ?_) (fun hc_15 => ?_)
        · replace hf := ite_f hc_15 hf
          refine g_iconst (v := 1) X dX9_next_227 (by decide) ?_
          refine g_lv X (lv' := []) [] rfl ?_
          exact J228 r_3 t_token t_value t_place_14 1 hf
        · replace hf := ite_t hc_15 hf
          refine g_iconst (v := 3) X dX9_next_223 (by decide) ?_
          refine g_goto (tgt := 228) X dX9_next_224 (by decide) ?_
          refine g_lv X (lv' := []) [] rfl ?_
          exact J228 r_3 t_token t_value t_place_14 3 hf
      · replace hf := ite_f hc_13 hf
        refine g_aload_n X dX9_next_161 rfl 0 rfl ?_
        refine g_aload_n X dX9_next_162 rfl 0 rfl ?_
        refine g_bipush (v := 48) X dX9_next_163 (by decide) ?_
        refine g_bipush (v := 57) X dX9_next_165 (by decide) ?_
        obtain ⟨r_16, hk_17, hf⟩ := ob1_out hf
        refine g_cVR (st := [.ref h_t]) (st1 := [.int r_16, .ref h_t]) (C := RX9) (ci := 5) (q0 := 0) X (c_X9_behind l D cI cZ h_t h_t_bytes t_length r_3 t_token t_value t_kind t_desk r_3 t_bytes 48 57 _ hk_17) (Or.inl rfl) 2 gX9_next_X9_behind rfl hv_X9_behind ⟨Nat.le_of_ble_eq_true rfl, Nat.le_of_ble_eq_true rfl⟩ rfl rfl (Nat.le_of_ble_eq_true rfl) ⟨rfl, rfl⟩ (Nat.zero_le _) (Nat.zero_le _) rfl rfl rfl dX9_next_167 [0, 1] rfl rfl rfl ?_
        refine g_put (C := RX9) (T := TX9) (N := 8) (ci := 5) (v := .int r_16) (ws' := (wd_X9_next cI cZ h_t h_t_bytes t_length r_3 t_token t_value t_kind t_desk r_16 t_bytes)) X iw_X9_next_X9 tyX9 tyX9_ok nmX9 0 rfl rfl 7 (by decide) lk_X9_next_28 rfl (tyX9_ok 7 (by decide)) rfl rfl (Nat.le_of_ble_eq_true rfl) dX9_next_170 rfl ?_
        refine g_aload_n X dX9_next_173 rfl 0 rfl ?_
        refine g_aload_n X dX9_next_174 rfl 0 rfl ?_
        refine g_get (C := RX9) (T := TX9) (N := 8) (ci := 5) (v := (.int r_16)) X iw_X9_next_X9 0 rfl rfl 7 (by decide) lk_X9_next_28 rfl dX9_next_175 ?_
        refine g_aload_n X dX9_next_178 rfl 0 rfl ?_
        refine g_get (C := RX9) (T := TX9) (N := 8) (ci := 5) (v := (.int r_3)) X iw_X9_next_X9 0 rfl rfl 2 (by decide) lk_X9_next_84 rfl dX9_next_179 ?_
        refine g_isub X dX9_next_182 ?_
        refine g_iconst (v := 2) X dX9_next_183 (by decide) ?_
        refine g_icmp_gt (tgt := 191) X dX9_next_184 (by decide) (fun hc_18 => ?_) (fun hc_18 => ?_)
        · replace hf := ite_t hc_18 hf
          refine g_iconst (v := 1) X dX9_next_191 (by decide) ?_
          refine g_lv X (lv' := [(0, .ref h_t)]) [0] rfl ?_
          exact J192 r_3 t_token t_value r_16 1 hf
        · replace hf := ite_f hc_18 hf
          refine g_iconst (v := 2) X dX9_next_187 (by decide) ?_
          refine g_goto (tgt := 192) X dX9_next_188 (by decide) ?_
          refine g_lv X (lv' := [(0, .ref h_t)]) [0] rfl ?_
          exact J192 r_3 t_token t_value r_16 2 hf
    · replace hf := ite_f hc_10 hf
      refine g_aload_n X dX9_next_62 rfl 0 rfl ?_
      refine g_aload_n X dX9_next_63 rfl 0 rfl ?_
      refine g_bipush (v := 97) X dX9_next_64 (by decide) ?_
      refine g_bipush (v := 122) X dX9_next_66 (by decide) ?_
      obtain ⟨r_19, hk_20, hf⟩ := ob1_out hf
      refine g_cVR (st := [.ref h_t]) (st1 := [.int r_19, .ref h_t]) (C := RX9) (ci := 5) (q0 := 0) X (c_X9_behind l D cI cZ h_t h_t_bytes t_length r_3 t_token t_value t_kind t_desk r_3 t_bytes 97 122 _ hk_20) (Or.inl rfl) 2 gX9_next_X9_behind rfl hv_X9_behind ⟨Nat.le_of_ble_eq_true rfl, Nat.le_of_ble_eq_true rfl⟩ rfl rfl (Nat.le_of_ble_eq_true rfl) ⟨rfl, rfl⟩ (Nat.zero_le _) (Nat.zero_le _) rfl rfl rfl dX9_next_68 [0, 1] rfl rfl rfl ?_
      refine g_put (C := RX9) (T := TX9) (N := 8) (ci := 5) (v := .int r_19) (ws' := (wd_X9_next cI cZ h_t h_t_bytes t_length r_3 t_token t_value t_kind t_desk r_19 t_bytes)) X iw_X9_next_X9 tyX9 tyX9_ok nmX9 0 rfl rfl 7 (by decide) lk_X9_next_28 rfl (tyX9_ok 7 (by decide)) rfl rfl (Nat.le_of_ble_eq_true rfl) dX9_next_71 rfl ?_
      refine g_aload_n X dX9_next_74 rfl 0 rfl ?_
      refine g_aload_n X dX9_next_75 rfl 0 rfl ?_
      refine g_ld (q := q) (i := 0) (tx := "office") X rfl (by decide) rfl rfl dX9_next_76 ?_
      obtain ⟨r_21, hk_22, hf⟩ := ob1_out hf
      refine g_cVR (st := [.ref h_t]) (st1 := [.int r_21, .ref h_t]) (C := RX9) (ci := 5) (q0 := 0) X (c_X9_isWord l D cI cZ q h_t h_t_bytes t_length r_3 t_token t_value t_kind t_desk r_19 t_bytes 0 (by decide) _ hk_22) (Or.inr rfl) 1 gX9_next_X9_isWord rfl hv_X9_isWord ⟨Nat.le_of_ble_eq_true rfl, Nat.le_of_ble_eq_true rfl⟩ rfl rfl (Nat.le_of_ble_eq_true rfl) ⟨rfl, rfl⟩ (Nat.zero_le _) (Nat.zero_le _) rfl rfl rfl dX9_next_78 [0, 1] rfl rfl rfl ?_
      refine g_if_eq (tgt := 88) X dX9_next_81 (by decide) (fun hc_23 => ?_) (fun hc_23 => ?_)
      · replace hf := ite_t hc_23 hf
        refine g_aload_n X dX9_next_88 rfl 0 rfl ?_
        refine g_ld (q := q) (i := 1) (tx := "clerk") X rfl (by decide) rfl rfl dX9_next_89 ?_
        obtain ⟨r_24, hk_25, hf⟩ := ob1_out hf
        refine g_cVR (st := [.ref h_t]) (st1 := [.int r_24, .ref h_t]) (C := RX9) (ci := 5) (q0 := 0) X (c_X9_isWord l D cI cZ q h_t h_t_bytes t_length r_3 t_token t_value t_kind t_desk r_19 t_bytes 1 (by decide) _ hk_25) (Or.inr rfl) 1 gX9_next_X9_isWord rfl hv_X9_isWord ⟨Nat.le_of_ble_eq_true rfl, Nat.le_of_ble_eq_true rfl⟩ rfl rfl (Nat.le_of_ble_eq_true rfl) ⟨rfl, rfl⟩ (Nat.zero_le _) (Nat.zero_le _) rfl rfl rfl dX9_next_91 [0, 1] rfl rfl rfl ?_
        refine g_if_eq (tgt := 101) X dX9_next_94 (by decide) (fun hc_26 => ?_) (fun hc_26 => ?_)
        · replace hf := ite_t hc_26 hf
          refine g_aload_n X dX9_next_101 rfl 0 rfl ?_
          refine g_ld (q := q) (i := 2) (tx := "magnet") X rfl (by decide) rfl rfl dX9_next_102 ?_
          obtain ⟨r_27, hk_28, hf⟩ := ob1_out hf
          refine g_cVR (st := [.ref h_t]) (st1 := [.int r_27, .ref h_t]) (C := RX9) (ci := 5) (q0 := 0) X (c_X9_isWord l D cI cZ q h_t h_t_bytes t_length r_3 t_token t_value t_kind t_desk r_19 t_bytes 2 (by decide) _ hk_28) (Or.inr rfl) 1 gX9_next_X9_isWord rfl hv_X9_isWord ⟨Nat.le_of_ble_eq_true rfl, Nat.le_of_ble_eq_true rfl⟩ rfl rfl (Nat.le_of_ble_eq_true rfl) ⟨rfl, rfl⟩ (Nat.zero_le _) (Nat.zero_le _) rfl rfl rfl dX9_next_104 [0, 1] rfl rfl rfl ?_
          refine g_if_eq (tgt := 115) X dX9_next_107 (by decide) (fun hc_29 => ?_) (fun hc_29 => ?_)
          · replace hf := ite_t hc_29 hf
            refine g_aload_n X dX9_next_115 rfl 0 rfl ?_
            refine g_ld (q := q) (i := 3) (tx := "hook") X rfl (by decide) rfl rfl dX9_next_116 ?_
            obtain ⟨r_30, hk_31, hf⟩ := ob1_out hf
            refine g_cVR (st := [.ref h_t]) (st1 := [.int r_30, .ref h_t]) (C := RX9) (ci := 5) (q0 := 0) X (c_X9_isWord l D cI cZ q h_t h_t_bytes t_length r_3 t_token t_value t_kind t_desk r_19 t_bytes 3 (by decide) _ hk_31) (Or.inr rfl) 1 gX9_next_X9_isWord rfl hv_X9_isWord ⟨Nat.le_of_ble_eq_true rfl, Nat.le_of_ble_eq_true rfl⟩ rfl rfl (Nat.le_of_ble_eq_true rfl) ⟨rfl, rfl⟩ (Nat.zero_le _) (Nat.zero_le _) rfl rfl rfl dX9_next_118 [0, 1] rfl rfl rfl ?_
            refine g_if_eq (tgt := 129) X dX9_next_121 (by decide) (fun hc_32 => ?_) (fun hc_32 => ?_)
            · replace hf := ite_t hc_32 hf
              refine g_aload_n X dX9_next_129 rfl 0 rfl ?_
              refine g_ld (q := q) (i := 4) (tx := "days") X rfl (by decide) rfl rfl dX9_next_130 ?_
              obtain ⟨r_33, hk_34, hf⟩ := ob1_out hf
              refine g_cVR (st := [.ref h_t]) (st1 := [.int r_33, .ref h_t]) (C := RX9) (ci := 5) (q0 := 0) X (c_X9_isWord l D cI cZ q h_t h_t_bytes t_length r_3 t_token t_value t_kind t_desk r_19 t_bytes 4 (by decide) _ hk_34) (Or.inr rfl) 1 gX9_next_X9_isWord rfl hv_X9_isWord ⟨Nat.le_of_ble_eq_true rfl, Nat.le_of_ble_eq_true rfl⟩ rfl rfl (Nat.le_of_ble_eq_true rfl) ⟨rfl, rfl⟩ (Nat.zero_le _) (Nat.zero_le _) rfl rfl rfl dX9_next_132 [0, 1] rfl rfl rfl ?_
              refine g_if_eq (tgt := 143) X dX9_next_135 (by decide) (fun hc_35 => ?_) (fun hc_35 => ?_)
              · replace hf := ite_t hc_35 hf
                refine g_iconst (v := 1) X dX9_next_143 (by decide) ?_
                refine g_lv X (lv' := []) [] rfl ?_
                exact J144 r_3 t_token t_value r_19 1 hf
              · replace hf := ite_f hc_35 hf
                refine g_bipush (v := 8) X dX9_next_138 (by decide) ?_
                refine g_goto (tgt := 144) X dX9_next_140 (by decide) ?_
                refine g_lv X (lv' := []) [] rfl ?_
                exact J144 r_3 t_token t_value r_19 8 hf
            · replace hf := ite_f hc_32 hf
              refine g_bipush (v := 7) X dX9_next_124 (by decide) ?_
              refine g_goto (tgt := 144) X dX9_next_126 (by decide) ?_
              refine g_lv X (lv' := []) [] rfl ?_
              exact J144 r_3 t_token t_value r_19 7 hf
          · replace hf := ite_f hc_29 hf
            refine g_bipush (v := 6) X dX9_next_110 (by decide) ?_
            refine g_goto (tgt := 144) X dX9_next_112 (by decide) ?_
            refine g_lv X (lv' := []) [] rfl ?_
            exact J144 r_3 t_token t_value r_19 6 hf
        · replace hf := ite_f hc_26 hf
          refine g_iconst (v := 5) X dX9_next_97 (by decide) ?_
          refine g_goto (tgt := 144) X dX9_next_98 (by decide) ?_
          refine g_lv X (lv' := []) [] rfl ?_
          exact J144 r_3 t_token t_value r_19 5 hf
      · replace hf := ite_f hc_23 hf
        refine g_iconst (v := 4) X dX9_next_84 (by decide) ?_
        refine g_goto (tgt := 144) X dX9_next_85 (by decide) ?_
        refine g_lv X (lv' := []) [] rfl ?_
        exact J144 r_3 t_token t_value r_19 4 hf
  · replace hf := ite_f hc_7 hf
    refine g_aload_n X dX9_next_43 rfl 0 rfl ?_
    refine g_iconst (v := 0) X dX9_next_44 (by decide) ?_
    refine g_put (C := RX9) (T := TX9) (N := 8) (ci := 5) (v := .int 0) (ws' := (wd_X9_next cI cZ h_t h_t_bytes t_length r_3 0 t_value t_kind t_desk r_3 t_bytes)) X iw_X9_next_X9 tyX9 tyX9_ok nmX9 0 rfl rfl 3 (by decide) lk_X9_next_34 rfl (tyX9_ok 3 (by decide)) rfl rfl (Nat.le_of_ble_eq_true rfl) dX9_next_45 rfl ?_
    refine g_goto (tgt := 231) X dX9_next_48 (by decide) ?_
    exact hR _ _ _ dX9_next_231 (kV_in (u := (r_3, 0, t_value, r_3)) hf)
def wd_X9_stops (cI cZ : ClassId) (h_t : Nat) (h_t_bytes : Nat) (t_length : Int32) (t_start : Int32) (t_token : Int32) (t_value : Int32) (t_kind : Int32) (t_desk : Int32) (t_place : Int32) (t_bytes : (Nat → Int32)) : va_W := [(h_t, .inr (5, [.ref h_t_bytes, .int t_length, .int t_start, .int t_token, .int t_value, .int t_kind, .int t_desk, .int t_place])), (h_t_bytes, .inl (cI, 150, .inl t_bytes))]
abbrev rm_X9_stops : Room := { frames := 6, cells := 0, slots := 0, locals := 129 }
theorem hv_X9_stops : yX9_stops.cls = RX9 ∧ yX9_stops.cls ≠ "java/lang/invoke/MethodHandle" ∧ yX9_stops.cls ≠ "java/lang/invoke/VarHandle" ∧ (parseMethodDescriptor yX9_stops.desc).map (fun d => d.parameters.length) = some 0 := by decide +kernel
theorem iw_X9_stops_X9 : ∀ w ∈ u_ws RX9 TX9 8, w ∈ wsX9_stops := by decide +kernel
theorem lk_X9_stops_34 : Cond.fieldLink RX9 34 "ClerkChains$Text" "token" "I" ∈ wsX9_stops := by decide +kernel
set_option maxHeartbeats 4000000 in
set_option maxRecDepth 100000 in
theorem c_X9_stops (l : Launch) (D : va_G) (cI cZ : ClassId) (q : (Nat → Nat) × (Nat → Nat)) (h_t : Nat) (h_t_bytes : Nat) (t_length : Int32) (t_start : Int32) (t_token : Int32) (t_value : Int32) (t_kind : Int32) (t_desk : Int32) (t_place : Int32) (t_bytes : (Nat → Int32)) (res : Int32 × Int32 × Int32 × Int32 × Int32) (hf : f_X9_stops t_length t_start t_token t_value t_place t_bytes = some res) : MetG l yX9_stops wsX9_stops rm_X9_stops D cI cZ (some q) [.ref h_t] (wd_X9_stops cI cZ h_t h_t_bytes t_length t_start t_token t_value t_kind t_desk t_place t_bytes) (kV res (fun u => some (.int u.1)) (fun u => (wd_X9_stops cI cZ h_t h_t_bytes t_length (u.2.1) (u.2.2.1) (u.2.2.2.1) t_kind t_desk (u.2.2.2.2) t_bytes))) := by
  refine metG_of (cc := cX9_stops) (maxL := 1) (ret := (some .boolean)) (own := RX9) (lv0 := [(0, .ref h_t)]) (ini := false) (by decide) rfl (Nat.le_of_ble_eq_true rfl) rfl rfl (fun h => by cases h) (fun G X hR => ?_)
  replace hR := rt_bool hR
  unfold f_X9_stops at hf
  refine g_aload_n X dX9_stops_0 rfl 0 rfl ?_
  obtain ⟨t_start_1, t_token_2, t_value_3, t_place_4, hk_5, hf⟩ := ob4_out hf
  refine g_cVW (st := []) (st1 := []) (C := RX9) (ci := 5) (q0 := 0) (ws' := (wd_X9_stops cI cZ h_t h_t_bytes t_length t_start_1 t_token_2 t_value_3 t_kind t_desk t_place_4 t_bytes)) X (c_X9_next l D cI cZ q h_t h_t_bytes t_length t_start t_token t_value t_kind t_desk t_place t_bytes _ hk_5) (Or.inr rfl) 0 gX9_stops_X9_next rfl hv_X9_next ⟨Nat.le_of_ble_eq_true rfl, Nat.le_of_ble_eq_true rfl⟩ rfl rfl (Nat.le_of_ble_eq_true rfl) ⟨rfl, rfl⟩ (Nat.zero_le _) (Nat.zero_le _) rfl rfl rfl dX9_stops_1 [0, 1] rfl rfl [] rfl rfl (by decide) [0, 1] rfl rfl rfl ?_
  refine g_aload_n X dX9_stops_4 rfl 0 rfl ?_
  refine g_get (C := RX9) (T := TX9) (N := 8) (ci := 5) (v := (.int t_token_2)) X iw_X9_stops_X9 0 rfl rfl 3 (by decide) lk_X9_stops_34 rfl dX9_stops_5 ?_
  refine g_iconst (v := 3) X dX9_stops_8 (by decide) ?_
  refine g_icmp_ne (tgt := 16) X dX9_stops_9 (by decide) (fun hc_6 => ?_) (fun hc_6 => ?_)
  · replace hf := ite_f hc_6 hf
    refine g_iconst (v := 0) X dX9_stops_16 (by decide) ?_
    exact hR _ _ _ _ (Or.inl rfl) dX9_stops_17 (kV_in (u := (0, t_start_1, t_token_2, t_value_3, t_place_4)) hf)
  · replace hf := ite_t hc_6 hf
    refine g_iconst (v := 1) X dX9_stops_12 (by decide) ?_
    refine g_goto (tgt := 17) X dX9_stops_13 (by decide) ?_
    exact hR _ _ _ _ (Or.inr rfl) dX9_stops_17 (kV_in (u := (1, t_start_1, t_token_2, t_value_3, t_place_4)) hf)
def wd_X9_readNumber (cI cZ : ClassId) (h_t : Nat) (h_t_bytes : Nat) (t_length : Int32) (t_start : Int32) (t_token : Int32) (t_value : Int32) (t_kind : Int32) (t_desk : Int32) (t_place : Int32) (t_bytes : (Nat → Int32)) : va_W := [(h_t, .inr (5, [.ref h_t_bytes, .int t_length, .int t_start, .int t_token, .int t_value, .int t_kind, .int t_desk, .int t_place])), (h_t_bytes, .inl (cI, 150, .inl t_bytes))]
abbrev rm_X9_readNumber : Room := { frames := 6, cells := 0, slots := 0, locals := 129 }
theorem hv_X9_readNumber : yX9_readNumber.cls = RX9 ∧ yX9_readNumber.cls ≠ "java/lang/invoke/MethodHandle" ∧ yX9_readNumber.cls ≠ "java/lang/invoke/VarHandle" ∧ (parseMethodDescriptor yX9_readNumber.desc).map (fun d => d.parameters.length) = some 2 := by decide +kernel
theorem iw_X9_readNumber_X9 : ∀ w ∈ u_ws RX9 TX9 8, w ∈ wsX9_readNumber := by decide +kernel
theorem lk_X9_readNumber_34 : Cond.fieldLink RX9 34 "ClerkChains$Text" "token" "I" ∈ wsX9_readNumber := by decide +kernel
theorem lk_X9_readNumber_59 : Cond.fieldLink RX9 59 "ClerkChains$Text" "value" "I" ∈ wsX9_readNumber := by decide +kernel
theorem lk_X9_readNumber_iX11 : Cond.initialized RX11 ∈ wsX9_readNumber := by decide +kernel
theorem lk_X9_readNumber_sX11_within : Cond.static yX11_within ∈ wsX9_readNumber := by decide +kernel
set_option maxHeartbeats 4000000 in
set_option maxRecDepth 100000 in
theorem c_X9_readNumber (l : Launch) (D : va_G) (cI cZ : ClassId) (q : (Nat → Nat) × (Nat → Nat)) (h_t : Nat) (h_t_bytes : Nat) (t_length : Int32) (t_start : Int32) (t_token : Int32) (t_value : Int32) (t_kind : Int32) (t_desk : Int32) (t_place : Int32) (t_bytes : (Nat → Int32)) (v1 : Int32) (v2 : Int32) (res : Int32 × Int32 × Int32 × Int32 × Int32) (hf : f_X9_readNumber t_length t_start t_token t_value t_place t_bytes v1 v2 = some res) : MetG l yX9_readNumber wsX9_readNumber rm_X9_readNumber D cI cZ (some q) [.ref h_t, .int v1, .int v2] (wd_X9_readNumber cI cZ h_t h_t_bytes t_length t_start t_token t_value t_kind t_desk t_place t_bytes) (kV res (fun u => some (.int u.1)) (fun u => (wd_X9_readNumber cI cZ h_t h_t_bytes t_length (u.2.1) (u.2.2.1) (u.2.2.2.1) t_kind t_desk (u.2.2.2.2) t_bytes))) := by
  refine metG_of (cc := cX9_readNumber) (maxL := 3) (ret := (some .boolean)) (own := RX9) (lv0 := [(0, .ref h_t), (1, .int v1), (2, .int v2)]) (ini := false) (by decide) rfl (Nat.le_of_ble_eq_true rfl) rfl rfl (fun h => by cases h) (fun G X hR => ?_)
  replace hR := rt_bool hR
  unfold f_X9_readNumber at hf
  refine g_aload_n X dX9_readNumber_0 rfl 0 rfl ?_
  obtain ⟨t_start_1, t_token_2, t_value_3, t_place_4, hk_5, hf⟩ := ob4_out hf
  refine g_cVW (st := []) (st1 := []) (C := RX9) (ci := 5) (q0 := 0) (ws' := (wd_X9_readNumber cI cZ h_t h_t_bytes t_length t_start_1 t_token_2 t_value_3 t_kind t_desk t_place_4 t_bytes)) X (c_X9_next l D cI cZ q h_t h_t_bytes t_length t_start t_token t_value t_kind t_desk t_place t_bytes _ hk_5) (Or.inr rfl) 0 gX9_readNumber_X9_next rfl hv_X9_next ⟨Nat.le_of_ble_eq_true rfl, Nat.le_of_ble_eq_true rfl⟩ rfl rfl (Nat.le_of_ble_eq_true rfl) ⟨rfl, rfl⟩ (Nat.zero_le _) (Nat.zero_le _) rfl rfl rfl dX9_readNumber_1 [0, 1] rfl rfl [] rfl rfl (by decide) [0, 1] rfl rfl rfl ?_
  refine g_aload_n X dX9_readNumber_4 rfl 0 rfl ?_
  refine g_get (C := RX9) (T := TX9) (N := 8) (ci := 5) (v := (.int t_token_2)) X iw_X9_readNumber_X9 0 rfl rfl 3 (by decide) lk_X9_readNumber_34 rfl dX9_readNumber_5 ?_
  refine g_iconst (v := 2) X dX9_readNumber_8 (by decide) ?_
  refine g_icmp_ne (tgt := 28) X dX9_readNumber_9 (by decide) (fun hc_6 => ?_) (fun hc_6 => ?_)
  · replace hf := ite_f hc_6 hf
    refine g_iconst (v := 0) X dX9_readNumber_28 (by decide) ?_
    exact hR _ _ _ _ (Or.inl rfl) dX9_readNumber_29 (kV_in (u := (0, t_start_1, t_token_2, t_value_3, t_place_4)) hf)
  · replace hf := ite_t hc_6 hf
    refine g_aload_n X dX9_readNumber_12 rfl 0 rfl ?_
    refine g_get (C := RX9) (T := TX9) (N := 8) (ci := 5) (v := (.int t_value_3)) X iw_X9_readNumber_X9 0 rfl rfl 4 (by decide) lk_X9_readNumber_59 rfl dX9_readNumber_13 ?_
    refine g_iload_n X dX9_readNumber_16 rfl 1 rfl ?_
    refine g_iload_n X dX9_readNumber_17 rfl 2 rfl ?_
    obtain ⟨r_7, hk_8, hf⟩ := ob1_out hf
    refine g_cNR (st := []) (st1 := [.int r_7]) X (c_X11_within l D cI cZ t_value_3 v1 v2 _ hk_8) (Or.inl rfl) 3 gX9_readNumber_X11_within_n105 (by decide +kernel) lk_X9_readNumber_iX11 lk_X9_readNumber_sX11_within rfl hs_X11_within ⟨Nat.le_of_ble_eq_true rfl, Nat.le_of_ble_eq_true rfl⟩ rfl rfl (Nat.le_of_ble_eq_true rfl) ⟨rfl, rfl⟩ (Nat.zero_le _) (Nat.zero_le _) dX9_readNumber_18 [] rfl rfl rfl ?_
    refine g_if_eq (tgt := 28) X dX9_readNumber_21 (by decide) (fun hc_9 => ?_) (fun hc_9 => ?_)
    · replace hf := ite_t hc_9 hf
      refine g_iconst (v := 0) X dX9_readNumber_28 (by decide) ?_
      exact hR _ _ _ _ (Or.inl rfl) dX9_readNumber_29 (kV_in (u := (0, t_start_1, t_token_2, t_value_3, t_place_4)) hf)
    · replace hf := ite_f hc_9 hf
      refine g_iconst (v := 1) X dX9_readNumber_24 (by decide) ?_
      refine g_goto (tgt := 29) X dX9_readNumber_25 (by decide) ?_
      exact hR _ _ _ _ (Or.inr rfl) dX9_readNumber_29 (kV_in (u := (1, t_start_1, t_token_2, t_value_3, t_place_4)) hf)
def wd_X9_readThree (cI cZ : ClassId) (h_t : Nat) (h_t_bytes : Nat) (t_length : Int32) (t_start : Int32) (t_token : Int32) (t_value : Int32) (t_kind : Int32) (t_desk : Int32) (t_place : Int32) (t_bytes : (Nat → Int32)) : va_W := [(h_t, .inr (5, [.ref h_t_bytes, .int t_length, .int t_start, .int t_token, .int t_value, .int t_kind, .int t_desk, .int t_place])), (h_t_bytes, .inl (cI, 150, .inl t_bytes))]
abbrev rm_X9_readThree : Room := { frames := 7, cells := 0, slots := 0, locals := 151 }
theorem hv_X9_readThree : yX9_readThree.cls = RX9 ∧ yX9_readThree.cls ≠ "java/lang/invoke/MethodHandle" ∧ yX9_readThree.cls ≠ "java/lang/invoke/VarHandle" ∧ (parseMethodDescriptor yX9_readThree.desc).map (fun d => d.parameters.length) = some 0 := by decide +kernel
theorem iw_X9_readThree_X9 : ∀ w ∈ u_ws RX9 TX9 8, w ∈ wsX9_readThree := by decide +kernel
theorem lk_X9_readThree_59 : Cond.fieldLink RX9 59 "ClerkChains$Text" "value" "I" ∈ wsX9_readThree := by decide +kernel
theorem lk_X9_readThree_53 : Cond.fieldLink RX9 53 "ClerkChains$Text" "kind" "I" ∈ wsX9_readThree := by decide +kernel
theorem lk_X9_readThree_56 : Cond.fieldLink RX9 56 "ClerkChains$Text" "desk" "I" ∈ wsX9_readThree := by decide +kernel
set_option maxHeartbeats 4000000 in
set_option maxRecDepth 100000 in
theorem c_X9_readThree (l : Launch) (D : va_G) (cI cZ : ClassId) (q : (Nat → Nat) × (Nat → Nat)) (h_t : Nat) (h_t_bytes : Nat) (t_length : Int32) (t_start : Int32) (t_token : Int32) (t_value : Int32) (t_kind : Int32) (t_desk : Int32) (t_place : Int32) (t_bytes : (Nat → Int32)) (res : Int32 × Int32 × Int32 × Int32 × Int32 × Int32 × Int32) (hf : f_X9_readThree t_length t_start t_token t_value t_kind t_desk t_place t_bytes = some res) : MetG l yX9_readThree wsX9_readThree rm_X9_readThree D cI cZ (some q) [.ref h_t] (wd_X9_readThree cI cZ h_t h_t_bytes t_length t_start t_token t_value t_kind t_desk t_place t_bytes) (kV res (fun u => some (.int u.1)) (fun u => (wd_X9_readThree cI cZ h_t h_t_bytes t_length (u.2.1) (u.2.2.1) (u.2.2.2.1) (u.2.2.2.2.1) (u.2.2.2.2.2.1) (u.2.2.2.2.2.2) t_bytes))) := by
  refine metG_of (cc := cX9_readThree) (maxL := 1) (ret := (some .boolean)) (own := RX9) (lv0 := [(0, .ref h_t)]) (ini := false) (by decide) rfl (Nat.le_of_ble_eq_true rfl) rfl rfl (fun h => by cases h) (fun G X hR => ?_)
  replace hR := rt_bool hR
  unfold f_X9_readThree at hf
  refine g_aload_n X dX9_readThree_0 rfl 0 rfl ?_
  refine g_iconst (v := 0) X dX9_readThree_1 (by decide) ?_
  refine g_iconst (v := 5) X dX9_readThree_2 (by decide) ?_
  obtain ⟨r_1, t_start_2, t_token_3, t_value_4, t_place_5, hk_6, hf⟩ := ob5_out hf
  refine g_cVW (st := []) (st1 := [.int r_1]) (C := RX9) (ci := 5) (q0 := 0) (ws' := (wd_X9_readThree cI cZ h_t h_t_bytes t_length t_start_2 t_token_3 t_value_4 t_kind t_desk t_place_5 t_bytes)) X (c_X9_readNumber l D cI cZ q h_t h_t_bytes t_length t_start t_token t_value t_kind t_desk t_place t_bytes 0 5 _ hk_6) (Or.inr rfl) 2 gX9_readThree_X9_readNumber rfl hv_X9_readNumber ⟨Nat.le_of_ble_eq_true rfl, Nat.le_of_ble_eq_true rfl⟩ rfl rfl (Nat.le_of_ble_eq_true rfl) ⟨rfl, rfl⟩ (Nat.zero_le _) (Nat.zero_le _) rfl rfl rfl dX9_readThree_3 [0, 1] rfl rfl [] rfl rfl (by decide) [0, 1] rfl rfl rfl ?_
  refine g_if_ne (tgt := 11) X dX9_readThree_6 (by decide) (fun hc_7 => ?_) (fun hc_7 => ?_)
  · replace hf := ite_f hc_7 hf
    refine g_aload_n X dX9_readThree_11 rfl 0 rfl ?_
    refine g_aload_n X dX9_readThree_12 rfl 0 rfl ?_
    refine g_get (C := RX9) (T := TX9) (N := 8) (ci := 5) (v := (.int t_value_4)) X iw_X9_readThree_X9 0 rfl rfl 4 (by decide) lk_X9_readThree_59 rfl dX9_readThree_13 ?_
    refine g_put (C := RX9) (T := TX9) (N := 8) (ci := 5) (v := .int t_value_4) (ws' := (wd_X9_readThree cI cZ h_t h_t_bytes t_length t_start_2 t_token_3 t_value_4 t_value_4 t_desk t_place_5 t_bytes)) X iw_X9_readThree_X9 tyX9 tyX9_ok nmX9 0 rfl rfl 5 (by decide) lk_X9_readThree_53 rfl (tyX9_ok 5 (by decide)) rfl rfl (Nat.le_of_ble_eq_true rfl) dX9_readThree_16 rfl ?_
    refine g_aload_n X dX9_readThree_19 rfl 0 rfl ?_
    refine g_iconst (v := 0) X dX9_readThree_20 (by decide) ?_
    refine g_bipush (v := 11) X dX9_readThree_21 (by decide) ?_
    obtain ⟨r_8, t_start_9, t_token_10, t_value_11, t_place_12, hk_13, hf⟩ := ob5_out hf
    refine g_cVW (st := []) (st1 := [.int r_8]) (C := RX9) (ci := 5) (q0 := 0) (ws' := (wd_X9_readThree cI cZ h_t h_t_bytes t_length t_start_9 t_token_10 t_value_11 t_value_4 t_desk t_place_12 t_bytes)) X (c_X9_readNumber l D cI cZ q h_t h_t_bytes t_length t_start_2 t_token_3 t_value_4 t_value_4 t_desk t_place_5 t_bytes 0 11 _ hk_13) (Or.inr rfl) 2 gX9_readThree_X9_readNumber rfl hv_X9_readNumber ⟨Nat.le_of_ble_eq_true rfl, Nat.le_of_ble_eq_true rfl⟩ rfl rfl (Nat.le_of_ble_eq_true rfl) ⟨rfl, rfl⟩ (Nat.zero_le _) (Nat.zero_le _) rfl rfl rfl dX9_readThree_23 [0, 1] rfl rfl [] rfl rfl (by decide) [0, 1] rfl rfl rfl ?_
    refine g_if_ne (tgt := 31) X dX9_readThree_26 (by decide) (fun hc_14 => ?_) (fun hc_14 => ?_)
    · replace hf := ite_f hc_14 hf
      refine g_aload_n X dX9_readThree_31 rfl 0 rfl ?_
      refine g_aload_n X dX9_readThree_32 rfl 0 rfl ?_
      refine g_get (C := RX9) (T := TX9) (N := 8) (ci := 5) (v := (.int t_value_11)) X iw_X9_readThree_X9 0 rfl rfl 4 (by decide) lk_X9_readThree_59 rfl dX9_readThree_33 ?_
      refine g_put (C := RX9) (T := TX9) (N := 8) (ci := 5) (v := .int t_value_11) (ws' := (wd_X9_readThree cI cZ h_t h_t_bytes t_length t_start_9 t_token_10 t_value_11 t_value_4 t_value_11 t_place_12 t_bytes)) X iw_X9_readThree_X9 tyX9 tyX9_ok nmX9 0 rfl rfl 6 (by decide) lk_X9_readThree_56 rfl (tyX9_ok 6 (by decide)) rfl rfl (Nat.le_of_ble_eq_true rfl) dX9_readThree_36 rfl ?_
      refine g_aload_n X dX9_readThree_39 rfl 0 rfl ?_
      refine g_iconst (v := 1) X dX9_readThree_40 (by decide) ?_
      refine g_bipush (v := 9) X dX9_readThree_41 (by decide) ?_
      obtain ⟨r_15, t_start_16, t_token_17, t_value_18, t_place_19, hk_20, hf⟩ := ob5_out hf
      refine g_cVW (st := []) (st1 := [.int r_15]) (C := RX9) (ci := 5) (q0 := 0) (ws' := (wd_X9_readThree cI cZ h_t h_t_bytes t_length t_start_16 t_token_17 t_value_18 t_value_4 t_value_11 t_place_19 t_bytes)) X (c_X9_readNumber l D cI cZ q h_t h_t_bytes t_length t_start_9 t_token_10 t_value_11 t_value_4 t_value_11 t_place_12 t_bytes 1 9 _ hk_20) (Or.inr rfl) 2 gX9_readThree_X9_readNumber rfl hv_X9_readNumber ⟨Nat.le_of_ble_eq_true rfl, Nat.le_of_ble_eq_true rfl⟩ rfl rfl (Nat.le_of_ble_eq_true rfl) ⟨rfl, rfl⟩ (Nat.zero_le _) (Nat.zero_le _) rfl rfl rfl dX9_readThree_43 [0, 1] rfl rfl [] rfl rfl (by decide) [0, 1] rfl rfl rfl ?_
      obtain ⟨hz_21, hf⟩ := chb_out hf
      exact hR _ _ _ _ hz_21 dX9_readThree_46 (kV_in (u := (r_15, t_start_16, t_token_17, t_value_18, t_value_4, t_value_11, t_place_19)) hf)
    · replace hf := ite_t hc_14 hf
      refine g_iconst (v := 0) X dX9_readThree_29 (by decide) ?_
      exact hR _ _ _ _ (Or.inl rfl) dX9_readThree_30 (kV_in (u := (0, t_start_9, t_token_10, t_value_11, t_value_4, t_desk, t_place_12)) hf)
  · replace hf := ite_t hc_7 hf
    refine g_iconst (v := 0) X dX9_readThree_9 (by decide) ?_
    exact hR _ _ _ _ (Or.inl rfl) dX9_readThree_10 (kV_in (u := (0, t_start_2, t_token_3, t_value_4, t_kind, t_desk, t_place_5)) hf)
def wd_X9_readHook (cI cZ : ClassId) (h_t : Nat) (h_t_bytes : Nat) (h_p1 : Nat) (h_p1_cells : Nat) (t_length : Int32) (t_start : Int32) (t_token : Int32) (t_value : Int32) (t_kind : Int32) (t_desk : Int32) (t_place : Int32) (t_bytes : (Nat → Int32)) (p1_most : Int32) (p1_width : Int32) (p1_size : Int32) (p1_N : Nat) (p1_cells : (Nat → Int32)) : va_W := [(h_t, .inr (5, [.ref h_t_bytes, .int t_length, .int t_start, .int t_token, .int t_value, .int t_kind, .int t_desk, .int t_place])), (h_t_bytes, .inl (cI, 150, .inl t_bytes)), (h_p1, .inr (3, [.int p1_most, .int p1_width, .ref h_p1_cells, .int p1_size])), (h_p1_cells, .inl (cI, p1_N, .inl p1_cells))]
abbrev rm_X9_readHook : Room := { frames := 7, cells := 0, slots := 0, locals := 151 }
theorem hv_X9_readHook : yX9_readHook.cls = RX9 ∧ yX9_readHook.cls ≠ "java/lang/invoke/MethodHandle" ∧ yX9_readHook.cls ≠ "java/lang/invoke/VarHandle" ∧ (parseMethodDescriptor yX9_readHook.desc).map (fun d => d.parameters.length) = some 1 := by decide +kernel
theorem iw_X9_readHook_X9 : ∀ w ∈ u_ws RX9 TX9 8, w ∈ wsX9_readHook := by decide +kernel
theorem lk_X9_readHook_59 : Cond.fieldLink RX9 59 "ClerkChains$Text" "value" "I" ∈ wsX9_readHook := by decide +kernel
set_option maxHeartbeats 4000000 in
set_option maxRecDepth 100000 in
theorem c_X9_readHook (l : Launch) (D : va_G) (cI cZ : ClassId) (q : (Nat → Nat) × (Nat → Nat)) (h_t : Nat) (h_t_bytes : Nat) (h_p1 : Nat) (h_p1_cells : Nat) (t_length : Int32) (t_start : Int32) (t_token : Int32) (t_value : Int32) (t_kind : Int32) (t_desk : Int32) (t_place : Int32) (t_bytes : (Nat → Int32)) (p1_most : Int32) (p1_width : Int32) (p1_size : Int32) (p1_N : Nat) (p1_cells : (Nat → Int32)) (res : Int32 × Int32 × Int32 × Int32 × Int32 × (Nat → Int32)) (hf : f_X9_readHook t_length t_start t_token t_value t_place t_bytes p1_width p1_size p1_N p1_cells = some res) : MetG l yX9_readHook wsX9_readHook rm_X9_readHook D cI cZ (some q) [.ref h_t, .ref h_p1] (wd_X9_readHook cI cZ h_t h_t_bytes h_p1 h_p1_cells t_length t_start t_token t_value t_kind t_desk t_place t_bytes p1_most p1_width p1_size p1_N p1_cells) (kV res (fun u => some (.int u.1)) (fun u => (wd_X9_readHook cI cZ h_t h_t_bytes h_p1 h_p1_cells t_length (u.2.1) (u.2.2.1) (u.2.2.2.1) t_kind t_desk (u.2.2.2.2.1) t_bytes p1_most p1_width p1_size p1_N (u.2.2.2.2.2)))) := by
  refine metG_of (cc := cX9_readHook) (maxL := 4) (ret := (some .boolean)) (own := RX9) (lv0 := [(0, .ref h_t), (1, .ref h_p1)]) (ini := false) (by decide) rfl (Nat.le_of_ble_eq_true rfl) rfl rfl (fun h => by cases h) (fun G X hR => ?_)
  replace hR := rt_bool hR
  unfold f_X9_readHook at hf
  refine g_aload_n X dX9_readHook_0 rfl 1 rfl ?_
  obtain ⟨r_1, hk_2, hf⟩ := ob1_out hf
  refine g_cVR (st := []) (st1 := [.int r_1]) (C := RX7) (ci := 3) (q0 := 2) X (c_X7_size l D cI cZ h_p1 h_p1_cells p1_most p1_width p1_size _ hk_2) (Or.inl rfl) 0 gX9_readHook_X7_size rfl hv_X7_size ⟨Nat.le_of_ble_eq_true rfl, Nat.le_of_ble_eq_true rfl⟩ rfl rfl (Nat.le_of_ble_eq_true rfl) ⟨rfl, rfl⟩ (Nat.zero_le _) (Nat.zero_le _) rfl rfl rfl dX9_readHook_1 [2] rfl rfl rfl ?_
  refine g_iconst (v := 1) X dX9_readHook_4 (by decide) ?_
  refine g_isub X dX9_readHook_5 ?_
  obtain ⟨v2_3, ev2_3, hf⟩ := bnd_out hf
  refine g_nmI X ev2_3 ?_
  refine g_istore_n (lv' := [(0, .ref h_t), (1, .ref h_p1), (2, .int v2_3)]) X dX9_readHook_6 rfl (Nat.le_of_ble_eq_true rfl) [1, 2, 0] rfl ?_
  refine g_aload_n X dX9_readHook_7 rfl 0 rfl ?_
  refine g_iconst (v := 0) X dX9_readHook_8 (by decide) ?_
  refine g_iload_n X dX9_readHook_9 rfl 2 rfl ?_
  obtain ⟨r_4, t_start_5, t_token_6, t_value_7, t_place_8, hk_9, hf⟩ := ob5_out hf
  refine g_cVW (st := []) (st1 := [.int r_4]) (C := RX9) (ci := 5) (q0 := 0) (ws' := (wd_X9_readHook cI cZ h_t h_t_bytes h_p1 h_p1_cells t_length t_start_5 t_token_6 t_value_7 t_kind t_desk t_place_8 t_bytes p1_most p1_width p1_size p1_N p1_cells)) X (c_X9_readNumber l D cI cZ q h_t h_t_bytes t_length t_start t_token t_value t_kind t_desk t_place t_bytes 0 v2_3 _ hk_9) (Or.inr rfl) 2 gX9_readHook_X9_readNumber rfl hv_X9_readNumber ⟨Nat.le_of_ble_eq_true rfl, Nat.le_of_ble_eq_true rfl⟩ rfl rfl (Nat.le_of_ble_eq_true rfl) ⟨rfl, rfl⟩ (Nat.zero_le _) (Nat.zero_le _) rfl rfl rfl dX9_readHook_10 [0, 1] rfl rfl [2, 3] rfl rfl (by decide) [2, 3, 0, 1] rfl rfl rfl ?_
  refine g_if_eq (tgt := 29) X dX9_readHook_13 (by decide) (fun hc_10 => ?_) (fun hc_10 => ?_)
  · replace hf := ite_t hc_10 hf
    refine g_iconst (v := 0) X dX9_readHook_29 (by decide) ?_
    exact hR _ _ _ _ (Or.inl rfl) dX9_readHook_30 (kV_in (u := (0, t_start_5, t_token_6, t_value_7, t_place_8, p1_cells)) hf)
  · replace hf := ite_f hc_10 hf
    refine g_aload_n X dX9_readHook_16 rfl 1 rfl ?_
    refine g_aload_n X dX9_readHook_17 rfl 0 rfl ?_
    refine g_get (C := RX9) (T := TX9) (N := 8) (ci := 5) (v := (.int t_value_7)) X iw_X9_readHook_X9 0 rfl rfl 4 (by decide) lk_X9_readHook_59 rfl dX9_readHook_18 ?_
    refine g_iconst (v := 4) X dX9_readHook_21 (by decide) ?_
    obtain ⟨r_11, hk_12, hf⟩ := ob1_out hf
    refine g_cVR (st := []) (st1 := [.int r_11]) (C := RX7) (ci := 3) (q0 := 2) X (c_X7_get l D cI cZ h_p1 h_p1_cells p1_most p1_width p1_size p1_N p1_cells t_value_7 4 _ hk_12) (Or.inl rfl) 2 gX9_readHook_X7_get rfl hv_X7_get ⟨Nat.le_of_ble_eq_true rfl, Nat.le_of_ble_eq_true rfl⟩ rfl rfl (Nat.le_of_ble_eq_true rfl) ⟨rfl, rfl⟩ (Nat.zero_le _) (Nat.zero_le _) rfl rfl rfl dX9_readHook_22 [2, 3] rfl rfl rfl ?_
    refine g_iconst (v := (-1)) X dX9_readHook_25 (by decide) ?_
    refine g_icmp_eq (tgt := 31) X dX9_readHook_26 (by decide) (fun hc_13 => ?_) (fun hc_13 => ?_)
    · replace hf := ite_t hc_13 hf
      refine g_aload_n X dX9_readHook_31 rfl 0 rfl ?_
      refine g_get (C := RX9) (T := TX9) (N := 8) (ci := 5) (v := (.int t_value_7)) X iw_X9_readHook_X9 0 rfl rfl 4 (by decide) lk_X9_readHook_59 rfl dX9_readHook_32 ?_
      refine g_istore_n (lv' := [(0, .ref h_t), (1, .ref h_p1), (2, .int v2_3), (3, .int t_value_7)]) X dX9_readHook_35 rfl (Nat.le_of_ble_eq_true rfl) [1, 2, 3, 0] rfl ?_
      refine g_aload_n X dX9_readHook_36 rfl 0 rfl ?_
      refine g_iconst (v := 0) X dX9_readHook_37 (by decide) ?_
      refine g_iload_n X dX9_readHook_38 rfl 2 rfl ?_
      obtain ⟨r_14, t_start_15, t_token_16, t_value_17, t_place_18, hk_19, hf⟩ := ob5_out hf
      refine g_cVW (st := []) (st1 := [.int r_14]) (C := RX9) (ci := 5) (q0 := 0) (ws' := (wd_X9_readHook cI cZ h_t h_t_bytes h_p1 h_p1_cells t_length t_start_15 t_token_16 t_value_17 t_kind t_desk t_place_18 t_bytes p1_most p1_width p1_size p1_N p1_cells)) X (c_X9_readNumber l D cI cZ q h_t h_t_bytes t_length t_start_5 t_token_6 t_value_7 t_kind t_desk t_place_8 t_bytes 0 v2_3 _ hk_19) (Or.inr rfl) 2 gX9_readHook_X9_readNumber rfl hv_X9_readNumber ⟨Nat.le_of_ble_eq_true rfl, Nat.le_of_ble_eq_true rfl⟩ rfl rfl (Nat.le_of_ble_eq_true rfl) ⟨rfl, rfl⟩ (Nat.zero_le _) (Nat.zero_le _) rfl rfl rfl dX9_readHook_39 [0, 1] rfl rfl [2, 3] rfl rfl (by decide) [2, 3, 0, 1] rfl rfl rfl ?_
      refine g_if_eq (tgt := 57) X dX9_readHook_42 (by decide) (fun hc_20 => ?_) (fun hc_20 => ?_)
      · replace hf := ite_t hc_20 hf
        refine g_iconst (v := 0) X dX9_readHook_57 (by decide) ?_
        exact hR _ _ _ _ (Or.inl rfl) dX9_readHook_58 (kV_in (u := (0, t_start_15, t_token_16, t_value_17, t_place_18, p1_cells)) hf)
      · replace hf := ite_f hc_20 hf
        refine g_aload_n X dX9_readHook_45 rfl 1 rfl ?_
        refine g_aload_n X dX9_readHook_46 rfl 0 rfl ?_
        refine g_get (C := RX9) (T := TX9) (N := 8) (ci := 5) (v := (.int t_value_17)) X iw_X9_readHook_X9 0 rfl rfl 4 (by decide) lk_X9_readHook_59 rfl dX9_readHook_47 ?_
        refine g_iload_n X dX9_readHook_50 rfl 3 rfl ?_
        obtain ⟨r_21, hk_22, hf⟩ := ob1_out hf
        refine g_cSR (st := []) (st1 := [.int r_21]) X (c_X0_canHold l D cI cZ h_p1 h_p1_cells p1_most p1_width p1_size p1_N p1_cells t_value_17 t_value_7 _ hk_22) (Or.inl rfl) 3 gX9_readHook_X0_canHold rfl hs_X0_canHold ⟨Nat.le_of_ble_eq_true rfl, Nat.le_of_ble_eq_true rfl⟩ rfl rfl (Nat.le_of_ble_eq_true rfl) ⟨rfl, rfl⟩ (Nat.zero_le _) (Nat.zero_le _) dX9_readHook_51 [2, 3] rfl rfl rfl ?_
        refine g_if_ne (tgt := 59) X dX9_readHook_54 (by decide) (fun hc_23 => ?_) (fun hc_23 => ?_)
        · replace hf := ite_f hc_23 hf
          refine g_aload_n X dX9_readHook_59 rfl 1 rfl ?_
          refine g_iload_n X dX9_readHook_60 rfl 3 rfl ?_
          refine g_iconst (v := 4) X dX9_readHook_61 (by decide) ?_
          refine g_aload_n X dX9_readHook_62 rfl 0 rfl ?_
          refine g_get (C := RX9) (T := TX9) (N := 8) (ci := 5) (v := (.int t_value_17)) X iw_X9_readHook_X9 0 rfl rfl 4 (by decide) lk_X9_readHook_59 rfl dX9_readHook_63 ?_
          obtain ⟨p1_cells_24, hk_25, hf⟩ := ob1_out hf
          refine g_cVW (st := []) (st1 := []) (C := RX7) (ci := 3) (q0 := 2) (ws' := (wd_X9_readHook cI cZ h_t h_t_bytes h_p1 h_p1_cells t_length t_start_15 t_token_16 t_value_17 t_kind t_desk t_place_18 t_bytes p1_most p1_width p1_size p1_N p1_cells_24)) X (c_X7_put l D cI cZ h_p1 h_p1_cells p1_most p1_width p1_size p1_N p1_cells t_value_7 4 t_value_17 _ hk_25) (Or.inl rfl) 3 gX9_readHook_X7_put rfl hv_X7_put ⟨Nat.le_of_ble_eq_true rfl, Nat.le_of_ble_eq_true rfl⟩ rfl rfl (Nat.le_of_ble_eq_true rfl) ⟨rfl, rfl⟩ (Nat.zero_le _) (Nat.zero_le _) rfl rfl rfl dX9_readHook_66 [2, 3] rfl rfl [0, 1] rfl rfl (by decide) [0, 1, 2, 3] rfl rfl rfl ?_
          refine g_iconst (v := 1) X dX9_readHook_69 (by decide) ?_
          exact hR _ _ _ _ (Or.inr rfl) dX9_readHook_70 (kV_in (u := (1, t_start_15, t_token_16, t_value_17, t_place_18, p1_cells_24)) hf)
        · replace hf := ite_t hc_23 hf
          refine g_iconst (v := 0) X dX9_readHook_57 (by decide) ?_
          exact hR _ _ _ _ (Or.inl rfl) dX9_readHook_58 (kV_in (u := (0, t_start_15, t_token_16, t_value_17, t_place_18, p1_cells)) hf)
    · replace hf := ite_f hc_13 hf
      refine g_iconst (v := 0) X dX9_readHook_29 (by decide) ?_
      exact hR _ _ _ _ (Or.inl rfl) dX9_readHook_30 (kV_in (u := (0, t_start_5, t_token_6, t_value_7, t_place_8, p1_cells)) hf)
def wd_X6_passDays (cI cZ : ClassId) (h_t : Nat) (h_t_clerks : Nat) (h_t_magnets : Nat) (h_t_told : Nat) (h_t_notes : Nat) (h_t_marks : Nat) (h_t_past : Nat) (h_t_clerks_cells : Nat) (h_t_magnets_cells : Nat) (t_day : Int32) (t_clerks_size : Int32) (t_clerks_cells : (Nat → Int32)) (t_magnets_size : Int32) (t_magnets_cells : (Nat → Int32)) : va_W := [(h_t, .inr (2, [.ref h_t_clerks, .ref h_t_magnets, .ref h_t_told, .ref h_t_notes, .ref h_t_marks, .ref h_t_past, .int t_day])), (h_t_clerks, .inr (3, [.int 7, .int 5, .ref h_t_clerks_cells, .int t_clerks_size])), (h_t_clerks_cells, .inl (cI, 35, .inl t_clerks_cells)), (h_t_magnets, .inr (3, [.int 3, .int 3, .ref h_t_magnets_cells, .int t_magnets_size])), (h_t_magnets_cells, .inl (cI, 9, .inl t_magnets_cells))]
abbrev rm_X6_passDays : Room := { frames := 5, cells := 0, slots := 0, locals := 129 }
theorem hv_X6_passDays : yX6_passDays.cls = RX6 ∧ yX6_passDays.cls ≠ "java/lang/invoke/MethodHandle" ∧ yX6_passDays.cls ≠ "java/lang/invoke/VarHandle" ∧ (parseMethodDescriptor yX6_passDays.desc).map (fun d => d.parameters.length) = some 1 := by decide +kernel
theorem iw_X6_passDays_X6 : ∀ w ∈ u_ws RX6 TX6 7, w ∈ wsX6_passDays := by decide +kernel
theorem lk_X6_passDays_38 : Cond.fieldLink RX6 38 "ClerkChains$Office" "day" "I" ∈ wsX6_passDays := by decide +kernel
theorem lk_X6_passDays_m72 : Cond.methodLink RX6 72 Lib.Math.min.name ∈ wsX6_passDays := by decide +kernel
theorem lk_X6_passDays_smin : Cond.static Lib.Math.min.name ∈ wsX6_passDays := by decide +kernel
theorem lk_X6_passDays_iMath : Cond.initialized "java/lang/Math" ∈ wsX6_passDays := by decide +kernel
theorem lk_X6_passDays_cmin : Cond.code Lib.Math.min.name Lib.Math.min.code 2 (some .int) ∈ wsX6_passDays := by decide +kernel
theorem lk_X6_passDays_14 : Cond.fieldLink RX6 14 "ClerkChains$Office" "clerks" "LClerkChains$Rows;" ∈ wsX6_passDays := by decide +kernel
theorem lk_X6_passDays_20 : Cond.fieldLink RX6 20 "ClerkChains$Office" "magnets" "LClerkChains$Rows;" ∈ wsX6_passDays := by decide +kernel
set_option maxHeartbeats 4000000 in
set_option maxRecDepth 100000 in
theorem c_X6_passDays (l : Launch) (D : va_G) (cI cZ : ClassId) (h_t : Nat) (h_t_clerks : Nat) (h_t_magnets : Nat) (h_t_told : Nat) (h_t_notes : Nat) (h_t_marks : Nat) (h_t_past : Nat) (h_t_clerks_cells : Nat) (h_t_magnets_cells : Nat) (t_day : Int32) (t_clerks_size : Int32) (t_clerks_cells : (Nat → Int32)) (t_magnets_size : Int32) (t_magnets_cells : (Nat → Int32)) (v1 : Int32) (res : Int32 × Int32 × (Nat → Int32)) (hf : f_X6_passDays t_day t_clerks_size t_clerks_cells t_magnets_size t_magnets_cells v1 = some res) : MetG l yX6_passDays wsX6_passDays rm_X6_passDays D cI cZ none [.ref h_t, .int v1] (wd_X6_passDays cI cZ h_t h_t_clerks h_t_magnets h_t_told h_t_notes h_t_marks h_t_past h_t_clerks_cells h_t_magnets_cells t_day t_clerks_size t_clerks_cells t_magnets_size t_magnets_cells) (kV res (fun u => some (.int u.1)) (fun u => (wd_X6_passDays cI cZ h_t h_t_clerks h_t_magnets h_t_told h_t_notes h_t_marks h_t_past h_t_clerks_cells h_t_magnets_cells (u.2.1) t_clerks_size (u.2.2) t_magnets_size t_magnets_cells))) := by
  refine metG_of (cc := cX6_passDays) (maxL := 4) (ret := (some .int)) (own := RX6) (lv0 := [(0, .ref h_t), (1, .int v1)]) (ini := false) (by decide) rfl (Nat.le_of_ble_eq_true rfl) rfl rfl (fun h => by cases h) (fun G X hR => ?_)
  replace hR := rt_int hR
  unfold f_X6_passDays at hf
  refine g_iload_n X dX6_passDays_0 rfl 1 rfl ?_
  refine g_sipush (v := 999) X dX6_passDays_1 (by decide) ?_
  refine g_aload_n X dX6_passDays_4 rfl 0 rfl ?_
  refine g_get (C := RX6) (T := TX6) (N := 7) (ci := 2) (v := (.int t_day)) X iw_X6_passDays_X6 0 rfl rfl 6 (by decide) lk_X6_passDays_38 rfl dX6_passDays_5 ?_
  refine g_isub X dX6_passDays_8 ?_
  refine g_mmin X lk_X6_passDays_m72 lk_X6_passDays_smin lk_X6_passDays_iMath lk_X6_passDays_cmin dX6_passDays_9 (Nat.le_of_ble_eq_true rfl) (Nat.le_of_ble_eq_true rfl) (Nat.zero_le _) (Nat.zero_le _) ?_
  obtain ⟨v2_1, ev2_1, hf⟩ := bnd_out hf
  refine g_nmI X ev2_1 ?_
  refine g_istore_n (lv' := [(0, .ref h_t), (1, .int v1), (2, .int v2_1)]) X dX6_passDays_12 rfl (Nat.le_of_ble_eq_true rfl) [1, 2, 0] rfl ?_
  refine g_aload_n X dX6_passDays_13 rfl 0 rfl ?_
  refine g_get (C := RX6) (T := TX6) (N := 7) (ci := 2) (v := (.ref h_t_clerks)) X iw_X6_passDays_X6 0 rfl rfl 0 (by decide) lk_X6_passDays_14 rfl dX6_passDays_14 ?_
  refine g_aload_n X dX6_passDays_17 rfl 0 rfl ?_
  refine g_get (C := RX6) (T := TX6) (N := 7) (ci := 2) (v := (.ref h_t_magnets)) X iw_X6_passDays_X6 0 rfl rfl 1 (by decide) lk_X6_passDays_20 rfl dX6_passDays_18 ?_
  refine g_aload_n X dX6_passDays_21 rfl 0 rfl ?_
  refine g_get (C := RX6) (T := TX6) (N := 7) (ci := 2) (v := (.int t_day)) X iw_X6_passDays_X6 0 rfl rfl 6 (by decide) lk_X6_passDays_38 rfl dX6_passDays_22 ?_
  refine g_iload_n X dX6_passDays_25 rfl 2 rfl ?_
  obtain ⟨r_2, t_clerks_cells_3, hk_4, hf⟩ := ob2_out hf
  refine g_cSW (st := []) (st1 := [.int r_2]) (ws' := (wd_X6_passDays cI cZ h_t h_t_clerks h_t_magnets h_t_told h_t_notes h_t_marks h_t_past h_t_clerks_cells h_t_magnets_cells t_day t_clerks_size t_clerks_cells_3 t_magnets_size t_magnets_cells)) X (c_X1_passDays l D cI cZ h_t_clerks h_t_clerks_cells h_t_magnets h_t_magnets_cells 7 5 t_clerks_size 35 t_clerks_cells 3 3 t_magnets_size 9 t_magnets_cells t_day v2_1 _ hk_4) (Or.inl rfl) 4 gX6_passDays_X1_passDays rfl hs_X1_passDays ⟨Nat.le_of_ble_eq_true rfl, Nat.le_of_ble_eq_true rfl⟩ rfl rfl (Nat.le_of_ble_eq_true rfl) ⟨rfl, rfl⟩ (Nat.zero_le _) (Nat.zero_le _) dX6_passDays_26 [1, 2, 3, 4] rfl rfl [0] rfl rfl (by decide) [0, 1, 2, 3, 4] rfl rfl rfl ?_
  refine g_istore_n (lv' := [(0, .ref h_t), (1, .int v1), (2, .int v2_1), (3, .int r_2)]) X dX6_passDays_29 rfl (Nat.le_of_ble_eq_true rfl) [1, 2, 3, 0] rfl ?_
  refine g_aload_n X dX6_passDays_30 rfl 0 rfl ?_
  refine g_dup X dX6_passDays_31 rfl ?_
  refine g_get (C := RX6) (T := TX6) (N := 7) (ci := 2) (v := (.int t_day)) X iw_X6_passDays_X6 0 rfl rfl 6 (by decide) lk_X6_passDays_38 rfl dX6_passDays_32 ?_
  refine g_iload_n X dX6_passDays_35 rfl 2 rfl ?_
  refine g_iadd X dX6_passDays_36 ?_
  obtain ⟨t_day_5, et_day_5, hf⟩ := bnd_out hf
  refine g_nmI X et_day_5 ?_
  refine g_put (C := RX6) (T := TX6) (N := 7) (ci := 2) (v := .int t_day_5) (ws' := (wd_X6_passDays cI cZ h_t h_t_clerks h_t_magnets h_t_told h_t_notes h_t_marks h_t_past h_t_clerks_cells h_t_magnets_cells t_day_5 t_clerks_size t_clerks_cells_3 t_magnets_size t_magnets_cells)) X iw_X6_passDays_X6 tyX6 tyX6_ok nmX6 0 rfl rfl 6 (by decide) lk_X6_passDays_38 rfl (tyX6_ok 6 (by decide)) rfl rfl (Nat.le_of_ble_eq_true rfl) dX6_passDays_37 rfl ?_
  refine g_iload_n X dX6_passDays_40 rfl 3 rfl ?_
  exact hR _ _ _ _ dX6_passDays_41 (kV_in (u := (r_2, t_day_5, t_clerks_cells_3)) hf)
def wd_X9_readInto (cI cZ : ClassId) (h_t : Nat) (h_t_bytes : Nat) (h_p1 : Nat) (h_p1_clerks : Nat) (h_p1_magnets : Nat) (h_p1_told : Nat) (h_p1_notes : Nat) (h_p1_marks : Nat) (h_p1_past : Nat) (h_p1_clerks_cells : Nat) (h_p1_magnets_cells : Nat) (h_p1_told_cells : Nat) (h_p1_notes_cells : Nat) (h_p1_marks_cells : Nat) (h_p1_past_cells : Nat) (t_length : Int32) (t_start : Int32) (t_token : Int32) (t_value : Int32) (t_kind : Int32) (t_desk : Int32) (t_place : Int32) (t_bytes : (Nat → Int32)) (p1_day : Int32) (p1_clerks_size : Int32) (p1_clerks_cells : (Nat → Int32)) (p1_magnets_size : Int32) (p1_magnets_cells : (Nat → Int32)) (p1_told_size : Int32) (p1_notes_size : Int32) (p1_marks_size : Int32) (p1_past_size : Int32) : va_W := [(h_t, .inr (5, [.ref h_t_bytes, .int t_length, .int t_start, .int t_token, .int t_value, .int t_kind, .int t_desk, .int t_place])), (h_t_bytes, .inl (cI, 150, .inl t_bytes)), (h_p1, .inr (2, [.ref h_p1_clerks, .ref h_p1_magnets, .ref h_p1_told, .ref h_p1_notes, .ref h_p1_marks, .ref h_p1_past, .int p1_day])), (h_p1_clerks, .inr (3, [.int 7, .int 5, .ref h_p1_clerks_cells, .int p1_clerks_size])), (h_p1_clerks_cells, .inl (cI, 35, .inl p1_clerks_cells)), (h_p1_magnets, .inr (3, [.int 3, .int 3, .ref h_p1_magnets_cells, .int p1_magnets_size])), (h_p1_magnets_cells, .inl (cI, 9, .inl p1_magnets_cells)), (h_p1_told, .inr (3, [.int 5, .int 4, .ref h_p1_told_cells, .int p1_told_size])), (h_p1_notes, .inr (3, [.int 6, .int 4, .ref h_p1_notes_cells, .int p1_notes_size])), (h_p1_marks, .inr (3, [.int 6, .int 5, .ref h_p1_marks_cells, .int p1_marks_size])), (h_p1_past, .inr (3, [.int 8, .int 22, .ref h_p1_past_cells, .int p1_past_size]))]
abbrev rm_X9_readInto : Room := { frames := 8, cells := 0, slots := 0, locals := 174 }
theorem hv_X9_readInto : yX9_readInto.cls = RX9 ∧ yX9_readInto.cls ≠ "java/lang/invoke/MethodHandle" ∧ yX9_readInto.cls ≠ "java/lang/invoke/VarHandle" ∧ (parseMethodDescriptor yX9_readInto.desc).map (fun d => d.parameters.length) = some 1 := by decide +kernel
theorem iw_X9_readInto_X9 : ∀ w ∈ u_ws RX9 TX9 8, w ∈ wsX9_readInto := by decide +kernel
theorem lk_X9_readInto_34 : Cond.fieldLink RX9 34 "ClerkChains$Text" "token" "I" ∈ wsX9_readInto := by decide +kernel
theorem iw_X9_readInto_X6 : ∀ w ∈ u_ws RX6 TX6 7, w ∈ wsX9_readInto := by decide +kernel
theorem lk_X9_readInto_53 : Cond.fieldLink RX9 53 "ClerkChains$Text" "kind" "I" ∈ wsX9_readInto := by decide +kernel
theorem lk_X9_readInto_56 : Cond.fieldLink RX9 56 "ClerkChains$Text" "desk" "I" ∈ wsX9_readInto := by decide +kernel
theorem lk_X9_readInto_59 : Cond.fieldLink RX9 59 "ClerkChains$Text" "value" "I" ∈ wsX9_readInto := by decide +kernel
theorem lk_X9_readInto_84 : Cond.fieldLink RX9 84 "ClerkChains$Text" "start" "I" ∈ wsX9_readInto := by decide +kernel
theorem lk_X9_readInto_28 : Cond.fieldLink RX9 28 "ClerkChains$Text" "place" "I" ∈ wsX9_readInto := by decide +kernel
set_option maxHeartbeats 4000000 in
set_option maxRecDepth 100000 in
theorem c_X9_readInto (l : Launch) (D : va_G) (cI cZ : ClassId) (q : (Nat → Nat) × (Nat → Nat)) (h_t : Nat) (h_t_bytes : Nat) (h_p1 : Nat) (h_p1_clerks : Nat) (h_p1_magnets : Nat) (h_p1_told : Nat) (h_p1_notes : Nat) (h_p1_marks : Nat) (h_p1_past : Nat) (h_p1_clerks_cells : Nat) (h_p1_magnets_cells : Nat) (h_p1_told_cells : Nat) (h_p1_notes_cells : Nat) (h_p1_marks_cells : Nat) (h_p1_past_cells : Nat) (t_length : Int32) (t_start : Int32) (t_token : Int32) (t_value : Int32) (t_kind : Int32) (t_desk : Int32) (t_place : Int32) (t_bytes : (Nat → Int32)) (p1_day : Int32) (p1_clerks_size : Int32) (p1_clerks_cells : (Nat → Int32)) (p1_magnets_size : Int32) (p1_magnets_cells : (Nat → Int32)) (p1_told_size : Int32) (p1_notes_size : Int32) (p1_marks_size : Int32) (p1_past_size : Int32) (res : Int32 × Int32 × Int32 × Int32 × Int32 × Int32 × Int32 × Int32 × Int32 × (Nat → Int32) × Int32 × (Nat → Int32) × Int32 × Int32 × Int32 × Int32) (hf : f_X9_readInto t_length t_start t_token t_value t_kind t_desk t_place t_bytes p1_day p1_clerks_size p1_clerks_cells p1_magnets_size p1_magnets_cells p1_told_size p1_notes_size p1_marks_size p1_past_size = some res) : MetG l yX9_readInto wsX9_readInto rm_X9_readInto D cI cZ (some q) [.ref h_t, .ref h_p1] (wd_X9_readInto cI cZ h_t h_t_bytes h_p1 h_p1_clerks h_p1_magnets h_p1_told h_p1_notes h_p1_marks h_p1_past h_p1_clerks_cells h_p1_magnets_cells h_p1_told_cells h_p1_notes_cells h_p1_marks_cells h_p1_past_cells t_length t_start t_token t_value t_kind t_desk t_place t_bytes p1_day p1_clerks_size p1_clerks_cells p1_magnets_size p1_magnets_cells p1_told_size p1_notes_size p1_marks_size p1_past_size) (kV res (fun u => some (.int u.1)) (fun u => (wd_X9_readInto cI cZ h_t h_t_bytes h_p1 h_p1_clerks h_p1_magnets h_p1_told h_p1_notes h_p1_marks h_p1_past h_p1_clerks_cells h_p1_magnets_cells h_p1_told_cells h_p1_notes_cells h_p1_marks_cells h_p1_past_cells t_length (u.2.1) (u.2.2.1) (u.2.2.2.1) (u.2.2.2.2.1) (u.2.2.2.2.2.1) (u.2.2.2.2.2.2.1) t_bytes (u.2.2.2.2.2.2.2.1) (u.2.2.2.2.2.2.2.2.1) (u.2.2.2.2.2.2.2.2.2.1) (u.2.2.2.2.2.2.2.2.2.2.1) (u.2.2.2.2.2.2.2.2.2.2.2.1) (u.2.2.2.2.2.2.2.2.2.2.2.2.1) (u.2.2.2.2.2.2.2.2.2.2.2.2.2.1) (u.2.2.2.2.2.2.2.2.2.2.2.2.2.2.1) (u.2.2.2.2.2.2.2.2.2.2.2.2.2.2.2)))) := by
  refine metG_of (cc := cX9_readInto) (maxL := 4) (ret := (some .int)) (own := RX9) (lv0 := [(0, .ref h_t), (1, .ref h_p1)]) (ini := false) (by decide) rfl (Nat.le_of_ble_eq_true rfl) rfl rfl (fun h => by cases h) (fun G X hR => ?_)
  replace hR := rt_int hR
  unfold f_X9_readInto at hf
  have J282 : ∀ (k36 : Int32 → Int32 → Int32 → Int32 → Int32 → Int32 → Int32 → Int32 → (Nat → Int32) → Int32 → (Nat → Int32) → Int32 → Int32 → Int32 → Int32 → Int32 → Int32 → Option (Int32 × Int32 × Int32 × Int32 × Int32 × Int32 × Int32 × Int32 × Int32 × (Nat → Int32) × Int32 × (Nat → Int32) × Int32 × Int32 × Int32 × Int32)) (hk36 : ∀ (t_start : Int32) (t_token : Int32) (t_value : Int32) (t_kind : Int32) (t_desk : Int32) (t_place : Int32) (p1_day : Int32) (p1_clerks_size : Int32) (p1_clerks_cells : (Nat → Int32)) (p1_magnets_size : Int32) (p1_magnets_cells : (Nat → Int32)) (p1_told_size : Int32) (p1_notes_size : Int32) (p1_marks_size : Int32) (p1_past_size : Int32) (v2 : Int32) (v3 : Int32), k36 t_start t_token t_value t_kind t_desk t_place p1_day p1_clerks_size p1_clerks_cells p1_magnets_size p1_magnets_cells p1_told_size p1_notes_size p1_marks_size p1_past_size v2 v3 = some res → G 0 0 (wd_X9_readInto cI cZ h_t h_t_bytes h_p1 h_p1_clerks h_p1_magnets h_p1_told h_p1_notes h_p1_marks h_p1_past h_p1_clerks_cells h_p1_magnets_cells h_p1_told_cells h_p1_notes_cells h_p1_marks_cells h_p1_past_cells t_length t_start t_token t_value t_kind t_desk t_place t_bytes p1_day p1_clerks_size p1_clerks_cells p1_magnets_size p1_magnets_cells p1_told_size p1_notes_size p1_marks_size p1_past_size) [(0, .ref h_t), (1, .ref h_p1), (2, .int v2), (3, .int v3)] 36 []) (t_start : Int32) (t_token : Int32) (t_value : Int32) (t_kind : Int32) (t_desk : Int32) (t_place : Int32) (p1_day : Int32) (p1_clerks_size : Int32) (p1_clerks_cells : (Nat → Int32)) (p1_magnets_size : Int32) (p1_magnets_cells : (Nat → Int32)) (p1_told_size : Int32) (p1_notes_size : Int32) (p1_marks_size : Int32) (p1_past_size : Int32) (v2 : Int32) (v3 : Int32), f_X9_readInto_282 t_length t_bytes k36 t_start t_token t_value t_kind t_desk t_place p1_day p1_clerks_size p1_clerks_cells p1_magnets_size p1_magnets_cells p1_told_size p1_notes_size p1_marks_size p1_past_size v2 v3 = some res → G 0 0 (wd_X9_readInto cI cZ h_t h_t_bytes h_p1 h_p1_clerks h_p1_magnets h_p1_told h_p1_notes h_p1_marks h_p1_past h_p1_clerks_cells h_p1_magnets_cells h_p1_told_cells h_p1_notes_cells h_p1_marks_cells h_p1_past_cells t_length t_start t_token t_value t_kind t_desk t_place t_bytes p1_day p1_clerks_size p1_clerks_cells p1_magnets_size p1_magnets_cells p1_told_size p1_notes_size p1_marks_size p1_past_size) [(0, .ref h_t), (1, .ref h_p1), (2, .int v2), (3, .int v3)] 282 [] := by
    intro k36 hk36 t_start t_token t_value t_kind t_desk t_place p1_day p1_clerks_size p1_clerks_cells p1_magnets_size p1_magnets_cells p1_told_size p1_notes_size p1_marks_size p1_past_size v2 v3 hf
    unfold f_X9_readInto_282 at hf
    obtain ⟨v3_101, ev3_101, hf⟩ := bnd_out hf
    refine g_iinc (v := v3_101) (lv' := [(0, .ref h_t), (1, .ref h_p1), (2, .int v2), (3, .int v3_101)]) X dX9_readInto_282 3 rfl (by rw [ev3_101]; rfl) (Nat.le_of_ble_eq_true rfl) [1, 2, 3, 0] rfl ?_
    refine g_goto (tgt := 36) X dX9_readInto_285 (by decide) ?_
    exact hk36 t_start t_token t_value t_kind t_desk t_place p1_day p1_clerks_size p1_clerks_cells p1_magnets_size p1_magnets_cells p1_told_size p1_notes_size p1_marks_size p1_past_size v2 v3_101 hf
  have J135 : ∀ (k36 : Int32 → Int32 → Int32 → Int32 → Int32 → Int32 → Int32 → Int32 → (Nat → Int32) → Int32 → (Nat → Int32) → Int32 → Int32 → Int32 → Int32 → Int32 → Int32 → Option (Int32 × Int32 × Int32 × Int32 × Int32 × Int32 × Int32 × Int32 × Int32 × (Nat → Int32) × Int32 × (Nat → Int32) × Int32 × Int32 × Int32 × Int32)) (hk36 : ∀ (t_start : Int32) (t_token : Int32) (t_value : Int32) (t_kind : Int32) (t_desk : Int32) (t_place : Int32) (p1_day : Int32) (p1_clerks_size : Int32) (p1_clerks_cells : (Nat → Int32)) (p1_magnets_size : Int32) (p1_magnets_cells : (Nat → Int32)) (p1_told_size : Int32) (p1_notes_size : Int32) (p1_marks_size : Int32) (p1_past_size : Int32) (v2 : Int32) (v3 : Int32), k36 t_start t_token t_value t_kind t_desk t_place p1_day p1_clerks_size p1_clerks_cells p1_magnets_size p1_magnets_cells p1_told_size p1_notes_size p1_marks_size p1_past_size v2 v3 = some res → G 0 0 (wd_X9_readInto cI cZ h_t h_t_bytes h_p1 h_p1_clerks h_p1_magnets h_p1_told h_p1_notes h_p1_marks h_p1_past h_p1_clerks_cells h_p1_magnets_cells h_p1_told_cells h_p1_notes_cells h_p1_marks_cells h_p1_past_cells t_length t_start t_token t_value t_kind t_desk t_place t_bytes p1_day p1_clerks_size p1_clerks_cells p1_magnets_size p1_magnets_cells p1_told_size p1_notes_size p1_marks_size p1_past_size) [(0, .ref h_t), (1, .ref h_p1), (2, .int v2), (3, .int v3)] 36 []) (t_start : Int32) (t_token : Int32) (t_value : Int32) (t_kind : Int32) (t_desk : Int32) (t_place : Int32) (p1_day : Int32) (p1_clerks_size : Int32) (p1_clerks_cells : (Nat → Int32)) (p1_magnets_size : Int32) (p1_magnets_cells : (Nat → Int32)) (p1_told_size : Int32) (p1_notes_size : Int32) (p1_marks_size : Int32) (p1_past_size : Int32) (v3 : Int32) (s0 : Int32), f_X9_readInto_135 t_length t_bytes k36 t_start t_token t_value t_kind t_desk t_place p1_day p1_clerks_size p1_clerks_cells p1_magnets_size p1_magnets_cells p1_told_size p1_notes_size p1_marks_size p1_past_size v3 s0 = some res → G 0 0 (wd_X9_readInto cI cZ h_t h_t_bytes h_p1 h_p1_clerks h_p1_magnets h_p1_told h_p1_notes h_p1_marks h_p1_past h_p1_clerks_cells h_p1_magnets_cells h_p1_told_cells h_p1_notes_cells h_p1_marks_cells h_p1_past_cells t_length t_start t_token t_value t_kind t_desk t_place t_bytes p1_day p1_clerks_size p1_clerks_cells p1_magnets_size p1_magnets_cells p1_told_size p1_notes_size p1_marks_size p1_past_size) [(0, .ref h_t), (1, .ref h_p1), (3, .int v3)] 135 [.int s0] := by
    intro k36 hk36 t_start t_token t_value t_kind t_desk t_place p1_day p1_clerks_size p1_clerks_cells p1_magnets_size p1_magnets_cells p1_told_size p1_notes_size p1_marks_size p1_past_size v3 s0 hf
    unfold f_X9_readInto_135 at hf
    refine g_istore_n (lv' := [(0, .ref h_t), (1, .ref h_p1), (2, .int s0), (3, .int v3)]) X dX9_readInto_135 rfl (Nat.le_of_ble_eq_true rfl) [1, 2, 0, 3] rfl ?_
    refine g_iload_n X dX9_readInto_136 rfl 2 rfl ?_
    refine g_if_eq (tgt := 282) X dX9_readInto_137 (by decide) (fun hc_84 => ?_) (fun hc_84 => ?_)
    · replace hf := ite_t hc_84 hf
      exact J282 k36 hk36 t_start t_token t_value t_kind t_desk t_place p1_day p1_clerks_size p1_clerks_cells p1_magnets_size p1_magnets_cells p1_told_size p1_notes_size p1_marks_size p1_past_size s0 v3 hf
    · replace hf := ite_f hc_84 hf
      refine g_aload_n X dX9_readInto_140 rfl 1 rfl ?_
      refine g_aload_n X dX9_readInto_141 rfl 0 rfl ?_
      refine g_get (C := RX9) (T := TX9) (N := 8) (ci := 5) (v := (.int t_kind)) X iw_X9_readInto_X9 0 rfl rfl 5 (by decide) lk_X9_readInto_53 rfl dX9_readInto_142 ?_
      refine g_aload_n X dX9_readInto_145 rfl 0 rfl ?_
      refine g_get (C := RX9) (T := TX9) (N := 8) (ci := 5) (v := (.int t_desk)) X iw_X9_readInto_X9 0 rfl rfl 6 (by decide) lk_X9_readInto_56 rfl dX9_readInto_146 ?_
      refine g_aload_n X dX9_readInto_149 rfl 0 rfl ?_
      refine g_get (C := RX9) (T := TX9) (N := 8) (ci := 5) (v := (.int t_value)) X iw_X9_readInto_X9 0 rfl rfl 4 (by decide) lk_X9_readInto_59 rfl dX9_readInto_150 ?_
      obtain ⟨r_85, p1_clerks_size_86, p1_clerks_cells_87, p1_past_size_88, hk_89, hf⟩ := ob4_out hf
      refine g_cVW (st := []) (st1 := [.int r_85]) (C := RX6) (ci := 2) (q0 := 2) (ws' := (wd_X9_readInto cI cZ h_t h_t_bytes h_p1 h_p1_clerks h_p1_magnets h_p1_told h_p1_notes h_p1_marks h_p1_past h_p1_clerks_cells h_p1_magnets_cells h_p1_told_cells h_p1_notes_cells h_p1_marks_cells h_p1_past_cells t_length t_start t_token t_value t_kind t_desk t_place t_bytes p1_day p1_clerks_size_86 p1_clerks_cells_87 p1_magnets_size p1_magnets_cells p1_told_size p1_notes_size p1_marks_size p1_past_size_88)) X (c_X6_addClerk l D cI cZ h_p1 h_p1_clerks h_p1_magnets h_p1_told h_p1_notes h_p1_marks h_p1_past h_p1_clerks_cells h_p1_past_cells p1_day p1_clerks_size p1_clerks_cells p1_past_size t_kind t_desk t_value _ hk_89) (Or.inl rfl) 3 gX9_readInto_X6_addClerk rfl hv_X6_addClerk ⟨Nat.le_of_ble_eq_true rfl, Nat.le_of_ble_eq_true rfl⟩ rfl rfl (Nat.le_of_ble_eq_true rfl) ⟨rfl, rfl⟩ (Nat.zero_le _) (Nat.zero_le _) rfl rfl rfl dX9_readInto_153 [2, 3, 4, 10] rfl rfl [0, 1, 5, 6, 7, 8, 9] rfl rfl (by decide) [0, 1, 7, 8, 9, 2, 3, 4, 5, 6, 10] rfl rfl rfl ?_
      refine g_pop X dX9_readInto_156 rfl ?_
      refine g_goto (tgt := 282) X dX9_readInto_157 (by decide) ?_
      exact J282 k36 hk36 t_start t_token t_value t_kind t_desk t_place p1_day p1_clerks_size_86 p1_clerks_cells_87 p1_magnets_size p1_magnets_cells p1_told_size p1_notes_size p1_marks_size p1_past_size_88 s0 v3 hf
  have J134 : ∀ (k36 : Int32 → Int32 → Int32 → Int32 → Int32 → Int32 → Int32 → Int32 → (Nat → Int32) → Int32 → (Nat → Int32) → Int32 → Int32 → Int32 → Int32 → Int32 → Int32 → Option (Int32 × Int32 × Int32 × Int32 × Int32 × Int32 × Int32 × Int32 × Int32 × (Nat → Int32) × Int32 × (Nat → Int32) × Int32 × Int32 × Int32 × Int32)) (hk36 : ∀ (t_start : Int32) (t_token : Int32) (t_value : Int32) (t_kind : Int32) (t_desk : Int32) (t_place : Int32) (p1_day : Int32) (p1_clerks_size : Int32) (p1_clerks_cells : (Nat → Int32)) (p1_magnets_size : Int32) (p1_magnets_cells : (Nat → Int32)) (p1_told_size : Int32) (p1_notes_size : Int32) (p1_marks_size : Int32) (p1_past_size : Int32) (v2 : Int32) (v3 : Int32), k36 t_start t_token t_value t_kind t_desk t_place p1_day p1_clerks_size p1_clerks_cells p1_magnets_size p1_magnets_cells p1_told_size p1_notes_size p1_marks_size p1_past_size v2 v3 = some res → G 0 0 (wd_X9_readInto cI cZ h_t h_t_bytes h_p1 h_p1_clerks h_p1_magnets h_p1_told h_p1_notes h_p1_marks h_p1_past h_p1_clerks_cells h_p1_magnets_cells h_p1_told_cells h_p1_notes_cells h_p1_marks_cells h_p1_past_cells t_length t_start t_token t_value t_kind t_desk t_place t_bytes p1_day p1_clerks_size p1_clerks_cells p1_magnets_size p1_magnets_cells p1_told_size p1_notes_size p1_marks_size p1_past_size) [(0, .ref h_t), (1, .ref h_p1), (2, .int v2), (3, .int v3)] 36 []) (t_start : Int32) (t_token : Int32) (t_value : Int32) (t_kind : Int32) (t_desk : Int32) (t_place : Int32) (p1_day : Int32) (p1_clerks_size : Int32) (p1_clerks_cells : (Nat → Int32)) (p1_magnets_size : Int32) (p1_magnets_cells : (Nat → Int32)) (p1_told_size : Int32) (p1_notes_size : Int32) (p1_marks_size : Int32) (p1_past_size : Int32) (v3 : Int32), f_X9_readInto_134 t_length t_bytes k36 t_start t_token t_value t_kind t_desk t_place p1_day p1_clerks_size p1_clerks_cells p1_magnets_size p1_magnets_cells p1_told_size p1_notes_size p1_marks_size p1_past_size v3 = some res → G 0 0 (wd_X9_readInto cI cZ h_t h_t_bytes h_p1 h_p1_clerks h_p1_magnets h_p1_told h_p1_notes h_p1_marks h_p1_past h_p1_clerks_cells h_p1_magnets_cells h_p1_told_cells h_p1_notes_cells h_p1_marks_cells h_p1_past_cells t_length t_start t_token t_value t_kind t_desk t_place t_bytes p1_day p1_clerks_size p1_clerks_cells p1_magnets_size p1_magnets_cells p1_told_size p1_notes_size p1_marks_size p1_past_size) [(0, .ref h_t), (1, .ref h_p1), (3, .int v3)] 134 [] := by
    intro k36 hk36 t_start t_token t_value t_kind t_desk t_place p1_day p1_clerks_size p1_clerks_cells p1_magnets_size p1_magnets_cells p1_told_size p1_notes_size p1_marks_size p1_past_size v3 hf
    unfold f_X9_readInto_134 at hf
    refine g_iconst (v := 0) X dX9_readInto_134 (by decide) ?_
    exact J135 k36 hk36 t_start t_token t_value t_kind t_desk t_place p1_day p1_clerks_size p1_clerks_cells p1_magnets_size p1_magnets_cells p1_told_size p1_notes_size p1_marks_size p1_past_size v3 0 hf
  have J189 : ∀ (k36 : Int32 → Int32 → Int32 → Int32 → Int32 → Int32 → Int32 → Int32 → (Nat → Int32) → Int32 → (Nat → Int32) → Int32 → Int32 → Int32 → Int32 → Int32 → Int32 → Option (Int32 × Int32 × Int32 × Int32 × Int32 × Int32 × Int32 × Int32 × Int32 × (Nat → Int32) × Int32 × (Nat → Int32) × Int32 × Int32 × Int32 × Int32)) (hk36 : ∀ (t_start : Int32) (t_token : Int32) (t_value : Int32) (t_kind : Int32) (t_desk : Int32) (t_place : Int32) (p1_day : Int32) (p1_clerks_size : Int32) (p1_clerks_cells : (Nat → Int32)) (p1_magnets_size : Int32) (p1_magnets_cells : (Nat → Int32)) (p1_told_size : Int32) (p1_notes_size : Int32) (p1_marks_size : Int32) (p1_past_size : Int32) (v2 : Int32) (v3 : Int32), k36 t_start t_token t_value t_kind t_desk t_place p1_day p1_clerks_size p1_clerks_cells p1_magnets_size p1_magnets_cells p1_told_size p1_notes_size p1_marks_size p1_past_size v2 v3 = some res → G 0 0 (wd_X9_readInto cI cZ h_t h_t_bytes h_p1 h_p1_clerks h_p1_magnets h_p1_told h_p1_notes h_p1_marks h_p1_past h_p1_clerks_cells h_p1_magnets_cells h_p1_told_cells h_p1_notes_cells h_p1_marks_cells h_p1_past_cells t_length t_start t_token t_value t_kind t_desk t_place t_bytes p1_day p1_clerks_size p1_clerks_cells p1_magnets_size p1_magnets_cells p1_told_size p1_notes_size p1_marks_size p1_past_size) [(0, .ref h_t), (1, .ref h_p1), (2, .int v2), (3, .int v3)] 36 []) (t_start : Int32) (t_token : Int32) (t_value : Int32) (t_kind : Int32) (t_desk : Int32) (t_place : Int32) (p1_day : Int32) (p1_clerks_size : Int32) (p1_clerks_cells : (Nat → Int32)) (p1_magnets_size : Int32) (p1_magnets_cells : (Nat → Int32)) (p1_told_size : Int32) (p1_notes_size : Int32) (p1_marks_size : Int32) (p1_past_size : Int32) (v3 : Int32) (s0 : Int32), f_X9_readInto_189 t_length t_bytes k36 t_start t_token t_value t_kind t_desk t_place p1_day p1_clerks_size p1_clerks_cells p1_magnets_size p1_magnets_cells p1_told_size p1_notes_size p1_marks_size p1_past_size v3 s0 = some res → G 0 0 (wd_X9_readInto cI cZ h_t h_t_bytes h_p1 h_p1_clerks h_p1_magnets h_p1_told h_p1_notes h_p1_marks h_p1_past h_p1_clerks_cells h_p1_magnets_cells h_p1_told_cells h_p1_notes_cells h_p1_marks_cells h_p1_past_cells t_length t_start t_token t_value t_kind t_desk t_place t_bytes p1_day p1_clerks_size p1_clerks_cells p1_magnets_size p1_magnets_cells p1_told_size p1_notes_size p1_marks_size p1_past_size) [(0, .ref h_t), (1, .ref h_p1), (3, .int v3)] 189 [.int s0] := by
    intro k36 hk36 t_start t_token t_value t_kind t_desk t_place p1_day p1_clerks_size p1_clerks_cells p1_magnets_size p1_magnets_cells p1_told_size p1_notes_size p1_marks_size p1_past_size v3 s0 hf
    unfold f_X9_readInto_189 at hf
    refine g_istore_n (lv' := [(0, .ref h_t), (1, .ref h_p1), (2, .int s0), (3, .int v3)]) X dX9_readInto_189 rfl (Nat.le_of_ble_eq_true rfl) [1, 2, 0, 3] rfl ?_
    refine g_iload_n X dX9_readInto_190 rfl 2 rfl ?_
    refine g_if_eq (tgt := 282) X dX9_readInto_191 (by decide) (fun hc_90 => ?_) (fun hc_90 => ?_)
    · replace hf := ite_t hc_90 hf
      exact J282 k36 hk36 t_start t_token t_value t_kind t_desk t_place p1_day p1_clerks_size p1_clerks_cells p1_magnets_size p1_magnets_cells p1_told_size p1_notes_size p1_marks_size p1_past_size s0 v3 hf
    · replace hf := ite_f hc_90 hf
      refine g_aload_n X dX9_readInto_194 rfl 1 rfl ?_
      refine g_aload_n X dX9_readInto_195 rfl 0 rfl ?_
      refine g_get (C := RX9) (T := TX9) (N := 8) (ci := 5) (v := (.int t_kind)) X iw_X9_readInto_X9 0 rfl rfl 5 (by decide) lk_X9_readInto_53 rfl dX9_readInto_196 ?_
      refine g_aload_n X dX9_readInto_199 rfl 0 rfl ?_
      refine g_get (C := RX9) (T := TX9) (N := 8) (ci := 5) (v := (.int t_desk)) X iw_X9_readInto_X9 0 rfl rfl 6 (by decide) lk_X9_readInto_56 rfl dX9_readInto_200 ?_
      refine g_aload_n X dX9_readInto_203 rfl 0 rfl ?_
      refine g_get (C := RX9) (T := TX9) (N := 8) (ci := 5) (v := (.int t_value)) X iw_X9_readInto_X9 0 rfl rfl 4 (by decide) lk_X9_readInto_59 rfl dX9_readInto_204 ?_
      obtain ⟨r_91, p1_magnets_size_92, p1_magnets_cells_93, p1_past_size_94, hk_95, hf⟩ := ob4_out hf
      refine g_cVW (st := []) (st1 := [.int r_91]) (C := RX6) (ci := 2) (q0 := 2) (ws' := (wd_X9_readInto cI cZ h_t h_t_bytes h_p1 h_p1_clerks h_p1_magnets h_p1_told h_p1_notes h_p1_marks h_p1_past h_p1_clerks_cells h_p1_magnets_cells h_p1_told_cells h_p1_notes_cells h_p1_marks_cells h_p1_past_cells t_length t_start t_token t_value t_kind t_desk t_place t_bytes p1_day p1_clerks_size p1_clerks_cells p1_magnets_size_92 p1_magnets_cells_93 p1_told_size p1_notes_size p1_marks_size p1_past_size_94)) X (c_X6_addMagnet l D cI cZ h_p1 h_p1_clerks h_p1_magnets h_p1_told h_p1_notes h_p1_marks h_p1_past h_p1_magnets_cells h_p1_past_cells p1_day p1_magnets_size p1_magnets_cells p1_past_size t_kind t_desk t_value _ hk_95) (Or.inl rfl) 3 gX9_readInto_X6_addMagnet rfl hv_X6_addMagnet ⟨Nat.le_of_ble_eq_true rfl, Nat.le_of_ble_eq_true rfl⟩ rfl rfl (Nat.le_of_ble_eq_true rfl) ⟨rfl, rfl⟩ (Nat.zero_le _) (Nat.zero_le _) rfl rfl rfl dX9_readInto_207 [2, 5, 6, 10] rfl rfl [0, 1, 3, 4, 7, 8, 9] rfl rfl (by decide) [0, 1, 7, 2, 3, 8, 9, 4, 5, 6, 10] rfl rfl rfl ?_
      refine g_pop X dX9_readInto_210 rfl ?_
      refine g_goto (tgt := 282) X dX9_readInto_211 (by decide) ?_
      exact J282 k36 hk36 t_start t_token t_value t_kind t_desk t_place p1_day p1_clerks_size p1_clerks_cells p1_magnets_size_92 p1_magnets_cells_93 p1_told_size p1_notes_size p1_marks_size p1_past_size_94 s0 v3 hf
  have J188 : ∀ (k36 : Int32 → Int32 → Int32 → Int32 → Int32 → Int32 → Int32 → Int32 → (Nat → Int32) → Int32 → (Nat → Int32) → Int32 → Int32 → Int32 → Int32 → Int32 → Int32 → Option (Int32 × Int32 × Int32 × Int32 × Int32 × Int32 × Int32 × Int32 × Int32 × (Nat → Int32) × Int32 × (Nat → Int32) × Int32 × Int32 × Int32 × Int32)) (hk36 : ∀ (t_start : Int32) (t_token : Int32) (t_value : Int32) (t_kind : Int32) (t_desk : Int32) (t_place : Int32) (p1_day : Int32) (p1_clerks_size : Int32) (p1_clerks_cells : (Nat → Int32)) (p1_magnets_size : Int32) (p1_magnets_cells : (Nat → Int32)) (p1_told_size : Int32) (p1_notes_size : Int32) (p1_marks_size : Int32) (p1_past_size : Int32) (v2 : Int32) (v3 : Int32), k36 t_start t_token t_value t_kind t_desk t_place p1_day p1_clerks_size p1_clerks_cells p1_magnets_size p1_magnets_cells p1_told_size p1_notes_size p1_marks_size p1_past_size v2 v3 = some res → G 0 0 (wd_X9_readInto cI cZ h_t h_t_bytes h_p1 h_p1_clerks h_p1_magnets h_p1_told h_p1_notes h_p1_marks h_p1_past h_p1_clerks_cells h_p1_magnets_cells h_p1_told_cells h_p1_notes_cells h_p1_marks_cells h_p1_past_cells t_length t_start t_token t_value t_kind t_desk t_place t_bytes p1_day p1_clerks_size p1_clerks_cells p1_magnets_size p1_magnets_cells p1_told_size p1_notes_size p1_marks_size p1_past_size) [(0, .ref h_t), (1, .ref h_p1), (2, .int v2), (3, .int v3)] 36 []) (t_start : Int32) (t_token : Int32) (t_value : Int32) (t_kind : Int32) (t_desk : Int32) (t_place : Int32) (p1_day : Int32) (p1_clerks_size : Int32) (p1_clerks_cells : (Nat → Int32)) (p1_magnets_size : Int32) (p1_magnets_cells : (Nat → Int32)) (p1_told_size : Int32) (p1_notes_size : Int32) (p1_marks_size : Int32) (p1_past_size : Int32) (v3 : Int32), f_X9_readInto_188 t_length t_bytes k36 t_start t_token t_value t_kind t_desk t_place p1_day p1_clerks_size p1_clerks_cells p1_magnets_size p1_magnets_cells p1_told_size p1_notes_size p1_marks_size p1_past_size v3 = some res → G 0 0 (wd_X9_readInto cI cZ h_t h_t_bytes h_p1 h_p1_clerks h_p1_magnets h_p1_told h_p1_notes h_p1_marks h_p1_past h_p1_clerks_cells h_p1_magnets_cells h_p1_told_cells h_p1_notes_cells h_p1_marks_cells h_p1_past_cells t_length t_start t_token t_value t_kind t_desk t_place t_bytes p1_day p1_clerks_size p1_clerks_cells p1_magnets_size p1_magnets_cells p1_told_size p1_notes_size p1_marks_size p1_past_size) [(0, .ref h_t), (1, .ref h_p1), (3, .int v3)] 188 [] := by
    intro k36 hk36 t_start t_token t_value t_kind t_desk t_place p1_day p1_clerks_size p1_clerks_cells p1_magnets_size p1_magnets_cells p1_told_size p1_notes_size p1_marks_size p1_past_size v3 hf
    unfold f_X9_readInto_188 at hf
    refine g_iconst (v := 0) X dX9_readInto_188 (by decide) ?_
    exact J189 k36 hk36 t_start t_token t_value t_kind t_desk t_place p1_day p1_clerks_size p1_clerks_cells p1_magnets_size p1_magnets_cells p1_told_size p1_notes_size p1_marks_size p1_past_size v3 0 hf
  have J237 : ∀ (k36 : Int32 → Int32 → Int32 → Int32 → Int32 → Int32 → Int32 → Int32 → (Nat → Int32) → Int32 → (Nat → Int32) → Int32 → Int32 → Int32 → Int32 → Int32 → Int32 → Option (Int32 × Int32 × Int32 × Int32 × Int32 × Int32 × Int32 × Int32 × Int32 × (Nat → Int32) × Int32 × (Nat → Int32) × Int32 × Int32 × Int32 × Int32)) (hk36 : ∀ (t_start : Int32) (t_token : Int32) (t_value : Int32) (t_kind : Int32) (t_desk : Int32) (t_place : Int32) (p1_day : Int32) (p1_clerks_size : Int32) (p1_clerks_cells : (Nat → Int32)) (p1_magnets_size : Int32) (p1_magnets_cells : (Nat → Int32)) (p1_told_size : Int32) (p1_notes_size : Int32) (p1_marks_size : Int32) (p1_past_size : Int32) (v2 : Int32) (v3 : Int32), k36 t_start t_token t_value t_kind t_desk t_place p1_day p1_clerks_size p1_clerks_cells p1_magnets_size p1_magnets_cells p1_told_size p1_notes_size p1_marks_size p1_past_size v2 v3 = some res → G 0 0 (wd_X9_readInto cI cZ h_t h_t_bytes h_p1 h_p1_clerks h_p1_magnets h_p1_told h_p1_notes h_p1_marks h_p1_past h_p1_clerks_cells h_p1_magnets_cells h_p1_told_cells h_p1_notes_cells h_p1_marks_cells h_p1_past_cells t_length t_start t_token t_value t_kind t_desk t_place t_bytes p1_day p1_clerks_size p1_clerks_cells p1_magnets_size p1_magnets_cells p1_told_size p1_notes_size p1_marks_size p1_past_size) [(0, .ref h_t), (1, .ref h_p1), (2, .int v2), (3, .int v3)] 36 []) (t_start : Int32) (t_token : Int32) (t_value : Int32) (t_kind : Int32) (t_desk : Int32) (t_place : Int32) (p1_day : Int32) (p1_clerks_size : Int32) (p1_clerks_cells : (Nat → Int32)) (p1_magnets_size : Int32) (p1_magnets_cells : (Nat → Int32)) (p1_told_size : Int32) (p1_notes_size : Int32) (p1_marks_size : Int32) (p1_past_size : Int32) (v3 : Int32) (s0 : Int32), f_X9_readInto_237 t_length t_bytes k36 t_start t_token t_value t_kind t_desk t_place p1_day p1_clerks_size p1_clerks_cells p1_magnets_size p1_magnets_cells p1_told_size p1_notes_size p1_marks_size p1_past_size v3 s0 = some res → G 0 0 (wd_X9_readInto cI cZ h_t h_t_bytes h_p1 h_p1_clerks h_p1_magnets h_p1_told h_p1_notes h_p1_marks h_p1_past h_p1_clerks_cells h_p1_magnets_cells h_p1_told_cells h_p1_notes_cells h_p1_marks_cells h_p1_past_cells t_length t_start t_token t_value t_kind t_desk t_place t_bytes p1_day p1_clerks_size p1_clerks_cells p1_magnets_size p1_magnets_cells p1_told_size p1_notes_size p1_marks_size p1_past_size) [(0, .ref h_t), (1, .ref h_p1), (3, .int v3)] 237 [.int s0] := by
    intro k36 hk36 t_start t_token t_value t_kind t_desk t_place p1_day p1_clerks_size p1_clerks_cells p1_magnets_size p1_magnets_cells p1_told_size p1_notes_size p1_marks_size p1_past_size v3 s0 hf
    unfold f_X9_readInto_237 at hf
    refine g_istore_n (lv' := [(0, .ref h_t), (1, .ref h_p1), (2, .int s0), (3, .int v3)]) X dX9_readInto_237 rfl (Nat.le_of_ble_eq_true rfl) [1, 2, 0, 3] rfl ?_
    refine g_goto (tgt := 282) X dX9_readInto_238 (by decide) ?_
    exact J282 k36 hk36 t_start t_token t_value t_kind t_desk t_place p1_day p1_clerks_size p1_clerks_cells p1_magnets_size p1_magnets_cells p1_told_size p1_notes_size p1_marks_size p1_past_size s0 v3 hf
  have J236 : ∀ (k36 : Int32 → Int32 → Int32 → Int32 → Int32 → Int32 → Int32 → Int32 → (Nat → Int32) → Int32 → (Nat → Int32) → Int32 → Int32 → Int32 → Int32 → Int32 → Int32 → Option (Int32 × Int32 × Int32 × Int32 × Int32 × Int32 × Int32 × Int32 × Int32 × (Nat → Int32) × Int32 × (Nat → Int32) × Int32 × Int32 × Int32 × Int32)) (hk36 : ∀ (t_start : Int32) (t_token : Int32) (t_value : Int32) (t_kind : Int32) (t_desk : Int32) (t_place : Int32) (p1_day : Int32) (p1_clerks_size : Int32) (p1_clerks_cells : (Nat → Int32)) (p1_magnets_size : Int32) (p1_magnets_cells : (Nat → Int32)) (p1_told_size : Int32) (p1_notes_size : Int32) (p1_marks_size : Int32) (p1_past_size : Int32) (v2 : Int32) (v3 : Int32), k36 t_start t_token t_value t_kind t_desk t_place p1_day p1_clerks_size p1_clerks_cells p1_magnets_size p1_magnets_cells p1_told_size p1_notes_size p1_marks_size p1_past_size v2 v3 = some res → G 0 0 (wd_X9_readInto cI cZ h_t h_t_bytes h_p1 h_p1_clerks h_p1_magnets h_p1_told h_p1_notes h_p1_marks h_p1_past h_p1_clerks_cells h_p1_magnets_cells h_p1_told_cells h_p1_notes_cells h_p1_marks_cells h_p1_past_cells t_length t_start t_token t_value t_kind t_desk t_place t_bytes p1_day p1_clerks_size p1_clerks_cells p1_magnets_size p1_magnets_cells p1_told_size p1_notes_size p1_marks_size p1_past_size) [(0, .ref h_t), (1, .ref h_p1), (2, .int v2), (3, .int v3)] 36 []) (t_start : Int32) (t_token : Int32) (t_value : Int32) (t_kind : Int32) (t_desk : Int32) (t_place : Int32) (p1_day : Int32) (p1_clerks_size : Int32) (p1_clerks_cells : (Nat → Int32)) (p1_magnets_size : Int32) (p1_magnets_cells : (Nat → Int32)) (p1_told_size : Int32) (p1_notes_size : Int32) (p1_marks_size : Int32) (p1_past_size : Int32) (v3 : Int32), f_X9_readInto_236 t_length t_bytes k36 t_start t_token t_value t_kind t_desk t_place p1_day p1_clerks_size p1_clerks_cells p1_magnets_size p1_magnets_cells p1_told_size p1_notes_size p1_marks_size p1_past_size v3 = some res → G 0 0 (wd_X9_readInto cI cZ h_t h_t_bytes h_p1 h_p1_clerks h_p1_magnets h_p1_told h_p1_notes h_p1_marks h_p1_past h_p1_clerks_cells h_p1_magnets_cells h_p1_told_cells h_p1_notes_cells h_p1_marks_cells h_p1_past_cells t_length t_start t_token t_value t_kind t_desk t_place t_bytes p1_day p1_clerks_size p1_clerks_cells p1_magnets_size p1_magnets_cells p1_told_size p1_notes_size p1_marks_size p1_past_size) [(0, .ref h_t), (1, .ref h_p1), (3, .int v3)] 236 [] := by
    intro k36 hk36 t_start t_token t_value t_kind t_desk t_place p1_day p1_clerks_size p1_clerks_cells p1_magnets_size p1_magnets_cells p1_told_size p1_notes_size p1_marks_size p1_past_size v3 hf
    unfold f_X9_readInto_236 at hf
    refine g_iconst (v := 0) X dX9_readInto_236 (by decide) ?_
    exact J237 k36 hk36 t_start t_token t_value t_kind t_desk t_place p1_day p1_clerks_size p1_clerks_cells p1_magnets_size p1_magnets_cells p1_told_size p1_notes_size p1_marks_size p1_past_size v3 0 hf
  have J263 : ∀ (k36 : Int32 → Int32 → Int32 → Int32 → Int32 → Int32 → Int32 → Int32 → (Nat → Int32) → Int32 → (Nat → Int32) → Int32 → Int32 → Int32 → Int32 → Int32 → Int32 → Option (Int32 × Int32 × Int32 × Int32 × Int32 × Int32 × Int32 × Int32 × Int32 × (Nat → Int32) × Int32 × (Nat → Int32) × Int32 × Int32 × Int32 × Int32)) (hk36 : ∀ (t_start : Int32) (t_token : Int32) (t_value : Int32) (t_kind : Int32) (t_desk : Int32) (t_place : Int32) (p1_day : Int32) (p1_clerks_size : Int32) (p1_clerks_cells : (Nat → Int32)) (p1_magnets_size : Int32) (p1_magnets_cells : (Nat → Int32)) (p1_told_size : Int32) (p1_notes_size : Int32) (p1_marks_size : Int32) (p1_past_size : Int32) (v2 : Int32) (v3 : Int32), k36 t_start t_token t_value t_kind t_desk t_place p1_day p1_clerks_size p1_clerks_cells p1_magnets_size p1_magnets_cells p1_told_size p1_notes_size p1_marks_size p1_past_size v2 v3 = some res → G 0 0 (wd_X9_readInto cI cZ h_t h_t_bytes h_p1 h_p1_clerks h_p1_magnets h_p1_told h_p1_notes h_p1_marks h_p1_past h_p1_clerks_cells h_p1_magnets_cells h_p1_told_cells h_p1_notes_cells h_p1_marks_cells h_p1_past_cells t_length t_start t_token t_value t_kind t_desk t_place t_bytes p1_day p1_clerks_size p1_clerks_cells p1_magnets_size p1_magnets_cells p1_told_size p1_notes_size p1_marks_size p1_past_size) [(0, .ref h_t), (1, .ref h_p1), (2, .int v2), (3, .int v3)] 36 []) (t_start : Int32) (t_token : Int32) (t_value : Int32) (t_kind : Int32) (t_desk : Int32) (t_place : Int32) (p1_day : Int32) (p1_clerks_size : Int32) (p1_clerks_cells : (Nat → Int32)) (p1_magnets_size : Int32) (p1_magnets_cells : (Nat → Int32)) (p1_told_size : Int32) (p1_notes_size : Int32) (p1_marks_size : Int32) (p1_past_size : Int32) (v3 : Int32) (s0 : Int32), f_X9_readInto_263 t_length t_bytes k36 t_start t_token t_value t_kind t_desk t_place p1_day p1_clerks_size p1_clerks_cells p1_magnets_size p1_magnets_cells p1_told_size p1_notes_size p1_marks_size p1_past_size v3 s0 = some res → G 0 0 (wd_X9_readInto cI cZ h_t h_t_bytes h_p1 h_p1_clerks h_p1_magnets h_p1_told h_p1_notes h_p1_marks h_p1_past h_p1_clerks_cells h_p1_magnets_cells h_p1_told_cells h_p1_notes_cells h_p1_marks_cells h_p1_past_cells t_length t_start t_token t_value t_kind t_desk t_place t_bytes p1_day p1_clerks_size p1_clerks_cells p1_magnets_size p1_magnets_cells p1_told_size p1_notes_size p1_marks_size p1_past_size) [(0, .ref h_t), (1, .ref h_p1), (3, .int v3)] 263 [.int s0] := by
    intro k36 hk36 t_start t_token t_value t_kind t_desk t_place p1_day p1_clerks_size p1_clerks_cells p1_magnets_size p1_magnets_cells p1_told_size p1_notes_size p1_marks_size p1_past_size v3 s0 hf
    unfold f_X9_readInto_263 at hf
    refine g_istore_n (lv' := [(0, .ref h_t), (1, .ref h_p1), (2, .int s0), (3, .int v3)]) X dX9_readInto_263 rfl (Nat.le_of_ble_eq_true rfl) [1, 2, 0, 3] rfl ?_
    refine g_iload_n X dX9_readInto_264 rfl 2 rfl ?_
    refine g_if_eq (tgt := 282) X dX9_readInto_265 (by decide) (fun hc_96 => ?_) (fun hc_96 => ?_)
    · replace hf := ite_t hc_96 hf
      exact J282 k36 hk36 t_start t_token t_value t_kind t_desk t_place p1_day p1_clerks_size p1_clerks_cells p1_magnets_size p1_magnets_cells p1_told_size p1_notes_size p1_marks_size p1_past_size s0 v3 hf
    · replace hf := ite_f hc_96 hf
      refine g_aload_n X dX9_readInto_268 rfl 1 rfl ?_
      refine g_aload_n X dX9_readInto_269 rfl 0 rfl ?_
      refine g_get (C := RX9) (T := TX9) (N := 8) (ci := 5) (v := (.int t_value)) X iw_X9_readInto_X9 0 rfl rfl 4 (by decide) lk_X9_readInto_59 rfl dX9_readInto_270 ?_
      obtain ⟨r_97, p1_day_98, p1_clerks_cells_99, hk_100, hf⟩ := ob3_out hf
      refine g_cVW (st := []) (st1 := [.int r_97]) (C := RX6) (ci := 2) (q0 := 2) (ws' := (wd_X9_readInto cI cZ h_t h_t_bytes h_p1 h_p1_clerks h_p1_magnets h_p1_told h_p1_notes h_p1_marks h_p1_past h_p1_clerks_cells h_p1_magnets_cells h_p1_told_cells h_p1_notes_cells h_p1_marks_cells h_p1_past_cells t_length t_start t_token t_value t_kind t_desk t_place t_bytes p1_day_98 p1_clerks_size p1_clerks_cells_99 p1_magnets_size p1_magnets_cells p1_told_size p1_notes_size p1_marks_size p1_past_size)) X (c_X6_passDays l D cI cZ h_p1 h_p1_clerks h_p1_magnets h_p1_told h_p1_notes h_p1_marks h_p1_past h_p1_clerks_cells h_p1_magnets_cells p1_day p1_clerks_size p1_clerks_cells p1_magnets_size p1_magnets_cells t_value _ hk_100) (Or.inl rfl) 1 gX9_readInto_X6_passDays rfl hv_X6_passDays ⟨Nat.le_of_ble_eq_true rfl, Nat.le_of_ble_eq_true rfl⟩ rfl rfl (Nat.le_of_ble_eq_true rfl) ⟨rfl, rfl⟩ (Nat.zero_le _) (Nat.zero_le _) rfl rfl rfl dX9_readInto_273 [2, 3, 4, 5, 6] rfl rfl [0, 1, 7, 8, 9, 10] rfl rfl (by decide) [0, 1, 6, 7, 8, 9, 10, 2, 3, 4, 5] rfl rfl rfl ?_
      refine g_pop X dX9_readInto_276 rfl ?_
      refine g_goto (tgt := 282) X dX9_readInto_277 (by decide) ?_
      exact J282 k36 hk36 t_start t_token t_value t_kind t_desk t_place p1_day_98 p1_clerks_size p1_clerks_cells_99 p1_magnets_size p1_magnets_cells p1_told_size p1_notes_size p1_marks_size p1_past_size s0 v3 hf
  have J262 : ∀ (k36 : Int32 → Int32 → Int32 → Int32 → Int32 → Int32 → Int32 → Int32 → (Nat → Int32) → Int32 → (Nat → Int32) → Int32 → Int32 → Int32 → Int32 → Int32 → Int32 → Option (Int32 × Int32 × Int32 × Int32 × Int32 × Int32 × Int32 × Int32 × Int32 × (Nat → Int32) × Int32 × (Nat → Int32) × Int32 × Int32 × Int32 × Int32)) (hk36 : ∀ (t_start : Int32) (t_token : Int32) (t_value : Int32) (t_kind : Int32) (t_desk : Int32) (t_place : Int32) (p1_day : Int32) (p1_clerks_size : Int32) (p1_clerks_cells : (Nat → Int32)) (p1_magnets_size : Int32) (p1_magnets_cells : (Nat → Int32)) (p1_told_size : Int32) (p1_notes_size : Int32) (p1_marks_size : Int32) (p1_past_size : Int32) (v2 : Int32) (v3 : Int32), k36 t_start t_token t_value t_kind t_desk t_place p1_day p1_clerks_size p1_clerks_cells p1_magnets_size p1_magnets_cells p1_told_size p1_notes_size p1_marks_size p1_past_size v2 v3 = some res → G 0 0 (wd_X9_readInto cI cZ h_t h_t_bytes h_p1 h_p1_clerks h_p1_magnets h_p1_told h_p1_notes h_p1_marks h_p1_past h_p1_clerks_cells h_p1_magnets_cells h_p1_told_cells h_p1_notes_cells h_p1_marks_cells h_p1_past_cells t_length t_start t_token t_value t_kind t_desk t_place t_bytes p1_day p1_clerks_size p1_clerks_cells p1_magnets_size p1_magnets_cells p1_told_size p1_notes_size p1_marks_size p1_past_size) [(0, .ref h_t), (1, .ref h_p1), (2, .int v2), (3, .int v3)] 36 []) (t_start : Int32) (t_token : Int32) (t_value : Int32) (t_kind : Int32) (t_desk : Int32) (t_place : Int32) (p1_day : Int32) (p1_clerks_size : Int32) (p1_clerks_cells : (Nat → Int32)) (p1_magnets_size : Int32) (p1_magnets_cells : (Nat → Int32)) (p1_told_size : Int32) (p1_notes_size : Int32) (p1_marks_size : Int32) (p1_past_size : Int32) (v3 : Int32), f_X9_readInto_262 t_length t_bytes k36 t_start t_token t_value t_kind t_desk t_place p1_day p1_clerks_size p1_clerks_cells p1_magnets_size p1_magnets_cells p1_told_size p1_notes_size p1_marks_size p1_past_size v3 = some res → G 0 0 (wd_X9_readInto cI cZ h_t h_t_bytes h_p1 h_p1_clerks h_p1_magnets h_p1_told h_p1_notes h_p1_marks h_p1_past h_p1_clerks_cells h_p1_magnets_cells h_p1_told_cells h_p1_notes_cells h_p1_marks_cells h_p1_past_cells t_length t_start t_token t_value t_kind t_desk t_place t_bytes p1_day p1_clerks_size p1_clerks_cells p1_magnets_size p1_magnets_cells p1_told_size p1_notes_size p1_marks_size p1_past_size) [(0, .ref h_t), (1, .ref h_p1), (3, .int v3)] 262 [] := by
    intro k36 hk36 t_start t_token t_value t_kind t_desk t_place p1_day p1_clerks_size p1_clerks_cells p1_magnets_size p1_magnets_cells p1_told_size p1_notes_size p1_marks_size p1_past_size v3 hf
    unfold f_X9_readInto_262 at hf
    refine g_iconst (v := 0) X dX9_readInto_262 (by decide) ?_
    exact J263 k36 hk36 t_start t_token t_value t_kind t_desk t_place p1_day p1_clerks_size p1_clerks_cells p1_magnets_size p1_magnets_cells p1_told_size p1_notes_size p1_marks_size p1_past_size v3 0 hf
  have J288 : ∀ (t_start : Int32) (t_token : Int32) (t_value : Int32) (t_kind : Int32) (t_desk : Int32) (t_place : Int32) (p1_day : Int32) (p1_clerks_size : Int32) (p1_clerks_cells : (Nat → Int32)) (p1_magnets_size : Int32) (p1_magnets_cells : (Nat → Int32)) (p1_told_size : Int32) (p1_notes_size : Int32) (p1_marks_size : Int32) (p1_past_size : Int32), f_X9_readInto_288 t_length t_bytes t_start t_token t_value t_kind t_desk t_place p1_day p1_clerks_size p1_clerks_cells p1_magnets_size p1_magnets_cells p1_told_size p1_notes_size p1_marks_size p1_past_size = some res → G 0 0 (wd_X9_readInto cI cZ h_t h_t_bytes h_p1 h_p1_clerks h_p1_magnets h_p1_told h_p1_notes h_p1_marks h_p1_past h_p1_clerks_cells h_p1_magnets_cells h_p1_told_cells h_p1_notes_cells h_p1_marks_cells h_p1_past_cells t_length t_start t_token t_value t_kind t_desk t_place t_bytes p1_day p1_clerks_size p1_clerks_cells p1_magnets_size p1_magnets_cells p1_told_size p1_notes_size p1_marks_size p1_past_size) [(0, .ref h_t)] 288 [] := by
    intro t_start t_token t_value t_kind t_desk t_place p1_day p1_clerks_size p1_clerks_cells p1_magnets_size p1_magnets_cells p1_told_size p1_notes_size p1_marks_size p1_past_size hf
    unfold f_X9_readInto_288 at hf
    refine g_bipush (v := (-10)) X dX9_readInto_288 (by decide) ?_
    refine g_aload_n X dX9_readInto_290 rfl 0 rfl ?_
    refine g_get (C := RX9) (T := TX9) (N := 8) (ci := 5) (v := (.int t_start)) X iw_X9_readInto_X9 0 rfl rfl 2 (by decide) lk_X9_readInto_84 rfl dX9_readInto_291 ?_
    refine g_isub X dX9_readInto_294 ?_
    exact hR _ _ _ _ dX9_readInto_295 (kV_in (u := ((-10) - t_start, t_start, t_token, t_value, t_kind, t_desk, t_place, p1_day, p1_clerks_size, p1_clerks_cells, p1_magnets_size, p1_magnets_cells, p1_told_size, p1_notes_size, p1_marks_size, p1_past_size)) hf)
  have J36 : ∀ (n : Nat) (t_start : Int32) (t_token : Int32) (t_value : Int32) (t_kind : Int32) (t_desk : Int32) (t_place : Int32) (p1_day : Int32) (p1_clerks_size : Int32) (p1_clerks_cells : (Nat → Int32)) (p1_magnets_size : Int32) (p1_magnets_cells : (Nat → Int32)) (p1_told_size : Int32) (p1_notes_size : Int32) (p1_marks_size : Int32) (p1_past_size : Int32) (v2 : Int32) (v3 : Int32), f_X9_readInto_36 t_length t_bytes n t_start t_token t_value t_kind t_desk t_place p1_day p1_clerks_size p1_clerks_cells p1_magnets_size p1_magnets_cells p1_told_size p1_notes_size p1_marks_size p1_past_size v2 v3 = some res → G 0 0 (wd_X9_readInto cI cZ h_t h_t_bytes h_p1 h_p1_clerks h_p1_magnets h_p1_told h_p1_notes h_p1_marks h_p1_past h_p1_clerks_cells h_p1_magnets_cells h_p1_told_cells h_p1_notes_cells h_p1_marks_cells h_p1_past_cells t_length t_start t_token t_value t_kind t_desk t_place t_bytes p1_day p1_clerks_size p1_clerks_cells p1_magnets_size p1_magnets_cells p1_told_size p1_notes_size p1_marks_size p1_past_size) [(0, .ref h_t), (1, .ref h_p1), (2, .int v2), (3, .int v3)] 36 [] := by
    intro n
    induction n with
    | zero => intro t_start t_token t_value t_kind t_desk t_place p1_day p1_clerks_size p1_clerks_cells p1_magnets_size p1_magnets_cells p1_told_size p1_notes_size p1_marks_size p1_past_size v2 v3 hf; rw [f_X9_readInto_36] at hf; cases hf
    | succ n ih =>
      intro t_start t_token t_value t_kind t_desk t_place p1_day p1_clerks_size p1_clerks_cells p1_magnets_size p1_magnets_cells p1_told_size p1_notes_size p1_marks_size p1_past_size v2 v3 hf
      rw [f_X9_readInto_36] at hf
      refine g_iload_n X dX9_readInto_36 rfl 2 rfl ?_
      refine g_if_eq (tgt := 288) X dX9_readInto_37 (by decide) (fun hc_1 => ?_) (fun hc_1 => ?_)
      · replace hf := ite_t hc_1 hf
        refine g_lv X (lv' := [(0, .ref h_t)]) [0] rfl ?_
        exact J288 t_start t_token t_value t_kind t_desk t_place p1_day p1_clerks_size p1_clerks_cells p1_magnets_size p1_magnets_cells p1_told_size p1_notes_size p1_marks_size p1_past_size hf
      · replace hf := ite_f hc_1 hf
        refine g_iload_n X dX9_readInto_40 rfl 3 rfl ?_
        refine g_sipush (v := 150) X dX9_readInto_41 (by decide) ?_
        refine g_icmp_gt (tgt := 288) X dX9_readInto_44 (by decide) (fun hc_2 => ?_) (fun hc_2 => ?_)
        · replace hf := ite_t hc_2 hf
          refine g_lv X (lv' := [(0, .ref h_t)]) [0] rfl ?_
          exact J288 t_start t_token t_value t_kind t_desk t_place p1_day p1_clerks_size p1_clerks_cells p1_magnets_size p1_magnets_cells p1_told_size p1_notes_size p1_marks_size p1_past_size hf
        · replace hf := ite_f hc_2 hf
          refine g_aload_n X dX9_readInto_47 rfl 0 rfl ?_
          obtain ⟨t_start_3, t_token_4, t_value_5, t_place_6, hk_7, hf⟩ := ob4_out hf
          refine g_cVW (st := []) (st1 := []) (C := RX9) (ci := 5) (q0 := 0) (ws' := (wd_X9_readInto cI cZ h_t h_t_bytes h_p1 h_p1_clerks h_p1_magnets h_p1_told h_p1_notes h_p1_marks h_p1_past h_p1_clerks_cells h_p1_magnets_cells h_p1_told_cells h_p1_notes_cells h_p1_marks_cells h_p1_past_cells t_length t_start_3 t_token_4 t_value_5 t_kind t_desk t_place_6 t_bytes p1_day p1_clerks_size p1_clerks_cells p1_magnets_size p1_magnets_cells p1_told_size p1_notes_size p1_marks_size p1_past_size)) X (c_X9_next l D cI cZ q h_t h_t_bytes t_length t_start t_token t_value t_kind t_desk t_place t_bytes _ hk_7) (Or.inr rfl) 0 gX9_readInto_X9_next rfl hv_X9_next ⟨Nat.le_of_ble_eq_true rfl, Nat.le_of_ble_eq_true rfl⟩ rfl rfl (Nat.le_of_ble_eq_true rfl) ⟨rfl, rfl⟩ (Nat.zero_le _) (Nat.zero_le _) rfl rfl rfl dX9_readInto_48 [0, 1] rfl rfl [2, 3, 4, 5, 6, 7, 8, 9, 10] rfl rfl (by decide) [9, 10, 0, 1, 2, 3, 4, 5, 6, 7, 8] rfl rfl rfl ?_
          refine g_aload_n X dX9_readInto_51 rfl 0 rfl ?_
          refine g_get (C := RX9) (T := TX9) (N := 8) (ci := 5) (v := (.int t_token_4)) X iw_X9_readInto_X9 0 rfl rfl 3 (by decide) lk_X9_readInto_34 rfl dX9_readInto_52 ?_
          by_cases hc_8 : t_token_4 = 0
          · replace hf := ite_t hc_8 hf
            refine g_tableIn (tgt := 104) X dX9_readInto_55 (by rw [hc_8]; decide) (by rw [hc_8]; decide) (by rw [hc_8]; rfl) (by decide) ?_
            refine g_iload_n X dX9_readInto_104 rfl 3 rfl ?_
            exact hR _ _ _ _ dX9_readInto_105 (kV_in (u := (v3, t_start_3, t_token_4, t_value_5, t_kind, t_desk, t_place_6, p1_day, p1_clerks_size, p1_clerks_cells, p1_magnets_size, p1_magnets_cells, p1_told_size, p1_notes_size, p1_marks_size, p1_past_size)) hf)
          · replace hf := ite_f hc_8 hf
            by_cases hc_9 : t_token_4 = 1
            · replace hf := ite_t hc_9 hf
              refine g_tableIn (tgt := 280) X dX9_readInto_55 (by rw [hc_9]; decide) (by rw [hc_9]; decide) (by rw [hc_9]; rfl) (by decide) ?_
              refine g_iconst (v := 0) X dX9_readInto_280 (by decide) ?_
              refine g_istore_n (lv' := [(0, .ref h_t), (1, .ref h_p1), (2, .int 0), (3, .int v3)]) X dX9_readInto_281 rfl (Nat.le_of_ble_eq_true rfl) [1, 2, 0, 3] rfl ?_
              exact J282 (f_X9_readInto_36 t_length t_bytes n) ih t_start_3 t_token_4 t_value_5 t_kind t_desk t_place_6 p1_day p1_clerks_size p1_clerks_cells p1_magnets_size p1_magnets_cells p1_told_size p1_notes_size p1_marks_size p1_past_size 0 v3 hf
            · replace hf := ite_f hc_9 hf
              by_cases hc_10 : t_token_4 = 2
              · replace hf := ite_t hc_10 hf
                refine g_tableIn (tgt := 280) X dX9_readInto_55 (by rw [hc_10]; decide) (by rw [hc_10]; decide) (by rw [hc_10]; rfl) (by decide) ?_
                refine g_iconst (v := 0) X dX9_readInto_280 (by decide) ?_
                refine g_istore_n (lv' := [(0, .ref h_t), (1, .ref h_p1), (2, .int 0), (3, .int v3)]) X dX9_readInto_281 rfl (Nat.le_of_ble_eq_true rfl) [1, 2, 0, 3] rfl ?_
                exact J282 (f_X9_readInto_36 t_length t_bytes n) ih t_start_3 t_token_4 t_value_5 t_kind t_desk t_place_6 p1_day p1_clerks_size p1_clerks_cells p1_magnets_size p1_magnets_cells p1_told_size p1_notes_size p1_marks_size p1_past_size 0 v3 hf
              · replace hf := ite_f hc_10 hf
                by_cases hc_11 : t_token_4 = 3
                · replace hf := ite_t hc_11 hf
                  refine g_tableIn (tgt := 280) X dX9_readInto_55 (by rw [hc_11]; decide) (by rw [hc_11]; decide) (by rw [hc_11]; rfl) (by decide) ?_
                  refine g_iconst (v := 0) X dX9_readInto_280 (by decide) ?_
                  refine g_istore_n (lv' := [(0, .ref h_t), (1, .ref h_p1), (2, .int 0), (3, .int v3)]) X dX9_readInto_281 rfl (Nat.le_of_ble_eq_true rfl) [1, 2, 0, 3] rfl ?_
                  exact J282 (f_X9_readInto_36 t_length t_bytes n) ih t_start_3 t_token_4 t_value_5 t_kind t_desk t_place_6 p1_day p1_clerks_size p1_clerks_cells p1_magnets_size p1_magnets_cells p1_told_size p1_notes_size p1_marks_size p1_past_size 0 v3 hf
                · replace hf := ite_f hc_11 hf
                  by_cases hc_12 : t_token_4 = 4
                  · replace hf := ite_t hc_12 hf
                    refine g_tableIn (tgt := 280) X dX9_readInto_55 (by rw [hc_12]; decide) (by rw [hc_12]; decide) (by rw [hc_12]; rfl) (by decide) ?_
                    refine g_iconst (v := 0) X dX9_readInto_280 (by decide) ?_
                    refine g_istore_n (lv' := [(0, .ref h_t), (1, .ref h_p1), (2, .int 0), (3, .int v3)]) X dX9_readInto_281 rfl (Nat.le_of_ble_eq_true rfl) [1, 2, 0, 3] rfl ?_
                    exact J282 (f_X9_readInto_36 t_length t_bytes n) ih t_start_3 t_token_4 t_value_5 t_kind t_desk t_place_6 p1_day p1_clerks_size p1_clerks_cells p1_magnets_size p1_magnets_cells p1_told_size p1_notes_size p1_marks_size p1_past_size 0 v3 hf
                  · replace hf := ite_f hc_12 hf
                    by_cases hc_13 : t_token_4 = 5
                    · replace hf := ite_t hc_13 hf
                      refine g_tableIn (tgt := 106) X dX9_readInto_55 (by rw [hc_13]; decide) (by rw [hc_13]; decide) (by rw [hc_13]; rfl) (by decide) ?_
                      refine g_aload_n X dX9_readInto_106 rfl 1 rfl ?_
                      refine g_getN (C := RX6) (T := TX6) (N := 7) (ci := 2) (v := (.ref h_p1_clerks)) X iw_X9_readInto_X6 2 rfl rfl 0 (by decide) (by decide +kernel) rfl dX9_readInto_107 ?_
                      obtain ⟨r_14, hk_15, hf⟩ := ob1_out hf
                      refine g_cVR (st := []) (st1 := [.int r_14]) (C := RX7) (ci := 3) (q0 := 3) X (c_X7_isFull l D cI cZ h_p1_clerks h_p1_clerks_cells 7 5 p1_clerks_size _ hk_15) (Or.inl rfl) 0 gX9_readInto_X7_isFull rfl hv_X7_isFull ⟨Nat.le_of_ble_eq_true rfl, Nat.le_of_ble_eq_true rfl⟩ rfl rfl (Nat.le_of_ble_eq_true rfl) ⟨rfl, rfl⟩ (Nat.zero_le _) (Nat.zero_le _) rfl rfl rfl dX9_readInto_110 [3] rfl rfl rfl ?_
                      refine g_if_ne (tgt := 134) X dX9_readInto_113 (by decide) (fun hc_16 => ?_) (fun hc_16 => ?_)
                      · replace hf := ite_f hc_16 hf
                        refine g_lv X (lv' := [(0, .ref h_t), (1, .ref h_p1), (3, .int v3)]) [0, 1, 3] rfl ?_
                        exact J134 (f_X9_readInto_36 t_length t_bytes n) ih t_start_3 t_token_4 t_value_5 t_kind t_desk t_place_6 p1_day p1_clerks_size p1_clerks_cells p1_magnets_size p1_magnets_cells p1_told_size p1_notes_size p1_marks_size p1_past_size v3 hf
                      · replace hf := ite_t hc_16 hf
                        refine g_aload_n X dX9_readInto_116 rfl 0 rfl ?_
                        obtain ⟨r_17, t_start_18, t_token_19, t_value_20, t_kind_21, t_desk_22, t_place_23, hk_24, hf⟩ := ob7_out hf
                        refine g_cVW (st := []) (st1 := [.int r_17]) (C := RX9) (ci := 5) (q0 := 0) (ws' := (wd_X9_readInto cI cZ h_t h_t_bytes h_p1 h_p1_clerks h_p1_magnets h_p1_told h_p1_notes h_p1_marks h_p1_past h_p1_clerks_cells h_p1_magnets_cells h_p1_told_cells h_p1_notes_cells h_p1_marks_cells h_p1_past_cells t_length t_start_18 t_token_19 t_value_20 t_kind_21 t_desk_22 t_place_23 t_bytes p1_day p1_clerks_size p1_clerks_cells p1_magnets_size p1_magnets_cells p1_told_size p1_notes_size p1_marks_size p1_past_size)) X (c_X9_readThree l D cI cZ q h_t h_t_bytes t_length t_start_3 t_token_4 t_value_5 t_kind t_desk t_place_6 t_bytes _ hk_24) (Or.inr rfl) 0 gX9_readInto_X9_readThree rfl hv_X9_readThree ⟨Nat.le_of_ble_eq_true rfl, Nat.le_of_ble_eq_true rfl⟩ rfl rfl (Nat.le_of_ble_eq_true rfl) ⟨rfl, rfl⟩ (Nat.zero_le _) (Nat.zero_le _) rfl rfl rfl dX9_readInto_117 [0, 1] rfl rfl [2, 3, 4, 5, 6, 7, 8, 9, 10] rfl rfl (by decide) [9, 10, 0, 1, 2, 3, 4, 5, 6, 7, 8] rfl rfl rfl ?_
                        refine g_if_eq (tgt := 134) X dX9_readInto_120 (by decide) (fun hc_25 => ?_) (fun hc_25 => ?_)
                        · replace hf := ite_t hc_25 hf
                          refine g_lv X (lv' := [(0, .ref h_t), (1, .ref h_p1), (3, .int v3)]) [0, 1, 3] rfl ?_
                          exact J134 (f_X9_readInto_36 t_length t_bytes n) ih t_start_18 t_token_19 t_value_20 t_kind_21 t_desk_22 t_place_23 p1_day p1_clerks_size p1_clerks_cells p1_magnets_size p1_magnets_cells p1_told_size p1_notes_size p1_marks_size p1_past_size v3 hf
                        · replace hf := ite_f hc_25 hf
                          refine g_aload_n X dX9_readInto_123 rfl 0 rfl ?_
                          obtain ⟨r_26, t_start_27, t_token_28, t_value_29, t_place_30, hk_31, hf⟩ := ob5_out hf
                          refine g_cVW (st := []) (st1 := [.int r_26]) (C := RX9) (ci := 5) (q0 := 0) (ws' := (wd_X9_readInto cI cZ h_t h_t_bytes h_p1 h_p1_clerks h_p1_magnets h_p1_told h_p1_notes h_p1_marks h_p1_past h_p1_clerks_cells h_p1_magnets_cells h_p1_told_cells h_p1_notes_cells h_p1_marks_cells h_p1_past_cells t_length t_start_27 t_token_28 t_value_29 t_kind_21 t_desk_22 t_place_30 t_bytes p1_day p1_clerks_size p1_clerks_cells p1_magnets_size p1_magnets_cells p1_told_size p1_notes_size p1_marks_size p1_past_size)) X (c_X9_stops l D cI cZ q h_t h_t_bytes t_length t_start_18 t_token_19 t_value_20 t_kind_21 t_desk_22 t_place_23 t_bytes _ hk_31) (Or.inr rfl) 0 gX9_readInto_X9_stops rfl hv_X9_stops ⟨Nat.le_of_ble_eq_true rfl, Nat.le_of_ble_eq_true rfl⟩ rfl rfl (Nat.le_of_ble_eq_true rfl) ⟨rfl, rfl⟩ (Nat.zero_le _) (Nat.zero_le _) rfl rfl rfl dX9_readInto_124 [0, 1] rfl rfl [2, 3, 4, 5, 6, 7, 8, 9, 10] rfl rfl (by decide) [9, 10, 0, 1, 2, 3, 4, 5, 6, 7, 8] rfl rfl rfl ?_
                          refine g_if_eq (tgt := 134) X dX9_readInto_127 (by decide) (fun hc_32 => ?_) (fun hc_32 => ?_)
                          · replace hf := ite_t hc_32 hf
                            refine g_lv X (lv' := [(0, .ref h_t), (1, .ref h_p1), (3, .int v3)]) [0, 1, 3] rfl ?_
                            exact J134 (f_X9_readInto_36 t_length t_bytes n) ih t_start_27 t_token_28 t_value_29 t_kind_21 t_desk_22 t_place_30 p1_day p1_clerks_size p1_clerks_cells p1_magnets_size p1_magnets_cells p1_told_size p1_notes_size p1_marks_size p1_past_size v3 hf
                          · replace hf := ite_f hc_32 hf
                            refine g_iconst (v := 1) X dX9_readInto_130 (by decide) ?_
                            refine g_goto (tgt := 135) X dX9_readInto_131 (by decide) ?_
                            refine g_lv X (lv' := [(0, .ref h_t), (1, .ref h_p1), (3, .int v3)]) [0, 1, 3] rfl ?_
                            exact J135 (f_X9_readInto_36 t_length t_bytes n) ih t_start_27 t_token_28 t_value_29 t_kind_21 t_desk_22 t_place_30 p1_day p1_clerks_size p1_clerks_cells p1_magnets_size p1_magnets_cells p1_told_size p1_notes_size p1_marks_size p1_past_size v3 1 hf
                    · replace hf := ite_f hc_13 hf
                      by_cases hc_33 : t_token_4 = 6
                      · replace hf := ite_t hc_33 hf
                        refine g_tableIn (tgt := 160) X dX9_readInto_55 (by rw [hc_33]; decide) (by rw [hc_33]; decide) (by rw [hc_33]; rfl) (by decide) ?_
                        refine g_aload_n X dX9_readInto_160 rfl 1 rfl ?_
                        refine g_getN (C := RX6) (T := TX6) (N := 7) (ci := 2) (v := (.ref h_p1_magnets)) X iw_X9_readInto_X6 2 rfl rfl 1 (by decide) (by decide +kernel) rfl dX9_readInto_161 ?_
                        obtain ⟨r_34, hk_35, hf⟩ := ob1_out hf
                        refine g_cVR (st := []) (st1 := [.int r_34]) (C := RX7) (ci := 3) (q0 := 5) X (c_X7_isFull l D cI cZ h_p1_magnets h_p1_magnets_cells 3 3 p1_magnets_size _ hk_35) (Or.inl rfl) 0 gX9_readInto_X7_isFull rfl hv_X7_isFull ⟨Nat.le_of_ble_eq_true rfl, Nat.le_of_ble_eq_true rfl⟩ rfl rfl (Nat.le_of_ble_eq_true rfl) ⟨rfl, rfl⟩ (Nat.zero_le _) (Nat.zero_le _) rfl rfl rfl dX9_readInto_164 [5] rfl rfl rfl ?_
                        refine g_if_ne (tgt := 188) X dX9_readInto_167 (by decide) (fun hc_36 => ?_) (fun hc_36 => ?_)
                        · replace hf := ite_f hc_36 hf
                          refine g_lv X (lv' := [(0, .ref h_t), (1, .ref h_p1), (3, .int v3)]) [0, 1, 3] rfl ?_
                          exact J188 (f_X9_readInto_36 t_length t_bytes n) ih t_start_3 t_token_4 t_value_5 t_kind t_desk t_place_6 p1_day p1_clerks_size p1_clerks_cells p1_magnets_size p1_magnets_cells p1_told_size p1_notes_size p1_marks_size p1_past_size v3 hf
                        · replace hf := ite_t hc_36 hf
                          refine g_aload_n X dX9_readInto_170 rfl 0 rfl ?_
                          obtain ⟨r_37, t_start_38, t_token_39, t_value_40, t_kind_41, t_desk_42, t_place_43, hk_44, hf⟩ := ob7_out hf
                          refine g_cVW (st := []) (st1 := [.int r_37]) (C := RX9) (ci := 5) (q0 := 0) (ws' := (wd_X9_readInto cI cZ h_t h_t_bytes h_p1 h_p1_clerks h_p1_magnets h_p1_told h_p1_notes h_p1_marks h_p1_past h_p1_clerks_cells h_p1_magnets_cells h_p1_told_cells h_p1_notes_cells h_p1_marks_cells h_p1_past_cells t_length t_start_38 t_token_39 t_value_40 t_kind_41 t_desk_42 t_place_43 t_bytes p1_day p1_clerks_size p1_clerks_cells p1_magnets_size p1_magnets_cells p1_told_size p1_notes_size p1_marks_size p1_past_size)) X (c_X9_readThree l D cI cZ q h_t h_t_bytes t_length t_start_3 t_token_4 t_value_5 t_kind t_desk t_place_6 t_bytes _ hk_44) (Or.inr rfl) 0 gX9_readInto_X9_readThree rfl hv_X9_readThree ⟨Nat.le_of_ble_eq_true rfl, Nat.le_of_ble_eq_true rfl⟩ rfl rfl (Nat.le_of_ble_eq_true rfl) ⟨rfl, rfl⟩ (Nat.zero_le _) (Nat.zero_le _) rfl rfl rfl dX9_readInto_171 [0, 1] rfl rfl [2, 3, 4, 5, 6, 7, 8, 9, 10] rfl rfl (by decide) [9, 10, 0, 1, 2, 3, 4, 5, 6, 7, 8] rfl rfl rfl ?_
                          refine g_if_eq (tgt := 188) X dX9_readInto_174 (by decide) (fun hc_45 => ?_) (fun hc_45 => ?_)
                          · replace hf := ite_t hc_45 hf
                            refine g_lv X (lv' := [(0, .ref h_t), (1, .ref h_p1), (3, .int v3)]) [0, 1, 3] rfl ?_
                            exact J188 (f_X9_readInto_36 t_length t_bytes n) ih t_start_38 t_token_39 t_value_40 t_kind_41 t_desk_42 t_place_43 p1_day p1_clerks_size p1_clerks_cells p1_magnets_size p1_magnets_cells p1_told_size p1_notes_size p1_marks_size p1_past_size v3 hf
                          · replace hf := ite_f hc_45 hf
                            refine g_aload_n X dX9_readInto_177 rfl 0 rfl ?_
                            obtain ⟨r_46, t_start_47, t_token_48, t_value_49, t_place_50, hk_51, hf⟩ := ob5_out hf
                            refine g_cVW (st := []) (st1 := [.int r_46]) (C := RX9) (ci := 5) (q0 := 0) (ws' := (wd_X9_readInto cI cZ h_t h_t_bytes h_p1 h_p1_clerks h_p1_magnets h_p1_told h_p1_notes h_p1_marks h_p1_past h_p1_clerks_cells h_p1_magnets_cells h_p1_told_cells h_p1_notes_cells h_p1_marks_cells h_p1_past_cells t_length t_start_47 t_token_48 t_value_49 t_kind_41 t_desk_42 t_place_50 t_bytes p1_day p1_clerks_size p1_clerks_cells p1_magnets_size p1_magnets_cells p1_told_size p1_notes_size p1_marks_size p1_past_size)) X (c_X9_stops l D cI cZ q h_t h_t_bytes t_length t_start_38 t_token_39 t_value_40 t_kind_41 t_desk_42 t_place_43 t_bytes _ hk_51) (Or.inr rfl) 0 gX9_readInto_X9_stops rfl hv_X9_stops ⟨Nat.le_of_ble_eq_true rfl, Nat.le_of_ble_eq_true rfl⟩ rfl rfl (Nat.le_of_ble_eq_true rfl) ⟨rfl, rfl⟩ (Nat.zero_le _) (Nat.zero_le _) rfl rfl rfl dX9_readInto_178 [0, 1] rfl rfl [2, 3, 4, 5, 6, 7, 8, 9, 10] rfl rfl (by decide) [9, 10, 0, 1, 2, 3, 4, 5, 6, 7, 8] rfl rfl rfl ?_
                            refine g_if_eq (tgt := 188) X dX9_readInto_181 (by decide) (fun hc_52 => ?_) (fun hc_52 => ?_)
                            · replace hf := ite_t hc_52 hf
                              refine g_lv X (lv' := [(0, .ref h_t), (1, .ref h_p1), (3, .int v3)]) [0, 1, 3] rfl ?_
                              exact J188 (f_X9_readInto_36 t_length t_bytes n) ih t_start_47 t_token_48 t_value_49 t_kind_41 t_desk_42 t_place_50 p1_day p1_clerks_size p1_clerks_cells p1_magnets_size p1_magnets_cells p1_told_size p1_notes_size p1_marks_size p1_past_size v3 hf
                            · replace hf := ite_f hc_52 hf
                              refine g_iconst (v := 1) X dX9_readInto_184 (by decide) ?_
                              refine g_goto (tgt := 189) X dX9_readInto_185 (by decide) ?_
                              refine g_lv X (lv' := [(0, .ref h_t), (1, .ref h_p1), (3, .int v3)]) [0, 1, 3] rfl ?_
                              exact J189 (f_X9_readInto_36 t_length t_bytes n) ih t_start_47 t_token_48 t_value_49 t_kind_41 t_desk_42 t_place_50 p1_day p1_clerks_size p1_clerks_cells p1_magnets_size p1_magnets_cells p1_told_size p1_notes_size p1_marks_size p1_past_size v3 1 hf
                      · replace hf := ite_f hc_33 hf
                        by_cases hc_53 : t_token_4 = 7
                        · replace hf := ite_t hc_53 hf
                          refine g_tableIn (tgt := 214) X dX9_readInto_55 (by rw [hc_53]; decide) (by rw [hc_53]; decide) (by rw [hc_53]; rfl) (by decide) ?_
                          refine g_aload_n X dX9_readInto_214 rfl 0 rfl ?_
                          refine g_aload_n X dX9_readInto_215 rfl 1 rfl ?_
                          refine g_getN (C := RX6) (T := TX6) (N := 7) (ci := 2) (v := (.ref h_p1_clerks)) X iw_X9_readInto_X6 2 rfl rfl 0 (by decide) (by decide +kernel) rfl dX9_readInto_216 ?_
                          obtain ⟨r_54, t_start_55, t_token_56, t_value_57, t_place_58, p1_clerks_cells_59, hk_60, hf⟩ := ob6_out hf
                          refine g_cVW (st := []) (st1 := [.int r_54]) (C := RX9) (ci := 5) (q0 := 0) (ws' := (wd_X9_readInto cI cZ h_t h_t_bytes h_p1 h_p1_clerks h_p1_magnets h_p1_told h_p1_notes h_p1_marks h_p1_past h_p1_clerks_cells h_p1_magnets_cells h_p1_told_cells h_p1_notes_cells h_p1_marks_cells h_p1_past_cells t_length t_start_55 t_token_56 t_value_57 t_kind t_desk t_place_58 t_bytes p1_day p1_clerks_size p1_clerks_cells_59 p1_magnets_size p1_magnets_cells p1_told_size p1_notes_size p1_marks_size p1_past_size)) X (c_X9_readHook l D cI cZ q h_t h_t_bytes h_p1_clerks h_p1_clerks_cells t_length t_start_3 t_token_4 t_value_5 t_kind t_desk t_place_6 t_bytes 7 5 p1_clerks_size 35 p1_clerks_cells _ hk_60) (Or.inr rfl) 1 gX9_readInto_X9_readHook rfl hv_X9_readHook ⟨Nat.le_of_ble_eq_true rfl, Nat.le_of_ble_eq_true rfl⟩ rfl rfl (Nat.le_of_ble_eq_true rfl) ⟨rfl, rfl⟩ (Nat.zero_le _) (Nat.zero_le _) rfl rfl rfl dX9_readInto_219 [0, 1, 3, 4] rfl rfl [2, 5, 6, 7, 8, 9, 10] rfl rfl (by decide) [7, 8, 0, 9, 10, 1, 2, 3, 4, 5, 6] rfl rfl rfl ?_
                          refine g_if_eq (tgt := 236) X dX9_readInto_222 (by decide) (fun hc_61 => ?_) (fun hc_61 => ?_)
                          · replace hf := ite_t hc_61 hf
                            refine g_lv X (lv' := [(0, .ref h_t), (1, .ref h_p1), (3, .int v3)]) [0, 1, 3] rfl ?_
                            exact J236 (f_X9_readInto_36 t_length t_bytes n) ih t_start_55 t_token_56 t_value_57 t_kind t_desk t_place_58 p1_day p1_clerks_size p1_clerks_cells_59 p1_magnets_size p1_magnets_cells p1_told_size p1_notes_size p1_marks_size p1_past_size v3 hf
                          · replace hf := ite_f hc_61 hf
                            refine g_aload_n X dX9_readInto_225 rfl 0 rfl ?_
                            obtain ⟨r_62, t_start_63, t_token_64, t_value_65, t_place_66, hk_67, hf⟩ := ob5_out hf
                            refine g_cVW (st := []) (st1 := [.int r_62]) (C := RX9) (ci := 5) (q0 := 0) (ws' := (wd_X9_readInto cI cZ h_t h_t_bytes h_p1 h_p1_clerks h_p1_magnets h_p1_told h_p1_notes h_p1_marks h_p1_past h_p1_clerks_cells h_p1_magnets_cells h_p1_told_cells h_p1_notes_cells h_p1_marks_cells h_p1_past_cells t_length t_start_63 t_token_64 t_value_65 t_kind t_desk t_place_66 t_bytes p1_day p1_clerks_size p1_clerks_cells_59 p1_magnets_size p1_magnets_cells p1_told_size p1_notes_size p1_marks_size p1_past_size)) X (c_X9_stops l D cI cZ q h_t h_t_bytes t_length t_start_55 t_token_56 t_value_57 t_kind t_desk t_place_58 t_bytes _ hk_67) (Or.inr rfl) 0 gX9_readInto_X9_stops rfl hv_X9_stops ⟨Nat.le_of_ble_eq_true rfl, Nat.le_of_ble_eq_true rfl⟩ rfl rfl (Nat.le_of_ble_eq_true rfl) ⟨rfl, rfl⟩ (Nat.zero_le _) (Nat.zero_le _) rfl rfl rfl dX9_readInto_226 [0, 1] rfl rfl [2, 3, 4, 5, 6, 7, 8, 9, 10] rfl rfl (by decide) [9, 10, 0, 1, 2, 3, 4, 5, 6, 7, 8] rfl rfl rfl ?_
                            refine g_if_eq (tgt := 236) X dX9_readInto_229 (by decide) (fun hc_68 => ?_) (fun hc_68 => ?_)
                            · replace hf := ite_t hc_68 hf
                              refine g_lv X (lv' := [(0, .ref h_t), (1, .ref h_p1), (3, .int v3)]) [0, 1, 3] rfl ?_
                              exact J236 (f_X9_readInto_36 t_length t_bytes n) ih t_start_63 t_token_64 t_value_65 t_kind t_desk t_place_66 p1_day p1_clerks_size p1_clerks_cells_59 p1_magnets_size p1_magnets_cells p1_told_size p1_notes_size p1_marks_size p1_past_size v3 hf
                            · replace hf := ite_f hc_68 hf
                              refine g_iconst (v := 1) X dX9_readInto_232 (by decide) ?_
                              refine g_goto (tgt := 237) X dX9_readInto_233 (by decide) ?_
                              refine g_lv X (lv' := [(0, .ref h_t), (1, .ref h_p1), (3, .int v3)]) [0, 1, 3] rfl ?_
                              exact J237 (f_X9_readInto_36 t_length t_bytes n) ih t_start_63 t_token_64 t_value_65 t_kind t_desk t_place_66 p1_day p1_clerks_size p1_clerks_cells_59 p1_magnets_size p1_magnets_cells p1_told_size p1_notes_size p1_marks_size p1_past_size v3 1 hf
                        · replace hf := ite_f hc_53 hf
                          by_cases hc_69 : t_token_4 = 8
                          · replace hf := ite_t hc_69 hf
                            refine g_tableIn (tgt := 241) X dX9_readInto_55 (by rw [hc_69]; decide) (by rw [hc_69]; decide) (by rw [hc_69]; rfl) (by decide) ?_
                            refine g_aload_n X dX9_readInto_241 rfl 0 rfl ?_
                            refine g_iconst (v := 1) X dX9_readInto_242 (by decide) ?_
                            refine g_bipush (v := 99) X dX9_readInto_243 (by decide) ?_
                            obtain ⟨r_70, t_start_71, t_token_72, t_value_73, t_place_74, hk_75, hf⟩ := ob5_out hf
                            refine g_cVW (st := []) (st1 := [.int r_70]) (C := RX9) (ci := 5) (q0 := 0) (ws' := (wd_X9_readInto cI cZ h_t h_t_bytes h_p1 h_p1_clerks h_p1_magnets h_p1_told h_p1_notes h_p1_marks h_p1_past h_p1_clerks_cells h_p1_magnets_cells h_p1_told_cells h_p1_notes_cells h_p1_marks_cells h_p1_past_cells t_length t_start_71 t_token_72 t_value_73 t_kind t_desk t_place_74 t_bytes p1_day p1_clerks_size p1_clerks_cells p1_magnets_size p1_magnets_cells p1_told_size p1_notes_size p1_marks_size p1_past_size)) X (c_X9_readNumber l D cI cZ q h_t h_t_bytes t_length t_start_3 t_token_4 t_value_5 t_kind t_desk t_place_6 t_bytes 1 99 _ hk_75) (Or.inr rfl) 2 gX9_readInto_X9_readNumber rfl hv_X9_readNumber ⟨Nat.le_of_ble_eq_true rfl, Nat.le_of_ble_eq_true rfl⟩ rfl rfl (Nat.le_of_ble_eq_true rfl) ⟨rfl, rfl⟩ (Nat.zero_le _) (Nat.zero_le _) rfl rfl rfl dX9_readInto_245 [0, 1] rfl rfl [2, 3, 4, 5, 6, 7, 8, 9, 10] rfl rfl (by decide) [9, 10, 0, 1, 2, 3, 4, 5, 6, 7, 8] rfl rfl rfl ?_
                            refine g_if_eq (tgt := 262) X dX9_readInto_248 (by decide) (fun hc_76 => ?_) (fun hc_76 => ?_)
                            · replace hf := ite_t hc_76 hf
                              refine g_lv X (lv' := [(0, .ref h_t), (1, .ref h_p1), (3, .int v3)]) [0, 1, 3] rfl ?_
                              exact J262 (f_X9_readInto_36 t_length t_bytes n) ih t_start_71 t_token_72 t_value_73 t_kind t_desk t_place_74 p1_day p1_clerks_size p1_clerks_cells p1_magnets_size p1_magnets_cells p1_told_size p1_notes_size p1_marks_size p1_past_size v3 hf
                            · replace hf := ite_f hc_76 hf
                              refine g_aload_n X dX9_readInto_251 rfl 0 rfl ?_
                              obtain ⟨r_77, t_start_78, t_token_79, t_value_80, t_place_81, hk_82, hf⟩ := ob5_out hf
                              refine g_cVW (st := []) (st1 := [.int r_77]) (C := RX9) (ci := 5) (q0 := 0) (ws' := (wd_X9_readInto cI cZ h_t h_t_bytes h_p1 h_p1_clerks h_p1_magnets h_p1_told h_p1_notes h_p1_marks h_p1_past h_p1_clerks_cells h_p1_magnets_cells h_p1_told_cells h_p1_notes_cells h_p1_marks_cells h_p1_past_cells t_length t_start_78 t_token_79 t_value_80 t_kind t_desk t_place_81 t_bytes p1_day p1_clerks_size p1_clerks_cells p1_magnets_size p1_magnets_cells p1_told_size p1_notes_size p1_marks_size p1_past_size)) X (c_X9_stops l D cI cZ q h_t h_t_bytes t_length t_start_71 t_token_72 t_value_73 t_kind t_desk t_place_74 t_bytes _ hk_82) (Or.inr rfl) 0 gX9_readInto_X9_stops rfl hv_X9_stops ⟨Nat.le_of_ble_eq_true rfl, Nat.le_of_ble_eq_true rfl⟩ rfl rfl (Nat.le_of_ble_eq_true rfl) ⟨rfl, rfl⟩ (Nat.zero_le _) (Nat.zero_le _) rfl rfl rfl dX9_readInto_252 [0, 1] rfl rfl [2, 3, 4, 5, 6, 7, 8, 9, 10] rfl rfl (by decide) [9, 10, 0, 1, 2, 3, 4, 5, 6, 7, 8] rfl rfl rfl ?_
                              refine g_if_eq (tgt := 262) X dX9_readInto_255 (by decide) (fun hc_83 => ?_) (fun hc_83 => ?_)
                              · replace hf := ite_t hc_83 hf
                                refine g_lv X (lv' := [(0, .ref h_t), (1, .ref h_p1), (3, .int v3)]) [0, 1, 3] rfl ?_
                                exact J262 (f_X9_readInto_36 t_length t_bytes n) ih t_start_78 t_token_79 t_value_80 t_kind t_desk t_place_81 p1_day p1_clerks_size p1_clerks_cells p1_magnets_size p1_magnets_cells p1_told_size p1_notes_size p1_marks_size p1_past_size v3 hf
                              · replace hf := ite_f hc_83 hf
                                refine g_iconst (v := 1) X dX9_readInto_258 (by decide) ?_
                                refine g_goto (tgt := 263) X dX9_readInto_259 (by decide) ?_
                                refine g_lv X (lv' := [(0, .ref h_t), (1, .ref h_p1), (3, .int v3)]) [0, 1, 3] rfl ?_
                                exact J263 (f_X9_readInto_36 t_length t_bytes n) ih t_start_78 t_token_79 t_value_80 t_kind t_desk t_place_81 p1_day p1_clerks_size p1_clerks_cells p1_magnets_size p1_magnets_cells p1_told_size p1_notes_size p1_marks_size p1_past_size v3 1 hf
                          · replace hf := ite_f hc_69 hf
                            have thc_8 := lv_neT hc_8 (show (0 : Int32).toInt = 0 by decide)
                            have thc_9 := lv_neT hc_9 (show (1 : Int32).toInt = 1 by decide)
                            have thc_10 := lv_neT hc_10 (show (2 : Int32).toInt = 2 by decide)
                            have thc_11 := lv_neT hc_11 (show (3 : Int32).toInt = 3 by decide)
                            have thc_12 := lv_neT hc_12 (show (4 : Int32).toInt = 4 by decide)
                            have thc_13 := lv_neT hc_13 (show (5 : Int32).toInt = 5 by decide)
                            have thc_33 := lv_neT hc_33 (show (6 : Int32).toInt = 6 by decide)
                            have thc_53 := lv_neT hc_53 (show (7 : Int32).toInt = 7 by decide)
                            have thc_69 := lv_neT hc_69 (show (8 : Int32).toInt = 8 by decide)
                            refine g_tableOut (tgt := 280) X dX9_readInto_55 (by omega) (by decide) ?_
                            refine g_iconst (v := 0) X dX9_readInto_280 (by decide) ?_
                            refine g_istore_n (lv' := [(0, .ref h_t), (1, .ref h_p1), (2, .int 0), (3, .int v3)]) X dX9_readInto_281 rfl (Nat.le_of_ble_eq_true rfl) [1, 2, 0, 3] rfl ?_
                            exact J282 (f_X9_readInto_36 t_length t_bytes n) ih t_start_3 t_token_4 t_value_5 t_kind t_desk t_place_6 p1_day p1_clerks_size p1_clerks_cells p1_magnets_size p1_magnets_cells p1_told_size p1_notes_size p1_marks_size p1_past_size 0 v3 hf
  have J33 : ∀ (t_start : Int32) (t_token : Int32) (t_value : Int32) (t_kind : Int32) (t_desk : Int32) (t_place : Int32) (p1_day : Int32) (p1_clerks_size : Int32) (p1_clerks_cells : (Nat → Int32)) (p1_magnets_size : Int32) (p1_magnets_cells : (Nat → Int32)) (p1_told_size : Int32) (p1_notes_size : Int32) (p1_marks_size : Int32) (p1_past_size : Int32) (s0 : Int32), f_X9_readInto_33 t_length t_bytes t_start t_token t_value t_kind t_desk t_place p1_day p1_clerks_size p1_clerks_cells p1_magnets_size p1_magnets_cells p1_told_size p1_notes_size p1_marks_size p1_past_size s0 = some res → G 0 0 (wd_X9_readInto cI cZ h_t h_t_bytes h_p1 h_p1_clerks h_p1_magnets h_p1_told h_p1_notes h_p1_marks h_p1_past h_p1_clerks_cells h_p1_magnets_cells h_p1_told_cells h_p1_notes_cells h_p1_marks_cells h_p1_past_cells t_length t_start t_token t_value t_kind t_desk t_place t_bytes p1_day p1_clerks_size p1_clerks_cells p1_magnets_size p1_magnets_cells p1_told_size p1_notes_size p1_marks_size p1_past_size) [(0, .ref h_t), (1, .ref h_p1)] 33 [.int s0] := by
    intro t_start t_token t_value t_kind t_desk t_place p1_day p1_clerks_size p1_clerks_cells p1_magnets_size p1_magnets_cells p1_told_size p1_notes_size p1_marks_size p1_past_size s0 hf
    unfold f_X9_readInto_33 at hf
    refine g_istore_n (lv' := [(0, .ref h_t), (1, .ref h_p1), (2, .int s0)]) X dX9_readInto_33 rfl (Nat.le_of_ble_eq_true rfl) [1, 2, 0] rfl ?_
    refine g_iconst (v := 1) X dX9_readInto_34 (by decide) ?_
    refine g_istore_n (lv' := [(0, .ref h_t), (1, .ref h_p1), (2, .int s0), (3, .int 1)]) X dX9_readInto_35 rfl (Nat.le_of_ble_eq_true rfl) [1, 2, 3, 0] rfl ?_
    exact J36 FU t_start t_token t_value t_kind t_desk t_place p1_day p1_clerks_size p1_clerks_cells p1_magnets_size p1_magnets_cells p1_told_size p1_notes_size p1_marks_size p1_past_size s0 1 hf
  have J32 : ∀ (t_start : Int32) (t_token : Int32) (t_value : Int32) (t_kind : Int32) (t_desk : Int32) (t_place : Int32) (p1_day : Int32) (p1_clerks_size : Int32) (p1_clerks_cells : (Nat → Int32)) (p1_magnets_size : Int32) (p1_magnets_cells : (Nat → Int32)) (p1_told_size : Int32) (p1_notes_size : Int32) (p1_marks_size : Int32) (p1_past_size : Int32), f_X9_readInto_32 t_length t_bytes t_start t_token t_value t_kind t_desk t_place p1_day p1_clerks_size p1_clerks_cells p1_magnets_size p1_magnets_cells p1_told_size p1_notes_size p1_marks_size p1_past_size = some res → G 0 0 (wd_X9_readInto cI cZ h_t h_t_bytes h_p1 h_p1_clerks h_p1_magnets h_p1_told h_p1_notes h_p1_marks h_p1_past h_p1_clerks_cells h_p1_magnets_cells h_p1_told_cells h_p1_notes_cells h_p1_marks_cells h_p1_past_cells t_length t_start t_token t_value t_kind t_desk t_place t_bytes p1_day p1_clerks_size p1_clerks_cells p1_magnets_size p1_magnets_cells p1_told_size p1_notes_size p1_marks_size p1_past_size) [(0, .ref h_t), (1, .ref h_p1)] 32 [] := by
    intro t_start t_token t_value t_kind t_desk t_place p1_day p1_clerks_size p1_clerks_cells p1_magnets_size p1_magnets_cells p1_told_size p1_notes_size p1_marks_size p1_past_size hf
    unfold f_X9_readInto_32 at hf
    refine g_iconst (v := 0) X dX9_readInto_32 (by decide) ?_
    exact J33 t_start t_token t_value t_kind t_desk t_place p1_day p1_clerks_size p1_clerks_cells p1_magnets_size p1_magnets_cells p1_told_size p1_notes_size p1_marks_size p1_past_size 0 hf
  refine g_aload_n X dX9_readInto_0 rfl 1 rfl ?_
  obtain ⟨p1_day_102, p1_clerks_size_103, p1_magnets_size_104, p1_told_size_105, p1_notes_size_106, p1_marks_size_107, p1_past_size_108, hk_109, hf⟩ := ob7_out hf
  refine g_cVW (st := []) (st1 := []) (C := RX6) (ci := 2) (q0 := 2) (ws' := (wd_X9_readInto cI cZ h_t h_t_bytes h_p1 h_p1_clerks h_p1_magnets h_p1_told h_p1_notes h_p1_marks h_p1_past h_p1_clerks_cells h_p1_magnets_cells h_p1_told_cells h_p1_notes_cells h_p1_marks_cells h_p1_past_cells t_length t_start t_token t_value t_kind t_desk t_place t_bytes p1_day_102 p1_clerks_size_103 p1_clerks_cells p1_magnets_size_104 p1_magnets_cells p1_told_size_105 p1_notes_size_106 p1_marks_size_107 p1_past_size_108)) X (c_X6_empty l D cI cZ h_p1 h_p1_clerks h_p1_magnets h_p1_told h_p1_notes h_p1_marks h_p1_past h_p1_clerks_cells h_p1_magnets_cells h_p1_told_cells h_p1_notes_cells h_p1_marks_cells h_p1_past_cells p1_day p1_clerks_size p1_magnets_size p1_told_size p1_notes_size p1_marks_size p1_past_size _ hk_109) (Or.inl rfl) 0 gX9_readInto_X6_empty rfl hv_X6_empty ⟨Nat.le_of_ble_eq_true rfl, Nat.le_of_ble_eq_true rfl⟩ rfl rfl (Nat.le_of_ble_eq_true rfl) ⟨rfl, rfl⟩ (Nat.zero_le _) (Nat.zero_le _) rfl rfl rfl dX9_readInto_1 [2, 3, 5, 7, 8, 9, 10] rfl rfl [0, 1, 4, 6] rfl rfl (by decide) [0, 1, 4, 5, 2, 6, 3, 7, 8, 9, 10] rfl rfl rfl ?_
  refine g_aload_n X dX9_readInto_4 rfl 0 rfl ?_
  refine g_iconst (v := 0) X dX9_readInto_5 (by decide) ?_
  refine g_put (C := RX9) (T := TX9) (N := 8) (ci := 5) (v := .int 0) (ws' := (wd_X9_readInto cI cZ h_t h_t_bytes h_p1 h_p1_clerks h_p1_magnets h_p1_told h_p1_notes h_p1_marks h_p1_past h_p1_clerks_cells h_p1_magnets_cells h_p1_told_cells h_p1_notes_cells h_p1_marks_cells h_p1_past_cells t_length t_start t_token t_value t_kind t_desk 0 t_bytes p1_day_102 p1_clerks_size_103 p1_clerks_cells p1_magnets_size_104 p1_magnets_cells p1_told_size_105 p1_notes_size_106 p1_marks_size_107 p1_past_size_108)) X iw_X9_readInto_X9 tyX9 tyX9_ok nmX9 0 rfl rfl 7 (by decide) lk_X9_readInto_28 rfl (tyX9_ok 7 (by decide)) rfl rfl (Nat.le_of_ble_eq_true rfl) dX9_readInto_6 rfl ?_
  refine g_aload_n X dX9_readInto_9 rfl 0 rfl ?_
  obtain ⟨t_start_110, t_token_111, t_value_112, t_place_113, hk_114, hf⟩ := ob4_out hf
  refine g_cVW (st := []) (st1 := []) (C := RX9) (ci := 5) (q0 := 0) (ws' := (wd_X9_readInto cI cZ h_t h_t_bytes h_p1 h_p1_clerks h_p1_magnets h_p1_told h_p1_notes h_p1_marks h_p1_past h_p1_clerks_cells h_p1_magnets_cells h_p1_told_cells h_p1_notes_cells h_p1_marks_cells h_p1_past_cells t_length t_start_110 t_token_111 t_value_112 t_kind t_desk t_place_113 t_bytes p1_day_102 p1_clerks_size_103 p1_clerks_cells p1_magnets_size_104 p1_magnets_cells p1_told_size_105 p1_notes_size_106 p1_marks_size_107 p1_past_size_108)) X (c_X9_next l D cI cZ q h_t h_t_bytes t_length t_start t_token t_value t_kind t_desk 0 t_bytes _ hk_114) (Or.inr rfl) 0 gX9_readInto_X9_next rfl hv_X9_next ⟨Nat.le_of_ble_eq_true rfl, Nat.le_of_ble_eq_true rfl⟩ rfl rfl (Nat.le_of_ble_eq_true rfl) ⟨rfl, rfl⟩ (Nat.zero_le _) (Nat.zero_le _) rfl rfl rfl dX9_readInto_10 [0, 1] rfl rfl [2, 3, 4, 5, 6, 7, 8, 9, 10] rfl rfl (by decide) [9, 10, 0, 1, 2, 3, 4, 5, 6, 7, 8] rfl rfl rfl ?_
  refine g_aload_n X dX9_readInto_13 rfl 0 rfl ?_
  refine g_get (C := RX9) (T := TX9) (N := 8) (ci := 5) (v := (.int t_token_111)) X iw_X9_readInto_X9 0 rfl rfl 3 (by decide) lk_X9_readInto_34 rfl dX9_readInto_14 ?_
  refine g_iconst (v := 4) X dX9_readInto_17 (by decide) ?_
  refine g_icmp_ne (tgt := 32) X dX9_readInto_18 (by decide) (fun hc_115 => ?_) (fun hc_115 => ?_)
  · replace hf := ite_f hc_115 hf
    exact J32 t_start_110 t_token_111 t_value_112 t_kind t_desk t_place_113 p1_day_102 p1_clerks_size_103 p1_clerks_cells p1_magnets_size_104 p1_magnets_cells p1_told_size_105 p1_notes_size_106 p1_marks_size_107 p1_past_size_108 hf
  · replace hf := ite_t hc_115 hf
    refine g_aload_n X dX9_readInto_21 rfl 0 rfl ?_
    obtain ⟨r_116, t_start_117, t_token_118, t_value_119, t_place_120, hk_121, hf⟩ := ob5_out hf
    refine g_cVW (st := []) (st1 := [.int r_116]) (C := RX9) (ci := 5) (q0 := 0) (ws' := (wd_X9_readInto cI cZ h_t h_t_bytes h_p1 h_p1_clerks h_p1_magnets h_p1_told h_p1_notes h_p1_marks h_p1_past h_p1_clerks_cells h_p1_magnets_cells h_p1_told_cells h_p1_notes_cells h_p1_marks_cells h_p1_past_cells t_length t_start_117 t_token_118 t_value_119 t_kind t_desk t_place_120 t_bytes p1_day_102 p1_clerks_size_103 p1_clerks_cells p1_magnets_size_104 p1_magnets_cells p1_told_size_105 p1_notes_size_106 p1_marks_size_107 p1_past_size_108)) X (c_X9_stops l D cI cZ q h_t h_t_bytes t_length t_start_110 t_token_111 t_value_112 t_kind t_desk t_place_113 t_bytes _ hk_121) (Or.inr rfl) 0 gX9_readInto_X9_stops rfl hv_X9_stops ⟨Nat.le_of_ble_eq_true rfl, Nat.le_of_ble_eq_true rfl⟩ rfl rfl (Nat.le_of_ble_eq_true rfl) ⟨rfl, rfl⟩ (Nat.zero_le _) (Nat.zero_le _) rfl rfl rfl dX9_readInto_22 [0, 1] rfl rfl [2, 3, 4, 5, 6, 7, 8, 9, 10] rfl rfl (by decide) [9, 10, 0, 1, 2, 3, 4, 5, 6, 7, 8] rfl rfl rfl ?_
    refine g_if_eq (tgt := 32) X dX9_readInto_25 (by decide) (fun hc_122 => ?_) (fun hc_122 => ?_)
    · replace hf := ite_t hc_122 hf
      exact J32 t_start_117 t_token_118 t_value_119 t_kind t_desk t_place_120 p1_day_102 p1_clerks_size_103 p1_clerks_cells p1_magnets_size_104 p1_magnets_cells p1_told_size_105 p1_notes_size_106 p1_marks_size_107 p1_past_size_108 hf
    · replace hf := ite_f hc_122 hf
      refine g_iconst (v := 1) X dX9_readInto_28 (by decide) ?_
      refine g_goto (tgt := 33) X dX9_readInto_29 (by decide) ?_
      exact J33 t_start_117 t_token_118 t_value_119 t_kind t_desk t_place_120 p1_day_102 p1_clerks_size_103 p1_clerks_cells p1_magnets_size_104 p1_magnets_cells p1_told_size_105 p1_notes_size_106 p1_marks_size_107 p1_past_size_108 1 hf
def wd_X6_copyFrom (cI cZ : ClassId) (h_t : Nat) (h_t_clerks : Nat) (h_t_magnets : Nat) (h_t_told : Nat) (h_t_notes : Nat) (h_t_marks : Nat) (h_t_past : Nat) (h_t_clerks_cells : Nat) (h_t_magnets_cells : Nat) (h_t_told_cells : Nat) (h_t_notes_cells : Nat) (h_t_marks_cells : Nat) (h_t_past_cells : Nat) (h_p1 : Nat) (h_p1_clerks : Nat) (h_p1_magnets : Nat) (h_p1_told : Nat) (h_p1_notes : Nat) (h_p1_marks : Nat) (h_p1_past : Nat) (h_p1_clerks_cells : Nat) (h_p1_magnets_cells : Nat) (h_p1_told_cells : Nat) (h_p1_notes_cells : Nat) (h_p1_marks_cells : Nat) (h_p1_past_cells : Nat) (t_day : Int32) (t_clerks_size : Int32) (t_clerks_cells : (Nat → Int32)) (t_magnets_size : Int32) (t_magnets_cells : (Nat → Int32)) (t_told_size : Int32) (t_told_cells : (Nat → Int32)) (t_notes_size : Int32) (t_notes_cells : (Nat → Int32)) (t_marks_size : Int32) (t_marks_cells : (Nat → Int32)) (t_past_size : Int32) (t_past_cells : (Nat → Int32)) (p1_day : Int32) (p1_clerks_size : Int32) (p1_clerks_cells : (Nat → Int32)) (p1_magnets_size : Int32) (p1_magnets_cells : (Nat → Int32)) (p1_told_size : Int32) (p1_told_cells : (Nat → Int32)) (p1_notes_size : Int32) (p1_notes_cells : (Nat → Int32)) (p1_marks_size : Int32) (p1_marks_cells : (Nat → Int32)) (p1_past_size : Int32) (p1_past_cells : (Nat → Int32)) : va_W := [(h_t, .inr (2, [.ref h_t_clerks, .ref h_t_magnets, .ref h_t_told, .ref h_t_notes, .ref h_t_marks, .ref h_t_past, .int t_day])), (h_t_clerks, .inr (3, [.int 7, .int 5, .ref h_t_clerks_cells, .int t_clerks_size])), (h_t_clerks_cells, .inl (cI, 35, .inl t_clerks_cells)), (h_t_magnets, .inr (3, [.int 3, .int 3, .ref h_t_magnets_cells, .int t_magnets_size])), (h_t_magnets_cells, .inl (cI, 9, .inl t_magnets_cells)), (h_t_told, .inr (3, [.int 5, .int 4, .ref h_t_told_cells, .int t_told_size])), (h_t_told_cells, .inl (cI, 20, .inl t_told_cells)), (h_t_notes, .inr (3, [.int 6, .int 4, .ref h_t_notes_cells, .int t_notes_size])), (h_t_notes_cells, .inl (cI, 24, .inl t_notes_cells)), (h_t_marks, .inr (3, [.int 6, .int 5, .ref h_t_marks_cells, .int t_marks_size])), (h_t_marks_cells, .inl (cI, 30, .inl t_marks_cells)), (h_t_past, .inr (3, [.int 8, .int 22, .ref h_t_past_cells, .int t_past_size])), (h_t_past_cells, .inl (cI, 176, .inl t_past_cells)), (h_p1, .inr (2, [.ref h_p1_clerks, .ref h_p1_magnets, .ref h_p1_told, .ref h_p1_notes, .ref h_p1_marks, .ref h_p1_past, .int p1_day])), (h_p1_clerks, .inr (3, [.int 7, .int 5, .ref h_p1_clerks_cells, .int p1_clerks_size])), (h_p1_clerks_cells, .inl (cI, 35, .inl p1_clerks_cells)), (h_p1_magnets, .inr (3, [.int 3, .int 3, .ref h_p1_magnets_cells, .int p1_magnets_size])), (h_p1_magnets_cells, .inl (cI, 9, .inl p1_magnets_cells)), (h_p1_told, .inr (3, [.int 5, .int 4, .ref h_p1_told_cells, .int p1_told_size])), (h_p1_told_cells, .inl (cI, 20, .inl p1_told_cells)), (h_p1_notes, .inr (3, [.int 6, .int 4, .ref h_p1_notes_cells, .int p1_notes_size])), (h_p1_notes_cells, .inl (cI, 24, .inl p1_notes_cells)), (h_p1_marks, .inr (3, [.int 6, .int 5, .ref h_p1_marks_cells, .int p1_marks_size])), (h_p1_marks_cells, .inl (cI, 30, .inl p1_marks_cells)), (h_p1_past, .inr (3, [.int 8, .int 22, .ref h_p1_past_cells, .int p1_past_size])), (h_p1_past_cells, .inl (cI, 176, .inl p1_past_cells))]
abbrev rm_X6_copyFrom : Room := { frames := 2, cells := 0, slots := 0, locals := 44 }
theorem hv_X6_copyFrom : yX6_copyFrom.cls = RX6 ∧ yX6_copyFrom.cls ≠ "java/lang/invoke/MethodHandle" ∧ yX6_copyFrom.cls ≠ "java/lang/invoke/VarHandle" ∧ (parseMethodDescriptor yX6_copyFrom.desc).map (fun d => d.parameters.length) = some 1 := by decide +kernel
theorem iw_X6_copyFrom_X6 : ∀ w ∈ u_ws RX6 TX6 7, w ∈ wsX6_copyFrom := by decide +kernel
theorem lk_X6_copyFrom_14 : Cond.fieldLink RX6 14 "ClerkChains$Office" "clerks" "LClerkChains$Rows;" ∈ wsX6_copyFrom := by decide +kernel
theorem lk_X6_copyFrom_20 : Cond.fieldLink RX6 20 "ClerkChains$Office" "magnets" "LClerkChains$Rows;" ∈ wsX6_copyFrom := by decide +kernel
theorem lk_X6_copyFrom_23 : Cond.fieldLink RX6 23 "ClerkChains$Office" "told" "LClerkChains$Rows;" ∈ wsX6_copyFrom := by decide +kernel
theorem lk_X6_copyFrom_26 : Cond.fieldLink RX6 26 "ClerkChains$Office" "notes" "LClerkChains$Rows;" ∈ wsX6_copyFrom := by decide +kernel
theorem lk_X6_copyFrom_29 : Cond.fieldLink RX6 29 "ClerkChains$Office" "marks" "LClerkChains$Rows;" ∈ wsX6_copyFrom := by decide +kernel
theorem lk_X6_copyFrom_32 : Cond.fieldLink RX6 32 "ClerkChains$Office" "past" "LClerkChains$Rows;" ∈ wsX6_copyFrom := by decide +kernel
theorem lk_X6_copyFrom_38 : Cond.fieldLink RX6 38 "ClerkChains$Office" "day" "I" ∈ wsX6_copyFrom := by decide +kernel
set_option maxHeartbeats 4000000 in
set_option maxRecDepth 100000 in
theorem c_X6_copyFrom (l : Launch) (D : va_G) (cI cZ : ClassId) (h_t : Nat) (h_t_clerks : Nat) (h_t_magnets : Nat) (h_t_told : Nat) (h_t_notes : Nat) (h_t_marks : Nat) (h_t_past : Nat) (h_t_clerks_cells : Nat) (h_t_magnets_cells : Nat) (h_t_told_cells : Nat) (h_t_notes_cells : Nat) (h_t_marks_cells : Nat) (h_t_past_cells : Nat) (h_p1 : Nat) (h_p1_clerks : Nat) (h_p1_magnets : Nat) (h_p1_told : Nat) (h_p1_notes : Nat) (h_p1_marks : Nat) (h_p1_past : Nat) (h_p1_clerks_cells : Nat) (h_p1_magnets_cells : Nat) (h_p1_told_cells : Nat) (h_p1_notes_cells : Nat) (h_p1_marks_cells : Nat) (h_p1_past_cells : Nat) (t_day : Int32) (t_clerks_size : Int32) (t_clerks_cells : (Nat → Int32)) (t_magnets_size : Int32) (t_magnets_cells : (Nat → Int32)) (t_told_size : Int32) (t_told_cells : (Nat → Int32)) (t_notes_size : Int32) (t_notes_cells : (Nat → Int32)) (t_marks_size : Int32) (t_marks_cells : (Nat → Int32)) (t_past_size : Int32) (t_past_cells : (Nat → Int32)) (p1_day : Int32) (p1_clerks_size : Int32) (p1_clerks_cells : (Nat → Int32)) (p1_magnets_size : Int32) (p1_magnets_cells : (Nat → Int32)) (p1_told_size : Int32) (p1_told_cells : (Nat → Int32)) (p1_notes_size : Int32) (p1_notes_cells : (Nat → Int32)) (p1_marks_size : Int32) (p1_marks_cells : (Nat → Int32)) (p1_past_size : Int32) (p1_past_cells : (Nat → Int32)) (res : Int32 × Int32 × (Nat → Int32) × Int32 × (Nat → Int32) × Int32 × (Nat → Int32) × Int32 × (Nat → Int32) × Int32 × (Nat → Int32) × Int32 × (Nat → Int32)) (hf : f_X6_copyFrom t_day t_clerks_size t_clerks_cells t_magnets_size t_magnets_cells t_told_size t_told_cells t_notes_size t_notes_cells t_marks_size t_marks_cells t_past_size t_past_cells p1_day p1_clerks_size p1_clerks_cells p1_magnets_size p1_magnets_cells p1_told_size p1_told_cells p1_notes_size p1_notes_cells p1_marks_size p1_marks_cells p1_past_size p1_past_cells = some res) : MetG l yX6_copyFrom wsX6_copyFrom rm_X6_copyFrom D cI cZ none [.ref h_t, .ref h_p1] (wd_X6_copyFrom cI cZ h_t h_t_clerks h_t_magnets h_t_told h_t_notes h_t_marks h_t_past h_t_clerks_cells h_t_magnets_cells h_t_told_cells h_t_notes_cells h_t_marks_cells h_t_past_cells h_p1 h_p1_clerks h_p1_magnets h_p1_told h_p1_notes h_p1_marks h_p1_past h_p1_clerks_cells h_p1_magnets_cells h_p1_told_cells h_p1_notes_cells h_p1_marks_cells h_p1_past_cells t_day t_clerks_size t_clerks_cells t_magnets_size t_magnets_cells t_told_size t_told_cells t_notes_size t_notes_cells t_marks_size t_marks_cells t_past_size t_past_cells p1_day p1_clerks_size p1_clerks_cells p1_magnets_size p1_magnets_cells p1_told_size p1_told_cells p1_notes_size p1_notes_cells p1_marks_size p1_marks_cells p1_past_size p1_past_cells) (kV res (fun _ => none) (fun u => (wd_X6_copyFrom cI cZ h_t h_t_clerks h_t_magnets h_t_told h_t_notes h_t_marks h_t_past h_t_clerks_cells h_t_magnets_cells h_t_told_cells h_t_notes_cells h_t_marks_cells h_t_past_cells h_p1 h_p1_clerks h_p1_magnets h_p1_told h_p1_notes h_p1_marks h_p1_past h_p1_clerks_cells h_p1_magnets_cells h_p1_told_cells h_p1_notes_cells h_p1_marks_cells h_p1_past_cells (u.1) (u.2.1) (u.2.2.1) (u.2.2.2.1) (u.2.2.2.2.1) (u.2.2.2.2.2.1) (u.2.2.2.2.2.2.1) (u.2.2.2.2.2.2.2.1) (u.2.2.2.2.2.2.2.2.1) (u.2.2.2.2.2.2.2.2.2.1) (u.2.2.2.2.2.2.2.2.2.2.1) (u.2.2.2.2.2.2.2.2.2.2.2.1) (u.2.2.2.2.2.2.2.2.2.2.2.2) p1_day p1_clerks_size p1_clerks_cells p1_magnets_size p1_magnets_cells p1_told_size p1_told_cells p1_notes_size p1_notes_cells p1_marks_size p1_marks_cells p1_past_size p1_past_cells))) := by
  refine metG_of (cc := cX6_copyFrom) (maxL := 2) (ret := none) (own := RX6) (lv0 := [(0, .ref h_t), (1, .ref h_p1)]) (ini := false) (by decide) rfl (Nat.le_of_ble_eq_true rfl) rfl rfl (fun h => by cases h) (fun G X hR => ?_)
  replace hR := rt_void hR
  unfold f_X6_copyFrom at hf
  refine g_aload_n X dX6_copyFrom_0 rfl 0 rfl ?_
  refine g_get (C := RX6) (T := TX6) (N := 7) (ci := 2) (v := (.ref h_t_clerks)) X iw_X6_copyFrom_X6 0 rfl rfl 0 (by decide) lk_X6_copyFrom_14 rfl dX6_copyFrom_1 ?_
  refine g_aload_n X dX6_copyFrom_4 rfl 1 rfl ?_
  refine g_get (C := RX6) (T := TX6) (N := 7) (ci := 2) (v := (.ref h_p1_clerks)) X iw_X6_copyFrom_X6 13 rfl rfl 0 (by decide) lk_X6_copyFrom_14 rfl dX6_copyFrom_5 ?_
  obtain ⟨t_clerks_size_1, t_clerks_cells_2, hk_3, hf⟩ := ob2_out hf
  refine g_cVW (st := []) (st1 := []) (C := RX7) (ci := 3) (q0 := 1) (ws' := (wd_X6_copyFrom cI cZ h_t h_t_clerks h_t_magnets h_t_told h_t_notes h_t_marks h_t_past h_t_clerks_cells h_t_magnets_cells h_t_told_cells h_t_notes_cells h_t_marks_cells h_t_past_cells h_p1 h_p1_clerks h_p1_magnets h_p1_told h_p1_notes h_p1_marks h_p1_past h_p1_clerks_cells h_p1_magnets_cells h_p1_told_cells h_p1_notes_cells h_p1_marks_cells h_p1_past_cells t_day t_clerks_size_1 t_clerks_cells_2 t_magnets_size t_magnets_cells t_told_size t_told_cells t_notes_size t_notes_cells t_marks_size t_marks_cells t_past_size t_past_cells p1_day p1_clerks_size p1_clerks_cells p1_magnets_size p1_magnets_cells p1_told_size p1_told_cells p1_notes_size p1_notes_cells p1_marks_size p1_marks_cells p1_past_size p1_past_cells)) X (c_X7_copyFrom l D cI cZ h_t_clerks h_t_clerks_cells h_p1_clerks h_p1_clerks_cells 7 5 t_clerks_size 35 t_clerks_cells 7 5 p1_clerks_size 35 p1_clerks_cells _ hk_3) (Or.inl rfl) 1 gX6_copyFrom_X7_copyFrom rfl hv_X7_copyFrom ⟨Nat.le_of_ble_eq_true rfl, Nat.le_of_ble_eq_true rfl⟩ rfl rfl (Nat.le_of_ble_eq_true rfl) ⟨rfl, rfl⟩ (Nat.zero_le _) (Nat.zero_le _) rfl rfl rfl dX6_copyFrom_8 [1, 2, 14, 15] rfl rfl [0, 3, 4, 5, 6, 7, 8, 9, 10, 11, 12, 13, 16, 17, 18, 19, 20, 21, 22, 23, 24, 25] rfl rfl (by decide) [0, 22, 23, 1, 2, 3, 4, 5, 6, 7, 8, 9, 10, 11, 24, 25, 12, 13, 14, 15, 16, 17, 18, 19, 20, 21] rfl rfl rfl ?_
  refine g_aload_n X dX6_copyFrom_11 rfl 0 rfl ?_
  refine g_get (C := RX6) (T := TX6) (N := 7) (ci := 2) (v := (.ref h_t_magnets)) X iw_X6_copyFrom_X6 0 rfl rfl 1 (by decide) lk_X6_copyFrom_20 rfl dX6_copyFrom_12 ?_
  refine g_aload_n X dX6_copyFrom_15 rfl 1 rfl ?_
  refine g_get (C := RX6) (T := TX6) (N := 7) (ci := 2) (v := (.ref h_p1_magnets)) X iw_X6_copyFrom_X6 13 rfl rfl 1 (by decide) lk_X6_copyFrom_20 rfl dX6_copyFrom_16 ?_
  obtain ⟨t_magnets_size_4, t_magnets_cells_5, hk_6, hf⟩ := ob2_out hf
  refine g_cVW (st := []) (st1 := []) (C := RX7) (ci := 3) (q0 := 3) (ws' := (wd_X6_copyFrom cI cZ h_t h_t_clerks h_t_magnets h_t_told h_t_notes h_t_marks h_t_past h_t_clerks_cells h_t_magnets_cells h_t_told_cells h_t_notes_cells h_t_marks_cells h_t_past_cells h_p1 h_p1_clerks h_p1_magnets h_p1_told h_p1_notes h_p1_marks h_p1_past h_p1_clerks_cells h_p1_magnets_cells h_p1_told_cells h_p1_notes_cells h_p1_marks_cells h_p1_past_cells t_day t_clerks_size_1 t_clerks_cells_2 t_magnets_size_4 t_magnets_cells_5 t_told_size t_told_cells t_notes_size t_notes_cells t_marks_size t_marks_cells t_past_size t_past_cells p1_day p1_clerks_size p1_clerks_cells p1_magnets_size p1_magnets_cells p1_told_size p1_told_cells p1_notes_size p1_notes_cells p1_marks_size p1_marks_cells p1_past_size p1_past_cells)) X (c_X7_copyFrom l D cI cZ h_t_magnets h_t_magnets_cells h_p1_magnets h_p1_magnets_cells 3 3 t_magnets_size 9 t_magnets_cells 3 3 p1_magnets_size 9 p1_magnets_cells _ hk_6) (Or.inl rfl) 1 gX6_copyFrom_X7_copyFrom rfl hv_X7_copyFrom ⟨Nat.le_of_ble_eq_true rfl, Nat.le_of_ble_eq_true rfl⟩ rfl rfl (Nat.le_of_ble_eq_true rfl) ⟨rfl, rfl⟩ (Nat.zero_le _) (Nat.zero_le _) rfl rfl rfl dX6_copyFrom_19 [3, 4, 16, 17] rfl rfl [0, 1, 2, 5, 6, 7, 8, 9, 10, 11, 12, 13, 14, 15, 18, 19, 20, 21, 22, 23, 24, 25] rfl rfl (by decide) [0, 1, 2, 22, 23, 3, 4, 5, 6, 7, 8, 9, 10, 11, 12, 13, 24, 25, 14, 15, 16, 17, 18, 19, 20, 21] rfl rfl rfl ?_
  refine g_aload_n X dX6_copyFrom_22 rfl 0 rfl ?_
  refine g_get (C := RX6) (T := TX6) (N := 7) (ci := 2) (v := (.ref h_t_told)) X iw_X6_copyFrom_X6 0 rfl rfl 2 (by decide) lk_X6_copyFrom_23 rfl dX6_copyFrom_23 ?_
  refine g_aload_n X dX6_copyFrom_26 rfl 1 rfl ?_
  refine g_get (C := RX6) (T := TX6) (N := 7) (ci := 2) (v := (.ref h_p1_told)) X iw_X6_copyFrom_X6 13 rfl rfl 2 (by decide) lk_X6_copyFrom_23 rfl dX6_copyFrom_27 ?_
  obtain ⟨t_told_size_7, t_told_cells_8, hk_9, hf⟩ := ob2_out hf
  refine g_cVW (st := []) (st1 := []) (C := RX7) (ci := 3) (q0 := 5) (ws' := (wd_X6_copyFrom cI cZ h_t h_t_clerks h_t_magnets h_t_told h_t_notes h_t_marks h_t_past h_t_clerks_cells h_t_magnets_cells h_t_told_cells h_t_notes_cells h_t_marks_cells h_t_past_cells h_p1 h_p1_clerks h_p1_magnets h_p1_told h_p1_notes h_p1_marks h_p1_past h_p1_clerks_cells h_p1_magnets_cells h_p1_told_cells h_p1_notes_cells h_p1_marks_cells h_p1_past_cells t_day t_clerks_size_1 t_clerks_cells_2 t_magnets_size_4 t_magnets_cells_5 t_told_size_7 t_told_cells_8 t_notes_size t_notes_cells t_marks_size t_marks_cells t_past_size t_past_cells p1_day p1_clerks_size p1_clerks_cells p1_magnets_size p1_magnets_cells p1_told_size p1_told_cells p1_notes_size p1_notes_cells p1_marks_size p1_marks_cells p1_past_size p1_past_cells)) X (c_X7_copyFrom l D cI cZ h_t_told h_t_told_cells h_p1_told h_p1_told_cells 5 4 t_told_size 20 t_told_cells 5 4 p1_told_size 20 p1_told_cells _ hk_9) (Or.inl rfl) 1 gX6_copyFrom_X7_copyFrom rfl hv_X7_copyFrom ⟨Nat.le_of_ble_eq_true rfl, Nat.le_of_ble_eq_true rfl⟩ rfl rfl (Nat.le_of_ble_eq_true rfl) ⟨rfl, rfl⟩ (Nat.zero_le _) (Nat.zero_le _) rfl rfl rfl dX6_copyFrom_30 [5, 6, 18, 19] rfl rfl [0, 1, 2, 3, 4, 7, 8, 9, 10, 11, 12, 13, 14, 15, 16, 17, 20, 21, 22, 23, 24, 25] rfl rfl (by decide) [0, 1, 2, 3, 4, 22, 23, 5, 6, 7, 8, 9, 10, 11, 12, 13, 14, 15, 24, 25, 16, 17, 18, 19, 20, 21] rfl rfl rfl ?_
  refine g_aload_n X dX6_copyFrom_33 rfl 0 rfl ?_
  refine g_get (C := RX6) (T := TX6) (N := 7) (ci := 2) (v := (.ref h_t_notes)) X iw_X6_copyFrom_X6 0 rfl rfl 3 (by decide) lk_X6_copyFrom_26 rfl dX6_copyFrom_34 ?_
  refine g_aload_n X dX6_copyFrom_37 rfl 1 rfl ?_
  refine g_get (C := RX6) (T := TX6) (N := 7) (ci := 2) (v := (.ref h_p1_notes)) X iw_X6_copyFrom_X6 13 rfl rfl 3 (by decide) lk_X6_copyFrom_26 rfl dX6_copyFrom_38 ?_
  obtain ⟨t_notes_size_10, t_notes_cells_11, hk_12, hf⟩ := ob2_out hf
  refine g_cVW (st := []) (st1 := []) (C := RX7) (ci := 3) (q0 := 7) (ws' := (wd_X6_copyFrom cI cZ h_t h_t_clerks h_t_magnets h_t_told h_t_notes h_t_marks h_t_past h_t_clerks_cells h_t_magnets_cells h_t_told_cells h_t_notes_cells h_t_marks_cells h_t_past_cells h_p1 h_p1_clerks h_p1_magnets h_p1_told h_p1_notes h_p1_marks h_p1_past h_p1_clerks_cells h_p1_magnets_cells h_p1_told_cells h_p1_notes_cells h_p1_marks_cells h_p1_past_cells t_day t_clerks_size_1 t_clerks_cells_2 t_magnets_size_4 t_magnets_cells_5 t_told_size_7 t_told_cells_8 t_notes_size_10 t_notes_cells_11 t_marks_size t_marks_cells t_past_size t_past_cells p1_day p1_clerks_size p1_clerks_cells p1_magnets_size p1_magnets_cells p1_told_size p1_told_cells p1_notes_size p1_notes_cells p1_marks_size p1_marks_cells p1_past_size p1_past_cells)) X (c_X7_copyFrom l D cI cZ h_t_notes h_t_notes_cells h_p1_notes h_p1_notes_cells 6 4 t_notes_size 24 t_notes_cells 6 4 p1_notes_size 24 p1_notes_cells _ hk_12) (Or.inl rfl) 1 gX6_copyFrom_X7_copyFrom rfl hv_X7_copyFrom ⟨Nat.le_of_ble_eq_true rfl, Nat.le_of_ble_eq_true rfl⟩ rfl rfl (Nat.le_of_ble_eq_true rfl) ⟨rfl, rfl⟩ (Nat.zero_le _) (Nat.zero_le _) rfl rfl rfl dX6_copyFrom_41 [7, 8, 20, 21] rfl rfl [0, 1, 2, 3, 4, 5, 6, 9, 10, 11, 12, 13, 14, 15, 16, 17, 18, 19, 22, 23, 24, 25] rfl rfl (by decide) [0, 1, 2, 3, 4, 5, 6, 22, 23, 7, 8, 9, 10, 11, 12, 13, 14, 15, 16, 17, 24, 25, 18, 19, 20, 21] rfl rfl rfl ?_
  refine g_aload_n X dX6_copyFrom_44 rfl 0 rfl ?_
  refine g_get (C := RX6) (T := TX6) (N := 7) (ci := 2) (v := (.ref h_t_marks)) X iw_X6_copyFrom_X6 0 rfl rfl 4 (by decide) lk_X6_copyFrom_29 rfl dX6_copyFrom_45 ?_
  refine g_aload_n X dX6_copyFrom_48 rfl 1 rfl ?_
  refine g_get (C := RX6) (T := TX6) (N := 7) (ci := 2) (v := (.ref h_p1_marks)) X iw_X6_copyFrom_X6 13 rfl rfl 4 (by decide) lk_X6_copyFrom_29 rfl dX6_copyFrom_49 ?_
  obtain ⟨t_marks_size_13, t_marks_cells_14, hk_15, hf⟩ := ob2_out hf
  refine g_cVW (st := []) (st1 := []) (C := RX7) (ci := 3) (q0 := 9) (ws' := (wd_X6_copyFrom cI cZ h_t h_t_clerks h_t_magnets h_t_told h_t_notes h_t_marks h_t_past h_t_clerks_cells h_t_magnets_cells h_t_told_cells h_t_notes_cells h_t_marks_cells h_t_past_cells h_p1 h_p1_clerks h_p1_magnets h_p1_told h_p1_notes h_p1_marks h_p1_past h_p1_clerks_cells h_p1_magnets_cells h_p1_told_cells h_p1_notes_cells h_p1_marks_cells h_p1_past_cells t_day t_clerks_size_1 t_clerks_cells_2 t_magnets_size_4 t_magnets_cells_5 t_told_size_7 t_told_cells_8 t_notes_size_10 t_notes_cells_11 t_marks_size_13 t_marks_cells_14 t_past_size t_past_cells p1_day p1_clerks_size p1_clerks_cells p1_magnets_size p1_magnets_cells p1_told_size p1_told_cells p1_notes_size p1_notes_cells p1_marks_size p1_marks_cells p1_past_size p1_past_cells)) X (c_X7_copyFrom l D cI cZ h_t_marks h_t_marks_cells h_p1_marks h_p1_marks_cells 6 5 t_marks_size 30 t_marks_cells 6 5 p1_marks_size 30 p1_marks_cells _ hk_15) (Or.inl rfl) 1 gX6_copyFrom_X7_copyFrom rfl hv_X7_copyFrom ⟨Nat.le_of_ble_eq_true rfl, Nat.le_of_ble_eq_true rfl⟩ rfl rfl (Nat.le_of_ble_eq_true rfl) ⟨rfl, rfl⟩ (Nat.zero_le _) (Nat.zero_le _) rfl rfl rfl dX6_copyFrom_52 [9, 10, 22, 23] rfl rfl [0, 1, 2, 3, 4, 5, 6, 7, 8, 11, 12, 13, 14, 15, 16, 17, 18, 19, 20, 21, 24, 25] rfl rfl (by decide) [0, 1, 2, 3, 4, 5, 6, 7, 8, 22, 23, 9, 10, 11, 12, 13, 14, 15, 16, 17, 18, 19, 24, 25, 20, 21] rfl rfl rfl ?_
  refine g_aload_n X dX6_copyFrom_55 rfl 0 rfl ?_
  refine g_get (C := RX6) (T := TX6) (N := 7) (ci := 2) (v := (.ref h_t_past)) X iw_X6_copyFrom_X6 0 rfl rfl 5 (by decide) lk_X6_copyFrom_32 rfl dX6_copyFrom_56 ?_
  refine g_aload_n X dX6_copyFrom_59 rfl 1 rfl ?_
  refine g_get (C := RX6) (T := TX6) (N := 7) (ci := 2) (v := (.ref h_p1_past)) X iw_X6_copyFrom_X6 13 rfl rfl 5 (by decide) lk_X6_copyFrom_32 rfl dX6_copyFrom_60 ?_
  obtain ⟨t_past_size_16, t_past_cells_17, hk_18, hf⟩ := ob2_out hf
  refine g_cVW (st := []) (st1 := []) (C := RX7) (ci := 3) (q0 := 11) (ws' := (wd_X6_copyFrom cI cZ h_t h_t_clerks h_t_magnets h_t_told h_t_notes h_t_marks h_t_past h_t_clerks_cells h_t_magnets_cells h_t_told_cells h_t_notes_cells h_t_marks_cells h_t_past_cells h_p1 h_p1_clerks h_p1_magnets h_p1_told h_p1_notes h_p1_marks h_p1_past h_p1_clerks_cells h_p1_magnets_cells h_p1_told_cells h_p1_notes_cells h_p1_marks_cells h_p1_past_cells t_day t_clerks_size_1 t_clerks_cells_2 t_magnets_size_4 t_magnets_cells_5 t_told_size_7 t_told_cells_8 t_notes_size_10 t_notes_cells_11 t_marks_size_13 t_marks_cells_14 t_past_size_16 t_past_cells_17 p1_day p1_clerks_size p1_clerks_cells p1_magnets_size p1_magnets_cells p1_told_size p1_told_cells p1_notes_size p1_notes_cells p1_marks_size p1_marks_cells p1_past_size p1_past_cells)) X (c_X7_copyFrom l D cI cZ h_t_past h_t_past_cells h_p1_past h_p1_past_cells 8 22 t_past_size 176 t_past_cells 8 22 p1_past_size 176 p1_past_cells _ hk_18) (Or.inl rfl) 1 gX6_copyFrom_X7_copyFrom rfl hv_X7_copyFrom ⟨Nat.le_of_ble_eq_true rfl, Nat.le_of_ble_eq_true rfl⟩ rfl rfl (Nat.le_of_ble_eq_true rfl) ⟨rfl, rfl⟩ (Nat.zero_le _) (Nat.zero_le _) rfl rfl rfl dX6_copyFrom_63 [11, 12, 24, 25] rfl rfl [0, 1, 2, 3, 4, 5, 6, 7, 8, 9, 10, 13, 14, 15, 16, 17, 18, 19, 20, 21, 22, 23] rfl rfl (by decide) [0, 1, 2, 3, 4, 5, 6, 7, 8, 9, 10, 22, 23, 11, 12, 13, 14, 15, 16, 17, 18, 19, 20, 21, 24, 25] rfl rfl rfl ?_
  refine g_aload_n X dX6_copyFrom_66 rfl 0 rfl ?_
  refine g_aload_n X dX6_copyFrom_67 rfl 1 rfl ?_
  refine g_get (C := RX6) (T := TX6) (N := 7) (ci := 2) (v := (.int p1_day)) X iw_X6_copyFrom_X6 13 rfl rfl 6 (by decide) lk_X6_copyFrom_38 rfl dX6_copyFrom_68 ?_
  refine g_put (C := RX6) (T := TX6) (N := 7) (ci := 2) (v := .int p1_day) (ws' := (wd_X6_copyFrom cI cZ h_t h_t_clerks h_t_magnets h_t_told h_t_notes h_t_marks h_t_past h_t_clerks_cells h_t_magnets_cells h_t_told_cells h_t_notes_cells h_t_marks_cells h_t_past_cells h_p1 h_p1_clerks h_p1_magnets h_p1_told h_p1_notes h_p1_marks h_p1_past h_p1_clerks_cells h_p1_magnets_cells h_p1_told_cells h_p1_notes_cells h_p1_marks_cells h_p1_past_cells p1_day t_clerks_size_1 t_clerks_cells_2 t_magnets_size_4 t_magnets_cells_5 t_told_size_7 t_told_cells_8 t_notes_size_10 t_notes_cells_11 t_marks_size_13 t_marks_cells_14 t_past_size_16 t_past_cells_17 p1_day p1_clerks_size p1_clerks_cells p1_magnets_size p1_magnets_cells p1_told_size p1_told_cells p1_notes_size p1_notes_cells p1_marks_size p1_marks_cells p1_past_size p1_past_cells)) X iw_X6_copyFrom_X6 tyX6 tyX6_ok nmX6 0 rfl rfl 6 (by decide) lk_X6_copyFrom_38 rfl (tyX6_ok 6 (by decide)) rfl rfl (Nat.le_of_ble_eq_true rfl) dX6_copyFrom_71 rfl ?_
  exact hR _ _ _ dX6_copyFrom_74 (kV_in (u := (p1_day, t_clerks_size_1, t_clerks_cells_2, t_magnets_size_4, t_magnets_cells_5, t_told_size_7, t_told_cells_8, t_notes_size_10, t_notes_cells_11, t_marks_size_13, t_marks_cells_14, t_past_size_16, t_past_cells_17)) hf)
def wd_X6_remember (cI cZ : ClassId) (h_t : Nat) (h_t_clerks : Nat) (h_t_magnets : Nat) (h_t_told : Nat) (h_t_notes : Nat) (h_t_marks : Nat) (h_t_past : Nat) (h_t_clerks_cells : Nat) (h_t_past_cells : Nat) (t_day : Int32) (t_clerks_size : Int32) (t_clerks_cells : (Nat → Int32)) (t_past_size : Int32) (t_past_cells : (Nat → Int32)) : va_W := [(h_t, .inr (2, [.ref h_t_clerks, .ref h_t_magnets, .ref h_t_told, .ref h_t_notes, .ref h_t_marks, .ref h_t_past, .int t_day])), (h_t_clerks, .inr (3, [.int 7, .int 5, .ref h_t_clerks_cells, .int t_clerks_size])), (h_t_clerks_cells, .inl (cI, 35, .inl t_clerks_cells)), (h_t_past, .inr (3, [.int 8, .int 22, .ref h_t_past_cells, .int t_past_size])), (h_t_past_cells, .inl (cI, 176, .inl t_past_cells))]
abbrev rm_X6_remember : Room := { frames := 2, cells := 0, slots := 0, locals := 51 }
theorem hv_X6_remember : yX6_remember.cls = RX6 ∧ yX6_remember.cls ≠ "java/lang/invoke/MethodHandle" ∧ yX6_remember.cls ≠ "java/lang/invoke/VarHandle" ∧ (parseMethodDescriptor yX6_remember.desc).map (fun d => d.parameters.length) = some 0 := by decide +kernel
theorem iw_X6_remember_X6 : ∀ w ∈ u_ws RX6 TX6 7, w ∈ wsX6_remember := by decide +kernel
theorem lk_X6_remember_32 : Cond.fieldLink RX6 32 "ClerkChains$Office" "past" "LClerkChains$Rows;" ∈ wsX6_remember := by decide +kernel
theorem lk_X6_remember_38 : Cond.fieldLink RX6 38 "ClerkChains$Office" "day" "I" ∈ wsX6_remember := by decide +kernel
theorem lk_X6_remember_14 : Cond.fieldLink RX6 14 "ClerkChains$Office" "clerks" "LClerkChains$Rows;" ∈ wsX6_remember := by decide +kernel
set_option maxHeartbeats 4000000 in
set_option maxRecDepth 100000 in
theorem c_X6_remember (l : Launch) (D : va_G) (cI cZ : ClassId) (h_t : Nat) (h_t_clerks : Nat) (h_t_magnets : Nat) (h_t_told : Nat) (h_t_notes : Nat) (h_t_marks : Nat) (h_t_past : Nat) (h_t_clerks_cells : Nat) (h_t_past_cells : Nat) (t_day : Int32) (t_clerks_size : Int32) (t_clerks_cells : (Nat → Int32)) (t_past_size : Int32) (t_past_cells : (Nat → Int32)) (res : Int32 × (Nat → Int32)) (hf : f_X6_remember t_day t_clerks_size t_clerks_cells t_past_size t_past_cells = some res) : MetG l yX6_remember wsX6_remember rm_X6_remember D cI cZ none [.ref h_t] (wd_X6_remember cI cZ h_t h_t_clerks h_t_magnets h_t_told h_t_notes h_t_marks h_t_past h_t_clerks_cells h_t_past_cells t_day t_clerks_size t_clerks_cells t_past_size t_past_cells) (kV res (fun _ => none) (fun u => (wd_X6_remember cI cZ h_t h_t_clerks h_t_magnets h_t_told h_t_notes h_t_marks h_t_past h_t_clerks_cells h_t_past_cells t_day t_clerks_size t_clerks_cells (u.1) (u.2)))) := by
  refine metG_of (cc := cX6_remember) (maxL := 3) (ret := none) (own := RX6) (lv0 := [(0, .ref h_t)]) (ini := false) (by decide) rfl (Nat.le_of_ble_eq_true rfl) rfl rfl (fun h => by cases h) (fun G X hR => ?_)
  replace hR := rt_void hR
  unfold f_X6_remember at hf
  have J35 : ∀ (n : Nat) (t_past_size : Int32) (t_past_cells : (Nat → Int32)) (v1 : Int32) (v2 : Int32), f_X6_remember_35 t_day t_clerks_size t_clerks_cells n t_past_size t_past_cells v1 v2 = some res → G 0 0 (wd_X6_remember cI cZ h_t h_t_clerks h_t_magnets h_t_told h_t_notes h_t_marks h_t_past h_t_clerks_cells h_t_past_cells t_day t_clerks_size t_clerks_cells t_past_size t_past_cells) [(0, .ref h_t), (1, .int v1), (2, .int v2)] 35 [] := by
    intro n
    induction n with
    | zero => intro t_past_size t_past_cells v1 v2 hf; rw [f_X6_remember_35] at hf; cases hf
    | succ n ih =>
      intro t_past_size t_past_cells v1 v2 hf
      rw [f_X6_remember_35] at hf
      refine g_iload_n X dX6_remember_35 rfl 2 rfl ?_
      refine g_aload_n X dX6_remember_36 rfl 0 rfl ?_
      refine g_get (C := RX6) (T := TX6) (N := 7) (ci := 2) (v := (.ref h_t_clerks)) X iw_X6_remember_X6 0 rfl rfl 0 (by decide) lk_X6_remember_14 rfl dX6_remember_37 ?_
      obtain ⟨r_5, hk_6, hf⟩ := ob1_out hf
      refine g_cVR (st := [.int v2]) (st1 := [.int r_5, .int v2]) (C := RX7) (ci := 3) (q0 := 1) X (c_X7_size l D cI cZ h_t_clerks h_t_clerks_cells 7 5 t_clerks_size _ hk_6) (Or.inl rfl) 0 gX6_remember_X7_size rfl hv_X7_size ⟨Nat.le_of_ble_eq_true rfl, Nat.le_of_ble_eq_true rfl⟩ rfl rfl (Nat.le_of_ble_eq_true rfl) ⟨rfl, rfl⟩ (Nat.zero_le _) (Nat.zero_le _) rfl rfl rfl dX6_remember_40 [1] rfl rfl rfl ?_
      refine g_icmp_ge (tgt := 118) X dX6_remember_43 (by decide) (fun hc_7 => ?_) (fun hc_7 => ?_)
      · replace hf := ite_t hc_7 hf
        exact hR _ _ _ dX6_remember_118 (kV_in (u := (t_past_size, t_past_cells)) hf)
      · replace hf := ite_f hc_7 hf
        refine g_aload_n X dX6_remember_46 rfl 0 rfl ?_
        refine g_get (C := RX6) (T := TX6) (N := 7) (ci := 2) (v := (.ref h_t_past)) X iw_X6_remember_X6 0 rfl rfl 5 (by decide) lk_X6_remember_32 rfl dX6_remember_47 ?_
        refine g_iload_n X dX6_remember_50 rfl 1 rfl ?_
        refine g_iconst (v := 1) X dX6_remember_51 (by decide) ?_
        refine g_iconst (v := 3) X dX6_remember_52 (by decide) ?_
        refine g_iload_n X dX6_remember_53 rfl 2 rfl ?_
        refine g_imul X dX6_remember_54 ?_
        refine g_iadd X dX6_remember_55 ?_
        refine g_aload_n X dX6_remember_56 rfl 0 rfl ?_
        refine g_get (C := RX6) (T := TX6) (N := 7) (ci := 2) (v := (.ref h_t_clerks)) X iw_X6_remember_X6 0 rfl rfl 0 (by decide) lk_X6_remember_14 rfl dX6_remember_57 ?_
        refine g_iload_n X dX6_remember_60 rfl 2 rfl ?_
        refine g_iconst (v := 1) X dX6_remember_61 (by decide) ?_
        obtain ⟨r_8, hk_9, hf⟩ := ob1_out hf
        refine g_cVR (st := [.int (1 + (3 * v2)), .int v1, .ref h_t_past]) (st1 := [.int r_8, .int (1 + (3 * v2)), .int v1, .ref h_t_past]) (C := RX7) (ci := 3) (q0 := 1) X (c_X7_get l D cI cZ h_t_clerks h_t_clerks_cells 7 5 t_clerks_size 35 t_clerks_cells v2 1 _ hk_9) (Or.inl rfl) 2 gX6_remember_X7_get rfl hv_X7_get ⟨Nat.le_of_ble_eq_true rfl, Nat.le_of_ble_eq_true rfl⟩ rfl rfl (Nat.le_of_ble_eq_true rfl) ⟨rfl, rfl⟩ (Nat.zero_le _) (Nat.zero_le _) rfl rfl rfl dX6_remember_62 [1, 2] rfl rfl rfl ?_
        obtain ⟨t_past_cells_10, hk_11, hf⟩ := ob1_out hf
        refine g_cVW (st := []) (st1 := []) (C := RX7) (ci := 3) (q0 := 3) (ws' := (wd_X6_remember cI cZ h_t h_t_clerks h_t_magnets h_t_told h_t_notes h_t_marks h_t_past h_t_clerks_cells h_t_past_cells t_day t_clerks_size t_clerks_cells t_past_size t_past_cells_10)) X (c_X7_put l D cI cZ h_t_past h_t_past_cells 8 22 t_past_size 176 t_past_cells v1 (1 + (3 * v2)) r_8 _ hk_11) (Or.inl rfl) 3 gX6_remember_X7_put rfl hv_X7_put ⟨Nat.le_of_ble_eq_true rfl, Nat.le_of_ble_eq_true rfl⟩ rfl rfl (Nat.le_of_ble_eq_true rfl) ⟨rfl, rfl⟩ (Nat.zero_le _) (Nat.zero_le _) rfl rfl rfl dX6_remember_65 [3, 4] rfl rfl [0, 1, 2] rfl rfl (by decide) [0, 1, 2, 3, 4] rfl rfl rfl ?_
        refine g_aload_n X dX6_remember_68 rfl 0 rfl ?_
        refine g_get (C := RX6) (T := TX6) (N := 7) (ci := 2) (v := (.ref h_t_past)) X iw_X6_remember_X6 0 rfl rfl 5 (by decide) lk_X6_remember_32 rfl dX6_remember_69 ?_
        refine g_iload_n X dX6_remember_72 rfl 1 rfl ?_
        refine g_iconst (v := 2) X dX6_remember_73 (by decide) ?_
        refine g_iconst (v := 3) X dX6_remember_74 (by decide) ?_
        refine g_iload_n X dX6_remember_75 rfl 2 rfl ?_
        refine g_imul X dX6_remember_76 ?_
        refine g_iadd X dX6_remember_77 ?_
        refine g_aload_n X dX6_remember_78 rfl 0 rfl ?_
        refine g_get (C := RX6) (T := TX6) (N := 7) (ci := 2) (v := (.ref h_t_clerks)) X iw_X6_remember_X6 0 rfl rfl 0 (by decide) lk_X6_remember_14 rfl dX6_remember_79 ?_
        refine g_iload_n X dX6_remember_82 rfl 2 rfl ?_
        refine g_iconst (v := 3) X dX6_remember_83 (by decide) ?_
        obtain ⟨r_12, hk_13, hf⟩ := ob1_out hf
        refine g_cVR (st := [.int (2 + (3 * v2)), .int v1, .ref h_t_past]) (st1 := [.int r_12, .int (2 + (3 * v2)), .int v1, .ref h_t_past]) (C := RX7) (ci := 3) (q0 := 1) X (c_X7_get l D cI cZ h_t_clerks h_t_clerks_cells 7 5 t_clerks_size 35 t_clerks_cells v2 3 _ hk_13) (Or.inl rfl) 2 gX6_remember_X7_get rfl hv_X7_get ⟨Nat.le_of_ble_eq_true rfl, Nat.le_of_ble_eq_true rfl⟩ rfl rfl (Nat.le_of_ble_eq_true rfl) ⟨rfl, rfl⟩ (Nat.zero_le _) (Nat.zero_le _) rfl rfl rfl dX6_remember_84 [1, 2] rfl rfl rfl ?_
        obtain ⟨t_past_cells_14, hk_15, hf⟩ := ob1_out hf
        refine g_cVW (st := []) (st1 := []) (C := RX7) (ci := 3) (q0 := 3) (ws' := (wd_X6_remember cI cZ h_t h_t_clerks h_t_magnets h_t_told h_t_notes h_t_marks h_t_past h_t_clerks_cells h_t_past_cells t_day t_clerks_size t_clerks_cells t_past_size t_past_cells_14)) X (c_X7_put l D cI cZ h_t_past h_t_past_cells 8 22 t_past_size 176 t_past_cells_10 v1 (2 + (3 * v2)) r_12 _ hk_15) (Or.inl rfl) 3 gX6_remember_X7_put rfl hv_X7_put ⟨Nat.le_of_ble_eq_true rfl, Nat.le_of_ble_eq_true rfl⟩ rfl rfl (Nat.le_of_ble_eq_true rfl) ⟨rfl, rfl⟩ (Nat.zero_le _) (Nat.zero_le _) rfl rfl rfl dX6_remember_87 [3, 4] rfl rfl [0, 1, 2] rfl rfl (by decide) [0, 1, 2, 3, 4] rfl rfl rfl ?_
        refine g_aload_n X dX6_remember_90 rfl 0 rfl ?_
        refine g_get (C := RX6) (T := TX6) (N := 7) (ci := 2) (v := (.ref h_t_past)) X iw_X6_remember_X6 0 rfl rfl 5 (by decide) lk_X6_remember_32 rfl dX6_remember_91 ?_
        refine g_iload_n X dX6_remember_94 rfl 1 rfl ?_
        refine g_iconst (v := 3) X dX6_remember_95 (by decide) ?_
        refine g_iconst (v := 3) X dX6_remember_96 (by decide) ?_
        refine g_iload_n X dX6_remember_97 rfl 2 rfl ?_
        refine g_imul X dX6_remember_98 ?_
        refine g_iadd X dX6_remember_99 ?_
        refine g_aload_n X dX6_remember_100 rfl 0 rfl ?_
        refine g_get (C := RX6) (T := TX6) (N := 7) (ci := 2) (v := (.ref h_t_clerks)) X iw_X6_remember_X6 0 rfl rfl 0 (by decide) lk_X6_remember_14 rfl dX6_remember_101 ?_
        refine g_iload_n X dX6_remember_104 rfl 2 rfl ?_
        refine g_iconst (v := 4) X dX6_remember_105 (by decide) ?_
        obtain ⟨r_16, hk_17, hf⟩ := ob1_out hf
        refine g_cVR (st := [.int (3 + (3 * v2)), .int v1, .ref h_t_past]) (st1 := [.int r_16, .int (3 + (3 * v2)), .int v1, .ref h_t_past]) (C := RX7) (ci := 3) (q0 := 1) X (c_X7_get l D cI cZ h_t_clerks h_t_clerks_cells 7 5 t_clerks_size 35 t_clerks_cells v2 4 _ hk_17) (Or.inl rfl) 2 gX6_remember_X7_get rfl hv_X7_get ⟨Nat.le_of_ble_eq_true rfl, Nat.le_of_ble_eq_true rfl⟩ rfl rfl (Nat.le_of_ble_eq_true rfl) ⟨rfl, rfl⟩ (Nat.zero_le _) (Nat.zero_le _) rfl rfl rfl dX6_remember_106 [1, 2] rfl rfl rfl ?_
        obtain ⟨t_past_cells_18, hk_19, hf⟩ := ob1_out hf
        refine g_cVW (st := []) (st1 := []) (C := RX7) (ci := 3) (q0 := 3) (ws' := (wd_X6_remember cI cZ h_t h_t_clerks h_t_magnets h_t_told h_t_notes h_t_marks h_t_past h_t_clerks_cells h_t_past_cells t_day t_clerks_size t_clerks_cells t_past_size t_past_cells_18)) X (c_X7_put l D cI cZ h_t_past h_t_past_cells 8 22 t_past_size 176 t_past_cells_14 v1 (3 + (3 * v2)) r_16 _ hk_19) (Or.inl rfl) 3 gX6_remember_X7_put rfl hv_X7_put ⟨Nat.le_of_ble_eq_true rfl, Nat.le_of_ble_eq_true rfl⟩ rfl rfl (Nat.le_of_ble_eq_true rfl) ⟨rfl, rfl⟩ (Nat.zero_le _) (Nat.zero_le _) rfl rfl rfl dX6_remember_109 [3, 4] rfl rfl [0, 1, 2] rfl rfl (by decide) [0, 1, 2, 3, 4] rfl rfl rfl ?_
        obtain ⟨v2_20, ev2_20, hf⟩ := bnd_out hf
        refine g_iinc (v := v2_20) (lv' := [(0, .ref h_t), (1, .int v1), (2, .int v2_20)]) X dX6_remember_112 2 rfl (by rw [ev2_20]; rfl) (Nat.le_of_ble_eq_true rfl) [1, 2, 0] rfl ?_
        refine g_goto (tgt := 35) X dX6_remember_115 (by decide) ?_
        exact ih t_past_size t_past_cells_18 v1 v2_20 hf
  have J17 : ∀ (t_past_size : Int32) (t_past_cells : (Nat → Int32)), f_X6_remember_17 t_day t_clerks_size t_clerks_cells t_past_size t_past_cells = some res → G 0 0 (wd_X6_remember cI cZ h_t h_t_clerks h_t_magnets h_t_told h_t_notes h_t_marks h_t_past h_t_clerks_cells h_t_past_cells t_day t_clerks_size t_clerks_cells t_past_size t_past_cells) [(0, .ref h_t)] 17 [] := by
    intro t_past_size t_past_cells hf
    unfold f_X6_remember_17 at hf
    refine g_aload_n X dX6_remember_17 rfl 0 rfl ?_
    refine g_get (C := RX6) (T := TX6) (N := 7) (ci := 2) (v := (.ref h_t_past)) X iw_X6_remember_X6 0 rfl rfl 5 (by decide) lk_X6_remember_32 rfl dX6_remember_18 ?_
    refine g_aload_n X dX6_remember_21 rfl 0 rfl ?_
    refine g_get (C := RX6) (T := TX6) (N := 7) (ci := 2) (v := (.int t_day)) X iw_X6_remember_X6 0 rfl rfl 6 (by decide) lk_X6_remember_38 rfl dX6_remember_22 ?_
    refine g_iconst (v := 0) X dX6_remember_25 (by decide) ?_
    refine g_iconst (v := 0) X dX6_remember_26 (by decide) ?_
    refine g_iconst (v := 0) X dX6_remember_27 (by decide) ?_
    refine g_iconst (v := 0) X dX6_remember_28 (by decide) ?_
    obtain ⟨r_1, t_past_size_2, t_past_cells_3, hk_4, hf⟩ := ob3_out hf
    refine g_cVW (st := []) (st1 := [.int r_1]) (C := RX7) (ci := 3) (q0 := 3) (ws' := (wd_X6_remember cI cZ h_t h_t_clerks h_t_magnets h_t_told h_t_notes h_t_marks h_t_past h_t_clerks_cells h_t_past_cells t_day t_clerks_size t_clerks_cells t_past_size_2 t_past_cells_3)) X (c_X7_add l D cI cZ h_t_past h_t_past_cells 8 22 t_past_size 176 t_past_cells t_day 0 0 0 0 _ hk_4) (Or.inl rfl) 5 gX6_remember_X7_add rfl hv_X7_add ⟨Nat.le_of_ble_eq_true rfl, Nat.le_of_ble_eq_true rfl⟩ rfl rfl (Nat.le_of_ble_eq_true rfl) ⟨rfl, rfl⟩ (Nat.zero_le _) (Nat.zero_le _) rfl rfl rfl dX6_remember_29 [3, 4] rfl rfl [0, 1, 2] rfl rfl (by decide) [0, 1, 2, 3, 4] rfl rfl rfl ?_
    refine g_istore_n (lv' := [(0, .ref h_t), (1, .int r_1)]) X dX6_remember_32 rfl (Nat.le_of_ble_eq_true rfl) [1, 0] rfl ?_
    refine g_iconst (v := 0) X dX6_remember_33 (by decide) ?_
    refine g_istore_n (lv' := [(0, .ref h_t), (1, .int r_1), (2, .int 0)]) X dX6_remember_34 rfl (Nat.le_of_ble_eq_true rfl) [1, 2, 0] rfl ?_
    exact J35 FU t_past_size_2 t_past_cells_3 r_1 0 hf
  refine g_aload_n X dX6_remember_0 rfl 0 rfl ?_
  refine g_get (C := RX6) (T := TX6) (N := 7) (ci := 2) (v := (.ref h_t_past)) X iw_X6_remember_X6 0 rfl rfl 5 (by decide) lk_X6_remember_32 rfl dX6_remember_1 ?_
  obtain ⟨r_21, hk_22, hf⟩ := ob1_out hf
  refine g_cVR (st := []) (st1 := [.int r_21]) (C := RX7) (ci := 3) (q0 := 3) X (c_X7_isFull l D cI cZ h_t_past h_t_past_cells 8 22 t_past_size _ hk_22) (Or.inl rfl) 0 gX6_remember_X7_isFull rfl hv_X7_isFull ⟨Nat.le_of_ble_eq_true rfl, Nat.le_of_ble_eq_true rfl⟩ rfl rfl (Nat.le_of_ble_eq_true rfl) ⟨rfl, rfl⟩ (Nat.zero_le _) (Nat.zero_le _) rfl rfl rfl dX6_remember_4 [3] rfl rfl rfl ?_
  refine g_if_eq (tgt := 17) X dX6_remember_7 (by decide) (fun hc_23 => ?_) (fun hc_23 => ?_)
  · replace hf := ite_t hc_23 hf
    exact J17 t_past_size t_past_cells hf
  · replace hf := ite_f hc_23 hf
    refine g_aload_n X dX6_remember_10 rfl 0 rfl ?_
    refine g_get (C := RX6) (T := TX6) (N := 7) (ci := 2) (v := (.ref h_t_past)) X iw_X6_remember_X6 0 rfl rfl 5 (by decide) lk_X6_remember_32 rfl dX6_remember_11 ?_
    obtain ⟨t_past_size_24, t_past_cells_25, hk_26, hf⟩ := ob2_out hf
    refine g_cVW (st := []) (st1 := []) (C := RX7) (ci := 3) (q0 := 3) (ws' := (wd_X6_remember cI cZ h_t h_t_clerks h_t_magnets h_t_told h_t_notes h_t_marks h_t_past h_t_clerks_cells h_t_past_cells t_day t_clerks_size t_clerks_cells t_past_size_24 t_past_cells_25)) X (c_X7_dropFirst l D cI cZ h_t_past h_t_past_cells 8 22 t_past_size 176 t_past_cells _ hk_26) (Or.inl rfl) 0 gX6_remember_X7_dropFirst rfl hv_X7_dropFirst ⟨Nat.le_of_ble_eq_true rfl, Nat.le_of_ble_eq_true rfl⟩ rfl rfl (Nat.le_of_ble_eq_true rfl) ⟨rfl, rfl⟩ (Nat.zero_le _) (Nat.zero_le _) rfl rfl rfl dX6_remember_14 [3, 4] rfl rfl [0, 1, 2] rfl rfl (by decide) [0, 1, 2, 3, 4] rfl rfl rfl ?_
    exact J17 t_past_size_24 t_past_cells_25 hf
def wd_X6_goBack (cI cZ : ClassId) (h_t : Nat) (h_t_clerks : Nat) (h_t_magnets : Nat) (h_t_told : Nat) (h_t_notes : Nat) (h_t_marks : Nat) (h_t_past : Nat) (h_t_clerks_cells : Nat) (h_t_past_cells : Nat) (t_day : Int32) (t_clerks_size : Int32) (t_clerks_cells : (Nat → Int32)) (t_past_size : Int32) (t_past_cells : (Nat → Int32)) : va_W := [(h_t, .inr (2, [.ref h_t_clerks, .ref h_t_magnets, .ref h_t_told, .ref h_t_notes, .ref h_t_marks, .ref h_t_past, .int t_day])), (h_t_clerks, .inr (3, [.int 7, .int 5, .ref h_t_clerks_cells, .int t_clerks_size])), (h_t_clerks_cells, .inl (cI, 35, .inl t_clerks_cells)), (h_t_past, .inr (3, [.int 8, .int 22, .ref h_t_past_cells, .int t_past_size])), (h_t_past_cells, .inl (cI, 176, .inl t_past_cells))]
abbrev rm_X6_goBack : Room := { frames := 1, cells := 0, slots := 0, locals := 25 }
theorem hv_X6_goBack : yX6_goBack.cls = RX6 ∧ yX6_goBack.cls ≠ "java/lang/invoke/MethodHandle" ∧ yX6_goBack.cls ≠ "java/lang/invoke/VarHandle" ∧ (parseMethodDescriptor yX6_goBack.desc).map (fun d => d.parameters.length) = some 0 := by decide +kernel
theorem iw_X6_goBack_X6 : ∀ w ∈ u_ws RX6 TX6 7, w ∈ wsX6_goBack := by decide +kernel
theorem lk_X6_goBack_14 : Cond.fieldLink RX6 14 "ClerkChains$Office" "clerks" "LClerkChains$Rows;" ∈ wsX6_goBack := by decide +kernel
theorem lk_X6_goBack_32 : Cond.fieldLink RX6 32 "ClerkChains$Office" "past" "LClerkChains$Rows;" ∈ wsX6_goBack := by decide +kernel
theorem lk_X6_goBack_38 : Cond.fieldLink RX6 38 "ClerkChains$Office" "day" "I" ∈ wsX6_goBack := by decide +kernel
set_option maxHeartbeats 4000000 in
set_option maxRecDepth 100000 in
theorem c_X6_goBack (l : Launch) (D : va_G) (cI cZ : ClassId) (h_t : Nat) (h_t_clerks : Nat) (h_t_magnets : Nat) (h_t_told : Nat) (h_t_notes : Nat) (h_t_marks : Nat) (h_t_past : Nat) (h_t_clerks_cells : Nat) (h_t_past_cells : Nat) (t_day : Int32) (t_clerks_size : Int32) (t_clerks_cells : (Nat → Int32)) (t_past_size : Int32) (t_past_cells : (Nat → Int32)) (res : Int32 × (Nat → Int32) × Int32) (hf : f_X6_goBack t_day t_clerks_size t_clerks_cells t_past_size t_past_cells = some res) : MetG l yX6_goBack wsX6_goBack rm_X6_goBack D cI cZ none [.ref h_t] (wd_X6_goBack cI cZ h_t h_t_clerks h_t_magnets h_t_told h_t_notes h_t_marks h_t_past h_t_clerks_cells h_t_past_cells t_day t_clerks_size t_clerks_cells t_past_size t_past_cells) (kV res (fun _ => none) (fun u => (wd_X6_goBack cI cZ h_t h_t_clerks h_t_magnets h_t_told h_t_notes h_t_marks h_t_past h_t_clerks_cells h_t_past_cells (u.1) t_clerks_size (u.2.1) (u.2.2) t_past_cells))) := by
  refine metG_of (cc := cX6_goBack) (maxL := 3) (ret := none) (own := RX6) (lv0 := [(0, .ref h_t)]) (ini := false) (by decide) rfl (Nat.le_of_ble_eq_true rfl) rfl rfl (fun h => by cases h) (fun G X hR => ?_)
  replace hR := rt_void hR
  unfold f_X6_goBack at hf
  have J108 : ∀ (t_day : Int32) (t_clerks_cells : (Nat → Int32)) (t_past_size : Int32), f_X6_goBack_108 t_clerks_size t_past_cells t_day t_clerks_cells t_past_size = some res → G 0 0 (wd_X6_goBack cI cZ h_t h_t_clerks h_t_magnets h_t_told h_t_notes h_t_marks h_t_past h_t_clerks_cells h_t_past_cells t_day t_clerks_size t_clerks_cells t_past_size t_past_cells) [(0, .ref h_t)] 108 [] := by
    intro t_day t_clerks_cells t_past_size hf
    unfold f_X6_goBack_108 at hf
    refine g_aload_n X dX6_goBack_108 rfl 0 rfl ?_
    refine g_get (C := RX6) (T := TX6) (N := 7) (ci := 2) (v := (.ref h_t_past)) X iw_X6_goBack_X6 0 rfl rfl 5 (by decide) lk_X6_goBack_32 rfl dX6_goBack_109 ?_
    obtain ⟨t_past_size_17, hk_18, hf⟩ := ob1_out hf
    refine g_cVW (st := []) (st1 := []) (C := RX7) (ci := 3) (q0 := 3) (ws' := (wd_X6_goBack cI cZ h_t h_t_clerks h_t_magnets h_t_told h_t_notes h_t_marks h_t_past h_t_clerks_cells h_t_past_cells t_day t_clerks_size t_clerks_cells t_past_size_17 t_past_cells)) X (c_X7_dropLast l D cI cZ h_t_past h_t_past_cells 8 22 t_past_size _ hk_18) (Or.inl rfl) 0 gX6_goBack_X7_dropLast rfl hv_X7_dropLast ⟨Nat.le_of_ble_eq_true rfl, Nat.le_of_ble_eq_true rfl⟩ rfl rfl (Nat.le_of_ble_eq_true rfl) ⟨rfl, rfl⟩ (Nat.zero_le _) (Nat.zero_le _) rfl rfl rfl dX6_goBack_112 [3] rfl rfl [0, 1, 2, 4] rfl rfl (by decide) [0, 1, 2, 4, 3] rfl rfl rfl ?_
    exact hR _ _ _ dX6_goBack_115 (kV_in (u := (t_day, t_clerks_cells, t_past_size_17)) hf)
  have J25 : ∀ (n : Nat) (t_day : Int32) (t_clerks_cells : (Nat → Int32)) (t_past_size : Int32) (v1 : Int32) (v2 : Int32), f_X6_goBack_25 t_clerks_size t_past_cells n t_day t_clerks_cells t_past_size v1 v2 = some res → G 0 0 (wd_X6_goBack cI cZ h_t h_t_clerks h_t_magnets h_t_told h_t_notes h_t_marks h_t_past h_t_clerks_cells h_t_past_cells t_day t_clerks_size t_clerks_cells t_past_size t_past_cells) [(0, .ref h_t), (1, .int v1), (2, .int v2)] 25 [] := by
    intro n
    induction n with
    | zero => intro t_day t_clerks_cells t_past_size v1 v2 hf; rw [f_X6_goBack_25] at hf; cases hf
    | succ n ih =>
      intro t_day t_clerks_cells t_past_size v1 v2 hf
      rw [f_X6_goBack_25] at hf
      refine g_iload_n X dX6_goBack_25 rfl 2 rfl ?_
      refine g_aload_n X dX6_goBack_26 rfl 0 rfl ?_
      refine g_get (C := RX6) (T := TX6) (N := 7) (ci := 2) (v := (.ref h_t_clerks)) X iw_X6_goBack_X6 0 rfl rfl 0 (by decide) lk_X6_goBack_14 rfl dX6_goBack_27 ?_
      obtain ⟨r_1, hk_2, hf⟩ := ob1_out hf
      refine g_cVR (st := [.int v2]) (st1 := [.int r_1, .int v2]) (C := RX7) (ci := 3) (q0 := 1) X (c_X7_size l D cI cZ h_t_clerks h_t_clerks_cells 7 5 t_clerks_size _ hk_2) (Or.inl rfl) 0 gX6_goBack_X7_size rfl hv_X7_size ⟨Nat.le_of_ble_eq_true rfl, Nat.le_of_ble_eq_true rfl⟩ rfl rfl (Nat.le_of_ble_eq_true rfl) ⟨rfl, rfl⟩ (Nat.zero_le _) (Nat.zero_le _) rfl rfl rfl dX6_goBack_30 [1] rfl rfl rfl ?_
      refine g_icmp_ge (tgt := 108) X dX6_goBack_33 (by decide) (fun hc_3 => ?_) (fun hc_3 => ?_)
      · replace hf := ite_t hc_3 hf
        refine g_lv X (lv' := [(0, .ref h_t)]) [0] rfl ?_
        exact J108 t_day t_clerks_cells t_past_size hf
      · replace hf := ite_f hc_3 hf
        refine g_aload_n X dX6_goBack_36 rfl 0 rfl ?_
        refine g_get (C := RX6) (T := TX6) (N := 7) (ci := 2) (v := (.ref h_t_clerks)) X iw_X6_goBack_X6 0 rfl rfl 0 (by decide) lk_X6_goBack_14 rfl dX6_goBack_37 ?_
        refine g_iload_n X dX6_goBack_40 rfl 2 rfl ?_
        refine g_iconst (v := 1) X dX6_goBack_41 (by decide) ?_
        refine g_aload_n X dX6_goBack_42 rfl 0 rfl ?_
        refine g_get (C := RX6) (T := TX6) (N := 7) (ci := 2) (v := (.ref h_t_past)) X iw_X6_goBack_X6 0 rfl rfl 5 (by decide) lk_X6_goBack_32 rfl dX6_goBack_43 ?_
        refine g_iload_n X dX6_goBack_46 rfl 1 rfl ?_
        refine g_iconst (v := 1) X dX6_goBack_47 (by decide) ?_
        refine g_iconst (v := 3) X dX6_goBack_48 (by decide) ?_
        refine g_iload_n X dX6_goBack_49 rfl 2 rfl ?_
        refine g_imul X dX6_goBack_50 ?_
        refine g_iadd X dX6_goBack_51 ?_
        obtain ⟨r_4, hk_5, hf⟩ := ob1_out hf
        refine g_cVR (st := [.int 1, .int v2, .ref h_t_clerks]) (st1 := [.int r_4, .int 1, .int v2, .ref h_t_clerks]) (C := RX7) (ci := 3) (q0 := 3) X (c_X7_get l D cI cZ h_t_past h_t_past_cells 8 22 t_past_size 176 t_past_cells v1 (1 + (3 * v2)) _ hk_5) (Or.inl rfl) 2 gX6_goBack_X7_get rfl hv_X7_get ⟨Nat.le_of_ble_eq_true rfl, Nat.le_of_ble_eq_true rfl⟩ rfl rfl (Nat.le_of_ble_eq_true rfl) ⟨rfl, rfl⟩ (Nat.zero_le _) (Nat.zero_le _) rfl rfl rfl dX6_goBack_52 [3, 4] rfl rfl rfl ?_
        obtain ⟨t_clerks_cells_6, hk_7, hf⟩ := ob1_out hf
        refine g_cVW (st := []) (st1 := []) (C := RX7) (ci := 3) (q0 := 1) (ws' := (wd_X6_goBack cI cZ h_t h_t_clerks h_t_magnets h_t_told h_t_notes h_t_marks h_t_past h_t_clerks_cells h_t_past_cells t_day t_clerks_size t_clerks_cells_6 t_past_size t_past_cells)) X (c_X7_put l D cI cZ h_t_clerks h_t_clerks_cells 7 5 t_clerks_size 35 t_clerks_cells v2 1 r_4 _ hk_7) (Or.inl rfl) 3 gX6_goBack_X7_put rfl hv_X7_put ⟨Nat.le_of_ble_eq_true rfl, Nat.le_of_ble_eq_true rfl⟩ rfl rfl (Nat.le_of_ble_eq_true rfl) ⟨rfl, rfl⟩ (Nat.zero_le _) (Nat.zero_le _) rfl rfl rfl dX6_goBack_55 [1, 2] rfl rfl [0, 3, 4] rfl rfl (by decide) [0, 3, 4, 1, 2] rfl rfl rfl ?_
        refine g_aload_n X dX6_goBack_58 rfl 0 rfl ?_
        refine g_get (C := RX6) (T := TX6) (N := 7) (ci := 2) (v := (.ref h_t_clerks)) X iw_X6_goBack_X6 0 rfl rfl 0 (by decide) lk_X6_goBack_14 rfl dX6_goBack_59 ?_
        refine g_iload_n X dX6_goBack_62 rfl 2 rfl ?_
        refine g_iconst (v := 3) X dX6_goBack_63 (by decide) ?_
        refine g_aload_n X dX6_goBack_64 rfl 0 rfl ?_
        refine g_get (C := RX6) (T := TX6) (N := 7) (ci := 2) (v := (.ref h_t_past)) X iw_X6_goBack_X6 0 rfl rfl 5 (by decide) lk_X6_goBack_32 rfl dX6_goBack_65 ?_
        refine g_iload_n X dX6_goBack_68 rfl 1 rfl ?_
        refine g_iconst (v := 2) X dX6_goBack_69 (by decide) ?_
        refine g_iconst (v := 3) X dX6_goBack_70 (by decide) ?_
        refine g_iload_n X dX6_goBack_71 rfl 2 rfl ?_
        refine g_imul X dX6_goBack_72 ?_
        refine g_iadd X dX6_goBack_73 ?_
        obtain ⟨r_8, hk_9, hf⟩ := ob1_out hf
        refine g_cVR (st := [.int 3, .int v2, .ref h_t_clerks]) (st1 := [.int r_8, .int 3, .int v2, .ref h_t_clerks]) (C := RX7) (ci := 3) (q0 := 3) X (c_X7_get l D cI cZ h_t_past h_t_past_cells 8 22 t_past_size 176 t_past_cells v1 (2 + (3 * v2)) _ hk_9) (Or.inl rfl) 2 gX6_goBack_X7_get rfl hv_X7_get ⟨Nat.le_of_ble_eq_true rfl, Nat.le_of_ble_eq_true rfl⟩ rfl rfl (Nat.le_of_ble_eq_true rfl) ⟨rfl, rfl⟩ (Nat.zero_le _) (Nat.zero_le _) rfl rfl rfl dX6_goBack_74 [3, 4] rfl rfl rfl ?_
        obtain ⟨t_clerks_cells_10, hk_11, hf⟩ := ob1_out hf
        refine g_cVW (st := []) (st1 := []) (C := RX7) (ci := 3) (q0 := 1) (ws' := (wd_X6_goBack cI cZ h_t h_t_clerks h_t_magnets h_t_told h_t_notes h_t_marks h_t_past h_t_clerks_cells h_t_past_cells t_day t_clerks_size t_clerks_cells_10 t_past_size t_past_cells)) X (c_X7_put l D cI cZ h_t_clerks h_t_clerks_cells 7 5 t_clerks_size 35 t_clerks_cells_6 v2 3 r_8 _ hk_11) (Or.inl rfl) 3 gX6_goBack_X7_put rfl hv_X7_put ⟨Nat.le_of_ble_eq_true rfl, Nat.le_of_ble_eq_true rfl⟩ rfl rfl (Nat.le_of_ble_eq_true rfl) ⟨rfl, rfl⟩ (Nat.zero_le _) (Nat.zero_le _) rfl rfl rfl dX6_goBack_77 [1, 2] rfl rfl [0, 3, 4] rfl rfl (by decide) [0, 3, 4, 1, 2] rfl rfl rfl ?_
        refine g_aload_n X dX6_goBack_80 rfl 0 rfl ?_
        refine g_get (C := RX6) (T := TX6) (N := 7) (ci := 2) (v := (.ref h_t_clerks)) X iw_X6_goBack_X6 0 rfl rfl 0 (by decide) lk_X6_goBack_14 rfl dX6_goBack_81 ?_
        refine g_iload_n X dX6_goBack_84 rfl 2 rfl ?_
        refine g_iconst (v := 4) X dX6_goBack_85 (by decide) ?_
        refine g_aload_n X dX6_goBack_86 rfl 0 rfl ?_
        refine g_get (C := RX6) (T := TX6) (N := 7) (ci := 2) (v := (.ref h_t_past)) X iw_X6_goBack_X6 0 rfl rfl 5 (by decide) lk_X6_goBack_32 rfl dX6_goBack_87 ?_
        refine g_iload_n X dX6_goBack_90 rfl 1 rfl ?_
        refine g_iconst (v := 3) X dX6_goBack_91 (by decide) ?_
        refine g_iconst (v := 3) X dX6_goBack_92 (by decide) ?_
        refine g_iload_n X dX6_goBack_93 rfl 2 rfl ?_
        refine g_imul X dX6_goBack_94 ?_
        refine g_iadd X dX6_goBack_95 ?_
        obtain ⟨r_12, hk_13, hf⟩ := ob1_out hf
        refine g_cVR (st := [.int 4, .int v2, .ref h_t_clerks]) (st1 := [.int r_12, .int 4, .int v2, .ref h_t_clerks]) (C := RX7) (ci := 3) (q0 := 3) X (c_X7_get l D cI cZ h_t_past h_t_past_cells 8 22 t_past_size 176 t_past_cells v1 (3 + (3 * v2)) _ hk_13) (Or.inl rfl) 2 gX6_goBack_X7_get rfl hv_X7_get ⟨Nat.le_of_ble_eq_true rfl, Nat.le_of_ble_eq_true rfl⟩ rfl rfl (Nat.le_of_ble_eq_true rfl) ⟨rfl, rfl⟩ (Nat.zero_le _) (Nat.zero_le _) rfl rfl rfl dX6_goBack_96 [3, 4] rfl rfl rfl ?_
        obtain ⟨t_clerks_cells_14, hk_15, hf⟩ := ob1_out hf
        refine g_cVW (st := []) (st1 := []) (C := RX7) (ci := 3) (q0 := 1) (ws' := (wd_X6_goBack cI cZ h_t h_t_clerks h_t_magnets h_t_told h_t_notes h_t_marks h_t_past h_t_clerks_cells h_t_past_cells t_day t_clerks_size t_clerks_cells_14 t_past_size t_past_cells)) X (c_X7_put l D cI cZ h_t_clerks h_t_clerks_cells 7 5 t_clerks_size 35 t_clerks_cells_10 v2 4 r_12 _ hk_15) (Or.inl rfl) 3 gX6_goBack_X7_put rfl hv_X7_put ⟨Nat.le_of_ble_eq_true rfl, Nat.le_of_ble_eq_true rfl⟩ rfl rfl (Nat.le_of_ble_eq_true rfl) ⟨rfl, rfl⟩ (Nat.zero_le _) (Nat.zero_le _) rfl rfl rfl dX6_goBack_99 [1, 2] rfl rfl [0, 3, 4] rfl rfl (by decide) [0, 3, 4, 1, 2] rfl rfl rfl ?_
        obtain ⟨v2_16, ev2_16, hf⟩ := bnd_out hf
        refine g_iinc (v := v2_16) (lv' := [(0, .ref h_t), (1, .int v1), (2, .int v2_16)]) X dX6_goBack_102 2 rfl (by rw [ev2_16]; rfl) (Nat.le_of_ble_eq_true rfl) [1, 2, 0] rfl ?_
        refine g_goto (tgt := 25) X dX6_goBack_105 (by decide) ?_
        exact ih t_day t_clerks_cells_14 t_past_size v1 v2_16 hf
  refine g_aload_n X dX6_goBack_0 rfl 0 rfl ?_
  refine g_get (C := RX6) (T := TX6) (N := 7) (ci := 2) (v := (.ref h_t_past)) X iw_X6_goBack_X6 0 rfl rfl 5 (by decide) lk_X6_goBack_32 rfl dX6_goBack_1 ?_
  obtain ⟨r_19, hk_20, hf⟩ := ob1_out hf
  refine g_cVR (st := []) (st1 := [.int r_19]) (C := RX7) (ci := 3) (q0 := 3) X (c_X7_size l D cI cZ h_t_past h_t_past_cells 8 22 t_past_size _ hk_20) (Or.inl rfl) 0 gX6_goBack_X7_size rfl hv_X7_size ⟨Nat.le_of_ble_eq_true rfl, Nat.le_of_ble_eq_true rfl⟩ rfl rfl (Nat.le_of_ble_eq_true rfl) ⟨rfl, rfl⟩ (Nat.zero_le _) (Nat.zero_le _) rfl rfl rfl dX6_goBack_4 [3] rfl rfl rfl ?_
  refine g_iconst (v := 1) X dX6_goBack_7 (by decide) ?_
  refine g_isub X dX6_goBack_8 ?_
  obtain ⟨v1_21, ev1_21, hf⟩ := bnd_out hf
  refine g_nmI X ev1_21 ?_
  refine g_istore_n (lv' := [(0, .ref h_t), (1, .int v1_21)]) X dX6_goBack_9 rfl (Nat.le_of_ble_eq_true rfl) [1, 0] rfl ?_
  refine g_aload_n X dX6_goBack_10 rfl 0 rfl ?_
  refine g_aload_n X dX6_goBack_11 rfl 0 rfl ?_
  refine g_get (C := RX6) (T := TX6) (N := 7) (ci := 2) (v := (.ref h_t_past)) X iw_X6_goBack_X6 0 rfl rfl 5 (by decide) lk_X6_goBack_32 rfl dX6_goBack_12 ?_
  refine g_iload_n X dX6_goBack_15 rfl 1 rfl ?_
  refine g_iconst (v := 0) X dX6_goBack_16 (by decide) ?_
  obtain ⟨r_22, hk_23, hf⟩ := ob1_out hf
  refine g_cVR (st := [.ref h_t]) (st1 := [.int r_22, .ref h_t]) (C := RX7) (ci := 3) (q0 := 3) X (c_X7_get l D cI cZ h_t_past h_t_past_cells 8 22 t_past_size 176 t_past_cells v1_21 0 _ hk_23) (Or.inl rfl) 2 gX6_goBack_X7_get rfl hv_X7_get ⟨Nat.le_of_ble_eq_true rfl, Nat.le_of_ble_eq_true rfl⟩ rfl rfl (Nat.le_of_ble_eq_true rfl) ⟨rfl, rfl⟩ (Nat.zero_le _) (Nat.zero_le _) rfl rfl rfl dX6_goBack_17 [3, 4] rfl rfl rfl ?_
  refine g_put (C := RX6) (T := TX6) (N := 7) (ci := 2) (v := .int r_22) (ws' := (wd_X6_goBack cI cZ h_t h_t_clerks h_t_magnets h_t_told h_t_notes h_t_marks h_t_past h_t_clerks_cells h_t_past_cells r_22 t_clerks_size t_clerks_cells t_past_size t_past_cells)) X iw_X6_goBack_X6 tyX6 tyX6_ok nmX6 0 rfl rfl 6 (by decide) lk_X6_goBack_38 rfl (tyX6_ok 6 (by decide)) rfl rfl (Nat.le_of_ble_eq_true rfl) dX6_goBack_20 rfl ?_
  refine g_iconst (v := 0) X dX6_goBack_23 (by decide) ?_
  refine g_istore_n (lv' := [(0, .ref h_t), (1, .int v1_21), (2, .int 0)]) X dX6_goBack_24 rfl (Nat.le_of_ble_eq_true rfl) [1, 2, 0] rfl ?_
  exact J25 FU r_22 t_clerks_cells t_past_size v1_21 0 hf
def wd_X10_pass (cI cZ : ClassId) (h_t : Nat) (h_t_feels : Nat) (h_p1 : Nat) (h_p1_cells : Nat) (t_feels : (Nat → Int32)) (p1_most : Int32) (p1_width : Int32) (p1_size : Int32) (p1_N : Nat) (p1_cells : (Nat → Int32)) : va_W := [(h_t, .inr (6, [.ref h_t_feels])), (h_t_feels, .inl (cI, 7, .inl t_feels)), (h_p1, .inr (3, [.int p1_most, .int p1_width, .ref h_p1_cells, .int p1_size])), (h_p1_cells, .inl (cI, p1_N, .inl p1_cells))]
abbrev rm_X10_pass : Room := { frames := 2, cells := 0, slots := 0, locals := 46 }
theorem hv_X10_pass : yX10_pass.cls = RX10 ∧ yX10_pass.cls ≠ "java/lang/invoke/MethodHandle" ∧ yX10_pass.cls ≠ "java/lang/invoke/VarHandle" ∧ (parseMethodDescriptor yX10_pass.desc).map (fun d => d.parameters.length) = some 3 := by decide +kernel
theorem iw_X10_pass_X10 : ∀ w ∈ u_ws RX10 TX10 1, w ∈ wsX10_pass := by decide +kernel
theorem lk_X10_pass_9 : Cond.fieldLink RX10 9 "ClerkChains$Tug" "feels" "[I" ∈ wsX10_pass := by decide +kernel
theorem lk_X10_pass_iX11 : Cond.initialized RX11 ∈ wsX10_pass := by decide +kernel
theorem lk_X10_pass_sX11_cell : Cond.static yX11_cell ∈ wsX10_pass := by decide +kernel
theorem lk_X10_pass_sX11_setCell : Cond.static yX11_setCell ∈ wsX10_pass := by decide +kernel
set_option maxHeartbeats 4000000 in
set_option maxRecDepth 100000 in
theorem c_X10_pass (l : Launch) (D : va_G) (cI cZ : ClassId) (h_t : Nat) (h_t_feels : Nat) (h_p1 : Nat) (h_p1_cells : Nat) (t_feels : (Nat → Int32)) (p1_most : Int32) (p1_width : Int32) (p1_size : Int32) (p1_N : Nat) (p1_cells : (Nat → Int32)) (v2 : Int32) (v3 : Int32) (res : Int32 × (Nat → Int32)) (hf : f_X10_pass t_feels p1_width p1_size p1_N p1_cells v2 v3 = some res) : MetG l yX10_pass wsX10_pass rm_X10_pass D cI cZ none [.ref h_t, .ref h_p1, .int v2, .int v3] (wd_X10_pass cI cZ h_t h_t_feels h_p1 h_p1_cells t_feels p1_most p1_width p1_size p1_N p1_cells) (kV res (fun u => some (.int u.1)) (fun u => (wd_X10_pass cI cZ h_t h_t_feels h_p1 h_p1_cells (u.2) p1_most p1_width p1_size p1_N p1_cells))) := by
  refine metG_of (cc := cX10_pass) (maxL := 6) (ret := (some .boolean)) (own := RX10) (lv0 := [(0, .ref h_t), (1, .ref h_p1), (2, .int v2), (3, .int v3)]) (ini := false) (by decide) rfl (Nat.le_of_ble_eq_true rfl) rfl rfl (fun h => by cases h) (fun G X hR => ?_)
  replace hR := rt_bool hR
  unfold f_X10_pass at hf
  refine g_aload_n X dX10_pass_0 rfl 0 rfl ?_
  refine g_get (C := RX10) (T := TX10) (N := 1) (ci := 6) (v := (.ref h_t_feels)) X iw_X10_pass_X10 0 rfl rfl 0 (by decide) lk_X10_pass_9 rfl dX10_pass_1 ?_
  refine g_iload_n X dX10_pass_4 rfl 2 rfl ?_
  obtain ⟨r_1, hk_2, hf⟩ := ob1_out hf
  refine g_cNR (st := []) (st1 := [.int r_1]) X (c_X11_cell l D cI cZ h_t_feels 7 t_feels v2 _ hk_2) (Or.inl rfl) 2 gX10_pass_X11_cell_n33 (by decide +kernel) lk_X10_pass_iX11 lk_X10_pass_sX11_cell rfl hs_X11_cell ⟨Nat.le_of_ble_eq_true rfl, Nat.le_of_ble_eq_true rfl⟩ rfl rfl (Nat.le_of_ble_eq_true rfl) ⟨rfl, rfl⟩ (Nat.zero_le _) (Nat.zero_le _) dX10_pass_5 [1] rfl rfl rfl ?_
  refine g_istore (lv' := [(0, .ref h_t), (1, .ref h_p1), (2, .int v2), (3, .int v3), (4, .int r_1)]) X dX10_pass_8 (Nat.le_of_ble_eq_true rfl) [1, 2, 3, 4, 0] rfl ?_
  refine g_iload X dX10_pass_10 4 rfl ?_
  refine g_if_eq (tgt := 26) X dX10_pass_12 (by decide) (fun hc_3 => ?_) (fun hc_3 => ?_)
  · replace hf := ite_t hc_3 hf
    refine g_iconst (v := 0) X dX10_pass_26 (by decide) ?_
    exact hR _ _ _ _ (Or.inl rfl) dX10_pass_27 (kV_in (u := (0, t_feels)) hf)
  · replace hf := ite_f hc_3 hf
    refine g_aload_n X dX10_pass_15 rfl 0 rfl ?_
    refine g_get (C := RX10) (T := TX10) (N := 1) (ci := 6) (v := (.ref h_t_feels)) X iw_X10_pass_X10 0 rfl rfl 0 (by decide) lk_X10_pass_9 rfl dX10_pass_16 ?_
    refine g_iload_n X dX10_pass_19 rfl 3 rfl ?_
    obtain ⟨r_4, hk_5, hf⟩ := ob1_out hf
    refine g_cNR (st := []) (st1 := [.int r_4]) X (c_X11_cell l D cI cZ h_t_feels 7 t_feels v3 _ hk_5) (Or.inl rfl) 2 gX10_pass_X11_cell_n33 (by decide +kernel) lk_X10_pass_iX11 lk_X10_pass_sX11_cell rfl hs_X11_cell ⟨Nat.le_of_ble_eq_true rfl, Nat.le_of_ble_eq_true rfl⟩ rfl rfl (Nat.le_of_ble_eq_true rfl) ⟨rfl, rfl⟩ (Nat.zero_le _) (Nat.zero_le _) dX10_pass_20 [1] rfl rfl rfl ?_
    refine g_if_le (tgt := 28) X dX10_pass_23 (by decide) (fun hc_6 => ?_) (fun hc_6 => ?_)
    · replace hf := ite_t hc_6 hf
      refine g_aload_n X dX10_pass_28 rfl 1 rfl ?_
      refine g_iload_n X dX10_pass_29 rfl 2 rfl ?_
      refine g_iconst (v := 0) X dX10_pass_30 (by decide) ?_
      obtain ⟨r_7, hk_8, hf⟩ := ob1_out hf
      refine g_cVR (st := []) (st1 := [.int r_7]) (C := RX7) (ci := 3) (q0 := 2) X (c_X7_get l D cI cZ h_p1 h_p1_cells p1_most p1_width p1_size p1_N p1_cells v2 0 _ hk_8) (Or.inl rfl) 2 gX10_pass_X7_get rfl hv_X7_get ⟨Nat.le_of_ble_eq_true rfl, Nat.le_of_ble_eq_true rfl⟩ rfl rfl (Nat.le_of_ble_eq_true rfl) ⟨rfl, rfl⟩ (Nat.zero_le _) (Nat.zero_le _) rfl rfl rfl dX10_pass_31 [2, 3] rfl rfl rfl ?_
      refine g_iload X dX10_pass_34 4 rfl ?_
      refine g_aload_n X dX10_pass_36 rfl 1 rfl ?_
      refine g_iload_n X dX10_pass_37 rfl 2 rfl ?_
      refine g_iconst (v := 3) X dX10_pass_38 (by decide) ?_
      obtain ⟨r_9, hk_10, hf⟩ := ob1_out hf
      refine g_cVR (st := [.int r_1, .int r_7]) (st1 := [.int r_9, .int r_1, .int r_7]) (C := RX7) (ci := 3) (q0 := 2) X (c_X7_get l D cI cZ h_p1 h_p1_cells p1_most p1_width p1_size p1_N p1_cells v2 3 _ hk_10) (Or.inl rfl) 2 gX10_pass_X7_get rfl hv_X7_get ⟨Nat.le_of_ble_eq_true rfl, Nat.le_of_ble_eq_true rfl⟩ rfl rfl (Nat.le_of_ble_eq_true rfl) ⟨rfl, rfl⟩ (Nat.zero_le _) (Nat.zero_le _) rfl rfl rfl dX10_pass_39 [2, 3] rfl rfl rfl ?_
      obtain ⟨r_11, hk_12, hf⟩ := ob1_out hf
      refine g_cSR (st := []) (st1 := [.int r_11]) X (c_X4_letsGo l D cI cZ r_7 r_1 r_9 _ hk_12) (Or.inl rfl) 3 gX10_pass_X4_letsGo rfl hs_X4_letsGo ⟨Nat.le_of_ble_eq_true rfl, Nat.le_of_ble_eq_true rfl⟩ rfl rfl (Nat.le_of_ble_eq_true rfl) ⟨rfl, rfl⟩ (Nat.zero_le _) (Nat.zero_le _) dX10_pass_42 [] rfl rfl rfl ?_
      refine g_istore (lv' := [(0, .ref h_t), (1, .ref h_p1), (2, .int v2), (3, .int v3), (4, .int r_1), (5, .int r_11)]) X dX10_pass_45 (Nat.le_of_ble_eq_true rfl) [1, 2, 3, 4, 5, 0] rfl ?_
      refine g_aload_n X dX10_pass_47 rfl 0 rfl ?_
      refine g_get (C := RX10) (T := TX10) (N := 1) (ci := 6) (v := (.ref h_t_feels)) X iw_X10_pass_X10 0 rfl rfl 0 (by decide) lk_X10_pass_9 rfl dX10_pass_48 ?_
      refine g_iload_n X dX10_pass_51 rfl 3 rfl ?_
      refine g_iload X dX10_pass_52 5 rfl ?_
      obtain ⟨t_feels_13, hk_14, hf⟩ := ob1_out hf
      refine g_cNW (st := []) (st1 := []) (ws' := (wd_X10_pass cI cZ h_t h_t_feels h_p1 h_p1_cells t_feels_13 p1_most p1_width p1_size p1_N p1_cells)) X (c_X11_setCell l D cI cZ h_t_feels 7 t_feels v3 r_11 _ hk_14) (Or.inl rfl) 3 gX10_pass_X11_setCell_n15 (by decide +kernel) lk_X10_pass_iX11 lk_X10_pass_sX11_setCell rfl hs_X11_setCell ⟨Nat.le_of_ble_eq_true rfl, Nat.le_of_ble_eq_true rfl⟩ rfl rfl (Nat.le_of_ble_eq_true rfl) ⟨rfl, rfl⟩ (Nat.zero_le _) (Nat.zero_le _) dX10_pass_54 [1] rfl rfl [0, 2, 3] rfl rfl (by decide) [0, 3, 1, 2] rfl rfl rfl ?_
      refine g_iload X dX10_pass_57 5 rfl ?_
      refine g_if_le (tgt := 66) X dX10_pass_59 (by decide) (fun hc_15 => ?_) (fun hc_15 => ?_)
      · replace hf := ite_t hc_15 hf
        refine g_iconst (v := 0) X dX10_pass_66 (by decide) ?_
        exact hR _ _ _ _ (Or.inl rfl) dX10_pass_67 (kV_in (u := (0, t_feels_13)) hf)
      · replace hf := ite_f hc_15 hf
        refine g_iconst (v := 1) X dX10_pass_62 (by decide) ?_
        refine g_goto (tgt := 67) X dX10_pass_63 (by decide) ?_
        exact hR _ _ _ _ (Or.inr rfl) dX10_pass_67 (kV_in (u := (1, t_feels_13)) hf)
    · replace hf := ite_f hc_6 hf
      refine g_iconst (v := 0) X dX10_pass_26 (by decide) ?_
      exact hR _ _ _ _ (Or.inl rfl) dX10_pass_27 (kV_in (u := (0, t_feels)) hf)
def wd_X10_spread (cI cZ : ClassId) (h_t : Nat) (h_t_feels : Nat) (h_p1 : Nat) (h_p1_cells : Nat) (t_feels : (Nat → Int32)) (p1_most : Int32) (p1_width : Int32) (p1_size : Int32) (p1_N : Nat) (p1_cells : (Nat → Int32)) : va_W := [(h_t, .inr (6, [.ref h_t_feels])), (h_t_feels, .inl (cI, 7, .inl t_feels)), (h_p1, .inr (3, [.int p1_most, .int p1_width, .ref h_p1_cells, .int p1_size])), (h_p1_cells, .inl (cI, p1_N, .inl p1_cells))]
abbrev rm_X10_spread : Room := { frames := 3, cells := 0, slots := 0, locals := 71 }
theorem hv_X10_spread : yX10_spread.cls = RX10 ∧ yX10_spread.cls ≠ "java/lang/invoke/MethodHandle" ∧ yX10_spread.cls ≠ "java/lang/invoke/VarHandle" ∧ (parseMethodDescriptor yX10_spread.desc).map (fun d => d.parameters.length) = some 3 := by decide +kernel
theorem iw_X10_spread_X10 : ∀ w ∈ u_ws RX10 TX10 1, w ∈ wsX10_spread := by decide +kernel
theorem lk_X10_spread_9 : Cond.fieldLink RX10 9 "ClerkChains$Tug" "feels" "[I" ∈ wsX10_spread := by decide +kernel
theorem lk_X10_spread_iX11 : Cond.initialized RX11 ∈ wsX10_spread := by decide +kernel
theorem lk_X10_spread_sX11_setCell : Cond.static yX11_setCell ∈ wsX10_spread := by decide +kernel
set_option maxHeartbeats 4000000 in
set_option maxRecDepth 100000 in
theorem c_X10_spread (l : Launch) (D : va_G) (cI cZ : ClassId) (h_t : Nat) (h_t_feels : Nat) (h_p1 : Nat) (h_p1_cells : Nat) (t_feels : (Nat → Int32)) (p1_most : Int32) (p1_width : Int32) (p1_size : Int32) (p1_N : Nat) (p1_cells : (Nat → Int32)) (v2 : Int32) (v3 : Int32) (res : (Nat → Int32)) (hf : f_X10_spread t_feels p1_width p1_size p1_N p1_cells v2 v3 = some res) : MetG l yX10_spread wsX10_spread rm_X10_spread D cI cZ none [.ref h_t, .ref h_p1, .int v2, .int v3] (wd_X10_spread cI cZ h_t h_t_feels h_p1 h_p1_cells t_feels p1_most p1_width p1_size p1_N p1_cells) (kV res (fun _ => none) (fun u => (wd_X10_spread cI cZ h_t h_t_feels h_p1 h_p1_cells u p1_most p1_width p1_size p1_N p1_cells))) := by
  refine metG_of (cc := cX10_spread) (maxL := 8) (ret := none) (own := RX10) (lv0 := [(0, .ref h_t), (1, .ref h_p1), (2, .int v2), (3, .int v3)]) (ini := false) (by decide) rfl (Nat.le_of_ble_eq_true rfl) rfl rfl (fun h => by cases h) (fun G X hR => ?_)
  replace hR := rt_void hR
  unfold f_X10_spread at hf
  have J27 : ∀ (k3 : (Nat → Int32) → Int32 → Int32 → Int32 → Option ((Nat → Int32))) (hk3 : ∀ (t_feels : (Nat → Int32)) (v2 : Int32) (v3 : Int32) (v4 : Int32), k3 t_feels v2 v3 v4 = some res → G 0 0 (wd_X10_spread cI cZ h_t h_t_feels h_p1 h_p1_cells t_feels p1_most p1_width p1_size p1_N p1_cells) [(0, .ref h_t), (1, .ref h_p1), (2, .int v2), (3, .int v3), (4, .int v4)] 3 []) (t_feels : (Nat → Int32)) (v2 : Int32) (v3 : Int32) (v4 : Int32) (s1 : Int32) (s2 : Int32), f_X10_spread_27 p1_width p1_size p1_N p1_cells k3 t_feels v2 v3 v4 s1 s2 = some res → G 0 0 (wd_X10_spread cI cZ h_t h_t_feels h_p1 h_p1_cells t_feels p1_most p1_width p1_size p1_N p1_cells) [(0, .ref h_t), (1, .ref h_p1), (2, .int v2), (3, .int v3), (4, .int v4)] 27 [.int s2, .int s1, .ref h_t_feels] := by
    intro k3 hk3 t_feels v2 v3 v4 s1 s2 hf
    unfold f_X10_spread_27 at hf
    obtain ⟨t_feels_3, hk_4, hf⟩ := ob1_out hf
    refine g_cNW (st := []) (st1 := []) (ws' := (wd_X10_spread cI cZ h_t h_t_feels h_p1 h_p1_cells t_feels_3 p1_most p1_width p1_size p1_N p1_cells)) X (c_X11_setCell l D cI cZ h_t_feels 7 t_feels s1 s2 _ hk_4) (Or.inl rfl) 3 gX10_spread_X11_setCell_n15 (by decide +kernel) lk_X10_spread_iX11 lk_X10_spread_sX11_setCell rfl hs_X11_setCell ⟨Nat.le_of_ble_eq_true rfl, Nat.le_of_ble_eq_true rfl⟩ rfl rfl (Nat.le_of_ble_eq_true rfl) ⟨rfl, rfl⟩ (Nat.zero_le _) (Nat.zero_le _) dX10_spread_27 [1] rfl rfl [0, 2, 3] rfl rfl (by decide) [0, 3, 1, 2] rfl rfl rfl ?_
    obtain ⟨v4_5, ev4_5, hf⟩ := bnd_out hf
    refine g_iinc (v := v4_5) (lv' := [(0, .ref h_t), (1, .ref h_p1), (2, .int v2), (3, .int v3), (4, .int v4_5)]) X dX10_spread_30 4 rfl (by rw [ev4_5]; rfl) (Nat.le_of_ble_eq_true rfl) [1, 2, 3, 4, 0] rfl ?_
    refine g_goto (tgt := 3) X dX10_spread_33 (by decide) ?_
    exact hk3 t_feels_3 v2 v3 v4_5 hf
  have J110 : ∀ (k42 : (Nat → Int32) → Int32 → Int32 → Option ((Nat → Int32))) (hk42 : ∀ (t_feels : (Nat → Int32)) (v4 : Int32) (v5 : Int32), k42 t_feels v4 v5 = some res → G 0 0 (wd_X10_spread cI cZ h_t h_t_feels h_p1 h_p1_cells t_feels p1_most p1_width p1_size p1_N p1_cells) [(0, .ref h_t), (1, .ref h_p1), (4, .int v4), (5, .int v5)] 42 []) (k62 : (Nat → Int32) → Int32 → Int32 → Int32 → Option ((Nat → Int32))) (hk62 : ∀ (t_feels : (Nat → Int32)) (v4 : Int32) (v5 : Int32) (v6 : Int32), k62 t_feels v4 v5 v6 = some res → G 0 0 (wd_X10_spread cI cZ h_t h_t_feels h_p1 h_p1_cells t_feels p1_most p1_width p1_size p1_N p1_cells) [(0, .ref h_t), (1, .ref h_p1), (4, .int v4), (5, .int v5), (6, .int v6)] 62 []) (t_feels : (Nat → Int32)) (v4 : Int32) (v5 : Int32) (v6 : Int32), f_X10_spread_110 p1_width p1_size p1_N p1_cells k42 k62 t_feels v4 v5 v6 = some res → G 0 0 (wd_X10_spread cI cZ h_t h_t_feels h_p1 h_p1_cells t_feels p1_most p1_width p1_size p1_N p1_cells) [(0, .ref h_t), (1, .ref h_p1), (4, .int v4), (5, .int v5), (6, .int v6)] 110 [] := by
    intro k42 hk42 k62 hk62 t_feels v4 v5 v6 hf
    unfold f_X10_spread_110 at hf
    obtain ⟨v6_23, ev6_23, hf⟩ := bnd_out hf
    refine g_iinc (v := v6_23) (lv' := [(0, .ref h_t), (1, .ref h_p1), (4, .int v4), (5, .int v5), (6, .int v6_23)]) X dX10_spread_110 4 rfl (by rw [ev6_23]; rfl) (Nat.le_of_ble_eq_true rfl) [1, 2, 3, 4, 0] rfl ?_
    refine g_goto (tgt := 62) X dX10_spread_113 (by decide) ?_
    exact hk62 t_feels v4 v5 v6_23 hf
  have J116 : ∀ (k42 : (Nat → Int32) → Int32 → Int32 → Option ((Nat → Int32))) (hk42 : ∀ (t_feels : (Nat → Int32)) (v4 : Int32) (v5 : Int32), k42 t_feels v4 v5 = some res → G 0 0 (wd_X10_spread cI cZ h_t h_t_feels h_p1 h_p1_cells t_feels p1_most p1_width p1_size p1_N p1_cells) [(0, .ref h_t), (1, .ref h_p1), (4, .int v4), (5, .int v5)] 42 []) (t_feels : (Nat → Int32)) (v4 : Int32) (v5 : Int32), f_X10_spread_116 p1_width p1_size p1_N p1_cells k42 t_feels v4 v5 = some res → G 0 0 (wd_X10_spread cI cZ h_t h_t_feels h_p1 h_p1_cells t_feels p1_most p1_width p1_size p1_N p1_cells) [(0, .ref h_t), (1, .ref h_p1), (4, .int v4), (5, .int v5)] 116 [] := by
    intro k42 hk42 t_feels v4 v5 hf
    unfold f_X10_spread_116 at hf
    obtain ⟨v5_24, ev5_24, hf⟩ := bnd_out hf
    refine g_iinc (v := v5_24) (lv' := [(0, .ref h_t), (1, .ref h_p1), (4, .int v4), (5, .int v5_24)]) X dX10_spread_116 3 rfl (by rw [ev5_24]; rfl) (Nat.le_of_ble_eq_true rfl) [1, 2, 3, 0] rfl ?_
    refine g_goto (tgt := 42) X dX10_spread_119 (by decide) ?_
    exact hk42 t_feels v4 v5_24 hf
  have J62 : ∀ (k42 : (Nat → Int32) → Int32 → Int32 → Option ((Nat → Int32))) (hk42 : ∀ (t_feels : (Nat → Int32)) (v4 : Int32) (v5 : Int32), k42 t_feels v4 v5 = some res → G 0 0 (wd_X10_spread cI cZ h_t h_t_feels h_p1 h_p1_cells t_feels p1_most p1_width p1_size p1_N p1_cells) [(0, .ref h_t), (1, .ref h_p1), (4, .int v4), (5, .int v5)] 42 []) (n : Nat) (t_feels : (Nat → Int32)) (v4 : Int32) (v5 : Int32) (v6 : Int32), f_X10_spread_62 p1_width p1_size p1_N p1_cells k42 n t_feels v4 v5 v6 = some res → G 0 0 (wd_X10_spread cI cZ h_t h_t_feels h_p1 h_p1_cells t_feels p1_most p1_width p1_size p1_N p1_cells) [(0, .ref h_t), (1, .ref h_p1), (4, .int v4), (5, .int v5), (6, .int v6)] 62 [] := by
    intro k42 hk42 n
    induction n with
    | zero => intro t_feels v4 v5 v6 hf; rw [f_X10_spread_62] at hf; cases hf
    | succ n ih =>
      intro t_feels v4 v5 v6 hf
      rw [f_X10_spread_62] at hf
      refine g_iload X dX10_spread_62 4 rfl ?_
      refine g_aload_n X dX10_spread_64 rfl 1 rfl ?_
      obtain ⟨r_10, hk_11, hf⟩ := ob1_out hf
      refine g_cVR (st := [.int v6]) (st1 := [.int r_10, .int v6]) (C := RX7) (ci := 3) (q0 := 2) X (c_X7_size l D cI cZ h_p1 h_p1_cells p1_most p1_width p1_size _ hk_11) (Or.inl rfl) 0 gX10_spread_X7_size rfl hv_X7_size ⟨Nat.le_of_ble_eq_true rfl, Nat.le_of_ble_eq_true rfl⟩ rfl rfl (Nat.le_of_ble_eq_true rfl) ⟨rfl, rfl⟩ (Nat.zero_le _) (Nat.zero_le _) rfl rfl rfl dX10_spread_65 [2] rfl rfl rfl ?_
      refine g_icmp_ge (tgt := 116) X dX10_spread_68 (by decide) (fun hc_12 => ?_) (fun hc_12 => ?_)
      · replace hf := ite_t hc_12 hf
        refine g_lv X (lv' := [(0, .ref h_t), (1, .ref h_p1), (4, .int v4), (5, .int v5)]) [0, 1, 2, 3] rfl ?_
        exact J116 k42 hk42 t_feels v4 v5 hf
      · replace hf := ite_f hc_12 hf
        refine g_aload_n X dX10_spread_71 rfl 1 rfl ?_
        refine g_iload X dX10_spread_72 4 rfl ?_
        refine g_iconst (v := 4) X dX10_spread_74 (by decide) ?_
        obtain ⟨r_13, hk_14, hf⟩ := ob1_out hf
        refine g_cVR (st := []) (st1 := [.int r_13]) (C := RX7) (ci := 3) (q0 := 2) X (c_X7_get l D cI cZ h_p1 h_p1_cells p1_most p1_width p1_size p1_N p1_cells v6 4 _ hk_14) (Or.inl rfl) 2 gX10_spread_X7_get rfl hv_X7_get ⟨Nat.le_of_ble_eq_true rfl, Nat.le_of_ble_eq_true rfl⟩ rfl rfl (Nat.le_of_ble_eq_true rfl) ⟨rfl, rfl⟩ (Nat.zero_le _) (Nat.zero_le _) rfl rfl rfl dX10_spread_75 [2, 3] rfl rfl rfl ?_
        refine g_istore (lv' := [(0, .ref h_t), (1, .ref h_p1), (4, .int v4), (5, .int v5), (6, .int v6), (7, .int r_13)]) X dX10_spread_78 (Nat.le_of_ble_eq_true rfl) [1, 2, 3, 4, 5, 0] rfl ?_
        refine g_iload X dX10_spread_80 5 rfl ?_
        refine g_iconst (v := (-1)) X dX10_spread_82 (by decide) ?_
        refine g_icmp_eq (tgt := 110) X dX10_spread_83 (by decide) (fun hc_15 => ?_) (fun hc_15 => ?_)
        · replace hf := ite_t hc_15 hf
          refine g_lv X (lv' := [(0, .ref h_t), (1, .ref h_p1), (4, .int v4), (5, .int v5), (6, .int v6)]) [0, 1, 2, 3, 4] rfl ?_
          exact J110 k42 hk42 (f_X10_spread_62 p1_width p1_size p1_N p1_cells k42 n) ih t_feels v4 v5 v6 hf
        · replace hf := ite_f hc_15 hf
          refine g_iload X dX10_spread_86 2 rfl ?_
          refine g_aload_n X dX10_spread_88 rfl 0 rfl ?_
          refine g_aload_n X dX10_spread_89 rfl 1 rfl ?_
          refine g_iload X dX10_spread_90 4 rfl ?_
          refine g_iload X dX10_spread_92 5 rfl ?_
          obtain ⟨r_16, t_feels_17, hk_18, hf⟩ := ob2_out hf
          refine g_cVW (st := [.int v4]) (st1 := [.int r_16, .int v4]) (C := RX10) (ci := 6) (q0 := 0) (ws' := (wd_X10_spread cI cZ h_t h_t_feels h_p1 h_p1_cells t_feels_17 p1_most p1_width p1_size p1_N p1_cells)) X (c_X10_pass l D cI cZ h_t h_t_feels h_p1 h_p1_cells t_feels p1_most p1_width p1_size p1_N p1_cells v6 r_13 _ hk_18) (Or.inl rfl) 3 gX10_spread_X10_pass rfl hv_X10_pass ⟨Nat.le_of_ble_eq_true rfl, Nat.le_of_ble_eq_true rfl⟩ rfl rfl (Nat.le_of_ble_eq_true rfl) ⟨rfl, rfl⟩ (Nat.zero_le _) (Nat.zero_le _) rfl rfl rfl dX10_spread_94 [0, 1, 2, 3] rfl rfl [] rfl rfl (by decide) [0, 1, 2, 3] rfl rfl rfl ?_
          refine g_aload_n X dX10_spread_97 rfl 0 rfl ?_
          refine g_aload_n X dX10_spread_98 rfl 1 rfl ?_
          refine g_iload X dX10_spread_99 5 rfl ?_
          refine g_iload X dX10_spread_101 4 rfl ?_
          obtain ⟨r_19, t_feels_20, hk_21, hf⟩ := ob2_out hf
          refine g_cVW (st := [.int r_16, .int v4]) (st1 := [.int r_19, .int r_16, .int v4]) (C := RX10) (ci := 6) (q0 := 0) (ws' := (wd_X10_spread cI cZ h_t h_t_feels h_p1 h_p1_cells t_feels_20 p1_most p1_width p1_size p1_N p1_cells)) X (c_X10_pass l D cI cZ h_t h_t_feels h_p1 h_p1_cells t_feels_17 p1_most p1_width p1_size p1_N p1_cells r_13 v6 _ hk_21) (Or.inl rfl) 3 gX10_spread_X10_pass rfl hv_X10_pass ⟨Nat.le_of_ble_eq_true rfl, Nat.le_of_ble_eq_true rfl⟩ rfl rfl (Nat.le_of_ble_eq_true rfl) ⟨rfl, rfl⟩ (Nat.zero_le _) (Nat.zero_le _) rfl rfl rfl dX10_spread_103 [0, 1, 2, 3] rfl rfl [] rfl rfl (by decide) [0, 1, 2, 3] rfl rfl rfl ?_
          refine g_ior X dX10_spread_106 ?_
          refine g_ior X dX10_spread_107 ?_
          obtain ⟨v4_22, ev4_22, hf⟩ := bnd_out hf
          refine g_nmI X ev4_22 ?_
          refine g_istore (lv' := [(0, .ref h_t), (1, .ref h_p1), (4, .int v4_22), (5, .int v5), (6, .int v6), (7, .int r_13)]) X dX10_spread_108 (Nat.le_of_ble_eq_true rfl) [1, 2, 0, 3, 4, 5] rfl ?_
          refine g_lv X (lv' := [(0, .ref h_t), (1, .ref h_p1), (4, .int v4_22), (5, .int v5), (6, .int v6)]) [0, 1, 2, 3, 4] rfl ?_
          exact J110 k42 hk42 (f_X10_spread_62 p1_width p1_size p1_N p1_cells k42 n) ih t_feels_20 v4_22 v5 v6 hf
  have J42 : ∀ (n : Nat) (t_feels : (Nat → Int32)) (v4 : Int32) (v5 : Int32), f_X10_spread_42 p1_width p1_size p1_N p1_cells n t_feels v4 v5 = some res → G 0 0 (wd_X10_spread cI cZ h_t h_t_feels h_p1 h_p1_cells t_feels p1_most p1_width p1_size p1_N p1_cells) [(0, .ref h_t), (1, .ref h_p1), (4, .int v4), (5, .int v5)] 42 [] := by
    intro n
    induction n with
    | zero => intro t_feels v4 v5 hf; rw [f_X10_spread_42] at hf; cases hf
    | succ n ih =>
      intro t_feels v4 v5 hf
      rw [f_X10_spread_42] at hf
      refine g_iload X dX10_spread_42 3 rfl ?_
      refine g_aload_n X dX10_spread_44 rfl 1 rfl ?_
      obtain ⟨r_6, hk_7, hf⟩ := ob1_out hf
      refine g_cVR (st := [.int v5]) (st1 := [.int r_6, .int v5]) (C := RX7) (ci := 3) (q0 := 2) X (c_X7_size l D cI cZ h_p1 h_p1_cells p1_most p1_width p1_size _ hk_7) (Or.inl rfl) 0 gX10_spread_X7_size rfl hv_X7_size ⟨Nat.le_of_ble_eq_true rfl, Nat.le_of_ble_eq_true rfl⟩ rfl rfl (Nat.le_of_ble_eq_true rfl) ⟨rfl, rfl⟩ (Nat.zero_le _) (Nat.zero_le _) rfl rfl rfl dX10_spread_45 [2] rfl rfl rfl ?_
      refine g_icmp_ge (tgt := 122) X dX10_spread_48 (by decide) (fun hc_8 => ?_) (fun hc_8 => ?_)
      · replace hf := ite_t hc_8 hf
        exact hR _ _ _ dX10_spread_122 (kV_in (u := t_feels) hf)
      · replace hf := ite_f hc_8 hf
        refine g_iload X dX10_spread_51 2 rfl ?_
        refine g_if_eq (tgt := 122) X dX10_spread_53 (by decide) (fun hc_9 => ?_) (fun hc_9 => ?_)
        · replace hf := ite_t hc_9 hf
          exact hR _ _ _ dX10_spread_122 (kV_in (u := t_feels) hf)
        · replace hf := ite_f hc_9 hf
          refine g_iconst (v := 0) X dX10_spread_56 (by decide) ?_
          refine g_istore (lv' := [(0, .ref h_t), (1, .ref h_p1), (4, .int 0), (5, .int v5)]) X dX10_spread_57 (Nat.le_of_ble_eq_true rfl) [1, 2, 0, 3] rfl ?_
          refine g_iconst (v := 0) X dX10_spread_59 (by decide) ?_
          refine g_istore (lv' := [(0, .ref h_t), (1, .ref h_p1), (4, .int 0), (5, .int v5), (6, .int 0)]) X dX10_spread_60 (Nat.le_of_ble_eq_true rfl) [1, 2, 3, 4, 0] rfl ?_
          exact J62 (f_X10_spread_42 p1_width p1_size p1_N p1_cells n) ih FU t_feels 0 v5 0 hf
  have J36 : ∀ (t_feels : (Nat → Int32)), f_X10_spread_36 p1_width p1_size p1_N p1_cells t_feels = some res → G 0 0 (wd_X10_spread cI cZ h_t h_t_feels h_p1 h_p1_cells t_feels p1_most p1_width p1_size p1_N p1_cells) [(0, .ref h_t), (1, .ref h_p1)] 36 [] := by
    intro t_feels hf
    unfold f_X10_spread_36 at hf
    refine g_iconst (v := 1) X dX10_spread_36 (by decide) ?_
    refine g_istore (lv' := [(0, .ref h_t), (1, .ref h_p1), (4, .int 1)]) X dX10_spread_37 (Nat.le_of_ble_eq_true rfl) [1, 2, 0] rfl ?_
    refine g_iconst (v := 1) X dX10_spread_39 (by decide) ?_
    refine g_istore (lv' := [(0, .ref h_t), (1, .ref h_p1), (4, .int 1), (5, .int 1)]) X dX10_spread_40 (Nat.le_of_ble_eq_true rfl) [1, 2, 3, 0] rfl ?_
    exact J42 FU t_feels 1 1 hf
  have J3 : ∀ (n : Nat) (t_feels : (Nat → Int32)) (v2 : Int32) (v3 : Int32) (v4 : Int32), f_X10_spread_3 p1_width p1_size p1_N p1_cells n t_feels v2 v3 v4 = some res → G 0 0 (wd_X10_spread cI cZ h_t h_t_feels h_p1 h_p1_cells t_feels p1_most p1_width p1_size p1_N p1_cells) [(0, .ref h_t), (1, .ref h_p1), (2, .int v2), (3, .int v3), (4, .int v4)] 3 [] := by
    intro n
    induction n with
    | zero => intro t_feels v2 v3 v4 hf; rw [f_X10_spread_3] at hf; cases hf
    | succ n ih =>
      intro t_feels v2 v3 v4 hf
      rw [f_X10_spread_3] at hf
      refine g_iload X dX10_spread_3 4 rfl ?_
      refine g_bipush (v := 7) X dX10_spread_5 (by decide) ?_
      refine g_icmp_ge (tgt := 36) X dX10_spread_7 (by decide) (fun hc_1 => ?_) (fun hc_1 => ?_)
      · replace hf := ite_t hc_1 hf
        refine g_lv X (lv' := [(0, .ref h_t), (1, .ref h_p1)]) [0, 1] rfl ?_
        exact J36 t_feels hf
      · replace hf := ite_f hc_1 hf
        refine g_aload_n X dX10_spread_10 rfl 0 rfl ?_
        refine g_get (C := RX10) (T := TX10) (N := 1) (ci := 6) (v := (.ref h_t_feels)) X iw_X10_spread_X10 0 rfl rfl 0 (by decide) lk_X10_spread_9 rfl dX10_spread_11 ?_
        refine g_iload X dX10_spread_14 4 rfl ?_
        refine g_iload X dX10_spread_16 4 rfl ?_
        refine g_iload_n X dX10_spread_18 rfl 2 rfl ?_
        refine g_icmp_ne (tgt := 26) X dX10_spread_19 (by decide) (fun hc_2 => ?_) (fun hc_2 => ?_)
        · replace hf := ite_f hc_2 hf
          refine g_iconst (v := 0) X dX10_spread_26 (by decide) ?_
          exact J27 (f_X10_spread_3 p1_width p1_size p1_N p1_cells n) ih t_feels v2 v3 v4 v4 0 hf
        · replace hf := ite_t hc_2 hf
          refine g_iload_n X dX10_spread_22 rfl 3 rfl ?_
          refine g_goto (tgt := 27) X dX10_spread_23 (by decide) ?_
          exact J27 (f_X10_spread_3 p1_width p1_size p1_N p1_cells n) ih t_feels v2 v3 v4 v4 v3 hf
  refine g_iconst (v := 0) X dX10_spread_0 (by decide) ?_
  refine g_istore (lv' := [(0, .ref h_t), (1, .ref h_p1), (2, .int v2), (3, .int v3), (4, .int 0)]) X dX10_spread_1 (Nat.le_of_ble_eq_true rfl) [1, 2, 3, 4, 0] rfl ?_
  exact J3 FU t_feels v2 v3 0 hf
def wd_X10_whoFeel (cI cZ : ClassId) (h_t : Nat) (h_t_feels : Nat) (t_feels : (Nat → Int32)) : va_W := [(h_t, .inr (6, [.ref h_t_feels])), (h_t_feels, .inl (cI, 7, .inl t_feels))]
abbrev rm_X10_whoFeel : Room := { frames := 1, cells := 0, slots := 0, locals := 21 }
theorem hv_X10_whoFeel : yX10_whoFeel.cls = RX10 ∧ yX10_whoFeel.cls ≠ "java/lang/invoke/MethodHandle" ∧ yX10_whoFeel.cls ≠ "java/lang/invoke/VarHandle" ∧ (parseMethodDescriptor yX10_whoFeel.desc).map (fun d => d.parameters.length) = some 0 := by decide +kernel
theorem iw_X10_whoFeel_X10 : ∀ w ∈ u_ws RX10 TX10 1, w ∈ wsX10_whoFeel := by decide +kernel
theorem lk_X10_whoFeel_9 : Cond.fieldLink RX10 9 "ClerkChains$Tug" "feels" "[I" ∈ wsX10_whoFeel := by decide +kernel
theorem lk_X10_whoFeel_iX11 : Cond.initialized RX11 ∈ wsX10_whoFeel := by decide +kernel
theorem lk_X10_whoFeel_sX11_cell : Cond.static yX11_cell ∈ wsX10_whoFeel := by decide +kernel
set_option maxHeartbeats 4000000 in
set_option maxRecDepth 100000 in
theorem c_X10_whoFeel (l : Launch) (D : va_G) (cI cZ : ClassId) (h_t : Nat) (h_t_feels : Nat) (t_feels : (Nat → Int32)) (res : Int32) (hf : f_X10_whoFeel t_feels = some res) : MetR l yX10_whoFeel wsX10_whoFeel rm_X10_whoFeel D cI cZ none [.ref h_t] (wd_X10_whoFeel cI cZ h_t h_t_feels t_feels) (kR res (fun u => some (.int u))) := by
  refine metR_of (cc := cX10_whoFeel) (maxL := 3) (ret := (some .int)) (own := RX10) (lv0 := [(0, .ref h_t)]) (by decide) rfl (Nat.le_of_ble_eq_true rfl) rfl rfl (fun G X hR => ?_)
  replace hR := rt_int hR
  unfold f_X10_whoFeel at hf
  have J29 : ∀ (k4 : Int32 → Int32 → Option (Int32)) (hk4 : ∀ (v1 : Int32) (v2 : Int32), k4 v1 v2 = some res → G 0 0 (wd_X10_whoFeel cI cZ h_t h_t_feels t_feels) [(0, .ref h_t), (1, .int v1), (2, .int v2)] 4 []) (v2 : Int32) (s0 : Int32) (s1 : Int32), f_X10_whoFeel_29 t_feels k4 v2 s0 s1 = some res → G 0 0 (wd_X10_whoFeel cI cZ h_t h_t_feels t_feels) [(0, .ref h_t), (2, .int v2)] 29 [.int s1, .int s0] := by
    intro k4 hk4 v2 s0 s1 hf
    unfold f_X10_whoFeel_29 at hf
    refine g_ior X dX10_whoFeel_29 ?_
    obtain ⟨v1_5, ev1_5, hf⟩ := bnd_out hf
    refine g_nmI X ev1_5 ?_
    refine g_istore_n (lv' := [(0, .ref h_t), (1, .int v1_5), (2, .int v2)]) X dX10_whoFeel_30 rfl (Nat.le_of_ble_eq_true rfl) [1, 0, 2] rfl ?_
    obtain ⟨v2_6, ev2_6, hf⟩ := bnd_out hf
    refine g_iinc (v := v2_6) (lv' := [(0, .ref h_t), (1, .int v1_5), (2, .int v2_6)]) X dX10_whoFeel_31 2 rfl (by rw [ev2_6]; rfl) (Nat.le_of_ble_eq_true rfl) [1, 2, 0] rfl ?_
    refine g_goto (tgt := 4) X dX10_whoFeel_34 (by decide) ?_
    exact hk4 v1_5 v2_6 hf
  have J4 : ∀ (n : Nat) (v1 : Int32) (v2 : Int32), f_X10_whoFeel_4 t_feels n v1 v2 = some res → G 0 0 (wd_X10_whoFeel cI cZ h_t h_t_feels t_feels) [(0, .ref h_t), (1, .int v1), (2, .int v2)] 4 [] := by
    intro n
    induction n with
    | zero => intro v1 v2 hf; rw [f_X10_whoFeel_4] at hf; cases hf
    | succ n ih =>
      intro v1 v2 hf
      rw [f_X10_whoFeel_4] at hf
      refine g_iload_n X dX10_whoFeel_4 rfl 2 rfl ?_
      refine g_bipush (v := 7) X dX10_whoFeel_5 (by decide) ?_
      refine g_icmp_ge (tgt := 37) X dX10_whoFeel_7 (by decide) (fun hc_1 => ?_) (fun hc_1 => ?_)
      · replace hf := ite_t hc_1 hf
        refine g_iload_n X dX10_whoFeel_37 rfl 1 rfl ?_
        exact hR _ _ _ _ dX10_whoFeel_38 (kR_in (u := v1) hf)
      · replace hf := ite_f hc_1 hf
        refine g_iload_n X dX10_whoFeel_10 rfl 1 rfl ?_
        refine g_aload_n X dX10_whoFeel_11 rfl 0 rfl ?_
        refine g_get (C := RX10) (T := TX10) (N := 1) (ci := 6) (v := (.ref h_t_feels)) X iw_X10_whoFeel_X10 0 rfl rfl 0 (by decide) lk_X10_whoFeel_9 rfl dX10_whoFeel_12 ?_
        refine g_iload_n X dX10_whoFeel_15 rfl 2 rfl ?_
        obtain ⟨r_2, hk_3, hf⟩ := ob1_out hf
        refine g_cNR (st := [.int v1]) (st1 := [.int r_2, .int v1]) X (c_X11_cell l D cI cZ h_t_feels 7 t_feels v2 _ hk_3) (Or.inl rfl) 2 gX10_whoFeel_X11_cell_n33 (by decide +kernel) lk_X10_whoFeel_iX11 lk_X10_whoFeel_sX11_cell rfl hs_X11_cell ⟨Nat.le_of_ble_eq_true rfl, Nat.le_of_ble_eq_true rfl⟩ rfl rfl (Nat.le_of_ble_eq_true rfl) ⟨rfl, rfl⟩ (Nat.zero_le _) (Nat.zero_le _) dX10_whoFeel_16 [1] rfl rfl rfl ?_
        refine g_if_le (tgt := 28) X dX10_whoFeel_19 (by decide) (fun hc_4 => ?_) (fun hc_4 => ?_)
        · replace hf := ite_t hc_4 hf
          refine g_iconst (v := 0) X dX10_whoFeel_28 (by decide) ?_
          refine g_lv X (lv' := [(0, .ref h_t), (2, .int v2)]) [0, 2] rfl ?_
          exact J29 (f_X10_whoFeel_4 t_feels n) ih v2 v1 0 hf
        · replace hf := ite_f hc_4 hf
          refine g_iconst (v := 1) X dX10_whoFeel_22 (by decide) ?_
          refine g_iload_n X dX10_whoFeel_23 rfl 2 rfl ?_
          refine g_ishl X dX10_whoFeel_24 ?_
          refine g_goto (tgt := 29) X dX10_whoFeel_25 (by decide) ?_
          refine g_lv X (lv' := [(0, .ref h_t), (2, .int v2)]) [0, 2] rfl ?_
          exact J29 (f_X10_whoFeel_4 t_feels n) ih v2 v1 (1 <<< (v2 &&& 31)) hf
  refine g_iconst (v := 0) X dX10_whoFeel_0 (by decide) ?_
  refine g_istore_n (lv' := [(0, .ref h_t), (1, .int 0)]) X dX10_whoFeel_1 rfl (Nat.le_of_ble_eq_true rfl) [1, 0] rfl ?_
  refine g_iconst (v := 0) X dX10_whoFeel_2 (by decide) ?_
  refine g_istore_n (lv' := [(0, .ref h_t), (1, .int 0), (2, .int 0)]) X dX10_whoFeel_3 rfl (Nat.le_of_ble_eq_true rfl) [1, 2, 0] rfl ?_
  exact J4 FU 0 0 hf
def wd_X10_feltBy (cI cZ : ClassId) (h_t : Nat) (h_t_feels : Nat) (t_feels : (Nat → Int32)) : va_W := [(h_t, .inr (6, [.ref h_t_feels])), (h_t_feels, .inl (cI, 7, .inl t_feels))]
abbrev rm_X10_feltBy : Room := { frames := 1, cells := 0, slots := 0, locals := 21 }
theorem hv_X10_feltBy : yX10_feltBy.cls = RX10 ∧ yX10_feltBy.cls ≠ "java/lang/invoke/MethodHandle" ∧ yX10_feltBy.cls ≠ "java/lang/invoke/VarHandle" ∧ (parseMethodDescriptor yX10_feltBy.desc).map (fun d => d.parameters.length) = some 1 := by decide +kernel
theorem iw_X10_feltBy_X10 : ∀ w ∈ u_ws RX10 TX10 1, w ∈ wsX10_feltBy := by decide +kernel
theorem lk_X10_feltBy_9 : Cond.fieldLink RX10 9 "ClerkChains$Tug" "feels" "[I" ∈ wsX10_feltBy := by decide +kernel
theorem lk_X10_feltBy_iX11 : Cond.initialized RX11 ∈ wsX10_feltBy := by decide +kernel
theorem lk_X10_feltBy_sX11_cell : Cond.static yX11_cell ∈ wsX10_feltBy := by decide +kernel
set_option maxHeartbeats 4000000 in
set_option maxRecDepth 100000 in
theorem c_X10_feltBy (l : Launch) (D : va_G) (cI cZ : ClassId) (h_t : Nat) (h_t_feels : Nat) (t_feels : (Nat → Int32)) (v1 : Int32) (res : Int32) (hf : f_X10_feltBy t_feels v1 = some res) : MetR l yX10_feltBy wsX10_feltBy rm_X10_feltBy D cI cZ none [.ref h_t, .int v1] (wd_X10_feltBy cI cZ h_t h_t_feels t_feels) (kR res (fun u => some (.int u))) := by
  refine metR_of (cc := cX10_feltBy) (maxL := 2) (ret := (some .int)) (own := RX10) (lv0 := [(0, .ref h_t), (1, .int v1)]) (by decide) rfl (Nat.le_of_ble_eq_true rfl) rfl rfl (fun G X hR => ?_)
  replace hR := rt_int hR
  unfold f_X10_feltBy at hf
  refine g_aload_n X dX10_feltBy_0 rfl 0 rfl ?_
  refine g_get (C := RX10) (T := TX10) (N := 1) (ci := 6) (v := (.ref h_t_feels)) X iw_X10_feltBy_X10 0 rfl rfl 0 (by decide) lk_X10_feltBy_9 rfl dX10_feltBy_1 ?_
  refine g_iload_n X dX10_feltBy_4 rfl 1 rfl ?_
  obtain ⟨r_1, hk_2, hf⟩ := ob1_out hf
  refine g_cNR (st := []) (st1 := [.int r_1]) X (c_X11_cell l D cI cZ h_t_feels 7 t_feels v1 _ hk_2) (Or.inl rfl) 2 gX10_feltBy_X11_cell_n33 (by decide +kernel) lk_X10_feltBy_iX11 lk_X10_feltBy_sX11_cell rfl hs_X11_cell ⟨Nat.le_of_ble_eq_true rfl, Nat.le_of_ble_eq_true rfl⟩ rfl rfl (Nat.le_of_ble_eq_true rfl) ⟨rfl, rfl⟩ (Nat.zero_le _) (Nat.zero_le _) dX10_feltBy_5 [1] rfl rfl rfl ?_
  exact hR _ _ _ _ dX10_feltBy_8 (kR_in (u := r_1) hf)
def wd_X8_countParties (cI cZ : ClassId) (h_t : Nat) (h_t_sizes : Nat) (h_t_weights : Nat) (h_t_sitting : Nat) (h_t_needed : Nat) (h_p1 : Nat) (h_p1_cells : Nat) (t_sizes : (Nat → Int32)) (p1_most : Int32) (p1_width : Int32) (p1_size : Int32) (p1_N : Nat) (p1_cells : (Nat → Int32)) : va_W := [(h_t, .inr (4, [.ref h_t_sizes, .ref h_t_weights, .ref h_t_sitting, .ref h_t_needed])), (h_t_sizes, .inl (cI, 7, .inl t_sizes)), (h_p1, .inr (3, [.int p1_most, .int p1_width, .ref h_p1_cells, .int p1_size])), (h_p1_cells, .inl (cI, p1_N, .inl p1_cells))]
abbrev rm_X8_countParties : Room := { frames := 3, cells := 0, slots := 0, locals := 73 }
theorem hv_X8_countParties : yX8_countParties.cls = RX8 ∧ yX8_countParties.cls ≠ "java/lang/invoke/MethodHandle" ∧ yX8_countParties.cls ≠ "java/lang/invoke/VarHandle" ∧ (parseMethodDescriptor yX8_countParties.desc).map (fun d => d.parameters.length) = some 1 := by decide +kernel
theorem iw_X8_countParties_X8 : ∀ w ∈ u_ws RX8 TX8 4, w ∈ wsX8_countParties := by decide +kernel
theorem lk_X8_countParties_9 : Cond.fieldLink RX8 9 "ClerkChains$Tables" "sizes" "[I" ∈ wsX8_countParties := by decide +kernel
theorem lk_X8_countParties_iX11 : Cond.initialized RX11 ∈ wsX8_countParties := by decide +kernel
theorem lk_X8_countParties_sX11_setCell : Cond.static yX11_setCell ∈ wsX8_countParties := by decide +kernel
set_option maxHeartbeats 4000000 in
set_option maxRecDepth 100000 in
theorem c_X8_countParties (l : Launch) (D : va_G) (cI cZ : ClassId) (h_t : Nat) (h_t_sizes : Nat) (h_t_weights : Nat) (h_t_sitting : Nat) (h_t_needed : Nat) (h_p1 : Nat) (h_p1_cells : Nat) (t_sizes : (Nat → Int32)) (p1_most : Int32) (p1_width : Int32) (p1_size : Int32) (p1_N : Nat) (p1_cells : (Nat → Int32)) (res : Int32 × (Nat → Int32)) (hf : f_X8_countParties t_sizes p1_width p1_size p1_N p1_cells = some res) : MetG l yX8_countParties wsX8_countParties rm_X8_countParties D cI cZ none [.ref h_t, .ref h_p1] (wd_X8_countParties cI cZ h_t h_t_sizes h_t_weights h_t_sitting h_t_needed h_p1 h_p1_cells t_sizes p1_most p1_width p1_size p1_N p1_cells) (kV res (fun u => some (.int u.1)) (fun u => (wd_X8_countParties cI cZ h_t h_t_sizes h_t_weights h_t_sitting h_t_needed h_p1 h_p1_cells (u.2) p1_most p1_width p1_size p1_N p1_cells))) := by
  refine metG_of (cc := cX8_countParties) (maxL := 4) (ret := (some .int)) (own := RX8) (lv0 := [(0, .ref h_t), (1, .ref h_p1)]) (ini := false) (by decide) rfl (Nat.le_of_ble_eq_true rfl) rfl rfl (fun h => by cases h) (fun G X hR => ?_)
  replace hR := rt_int hR
  unfold f_X8_countParties at hf
  have J41 : ∀ (k4 : (Nat → Int32) → Int32 → Int32 → Option (Int32 × (Nat → Int32))) (hk4 : ∀ (t_sizes : (Nat → Int32)) (v2 : Int32) (v3 : Int32), k4 t_sizes v2 v3 = some res → G 0 0 (wd_X8_countParties cI cZ h_t h_t_sizes h_t_weights h_t_sitting h_t_needed h_p1 h_p1_cells t_sizes p1_most p1_width p1_size p1_N p1_cells) [(0, .ref h_t), (1, .ref h_p1), (2, .int v2), (3, .int v3)] 4 []) (t_sizes : (Nat → Int32)) (v2 : Int32) (v3 : Int32), f_X8_countParties_41 p1_width p1_size p1_N p1_cells k4 t_sizes v2 v3 = some res → G 0 0 (wd_X8_countParties cI cZ h_t h_t_sizes h_t_weights h_t_sitting h_t_needed h_p1 h_p1_cells t_sizes p1_most p1_width p1_size p1_N p1_cells) [(0, .ref h_t), (1, .ref h_p1), (2, .int v2), (3, .int v3)] 41 [] := by
    intro k4 hk4 t_sizes v2 v3 hf
    unfold f_X8_countParties_41 at hf
    obtain ⟨v3_14, ev3_14, hf⟩ := bnd_out hf
    refine g_iinc (v := v3_14) (lv' := [(0, .ref h_t), (1, .ref h_p1), (2, .int v2), (3, .int v3_14)]) X dX8_countParties_41 3 rfl (by rw [ev3_14]; rfl) (Nat.le_of_ble_eq_true rfl) [1, 2, 3, 0] rfl ?_
    refine g_goto (tgt := 4) X dX8_countParties_44 (by decide) ?_
    exact hk4 t_sizes v2 v3_14 hf
  have J4 : ∀ (n : Nat) (t_sizes : (Nat → Int32)) (v2 : Int32) (v3 : Int32), f_X8_countParties_4 p1_width p1_size p1_N p1_cells n t_sizes v2 v3 = some res → G 0 0 (wd_X8_countParties cI cZ h_t h_t_sizes h_t_weights h_t_sitting h_t_needed h_p1 h_p1_cells t_sizes p1_most p1_width p1_size p1_N p1_cells) [(0, .ref h_t), (1, .ref h_p1), (2, .int v2), (3, .int v3)] 4 [] := by
    intro n
    induction n with
    | zero => intro t_sizes v2 v3 hf; rw [f_X8_countParties_4] at hf; cases hf
    | succ n ih =>
      intro t_sizes v2 v3 hf
      rw [f_X8_countParties_4] at hf
      refine g_iload_n X dX8_countParties_4 rfl 3 rfl ?_
      refine g_aload_n X dX8_countParties_5 rfl 1 rfl ?_
      obtain ⟨r_1, hk_2, hf⟩ := ob1_out hf
      refine g_cVR (st := [.int v3]) (st1 := [.int r_1, .int v3]) (C := RX7) (ci := 3) (q0 := 2) X (c_X7_size l D cI cZ h_p1 h_p1_cells p1_most p1_width p1_size _ hk_2) (Or.inl rfl) 0 gX8_countParties_X7_size rfl hv_X7_size ⟨Nat.le_of_ble_eq_true rfl, Nat.le_of_ble_eq_true rfl⟩ rfl rfl (Nat.le_of_ble_eq_true rfl) ⟨rfl, rfl⟩ (Nat.zero_le _) (Nat.zero_le _) rfl rfl rfl dX8_countParties_6 [2] rfl rfl rfl ?_
      refine g_icmp_ge (tgt := 47) X dX8_countParties_9 (by decide) (fun hc_3 => ?_) (fun hc_3 => ?_)
      · replace hf := ite_t hc_3 hf
        refine g_iload_n X dX8_countParties_47 rfl 2 rfl ?_
        exact hR _ _ _ _ dX8_countParties_48 (kV_in (u := (v2, t_sizes)) hf)
      · replace hf := ite_f hc_3 hf
        refine g_aload_n X dX8_countParties_12 rfl 1 rfl ?_
        refine g_iload_n X dX8_countParties_13 rfl 3 rfl ?_
        refine g_iconst (v := 4) X dX8_countParties_14 (by decide) ?_
        obtain ⟨r_4, hk_5, hf⟩ := ob1_out hf
        refine g_cVR (st := []) (st1 := [.int r_4]) (C := RX7) (ci := 3) (q0 := 2) X (c_X7_get l D cI cZ h_p1 h_p1_cells p1_most p1_width p1_size p1_N p1_cells v3 4 _ hk_5) (Or.inl rfl) 2 gX8_countParties_X7_get rfl hv_X7_get ⟨Nat.le_of_ble_eq_true rfl, Nat.le_of_ble_eq_true rfl⟩ rfl rfl (Nat.le_of_ble_eq_true rfl) ⟨rfl, rfl⟩ (Nat.zero_le _) (Nat.zero_le _) rfl rfl rfl dX8_countParties_15 [2, 3] rfl rfl rfl ?_
        refine g_iconst (v := (-1)) X dX8_countParties_18 (by decide) ?_
        refine g_icmp_ne (tgt := 41) X dX8_countParties_19 (by decide) (fun hc_6 => ?_) (fun hc_6 => ?_)
        · replace hf := ite_f hc_6 hf
          exact J41 (f_X8_countParties_4 p1_width p1_size p1_N p1_cells n) ih t_sizes v2 v3 hf
        · replace hf := ite_t hc_6 hf
          refine g_aload_n X dX8_countParties_22 rfl 0 rfl ?_
          refine g_get (C := RX8) (T := TX8) (N := 4) (ci := 4) (v := (.ref h_t_sizes)) X iw_X8_countParties_X8 0 rfl rfl 0 (by decide) lk_X8_countParties_9 rfl dX8_countParties_23 ?_
          refine g_iload_n X dX8_countParties_26 rfl 2 rfl ?_
          refine g_aload_n X dX8_countParties_27 rfl 1 rfl ?_
          refine g_iload_n X dX8_countParties_28 rfl 3 rfl ?_
          obtain ⟨r_7, hk_8, hf⟩ := ob1_out hf
          refine g_cSR (st := [.int v2, .ref h_t_sizes]) (st1 := [.int r_7, .int v2, .ref h_t_sizes]) X (c_X0_members l D cI cZ h_p1 h_p1_cells p1_most p1_width p1_size p1_N p1_cells v3 _ hk_8) (Or.inl rfl) 2 gX8_countParties_X0_members rfl hs_X0_members ⟨Nat.le_of_ble_eq_true rfl, Nat.le_of_ble_eq_true rfl⟩ rfl rfl (Nat.le_of_ble_eq_true rfl) ⟨rfl, rfl⟩ (Nat.zero_le _) (Nat.zero_le _) dX8_countParties_29 [2, 3] rfl rfl rfl ?_
          obtain ⟨r_9, hk_10, hf⟩ := ob1_out hf
          refine g_cSR (st := [.int v2, .ref h_t_sizes]) (st1 := [.int r_9, .int v2, .ref h_t_sizes]) X (c_J6_bitCount_0f7a4 l D cI cZ r_7 _ hk_10) (Or.inl rfl) 1 gX8_countParties_J6_bitCount_0f7a4 rfl hs_J6_bitCount_0f7a4 ⟨Nat.le_of_ble_eq_true rfl, Nat.le_of_ble_eq_true rfl⟩ rfl rfl (Nat.le_of_ble_eq_true rfl) ⟨rfl, rfl⟩ (Nat.zero_le _) (Nat.zero_le _) dX8_countParties_32 [] rfl rfl rfl ?_
          obtain ⟨t_sizes_11, hk_12, hf⟩ := ob1_out hf
          refine g_cNW (st := []) (st1 := []) (ws' := (wd_X8_countParties cI cZ h_t h_t_sizes h_t_weights h_t_sitting h_t_needed h_p1 h_p1_cells t_sizes_11 p1_most p1_width p1_size p1_N p1_cells)) X (c_X11_setCell l D cI cZ h_t_sizes 7 t_sizes v2 r_9 _ hk_12) (Or.inl rfl) 3 gX8_countParties_X11_setCell_n38 (by decide +kernel) lk_X8_countParties_iX11 lk_X8_countParties_sX11_setCell rfl hs_X11_setCell ⟨Nat.le_of_ble_eq_true rfl, Nat.le_of_ble_eq_true rfl⟩ rfl rfl (Nat.le_of_ble_eq_true rfl) ⟨rfl, rfl⟩ (Nat.zero_le _) (Nat.zero_le _) dX8_countParties_35 [1] rfl rfl [0, 2, 3] rfl rfl (by decide) [0, 3, 1, 2] rfl rfl rfl ?_
          obtain ⟨v2_13, ev2_13, hf⟩ := bnd_out hf
          refine g_iinc (v := v2_13) (lv' := [(0, .ref h_t), (1, .ref h_p1), (2, .int v2_13), (3, .int v3)]) X dX8_countParties_38 2 rfl (by rw [ev2_13]; rfl) (Nat.le_of_ble_eq_true rfl) [1, 2, 0, 3] rfl ?_
          exact J41 (f_X8_countParties_4 p1_width p1_size p1_N p1_cells n) ih t_sizes_11 v2_13 v3 hf
  refine g_iconst (v := 0) X dX8_countParties_0 (by decide) ?_
  refine g_istore_n (lv' := [(0, .ref h_t), (1, .ref h_p1), (2, .int 0)]) X dX8_countParties_1 rfl (Nat.le_of_ble_eq_true rfl) [1, 2, 0] rfl ?_
  refine g_iconst (v := 0) X dX8_countParties_2 (by decide) ?_
  refine g_istore_n (lv' := [(0, .ref h_t), (1, .ref h_p1), (2, .int 0), (3, .int 0)]) X dX8_countParties_3 rfl (Nat.le_of_ble_eq_true rfl) [1, 2, 3, 0] rfl ?_
  exact J4 FU t_sizes 0 0 hf
def wd_X8_tablesFor (cI cZ : ClassId) (h_t : Nat) (h_t_sizes : Nat) (h_t_weights : Nat) (h_t_sitting : Nat) (h_t_needed : Nat) (t_sitting : (Nat → Int32)) (t_needed : (Nat → Int32)) : va_W := [(h_t, .inr (4, [.ref h_t_sizes, .ref h_t_weights, .ref h_t_sitting, .ref h_t_needed])), (h_t_sitting, .inl (cI, 128, .inl t_sitting)), (h_t_needed, .inl (cI, 128, .inl t_needed))]
abbrev rm_X8_tablesFor : Room := { frames := 1, cells := 0, slots := 0, locals := 21 }
theorem hv_X8_tablesFor : yX8_tablesFor.cls = RX8 ∧ yX8_tablesFor.cls ≠ "java/lang/invoke/MethodHandle" ∧ yX8_tablesFor.cls ≠ "java/lang/invoke/VarHandle" ∧ (parseMethodDescriptor yX8_tablesFor.desc).map (fun d => d.parameters.length) = some 2 := by decide +kernel
theorem iw_X8_tablesFor_X8 : ∀ w ∈ u_ws RX8 TX8 4, w ∈ wsX8_tablesFor := by decide +kernel
theorem lk_X8_tablesFor_18 : Cond.fieldLink RX8 18 "ClerkChains$Tables" "sitting" "[I" ∈ wsX8_tablesFor := by decide +kernel
theorem lk_X8_tablesFor_iX11 : Cond.initialized RX11 ∈ wsX8_tablesFor := by decide +kernel
theorem lk_X8_tablesFor_sX11_cell : Cond.static yX11_cell ∈ wsX8_tablesFor := by decide +kernel
theorem lk_X8_tablesFor_21 : Cond.fieldLink RX8 21 "ClerkChains$Tables" "needed" "[I" ∈ wsX8_tablesFor := by decide +kernel
theorem lk_X8_tablesFor_m64 : Cond.methodLink RX8 64 Lib.Math.min.name ∈ wsX8_tablesFor := by decide +kernel
theorem lk_X8_tablesFor_smin : Cond.static Lib.Math.min.name ∈ wsX8_tablesFor := by decide +kernel
theorem lk_X8_tablesFor_iMath : Cond.initialized "java/lang/Math" ∈ wsX8_tablesFor := by decide +kernel
theorem lk_X8_tablesFor_cmin : Cond.code Lib.Math.min.name Lib.Math.min.code 2 (some .int) ∈ wsX8_tablesFor := by decide +kernel
set_option maxHeartbeats 4000000 in
set_option maxRecDepth 100000 in
theorem c_X8_tablesFor (l : Launch) (D : va_G) (cI cZ : ClassId) (h_t : Nat) (h_t_sizes : Nat) (h_t_weights : Nat) (h_t_sitting : Nat) (h_t_needed : Nat) (t_sitting : (Nat → Int32)) (t_needed : (Nat → Int32)) (v1 : Int32) (v2 : Int32) (res : Int32) (hf : f_X8_tablesFor t_sitting t_needed v1 v2 = some res) : MetR l yX8_tablesFor wsX8_tablesFor rm_X8_tablesFor D cI cZ none [.ref h_t, .int v1, .int v2] (wd_X8_tablesFor cI cZ h_t h_t_sizes h_t_weights h_t_sitting h_t_needed t_sitting t_needed) (kR res (fun u => some (.int u))) := by
  refine metR_of (cc := cX8_tablesFor) (maxL := 5) (ret := (some .int)) (own := RX8) (lv0 := [(0, .ref h_t), (1, .int v1), (2, .int v2)]) (by decide) rfl (Nat.le_of_ble_eq_true rfl) rfl rfl (fun G X hR => ?_)
  replace hR := rt_int hR
  unfold f_X8_tablesFor at hf
  have J54 : ∀ (k6 : Int32 → Int32 → Int32 → Int32 → Option (Int32)) (hk6 : ∀ (v1 : Int32) (v2 : Int32) (v3 : Int32) (v4 : Int32), k6 v1 v2 v3 v4 = some res → G 0 0 (wd_X8_tablesFor cI cZ h_t h_t_sizes h_t_weights h_t_sitting h_t_needed t_sitting t_needed) [(0, .ref h_t), (1, .int v1), (2, .int v2), (3, .int v3), (4, .int v4)] 6 []) (v1 : Int32) (v2 : Int32) (v3 : Int32) (v4 : Int32), f_X8_tablesFor_54 t_sitting t_needed k6 v1 v2 v3 v4 = some res → G 0 0 (wd_X8_tablesFor cI cZ h_t h_t_sizes h_t_weights h_t_sitting h_t_needed t_sitting t_needed) [(0, .ref h_t), (1, .int v1), (2, .int v2), (3, .int v3), (4, .int v4)] 54 [] := by
    intro k6 hk6 v1 v2 v3 v4 hf
    unfold f_X8_tablesFor_54 at hf
    obtain ⟨v4_9, ev4_9, hf⟩ := bnd_out hf
    refine g_iinc (v := v4_9) (lv' := [(0, .ref h_t), (1, .int v1), (2, .int v2), (3, .int v3), (4, .int v4_9)]) X dX8_tablesFor_54 4 rfl (by rw [ev4_9]; rfl) (Nat.le_of_ble_eq_true rfl) [1, 2, 3, 4, 0] rfl ?_
    refine g_goto (tgt := 6) X dX8_tablesFor_57 (by decide) ?_
    exact hk6 v1 v2 v3 v4_9 hf
  have J6 : ∀ (n : Nat) (v1 : Int32) (v2 : Int32) (v3 : Int32) (v4 : Int32), f_X8_tablesFor_6 t_sitting t_needed n v1 v2 v3 v4 = some res → G 0 0 (wd_X8_tablesFor cI cZ h_t h_t_sizes h_t_weights h_t_sitting h_t_needed t_sitting t_needed) [(0, .ref h_t), (1, .int v1), (2, .int v2), (3, .int v3), (4, .int v4)] 6 [] := by
    intro n
    induction n with
    | zero => intro v1 v2 v3 v4 hf; rw [f_X8_tablesFor_6] at hf; cases hf
    | succ n ih =>
      intro v1 v2 v3 v4 hf
      rw [f_X8_tablesFor_6] at hf
      refine g_iload X dX8_tablesFor_6 4 rfl ?_
      refine g_iload_n X dX8_tablesFor_8 rfl 1 rfl ?_
      refine g_icmp_gt (tgt := 60) X dX8_tablesFor_9 (by decide) (fun hc_1 => ?_) (fun hc_1 => ?_)
      · replace hf := ite_t hc_1 hf
        refine g_iload_n X dX8_tablesFor_60 rfl 3 rfl ?_
        exact hR _ _ _ _ dX8_tablesFor_61 (kR_in (u := v3) hf)
      · replace hf := ite_f hc_1 hf
        refine g_iload X dX8_tablesFor_12 4 rfl ?_
        refine g_iload_n X dX8_tablesFor_14 rfl 1 rfl ?_
        refine g_iand X dX8_tablesFor_15 ?_
        refine g_iload X dX8_tablesFor_16 4 rfl ?_
        refine g_icmp_ne (tgt := 54) X dX8_tablesFor_18 (by decide) (fun hc_2 => ?_) (fun hc_2 => ?_)
        · replace hf := ite_f hc_2 hf
          exact J54 (f_X8_tablesFor_6 t_sitting t_needed n) ih v1 v2 v3 v4 hf
        · replace hf := ite_t hc_2 hf
          refine g_aload_n X dX8_tablesFor_21 rfl 0 rfl ?_
          refine g_get (C := RX8) (T := TX8) (N := 4) (ci := 4) (v := (.ref h_t_sitting)) X iw_X8_tablesFor_X8 0 rfl rfl 2 (by decide) lk_X8_tablesFor_18 rfl dX8_tablesFor_22 ?_
          refine g_iload X dX8_tablesFor_25 4 rfl ?_
          obtain ⟨r_3, hk_4, hf⟩ := ob1_out hf
          refine g_cNR (st := []) (st1 := [.int r_3]) X (c_X11_cell l D cI cZ h_t_sitting 128 t_sitting v4 _ hk_4) (Or.inl rfl) 2 gX8_tablesFor_X11_cell_n28 (by decide +kernel) lk_X8_tablesFor_iX11 lk_X8_tablesFor_sX11_cell rfl hs_X11_cell ⟨Nat.le_of_ble_eq_true rfl, Nat.le_of_ble_eq_true rfl⟩ rfl rfl (Nat.le_of_ble_eq_true rfl) ⟨rfl, rfl⟩ (Nat.zero_le _) (Nat.zero_le _) dX8_tablesFor_27 [1] rfl rfl rfl ?_
          refine g_iload_n X dX8_tablesFor_30 rfl 2 rfl ?_
          refine g_icmp_gt (tgt := 54) X dX8_tablesFor_31 (by decide) (fun hc_5 => ?_) (fun hc_5 => ?_)
          · replace hf := ite_t hc_5 hf
            exact J54 (f_X8_tablesFor_6 t_sitting t_needed n) ih v1 v2 v3 v4 hf
          · replace hf := ite_f hc_5 hf
            refine g_iload_n X dX8_tablesFor_34 rfl 3 rfl ?_
            refine g_iconst (v := 1) X dX8_tablesFor_35 (by decide) ?_
            refine g_aload_n X dX8_tablesFor_36 rfl 0 rfl ?_
            refine g_get (C := RX8) (T := TX8) (N := 4) (ci := 4) (v := (.ref h_t_needed)) X iw_X8_tablesFor_X8 0 rfl rfl 3 (by decide) lk_X8_tablesFor_21 rfl dX8_tablesFor_37 ?_
            refine g_iload_n X dX8_tablesFor_40 rfl 1 rfl ?_
            refine g_iload X dX8_tablesFor_41 4 rfl ?_
            refine g_iconst (v := (-1)) X dX8_tablesFor_43 (by decide) ?_
            refine g_ixor X dX8_tablesFor_44 ?_
            refine g_iand X dX8_tablesFor_45 ?_
            obtain ⟨r_6, hk_7, hf⟩ := ob1_out hf
            refine g_cNR (st := [.int 1, .int v3]) (st1 := [.int r_6, .int 1, .int v3]) X (c_X11_cell l D cI cZ h_t_needed 128 t_needed (v1 &&& (v4 ^^^ (-1))) _ hk_7) (Or.inl rfl) 2 gX8_tablesFor_X11_cell_n28 (by decide +kernel) lk_X8_tablesFor_iX11 lk_X8_tablesFor_sX11_cell rfl hs_X11_cell ⟨Nat.le_of_ble_eq_true rfl, Nat.le_of_ble_eq_true rfl⟩ rfl rfl (Nat.le_of_ble_eq_true rfl) ⟨rfl, rfl⟩ (Nat.zero_le _) (Nat.zero_le _) dX8_tablesFor_46 [2] rfl rfl rfl ?_
            refine g_iadd X dX8_tablesFor_49 ?_
            refine g_mmin X lk_X8_tablesFor_m64 lk_X8_tablesFor_smin lk_X8_tablesFor_iMath lk_X8_tablesFor_cmin dX8_tablesFor_50 (Nat.le_of_ble_eq_true rfl) (Nat.le_of_ble_eq_true rfl) (Nat.zero_le _) (Nat.zero_le _) ?_
            obtain ⟨v3_8, ev3_8, hf⟩ := bnd_out hf
            refine g_nmI X ev3_8 ?_
            refine g_istore_n (lv' := [(0, .ref h_t), (1, .int v1), (2, .int v2), (3, .int v3_8), (4, .int v4)]) X dX8_tablesFor_53 rfl (Nat.le_of_ble_eq_true rfl) [1, 2, 3, 0, 4] rfl ?_
            exact J54 (f_X8_tablesFor_6 t_sitting t_needed n) ih v1 v2 v3_8 v4 hf
  refine g_bipush (v := 7) X dX8_tablesFor_0 (by decide) ?_
  refine g_istore_n (lv' := [(0, .ref h_t), (1, .int v1), (2, .int v2), (3, .int 7)]) X dX8_tablesFor_2 rfl (Nat.le_of_ble_eq_true rfl) [1, 2, 3, 0] rfl ?_
  refine g_iconst (v := 1) X dX8_tablesFor_3 (by decide) ?_
  refine g_istore (lv' := [(0, .ref h_t), (1, .int v1), (2, .int v2), (3, .int 7), (4, .int 1)]) X dX8_tablesFor_4 (Nat.le_of_ble_eq_true rfl) [1, 2, 3, 4, 0] rfl ?_
  exact J6 FU v1 v2 7 1 hf
def wd_X8_fewest (cI cZ : ClassId) (h_t : Nat) (h_t_sizes : Nat) (h_t_weights : Nat) (h_t_sitting : Nat) (h_t_needed : Nat) (h_p1 : Nat) (h_p1_cells : Nat) (t_sizes : (Nat → Int32)) (t_sitting : (Nat → Int32)) (t_needed : (Nat → Int32)) (p1_most : Int32) (p1_width : Int32) (p1_size : Int32) (p1_N : Nat) (p1_cells : (Nat → Int32)) : va_W := [(h_t, .inr (4, [.ref h_t_sizes, .ref h_t_weights, .ref h_t_sitting, .ref h_t_needed])), (h_t_sizes, .inl (cI, 7, .inl t_sizes)), (h_t_sitting, .inl (cI, 128, .inl t_sitting)), (h_t_needed, .inl (cI, 128, .inl t_needed)), (h_p1, .inr (3, [.int p1_most, .int p1_width, .ref h_p1_cells, .int p1_size])), (h_p1_cells, .inl (cI, p1_N, .inl p1_cells))]
abbrev rm_X8_fewest : Room := { frames := 4, cells := 0, slots := 0, locals := 96 }
theorem hv_X8_fewest : yX8_fewest.cls = RX8 ∧ yX8_fewest.cls ≠ "java/lang/invoke/MethodHandle" ∧ yX8_fewest.cls ≠ "java/lang/invoke/VarHandle" ∧ (parseMethodDescriptor yX8_fewest.desc).map (fun d => d.parameters.length) = some 2 := by decide +kernel
theorem iw_X8_fewest_X8 : ∀ w ∈ u_ws RX8 TX8 4, w ∈ wsX8_fewest := by decide +kernel
theorem lk_X8_fewest_9 : Cond.fieldLink RX8 9 "ClerkChains$Tables" "sizes" "[I" ∈ wsX8_fewest := by decide +kernel
theorem lk_X8_fewest_iX11 : Cond.initialized RX11 ∈ wsX8_fewest := by decide +kernel
theorem lk_X8_fewest_sX11_cell : Cond.static yX11_cell ∈ wsX8_fewest := by decide +kernel
theorem lk_X8_fewest_18 : Cond.fieldLink RX8 18 "ClerkChains$Tables" "sitting" "[I" ∈ wsX8_fewest := by decide +kernel
theorem lk_X8_fewest_sX11_setCell : Cond.static yX11_setCell ∈ wsX8_fewest := by decide +kernel
theorem lk_X8_fewest_21 : Cond.fieldLink RX8 21 "ClerkChains$Tables" "needed" "[I" ∈ wsX8_fewest := by decide +kernel
set_option maxHeartbeats 4000000 in
set_option maxRecDepth 100000 in
theorem c_X8_fewest (l : Launch) (D : va_G) (cI cZ : ClassId) (h_t : Nat) (h_t_sizes : Nat) (h_t_weights : Nat) (h_t_sitting : Nat) (h_t_needed : Nat) (h_p1 : Nat) (h_p1_cells : Nat) (t_sizes : (Nat → Int32)) (t_sitting : (Nat → Int32)) (t_needed : (Nat → Int32)) (p1_most : Int32) (p1_width : Int32) (p1_size : Int32) (p1_N : Nat) (p1_cells : (Nat → Int32)) (v2 : Int32) (res : Int32 × (Nat → Int32) × (Nat → Int32) × (Nat → Int32)) (hf : f_X8_fewest t_sizes t_sitting t_needed p1_width p1_size p1_N p1_cells v2 = some res) : MetG l yX8_fewest wsX8_fewest rm_X8_fewest D cI cZ none [.ref h_t, .ref h_p1, .int v2] (wd_X8_fewest cI cZ h_t h_t_sizes h_t_weights h_t_sitting h_t_needed h_p1 h_p1_cells t_sizes t_sitting t_needed p1_most p1_width p1_size p1_N p1_cells) (kV res (fun u => some (.int u.1)) (fun u => (wd_X8_fewest cI cZ h_t h_t_sizes h_t_weights h_t_sitting h_t_needed h_p1 h_p1_cells (u.2.1) (u.2.2.1) (u.2.2.2) p1_most p1_width p1_size p1_N p1_cells))) := by
  refine metG_of (cc := cX8_fewest) (maxL := 7) (ret := (some .int)) (own := RX8) (lv0 := [(0, .ref h_t), (1, .ref h_p1), (2, .int v2)]) (ini := false) (by decide) rfl (Nat.le_of_ble_eq_true rfl) rfl rfl (fun h => by cases h) (fun G X hR => ?_)
  replace hR := rt_int hR
  unfold f_X8_fewest at hf
  have J120 : ∀ (t_sizes : (Nat → Int32)) (t_sitting : (Nat → Int32)) (t_needed : (Nat → Int32)) (v4 : Int32), f_X8_fewest_120 p1_width p1_size p1_N p1_cells t_sizes t_sitting t_needed v4 = some res → G 0 0 (wd_X8_fewest cI cZ h_t h_t_sizes h_t_weights h_t_sitting h_t_needed h_p1 h_p1_cells t_sizes t_sitting t_needed p1_most p1_width p1_size p1_N p1_cells) [(0, .ref h_t), (4, .int v4)] 120 [] := by
    intro t_sizes t_sitting t_needed v4 hf
    unfold f_X8_fewest_120 at hf
    refine g_aload_n X dX8_fewest_120 rfl 0 rfl ?_
    refine g_get (C := RX8) (T := TX8) (N := 4) (ci := 4) (v := (.ref h_t_needed)) X iw_X8_fewest_X8 0 rfl rfl 3 (by decide) lk_X8_fewest_21 rfl dX8_fewest_121 ?_
    refine g_iload X dX8_fewest_124 1 rfl ?_
    obtain ⟨r_21, hk_22, hf⟩ := ob1_out hf
    refine g_cNR (st := []) (st1 := [.int r_21]) X (c_X11_cell l D cI cZ h_t_needed 128 t_needed v4 _ hk_22) (Or.inl rfl) 2 gX8_fewest_X11_cell_n28 (by decide +kernel) lk_X8_fewest_iX11 lk_X8_fewest_sX11_cell rfl hs_X11_cell ⟨Nat.le_of_ble_eq_true rfl, Nat.le_of_ble_eq_true rfl⟩ rfl rfl (Nat.le_of_ble_eq_true rfl) ⟨rfl, rfl⟩ (Nat.zero_le _) (Nat.zero_le _) dX8_fewest_126 [3] rfl rfl rfl ?_
    exact hR _ _ _ _ dX8_fewest_129 (kV_in (u := (r_21, t_sizes, t_sitting, t_needed)) hf)
  have J46 : ∀ (n : Nat) (t_sizes : (Nat → Int32)) (t_sitting : (Nat → Int32)) (t_needed : (Nat → Int32)) (v2 : Int32) (v4 : Int32) (v5 : Int32), f_X8_fewest_46 p1_width p1_size p1_N p1_cells n t_sizes t_sitting t_needed v2 v4 v5 = some res → G 0 0 (wd_X8_fewest cI cZ h_t h_t_sizes h_t_weights h_t_sitting h_t_needed h_p1 h_p1_cells t_sizes t_sitting t_needed p1_most p1_width p1_size p1_N p1_cells) [(0, .ref h_t), (2, .int v2), (4, .int v4), (5, .int v5)] 46 [] := by
    intro n
    induction n with
    | zero => intro t_sizes t_sitting t_needed v2 v4 v5 hf; rw [f_X8_fewest_46] at hf; cases hf
    | succ n ih =>
      intro t_sizes t_sitting t_needed v2 v4 v5 hf
      rw [f_X8_fewest_46] at hf
      refine g_iload X dX8_fewest_46 3 rfl ?_
      refine g_iload X dX8_fewest_48 2 rfl ?_
      refine g_icmp_gt (tgt := 120) X dX8_fewest_50 (by decide) (fun hc_6 => ?_) (fun hc_6 => ?_)
      · replace hf := ite_t hc_6 hf
        refine g_lv X (lv' := [(0, .ref h_t), (4, .int v4)]) [0, 2] rfl ?_
        exact J120 t_sizes t_sitting t_needed v4 hf
      · replace hf := ite_f hc_6 hf
        refine g_bipush (v := 31) X dX8_fewest_53 (by decide) ?_
        refine g_iload X dX8_fewest_55 3 rfl ?_
        obtain ⟨r_7, hk_8, hf⟩ := ob1_out hf
        refine g_cSR (st := [.int 31]) (st1 := [.int r_7, .int 31]) X (c_J6_numberOfLeadingZeros_0f7a4 l D cI cZ v5 _ hk_8) (Or.inl rfl) 1 gX8_fewest_J6_numberOfLeadingZeros_0f7a4 rfl hs_J6_numberOfLeadingZeros_0f7a4 ⟨Nat.le_of_ble_eq_true rfl, Nat.le_of_ble_eq_true rfl⟩ rfl rfl (Nat.le_of_ble_eq_true rfl) ⟨rfl, rfl⟩ (Nat.zero_le _) (Nat.zero_le _) dX8_fewest_57 [] rfl rfl rfl ?_
        refine g_isub X dX8_fewest_60 ?_
        obtain ⟨v6_9, ev6_9, hf⟩ := bnd_out hf
        refine g_nmI X ev6_9 ?_
        refine g_istore (lv' := [(0, .ref h_t), (2, .int v2), (4, .int v4), (5, .int v5), (6, .int v6_9)]) X dX8_fewest_61 (Nat.le_of_ble_eq_true rfl) [1, 2, 3, 4, 0] rfl ?_
        refine g_aload_n X dX8_fewest_63 rfl 0 rfl ?_
        refine g_get (C := RX8) (T := TX8) (N := 4) (ci := 4) (v := (.ref h_t_sitting)) X iw_X8_fewest_X8 0 rfl rfl 2 (by decide) lk_X8_fewest_18 rfl dX8_fewest_64 ?_
        refine g_iload X dX8_fewest_67 3 rfl ?_
        refine g_aload_n X dX8_fewest_69 rfl 0 rfl ?_
        refine g_get (C := RX8) (T := TX8) (N := 4) (ci := 4) (v := (.ref h_t_sitting)) X iw_X8_fewest_X8 0 rfl rfl 2 (by decide) lk_X8_fewest_18 rfl dX8_fewest_70 ?_
        refine g_iload X dX8_fewest_73 3 rfl ?_
        refine g_iconst (v := 1) X dX8_fewest_75 (by decide) ?_
        refine g_iload X dX8_fewest_76 4 rfl ?_
        refine g_ishl X dX8_fewest_78 ?_
        refine g_iconst (v := (-1)) X dX8_fewest_79 (by decide) ?_
        refine g_ixor X dX8_fewest_80 ?_
        refine g_iand X dX8_fewest_81 ?_
        obtain ⟨r_10, hk_11, hf⟩ := ob1_out hf
        refine g_cNR (st := [.int v5, .ref h_t_sitting]) (st1 := [.int r_10, .int v5, .ref h_t_sitting]) X (c_X11_cell l D cI cZ h_t_sitting 128 t_sitting (v5 &&& ((1 <<< (v6_9 &&& 31)) ^^^ (-1))) _ hk_11) (Or.inl rfl) 2 gX8_fewest_X11_cell_n28 (by decide +kernel) lk_X8_fewest_iX11 lk_X8_fewest_sX11_cell rfl hs_X11_cell ⟨Nat.le_of_ble_eq_true rfl, Nat.le_of_ble_eq_true rfl⟩ rfl rfl (Nat.le_of_ble_eq_true rfl) ⟨rfl, rfl⟩ (Nat.zero_le _) (Nat.zero_le _) dX8_fewest_82 [2] rfl rfl rfl ?_
        refine g_aload_n X dX8_fewest_85 rfl 0 rfl ?_
        refine g_get (C := RX8) (T := TX8) (N := 4) (ci := 4) (v := (.ref h_t_sizes)) X iw_X8_fewest_X8 0 rfl rfl 0 (by decide) lk_X8_fewest_9 rfl dX8_fewest_86 ?_
        refine g_iload X dX8_fewest_89 4 rfl ?_
        obtain ⟨r_12, hk_13, hf⟩ := ob1_out hf
        refine g_cNR (st := [.int r_10, .int v5, .ref h_t_sitting]) (st1 := [.int r_12, .int r_10, .int v5, .ref h_t_sitting]) X (c_X11_cell l D cI cZ h_t_sizes 7 t_sizes v6_9 _ hk_13) (Or.inl rfl) 2 gX8_fewest_X11_cell_n28 (by decide +kernel) lk_X8_fewest_iX11 lk_X8_fewest_sX11_cell rfl hs_X11_cell ⟨Nat.le_of_ble_eq_true rfl, Nat.le_of_ble_eq_true rfl⟩ rfl rfl (Nat.le_of_ble_eq_true rfl) ⟨rfl, rfl⟩ (Nat.zero_le _) (Nat.zero_le _) dX8_fewest_91 [1] rfl rfl rfl ?_
        refine g_iadd X dX8_fewest_94 ?_
        obtain ⟨t_sitting_14, hk_15, hf⟩ := ob1_out hf
        refine g_cNW (st := []) (st1 := []) (ws' := (wd_X8_fewest cI cZ h_t h_t_sizes h_t_weights h_t_sitting h_t_needed h_p1 h_p1_cells t_sizes t_sitting_14 t_needed p1_most p1_width p1_size p1_N p1_cells)) X (c_X11_setCell l D cI cZ h_t_sitting 128 t_sitting v5 (r_10 + r_12) _ hk_15) (Or.inl rfl) 3 gX8_fewest_X11_setCell_n38 (by decide +kernel) lk_X8_fewest_iX11 lk_X8_fewest_sX11_setCell rfl hs_X11_setCell ⟨Nat.le_of_ble_eq_true rfl, Nat.le_of_ble_eq_true rfl⟩ rfl rfl (Nat.le_of_ble_eq_true rfl) ⟨rfl, rfl⟩ (Nat.zero_le _) (Nat.zero_le _) dX8_fewest_95 [2] rfl rfl [0, 1, 3, 4, 5] rfl rfl (by decide) [0, 1, 5, 2, 3, 4] rfl rfl rfl ?_
        refine g_aload_n X dX8_fewest_98 rfl 0 rfl ?_
        refine g_get (C := RX8) (T := TX8) (N := 4) (ci := 4) (v := (.ref h_t_needed)) X iw_X8_fewest_X8 0 rfl rfl 3 (by decide) lk_X8_fewest_21 rfl dX8_fewest_99 ?_
        refine g_iload X dX8_fewest_102 3 rfl ?_
        refine g_aload_n X dX8_fewest_104 rfl 0 rfl ?_
        refine g_iload X dX8_fewest_105 3 rfl ?_
        refine g_iload_n X dX8_fewest_107 rfl 1 rfl ?_
        obtain ⟨r_16, hk_17, hf⟩ := ob1_out hf
        refine g_cVR (st := [.int v5, .ref h_t_needed]) (st1 := [.int r_16, .int v5, .ref h_t_needed]) (C := RX8) (ci := 4) (q0 := 0) X (c_X8_tablesFor l D cI cZ h_t h_t_sizes h_t_weights h_t_sitting h_t_needed t_sitting_14 t_needed v5 v2 _ hk_17) (Or.inl rfl) 2 gX8_fewest_X8_tablesFor rfl hv_X8_tablesFor ⟨Nat.le_of_ble_eq_true rfl, Nat.le_of_ble_eq_true rfl⟩ rfl rfl (Nat.le_of_ble_eq_true rfl) ⟨rfl, rfl⟩ (Nat.zero_le _) (Nat.zero_le _) rfl rfl rfl dX8_fewest_108 [0, 2, 3] rfl rfl rfl ?_
        obtain ⟨t_needed_18, hk_19, hf⟩ := ob1_out hf
        refine g_cNW (st := []) (st1 := []) (ws' := (wd_X8_fewest cI cZ h_t h_t_sizes h_t_weights h_t_sitting h_t_needed h_p1 h_p1_cells t_sizes t_sitting_14 t_needed_18 p1_most p1_width p1_size p1_N p1_cells)) X (c_X11_setCell l D cI cZ h_t_needed 128 t_needed v5 r_16 _ hk_19) (Or.inl rfl) 3 gX8_fewest_X11_setCell_n38 (by decide +kernel) lk_X8_fewest_iX11 lk_X8_fewest_sX11_setCell rfl hs_X11_setCell ⟨Nat.le_of_ble_eq_true rfl, Nat.le_of_ble_eq_true rfl⟩ rfl rfl (Nat.le_of_ble_eq_true rfl) ⟨rfl, rfl⟩ (Nat.zero_le _) (Nat.zero_le _) dX8_fewest_111 [3] rfl rfl [0, 1, 2, 4, 5] rfl rfl (by decide) [0, 1, 2, 5, 3, 4] rfl rfl rfl ?_
        obtain ⟨v5_20, ev5_20, hf⟩ := bnd_out hf
        refine g_iinc (v := v5_20) (lv' := [(0, .ref h_t), (2, .int v2), (4, .int v4), (5, .int v5_20), (6, .int v6_9)]) X dX8_fewest_114 3 rfl (by rw [ev5_20]; rfl) (Nat.le_of_ble_eq_true rfl) [1, 2, 3, 0, 4] rfl ?_
        refine g_goto (tgt := 46) X dX8_fewest_117 (by decide) ?_
        refine g_lv X (lv' := [(0, .ref h_t), (2, .int v2), (4, .int v4), (5, .int v5_20)]) [0, 1, 2, 3] rfl ?_
        exact ih t_sizes t_sitting_14 t_needed_18 v2 v4 v5_20 hf
  have J43 : ∀ (t_sizes : (Nat → Int32)) (t_sitting : (Nat → Int32)) (t_needed : (Nat → Int32)) (v2 : Int32) (v4 : Int32), f_X8_fewest_43 p1_width p1_size p1_N p1_cells t_sizes t_sitting t_needed v2 v4 = some res → G 0 0 (wd_X8_fewest cI cZ h_t h_t_sizes h_t_weights h_t_sitting h_t_needed h_p1 h_p1_cells t_sizes t_sitting t_needed p1_most p1_width p1_size p1_N p1_cells) [(0, .ref h_t), (2, .int v2), (4, .int v4)] 43 [] := by
    intro t_sizes t_sitting t_needed v2 v4 hf
    unfold f_X8_fewest_43 at hf
    refine g_iconst (v := 1) X dX8_fewest_43 (by decide) ?_
    refine g_istore (lv' := [(0, .ref h_t), (2, .int v2), (4, .int v4), (5, .int 1)]) X dX8_fewest_44 (Nat.le_of_ble_eq_true rfl) [1, 2, 3, 0] rfl ?_
    exact J46 FU t_sizes t_sitting t_needed v2 v4 1 hf
  have J16 : ∀ (n : Nat) (t_sizes : (Nat → Int32)) (t_sitting : (Nat → Int32)) (t_needed : (Nat → Int32)) (v2 : Int32) (v3 : Int32) (v4 : Int32) (v5 : Int32), f_X8_fewest_16 p1_width p1_size p1_N p1_cells n t_sizes t_sitting t_needed v2 v3 v4 v5 = some res → G 0 0 (wd_X8_fewest cI cZ h_t h_t_sizes h_t_weights h_t_sitting h_t_needed h_p1 h_p1_cells t_sizes t_sitting t_needed p1_most p1_width p1_size p1_N p1_cells) [(0, .ref h_t), (2, .int v2), (3, .int v3), (4, .int v4), (5, .int v5)] 16 [] := by
    intro n
    induction n with
    | zero => intro t_sizes t_sitting t_needed v2 v3 v4 v5 hf; rw [f_X8_fewest_16] at hf; cases hf
    | succ n ih =>
      intro t_sizes t_sitting t_needed v2 v3 v4 v5 hf
      rw [f_X8_fewest_16] at hf
      refine g_iload X dX8_fewest_16 4 rfl ?_
      refine g_iload_n X dX8_fewest_18 rfl 2 rfl ?_
      refine g_icmp_ge (tgt := 43) X dX8_fewest_19 (by decide) (fun hc_1 => ?_) (fun hc_1 => ?_)
      · replace hf := ite_t hc_1 hf
        refine g_lv X (lv' := [(0, .ref h_t), (2, .int v2), (4, .int v4)]) [0, 1, 3] rfl ?_
        exact J43 t_sizes t_sitting t_needed v2 v4 hf
      · replace hf := ite_f hc_1 hf
        refine g_aload_n X dX8_fewest_22 rfl 0 rfl ?_
        refine g_get (C := RX8) (T := TX8) (N := 4) (ci := 4) (v := (.ref h_t_sizes)) X iw_X8_fewest_X8 0 rfl rfl 0 (by decide) lk_X8_fewest_9 rfl dX8_fewest_23 ?_
        refine g_iload X dX8_fewest_26 4 rfl ?_
        obtain ⟨r_2, hk_3, hf⟩ := ob1_out hf
        refine g_cNR (st := []) (st1 := [.int r_2]) X (c_X11_cell l D cI cZ h_t_sizes 7 t_sizes v5 _ hk_3) (Or.inl rfl) 2 gX8_fewest_X11_cell_n28 (by decide +kernel) lk_X8_fewest_iX11 lk_X8_fewest_sX11_cell rfl hs_X11_cell ⟨Nat.le_of_ble_eq_true rfl, Nat.le_of_ble_eq_true rfl⟩ rfl rfl (Nat.le_of_ble_eq_true rfl) ⟨rfl, rfl⟩ (Nat.zero_le _) (Nat.zero_le _) dX8_fewest_28 [1] rfl rfl rfl ?_
        refine g_iload_n X dX8_fewest_31 rfl 1 rfl ?_
        refine g_icmp_le (tgt := 37) X dX8_fewest_32 (by decide) (fun hc_4 => ?_) (fun hc_4 => ?_)
        · replace hf := ite_t hc_4 hf
          obtain ⟨v5_5, ev5_5, hf⟩ := bnd_out hf
          refine g_iinc (v := v5_5) (lv' := [(0, .ref h_t), (2, .int v2), (3, .int v3), (4, .int v4), (5, .int v5_5)]) X dX8_fewest_37 4 rfl (by rw [ev5_5]; rfl) (Nat.le_of_ble_eq_true rfl) [1, 2, 3, 4, 0] rfl ?_
          refine g_goto (tgt := 16) X dX8_fewest_40 (by decide) ?_
          exact ih t_sizes t_sitting t_needed v2 v3 v4 v5_5 hf
        · replace hf := ite_f hc_4 hf
          refine g_iconst (v := (-1)) X dX8_fewest_35 (by decide) ?_
          exact hR _ _ _ _ dX8_fewest_36 (kV_in (u := ((-1), t_sizes, t_sitting, t_needed)) hf)
  refine g_aload_n X dX8_fewest_0 rfl 0 rfl ?_
  refine g_aload_n X dX8_fewest_1 rfl 1 rfl ?_
  obtain ⟨r_23, t_sizes_24, hk_25, hf⟩ := ob2_out hf
  refine g_cVW (st := []) (st1 := [.int r_23]) (C := RX8) (ci := 4) (q0 := 0) (ws' := (wd_X8_fewest cI cZ h_t h_t_sizes h_t_weights h_t_sitting h_t_needed h_p1 h_p1_cells t_sizes_24 t_sitting t_needed p1_most p1_width p1_size p1_N p1_cells)) X (c_X8_countParties l D cI cZ h_t h_t_sizes h_t_weights h_t_sitting h_t_needed h_p1 h_p1_cells t_sizes p1_most p1_width p1_size p1_N p1_cells _ hk_25) (Or.inl rfl) 1 gX8_fewest_X8_countParties rfl hv_X8_countParties ⟨Nat.le_of_ble_eq_true rfl, Nat.le_of_ble_eq_true rfl⟩ rfl rfl (Nat.le_of_ble_eq_true rfl) ⟨rfl, rfl⟩ (Nat.zero_le _) (Nat.zero_le _) rfl rfl rfl dX8_fewest_2 [0, 1, 4, 5] rfl rfl [2, 3] rfl rfl (by decide) [2, 3, 0, 1, 4, 5] rfl rfl rfl ?_
  refine g_istore_n (lv' := [(0, .ref h_t), (1, .ref h_p1), (2, .int v2), (3, .int r_23)]) X dX8_fewest_5 rfl (Nat.le_of_ble_eq_true rfl) [1, 2, 3, 0] rfl ?_
  refine g_iconst (v := 1) X dX8_fewest_6 (by decide) ?_
  refine g_iload_n X dX8_fewest_7 rfl 3 rfl ?_
  refine g_ishl X dX8_fewest_8 ?_
  refine g_iconst (v := 1) X dX8_fewest_9 (by decide) ?_
  refine g_isub X dX8_fewest_10 ?_
  obtain ⟨v4_26, ev4_26, hf⟩ := bnd_out hf
  refine g_nmI X ev4_26 ?_
  refine g_istore (lv' := [(0, .ref h_t), (1, .ref h_p1), (2, .int v2), (3, .int r_23), (4, .int v4_26)]) X dX8_fewest_11 (Nat.le_of_ble_eq_true rfl) [1, 2, 3, 4, 0] rfl ?_
  refine g_iconst (v := 0) X dX8_fewest_13 (by decide) ?_
  refine g_istore (lv' := [(0, .ref h_t), (1, .ref h_p1), (2, .int v2), (3, .int r_23), (4, .int v4_26), (5, .int 0)]) X dX8_fewest_14 (Nat.le_of_ble_eq_true rfl) [1, 2, 3, 4, 5, 0] rfl ?_
  refine g_lv X (lv' := [(0, .ref h_t), (2, .int v2), (3, .int r_23), (4, .int v4_26), (5, .int 0)]) [0, 2, 3, 4, 5] rfl ?_
  exact J16 FU t_sizes_24 t_sitting t_needed v2 r_23 v4_26 0 hf
def wd_X8_isLight (cI cZ : ClassId) (h_t : Nat) (h_t_sizes : Nat) (h_t_weights : Nat) (h_t_sitting : Nat) (h_t_needed : Nat) (h_p1 : Nat) (h_p1_cells : Nat) (t_weights : (Nat → Int32)) (p1_most : Int32) (p1_width : Int32) (p1_size : Int32) (p1_N : Nat) (p1_cells : (Nat → Int32)) : va_W := [(h_t, .inr (4, [.ref h_t_sizes, .ref h_t_weights, .ref h_t_sitting, .ref h_t_needed])), (h_t_weights, .inl (cI, 7, .inl t_weights)), (h_p1, .inr (3, [.int p1_most, .int p1_width, .ref h_p1_cells, .int p1_size])), (h_p1_cells, .inl (cI, p1_N, .inl p1_cells))]
abbrev rm_X8_isLight : Room := { frames := 2, cells := 0, slots := 0, locals := 49 }
theorem hv_X8_isLight : yX8_isLight.cls = RX8 ∧ yX8_isLight.cls ≠ "java/lang/invoke/MethodHandle" ∧ yX8_isLight.cls ≠ "java/lang/invoke/VarHandle" ∧ (parseMethodDescriptor yX8_isLight.desc).map (fun d => d.parameters.length) = some 3 := by decide +kernel
theorem iw_X8_isLight_X8 : ∀ w ∈ u_ws RX8 TX8 4, w ∈ wsX8_isLight := by decide +kernel
theorem lk_X8_isLight_15 : Cond.fieldLink RX8 15 "ClerkChains$Tables" "weights" "[I" ∈ wsX8_isLight := by decide +kernel
theorem lk_X8_isLight_iX11 : Cond.initialized RX11 ∈ wsX8_isLight := by decide +kernel
theorem lk_X8_isLight_sX11_setCell : Cond.static yX11_setCell ∈ wsX8_isLight := by decide +kernel
theorem lk_X8_isLight_sX11_cell : Cond.static yX11_cell ∈ wsX8_isLight := by decide +kernel
set_option maxHeartbeats 4000000 in
set_option maxRecDepth 100000 in
theorem c_X8_isLight (l : Launch) (D : va_G) (cI cZ : ClassId) (h_t : Nat) (h_t_sizes : Nat) (h_t_weights : Nat) (h_t_sitting : Nat) (h_t_needed : Nat) (h_p1 : Nat) (h_p1_cells : Nat) (t_weights : (Nat → Int32)) (p1_most : Int32) (p1_width : Int32) (p1_size : Int32) (p1_N : Nat) (p1_cells : (Nat → Int32)) (v2 : Int32) (v3 : Int32) (res : Int32 × (Nat → Int32)) (hf : f_X8_isLight t_weights p1_width p1_size p1_N p1_cells v2 v3 = some res) : MetG l yX8_isLight wsX8_isLight rm_X8_isLight D cI cZ none [.ref h_t, .ref h_p1, .int v2, .int v3] (wd_X8_isLight cI cZ h_t h_t_sizes h_t_weights h_t_sitting h_t_needed h_p1 h_p1_cells t_weights p1_most p1_width p1_size p1_N p1_cells) (kV res (fun u => some (.int u.1)) (fun u => (wd_X8_isLight cI cZ h_t h_t_sizes h_t_weights h_t_sitting h_t_needed h_p1 h_p1_cells (u.2) p1_most p1_width p1_size p1_N p1_cells))) := by
  refine metG_of (cc := cX8_isLight) (maxL := 6) (ret := (some .boolean)) (own := RX8) (lv0 := [(0, .ref h_t), (1, .ref h_p1), (2, .int v2), (3, .int v3)]) (ini := false) (by decide) rfl (Nat.le_of_ble_eq_true rfl) rfl rfl (fun h => by cases h) (fun G X hR => ?_)
  replace hR := rt_bool hR
  unfold f_X8_isLight at hf
  have J29 : ∀ (n : Nat) (t_weights : (Nat → Int32)) (v2 : Int32) (v3 : Int32) (v4 : Int32), f_X8_isLight_29 p1_width p1_size p1_N p1_cells n t_weights v2 v3 v4 = some res → G 0 0 (wd_X8_isLight cI cZ h_t h_t_sizes h_t_weights h_t_sitting h_t_needed h_p1 h_p1_cells t_weights p1_most p1_width p1_size p1_N p1_cells) [(0, .ref h_t), (1, .ref h_p1), (2, .int v2), (3, .int v3), (4, .int v4)] 29 [] := by
    intro n
    induction n with
    | zero => intro t_weights v2 v3 v4 hf; rw [f_X8_isLight_29] at hf; cases hf
    | succ n ih =>
      intro t_weights v2 v3 v4 hf
      rw [f_X8_isLight_29] at hf
      refine g_iload X dX8_isLight_29 4 rfl ?_
      refine g_aload_n X dX8_isLight_31 rfl 1 rfl ?_
      obtain ⟨r_5, hk_6, hf⟩ := ob1_out hf
      refine g_cVR (st := [.int v4]) (st1 := [.int r_5, .int v4]) (C := RX7) (ci := 3) (q0 := 2) X (c_X7_size l D cI cZ h_p1 h_p1_cells p1_most p1_width p1_size _ hk_6) (Or.inl rfl) 0 gX8_isLight_X7_size rfl hv_X7_size ⟨Nat.le_of_ble_eq_true rfl, Nat.le_of_ble_eq_true rfl⟩ rfl rfl (Nat.le_of_ble_eq_true rfl) ⟨rfl, rfl⟩ (Nat.zero_le _) (Nat.zero_le _) rfl rfl rfl dX8_isLight_32 [2] rfl rfl rfl ?_
      refine g_icmp_ge (tgt := 94) X dX8_isLight_35 (by decide) (fun hc_7 => ?_) (fun hc_7 => ?_)
      · replace hf := ite_t hc_7 hf
        refine g_iconst (v := 1) X dX8_isLight_94 (by decide) ?_
        exact hR _ _ _ _ (Or.inr rfl) dX8_isLight_95 (kV_in (u := (1, t_weights)) hf)
      · replace hf := ite_f hc_7 hf
        refine g_aload_n X dX8_isLight_38 rfl 1 rfl ?_
        refine g_iload X dX8_isLight_39 4 rfl ?_
        refine g_iload_n X dX8_isLight_41 rfl 2 rfl ?_
        obtain ⟨r_8, hk_9, hf⟩ := ob1_out hf
        refine g_cSR (st := []) (st1 := [.int r_8]) X (c_X0_top l D cI cZ h_p1 h_p1_cells p1_most p1_width p1_size p1_N p1_cells v4 v2 _ hk_9) (Or.inl rfl) 3 gX8_isLight_X0_top rfl hs_X0_top ⟨Nat.le_of_ble_eq_true rfl, Nat.le_of_ble_eq_true rfl⟩ rfl rfl (Nat.le_of_ble_eq_true rfl) ⟨rfl, rfl⟩ (Nat.zero_le _) (Nat.zero_le _) dX8_isLight_42 [2, 3] rfl rfl rfl ?_
        refine g_istore (lv' := [(0, .ref h_t), (1, .ref h_p1), (2, .int v2), (3, .int v3), (4, .int v4), (5, .int r_8)]) X dX8_isLight_45 (Nat.le_of_ble_eq_true rfl) [1, 2, 3, 4, 5, 0] rfl ?_
        refine g_aload_n X dX8_isLight_47 rfl 0 rfl ?_
        refine g_get (C := RX8) (T := TX8) (N := 4) (ci := 4) (v := (.ref h_t_weights)) X iw_X8_isLight_X8 0 rfl rfl 1 (by decide) lk_X8_isLight_15 rfl dX8_isLight_48 ?_
        refine g_iload X dX8_isLight_51 5 rfl ?_
        refine g_aload_n X dX8_isLight_53 rfl 0 rfl ?_
        refine g_get (C := RX8) (T := TX8) (N := 4) (ci := 4) (v := (.ref h_t_weights)) X iw_X8_isLight_X8 0 rfl rfl 1 (by decide) lk_X8_isLight_15 rfl dX8_isLight_54 ?_
        refine g_iload X dX8_isLight_57 5 rfl ?_
        obtain ⟨r_10, hk_11, hf⟩ := ob1_out hf
        refine g_cNR (st := [.int r_8, .ref h_t_weights]) (st1 := [.int r_10, .int r_8, .ref h_t_weights]) X (c_X11_cell l D cI cZ h_t_weights 7 t_weights r_8 _ hk_11) (Or.inl rfl) 2 gX8_isLight_X11_cell_n28 (by decide +kernel) lk_X8_isLight_iX11 lk_X8_isLight_sX11_cell rfl hs_X11_cell ⟨Nat.le_of_ble_eq_true rfl, Nat.le_of_ble_eq_true rfl⟩ rfl rfl (Nat.le_of_ble_eq_true rfl) ⟨rfl, rfl⟩ (Nat.zero_le _) (Nat.zero_le _) dX8_isLight_59 [1] rfl rfl rfl ?_
        refine g_aload_n X dX8_isLight_62 rfl 1 rfl ?_
        refine g_iload X dX8_isLight_63 4 rfl ?_
        refine g_iconst (v := 2) X dX8_isLight_65 (by decide) ?_
        obtain ⟨r_12, hk_13, hf⟩ := ob1_out hf
        refine g_cVR (st := [.int r_10, .int r_8, .ref h_t_weights]) (st1 := [.int r_12, .int r_10, .int r_8, .ref h_t_weights]) (C := RX7) (ci := 3) (q0 := 2) X (c_X7_get l D cI cZ h_p1 h_p1_cells p1_most p1_width p1_size p1_N p1_cells v4 2 _ hk_13) (Or.inl rfl) 2 gX8_isLight_X7_get rfl hv_X7_get ⟨Nat.le_of_ble_eq_true rfl, Nat.le_of_ble_eq_true rfl⟩ rfl rfl (Nat.le_of_ble_eq_true rfl) ⟨rfl, rfl⟩ (Nat.zero_le _) (Nat.zero_le _) rfl rfl rfl dX8_isLight_66 [2, 3] rfl rfl rfl ?_
        refine g_iadd X dX8_isLight_69 ?_
        obtain ⟨t_weights_14, hk_15, hf⟩ := ob1_out hf
        refine g_cNW (st := []) (st1 := []) (ws' := (wd_X8_isLight cI cZ h_t h_t_sizes h_t_weights h_t_sitting h_t_needed h_p1 h_p1_cells t_weights_14 p1_most p1_width p1_size p1_N p1_cells)) X (c_X11_setCell l D cI cZ h_t_weights 7 t_weights r_8 (r_10 + r_12) _ hk_15) (Or.inl rfl) 3 gX8_isLight_X11_setCell_n38 (by decide +kernel) lk_X8_isLight_iX11 lk_X8_isLight_sX11_setCell rfl hs_X11_setCell ⟨Nat.le_of_ble_eq_true rfl, Nat.le_of_ble_eq_true rfl⟩ rfl rfl (Nat.le_of_ble_eq_true rfl) ⟨rfl, rfl⟩ (Nat.zero_le _) (Nat.zero_le _) dX8_isLight_70 [1] rfl rfl [0, 2, 3] rfl rfl (by decide) [0, 3, 1, 2] rfl rfl rfl ?_
        refine g_aload_n X dX8_isLight_73 rfl 0 rfl ?_
        refine g_get (C := RX8) (T := TX8) (N := 4) (ci := 4) (v := (.ref h_t_weights)) X iw_X8_isLight_X8 0 rfl rfl 1 (by decide) lk_X8_isLight_15 rfl dX8_isLight_74 ?_
        refine g_iload X dX8_isLight_77 5 rfl ?_
        obtain ⟨r_16, hk_17, hf⟩ := ob1_out hf
        refine g_cNR (st := []) (st1 := [.int r_16]) X (c_X11_cell l D cI cZ h_t_weights 7 t_weights_14 r_8 _ hk_17) (Or.inl rfl) 2 gX8_isLight_X11_cell_n28 (by decide +kernel) lk_X8_isLight_iX11 lk_X8_isLight_sX11_cell rfl hs_X11_cell ⟨Nat.le_of_ble_eq_true rfl, Nat.le_of_ble_eq_true rfl⟩ rfl rfl (Nat.le_of_ble_eq_true rfl) ⟨rfl, rfl⟩ (Nat.zero_le _) (Nat.zero_le _) dX8_isLight_79 [1] rfl rfl rfl ?_
        refine g_iload_n X dX8_isLight_82 rfl 3 rfl ?_
        refine g_icmp_le (tgt := 88) X dX8_isLight_83 (by decide) (fun hc_18 => ?_) (fun hc_18 => ?_)
        · replace hf := ite_t hc_18 hf
          obtain ⟨v4_19, ev4_19, hf⟩ := bnd_out hf
          refine g_iinc (v := v4_19) (lv' := [(0, .ref h_t), (1, .ref h_p1), (2, .int v2), (3, .int v3), (4, .int v4_19), (5, .int r_8)]) X dX8_isLight_88 4 rfl (by rw [ev4_19]; rfl) (Nat.le_of_ble_eq_true rfl) [1, 2, 3, 4, 0, 5] rfl ?_
          refine g_goto (tgt := 29) X dX8_isLight_91 (by decide) ?_
          refine g_lv X (lv' := [(0, .ref h_t), (1, .ref h_p1), (2, .int v2), (3, .int v3), (4, .int v4_19)]) [0, 1, 2, 3, 4] rfl ?_
          exact ih t_weights_14 v2 v3 v4_19 hf
        · replace hf := ite_f hc_18 hf
          refine g_iconst (v := 0) X dX8_isLight_86 (by decide) ?_
          exact hR _ _ _ _ (Or.inl rfl) dX8_isLight_87 (kV_in (u := (0, t_weights_14)) hf)
  have J26 : ∀ (t_weights : (Nat → Int32)) (v2 : Int32) (v3 : Int32), f_X8_isLight_26 p1_width p1_size p1_N p1_cells t_weights v2 v3 = some res → G 0 0 (wd_X8_isLight cI cZ h_t h_t_sizes h_t_weights h_t_sitting h_t_needed h_p1 h_p1_cells t_weights p1_most p1_width p1_size p1_N p1_cells) [(0, .ref h_t), (1, .ref h_p1), (2, .int v2), (3, .int v3)] 26 [] := by
    intro t_weights v2 v3 hf
    unfold f_X8_isLight_26 at hf
    refine g_iconst (v := 0) X dX8_isLight_26 (by decide) ?_
    refine g_istore (lv' := [(0, .ref h_t), (1, .ref h_p1), (2, .int v2), (3, .int v3), (4, .int 0)]) X dX8_isLight_27 (Nat.le_of_ble_eq_true rfl) [1, 2, 3, 4, 0] rfl ?_
    exact J29 FU t_weights v2 v3 0 hf
  have J3 : ∀ (n : Nat) (t_weights : (Nat → Int32)) (v2 : Int32) (v3 : Int32) (v4 : Int32), f_X8_isLight_3 p1_width p1_size p1_N p1_cells n t_weights v2 v3 v4 = some res → G 0 0 (wd_X8_isLight cI cZ h_t h_t_sizes h_t_weights h_t_sitting h_t_needed h_p1 h_p1_cells t_weights p1_most p1_width p1_size p1_N p1_cells) [(0, .ref h_t), (1, .ref h_p1), (2, .int v2), (3, .int v3), (4, .int v4)] 3 [] := by
    intro n
    induction n with
    | zero => intro t_weights v2 v3 v4 hf; rw [f_X8_isLight_3] at hf; cases hf
    | succ n ih =>
      intro t_weights v2 v3 v4 hf
      rw [f_X8_isLight_3] at hf
      refine g_iload X dX8_isLight_3 4 rfl ?_
      refine g_bipush (v := 7) X dX8_isLight_5 (by decide) ?_
      refine g_icmp_ge (tgt := 26) X dX8_isLight_7 (by decide) (fun hc_1 => ?_) (fun hc_1 => ?_)
      · replace hf := ite_t hc_1 hf
        refine g_lv X (lv' := [(0, .ref h_t), (1, .ref h_p1), (2, .int v2), (3, .int v3)]) [0, 1, 2, 3] rfl ?_
        exact J26 t_weights v2 v3 hf
      · replace hf := ite_f hc_1 hf
        refine g_aload_n X dX8_isLight_10 rfl 0 rfl ?_
        refine g_get (C := RX8) (T := TX8) (N := 4) (ci := 4) (v := (.ref h_t_weights)) X iw_X8_isLight_X8 0 rfl rfl 1 (by decide) lk_X8_isLight_15 rfl dX8_isLight_11 ?_
        refine g_iload X dX8_isLight_14 4 rfl ?_
        refine g_iconst (v := 0) X dX8_isLight_16 (by decide) ?_
        obtain ⟨t_weights_2, hk_3, hf⟩ := ob1_out hf
        refine g_cNW (st := []) (st1 := []) (ws' := (wd_X8_isLight cI cZ h_t h_t_sizes h_t_weights h_t_sitting h_t_needed h_p1 h_p1_cells t_weights_2 p1_most p1_width p1_size p1_N p1_cells)) X (c_X11_setCell l D cI cZ h_t_weights 7 t_weights v4 0 _ hk_3) (Or.inl rfl) 3 gX8_isLight_X11_setCell_n38 (by decide +kernel) lk_X8_isLight_iX11 lk_X8_isLight_sX11_setCell rfl hs_X11_setCell ⟨Nat.le_of_ble_eq_true rfl, Nat.le_of_ble_eq_true rfl⟩ rfl rfl (Nat.le_of_ble_eq_true rfl) ⟨rfl, rfl⟩ (Nat.zero_le _) (Nat.zero_le _) dX8_isLight_17 [1] rfl rfl [0, 2, 3] rfl rfl (by decide) [0, 3, 1, 2] rfl rfl rfl ?_
        obtain ⟨v4_4, ev4_4, hf⟩ := bnd_out hf
        refine g_iinc (v := v4_4) (lv' := [(0, .ref h_t), (1, .ref h_p1), (2, .int v2), (3, .int v3), (4, .int v4_4)]) X dX8_isLight_20 4 rfl (by rw [ev4_4]; rfl) (Nat.le_of_ble_eq_true rfl) [1, 2, 3, 4, 0] rfl ?_
        refine g_goto (tgt := 3) X dX8_isLight_23 (by decide) ?_
        exact ih t_weights_2 v2 v3 v4_4 hf
  refine g_iconst (v := 0) X dX8_isLight_0 (by decide) ?_
  refine g_istore (lv' := [(0, .ref h_t), (1, .ref h_p1), (2, .int v2), (3, .int v3), (4, .int 0)]) X dX8_isLight_1 (Nat.le_of_ble_eq_true rfl) [1, 2, 3, 4, 0] rfl ?_
  exact J3 FU t_weights v2 v3 0 hf
def wd_X8_fewestUnbent (cI cZ : ClassId) (h_t : Nat) (h_t_sizes : Nat) (h_t_weights : Nat) (h_t_sitting : Nat) (h_t_needed : Nat) (h_p1 : Nat) (h_p1_cells : Nat) (t_weights : (Nat → Int32)) (p1_most : Int32) (p1_width : Int32) (p1_size : Int32) (p1_N : Nat) (p1_cells : (Nat → Int32)) : va_W := [(h_t, .inr (4, [.ref h_t_sizes, .ref h_t_weights, .ref h_t_sitting, .ref h_t_needed])), (h_t_weights, .inl (cI, 7, .inl t_weights)), (h_p1, .inr (3, [.int p1_most, .int p1_width, .ref h_p1_cells, .int p1_size])), (h_p1_cells, .inl (cI, p1_N, .inl p1_cells))]
abbrev rm_X8_fewestUnbent : Room := { frames := 3, cells := 0, slots := 0, locals := 74 }
theorem hv_X8_fewestUnbent : yX8_fewestUnbent.cls = RX8 ∧ yX8_fewestUnbent.cls ≠ "java/lang/invoke/MethodHandle" ∧ yX8_fewestUnbent.cls ≠ "java/lang/invoke/VarHandle" ∧ (parseMethodDescriptor yX8_fewestUnbent.desc).map (fun d => d.parameters.length) = some 2 := by decide +kernel
set_option maxHeartbeats 4000000 in
set_option maxRecDepth 100000 in
theorem c_X8_fewestUnbent (l : Launch) (D : va_G) (cI cZ : ClassId) (h_t : Nat) (h_t_sizes : Nat) (h_t_weights : Nat) (h_t_sitting : Nat) (h_t_needed : Nat) (h_p1 : Nat) (h_p1_cells : Nat) (t_weights : (Nat → Int32)) (p1_most : Int32) (p1_width : Int32) (p1_size : Int32) (p1_N : Nat) (p1_cells : (Nat → Int32)) (v2 : Int32) (res : Int32 × (Nat → Int32)) (hf : f_X8_fewestUnbent t_weights p1_width p1_size p1_N p1_cells v2 = some res) : MetG l yX8_fewestUnbent wsX8_fewestUnbent rm_X8_fewestUnbent D cI cZ none [.ref h_t, .ref h_p1, .int v2] (wd_X8_fewestUnbent cI cZ h_t h_t_sizes h_t_weights h_t_sitting h_t_needed h_p1 h_p1_cells t_weights p1_most p1_width p1_size p1_N p1_cells) (kV res (fun u => some (.int u.1)) (fun u => (wd_X8_fewestUnbent cI cZ h_t h_t_sizes h_t_weights h_t_sitting h_t_needed h_p1 h_p1_cells (u.2) p1_most p1_width p1_size p1_N p1_cells))) := by
  refine metG_of (cc := cX8_fewestUnbent) (maxL := 8) (ret := (some .int)) (own := RX8) (lv0 := [(0, .ref h_t), (1, .ref h_p1), (2, .int v2)]) (ini := false) (by decide) rfl (Nat.le_of_ble_eq_true rfl) rfl rfl (fun h => by cases h) (fun G X hR => ?_)
  replace hR := rt_int hR
  unfold f_X8_fewestUnbent at hf
  have J42 : ∀ (k12 : (Nat → Int32) → Int32 → Int32 → Int32 → Int32 → Int32 → Option (Int32 × (Nat → Int32))) (hk12 : ∀ (t_weights : (Nat → Int32)) (v2 : Int32) (v3 : Int32) (v4 : Int32) (v5 : Int32) (v6 : Int32), k12 t_weights v2 v3 v4 v5 v6 = some res → G 0 0 (wd_X8_fewestUnbent cI cZ h_t h_t_sizes h_t_weights h_t_sitting h_t_needed h_p1 h_p1_cells t_weights p1_most p1_width p1_size p1_N p1_cells) [(0, .ref h_t), (1, .ref h_p1), (2, .int v2), (3, .int v3), (4, .int v4), (5, .int v5), (6, .int v6)] 12 []) (t_weights : (Nat → Int32)) (v2 : Int32) (v3 : Int32) (v4 : Int32) (v6 : Int32) (s0 : Int32) (s1 : Int32), f_X8_fewestUnbent_42 p1_width p1_size p1_N p1_cells k12 t_weights v2 v3 v4 v6 s0 s1 = some res → G 0 0 (wd_X8_fewestUnbent cI cZ h_t h_t_sizes h_t_weights h_t_sitting h_t_needed h_p1 h_p1_cells t_weights p1_most p1_width p1_size p1_N p1_cells) [(0, .ref h_t), (1, .ref h_p1), (2, .int v2), (3, .int v3), (4, .int v4), (6, .int v6)] 42 [.int s1, .int s0] := by
    intro k12 hk12 t_weights v2 v3 v4 v6 s0 s1 hf
    unfold f_X8_fewestUnbent_42 at hf
    refine g_ior X dX8_fewestUnbent_42 ?_
    obtain ⟨v5_7, ev5_7, hf⟩ := bnd_out hf
    refine g_nmI X ev5_7 ?_
    refine g_istore (lv' := [(0, .ref h_t), (1, .ref h_p1), (2, .int v2), (3, .int v3), (4, .int v4), (5, .int v5_7), (6, .int v6)]) X dX8_fewestUnbent_43 (Nat.le_of_ble_eq_true rfl) [1, 2, 3, 4, 5, 0, 6] rfl ?_
    obtain ⟨v6_8, ev6_8, hf⟩ := bnd_out hf
    refine g_iinc (v := v6_8) (lv' := [(0, .ref h_t), (1, .ref h_p1), (2, .int v2), (3, .int v3), (4, .int v4), (5, .int v5_7), (6, .int v6_8)]) X dX8_fewestUnbent_45 6 rfl (by rw [ev6_8]; rfl) (Nat.le_of_ble_eq_true rfl) [1, 2, 3, 4, 5, 6, 0] rfl ?_
    refine g_goto (tgt := 12) X dX8_fewestUnbent_48 (by decide) ?_
    exact hk12 t_weights v2 v3 v4 v5_7 v6_8 hf
  have J114 : ∀ (k54 : (Nat → Int32) → Int32 → Int32 → Int32 → Int32 → Int32 → Option (Int32 × (Nat → Int32))) (hk54 : ∀ (t_weights : (Nat → Int32)) (v2 : Int32) (v3 : Int32) (v4 : Int32) (v5 : Int32) (v6 : Int32), k54 t_weights v2 v3 v4 v5 v6 = some res → G 0 0 (wd_X8_fewestUnbent cI cZ h_t h_t_sizes h_t_weights h_t_sitting h_t_needed h_p1 h_p1_cells t_weights p1_most p1_width p1_size p1_N p1_cells) [(0, .ref h_t), (1, .ref h_p1), (2, .int v2), (3, .int v3), (4, .int v4), (5, .int v5), (6, .int v6)] 54 []) (t_weights : (Nat → Int32)) (v2 : Int32) (v3 : Int32) (v4 : Int32) (v5 : Int32) (v6 : Int32), f_X8_fewestUnbent_114 p1_width p1_size p1_N p1_cells k54 t_weights v2 v3 v4 v5 v6 = some res → G 0 0 (wd_X8_fewestUnbent cI cZ h_t h_t_sizes h_t_weights h_t_sitting h_t_needed h_p1 h_p1_cells t_weights p1_most p1_width p1_size p1_N p1_cells) [(0, .ref h_t), (1, .ref h_p1), (2, .int v2), (3, .int v3), (4, .int v4), (5, .int v5), (6, .int v6)] 114 [] := by
    intro k54 hk54 t_weights v2 v3 v4 v5 v6 hf
    unfold f_X8_fewestUnbent_114 at hf
    obtain ⟨v6_21, ev6_21, hf⟩ := bnd_out hf
    refine g_iinc (v := v6_21) (lv' := [(0, .ref h_t), (1, .ref h_p1), (2, .int v2), (3, .int v3), (4, .int v4), (5, .int v5), (6, .int v6_21)]) X dX8_fewestUnbent_114 6 rfl (by rw [ev6_21]; rfl) (Nat.le_of_ble_eq_true rfl) [1, 2, 3, 4, 5, 6, 0] rfl ?_
    refine g_goto (tgt := 54) X dX8_fewestUnbent_117 (by decide) ?_
    exact hk54 t_weights v2 v3 v4 v5 v6_21 hf
  have J86 : ∀ (k54 : (Nat → Int32) → Int32 → Int32 → Int32 → Int32 → Int32 → Option (Int32 × (Nat → Int32))) (hk54 : ∀ (t_weights : (Nat → Int32)) (v2 : Int32) (v3 : Int32) (v4 : Int32) (v5 : Int32) (v6 : Int32), k54 t_weights v2 v3 v4 v5 v6 = some res → G 0 0 (wd_X8_fewestUnbent cI cZ h_t h_t_sizes h_t_weights h_t_sitting h_t_needed h_p1 h_p1_cells t_weights p1_most p1_width p1_size p1_N p1_cells) [(0, .ref h_t), (1, .ref h_p1), (2, .int v2), (3, .int v3), (4, .int v4), (5, .int v5), (6, .int v6)] 54 []) (t_weights : (Nat → Int32)) (v2 : Int32) (v3 : Int32) (v4 : Int32) (v5 : Int32) (v6 : Int32) (s0 : Int32), f_X8_fewestUnbent_86 p1_width p1_size p1_N p1_cells k54 t_weights v2 v3 v4 v5 v6 s0 = some res → G 0 0 (wd_X8_fewestUnbent cI cZ h_t h_t_sizes h_t_weights h_t_sitting h_t_needed h_p1 h_p1_cells t_weights p1_most p1_width p1_size p1_N p1_cells) [(0, .ref h_t), (1, .ref h_p1), (2, .int v2), (3, .int v3), (4, .int v4), (5, .int v5), (6, .int v6)] 86 [.int s0] := by
    intro k54 hk54 t_weights v2 v3 v4 v5 v6 s0 hf
    unfold f_X8_fewestUnbent_86 at hf
    refine g_istore (lv' := [(0, .ref h_t), (1, .ref h_p1), (2, .int v2), (3, .int v3), (4, .int v4), (5, .int v5), (6, .int v6), (7, .int s0)]) X dX8_fewestUnbent_86 (Nat.le_of_ble_eq_true rfl) [1, 2, 3, 4, 5, 6, 7, 0] rfl ?_
    refine g_iload X dX8_fewestUnbent_88 7 rfl ?_
    refine g_if_eq (tgt := 114) X dX8_fewestUnbent_90 (by decide) (fun hc_14 => ?_) (fun hc_14 => ?_)
    · replace hf := ite_t hc_14 hf
      refine g_lv X (lv' := [(0, .ref h_t), (1, .ref h_p1), (2, .int v2), (3, .int v3), (4, .int v4), (5, .int v5), (6, .int v6)]) [0, 1, 2, 3, 4, 5, 6] rfl ?_
      exact J114 k54 hk54 t_weights v2 v3 v4 v5 v6 hf
    · replace hf := ite_f hc_14 hf
      refine g_aload_n X dX8_fewestUnbent_93 rfl 0 rfl ?_
      refine g_aload_n X dX8_fewestUnbent_94 rfl 1 rfl ?_
      refine g_iload X dX8_fewestUnbent_95 6 rfl ?_
      refine g_iload_n X dX8_fewestUnbent_97 rfl 2 rfl ?_
      obtain ⟨r_15, t_weights_16, hk_17, hf⟩ := ob2_out hf
      refine g_cVW (st := []) (st1 := [.int r_15]) (C := RX8) (ci := 4) (q0 := 0) (ws' := (wd_X8_fewestUnbent cI cZ h_t h_t_sizes h_t_weights h_t_sitting h_t_needed h_p1 h_p1_cells t_weights_16 p1_most p1_width p1_size p1_N p1_cells)) X (c_X8_isLight l D cI cZ h_t h_t_sizes h_t_weights h_t_sitting h_t_needed h_p1 h_p1_cells t_weights p1_most p1_width p1_size p1_N p1_cells v6 v2 _ hk_17) (Or.inl rfl) 3 gX8_fewestUnbent_X8_isLight rfl hv_X8_isLight ⟨Nat.le_of_ble_eq_true rfl, Nat.le_of_ble_eq_true rfl⟩ rfl rfl (Nat.le_of_ble_eq_true rfl) ⟨rfl, rfl⟩ (Nat.zero_le _) (Nat.zero_le _) rfl rfl rfl dX8_fewestUnbent_98 [0, 1, 2, 3] rfl rfl [] rfl rfl (by decide) [0, 1, 2, 3] rfl rfl rfl ?_
      refine g_if_eq (tgt := 114) X dX8_fewestUnbent_101 (by decide) (fun hc_18 => ?_) (fun hc_18 => ?_)
      · replace hf := ite_t hc_18 hf
        refine g_lv X (lv' := [(0, .ref h_t), (1, .ref h_p1), (2, .int v2), (3, .int v3), (4, .int v4), (5, .int v5), (6, .int v6)]) [0, 1, 2, 3, 4, 5, 6] rfl ?_
        exact J114 k54 hk54 t_weights_16 v2 v3 v4 v5 v6 hf
      · replace hf := ite_f hc_18 hf
        refine g_iload X dX8_fewestUnbent_104 6 rfl ?_
        obtain ⟨r_19, hk_20, hf⟩ := ob1_out hf
        refine g_cSR (st := []) (st1 := [.int r_19]) X (c_J6_bitCount_0f7a4 l D cI cZ v6 _ hk_20) (Or.inl rfl) 1 gX8_fewestUnbent_J6_bitCount_0f7a4 rfl hs_J6_bitCount_0f7a4 ⟨Nat.le_of_ble_eq_true rfl, Nat.le_of_ble_eq_true rfl⟩ rfl rfl (Nat.le_of_ble_eq_true rfl) ⟨rfl, rfl⟩ (Nat.zero_le _) (Nat.zero_le _) dX8_fewestUnbent_106 [] rfl rfl rfl ?_
        refine g_istore (lv' := [(0, .ref h_t), (1, .ref h_p1), (2, .int v2), (3, .int v3), (4, .int r_19), (5, .int v5), (6, .int v6), (7, .int s0)]) X dX8_fewestUnbent_109 (Nat.le_of_ble_eq_true rfl) [1, 2, 3, 4, 0, 5, 6, 7] rfl ?_
        refine g_iload X dX8_fewestUnbent_111 6 rfl ?_
        refine g_istore_n (lv' := [(0, .ref h_t), (1, .ref h_p1), (2, .int v2), (3, .int v6), (4, .int r_19), (5, .int v5), (6, .int v6), (7, .int s0)]) X dX8_fewestUnbent_113 rfl (Nat.le_of_ble_eq_true rfl) [1, 2, 3, 0, 4, 5, 6, 7] rfl ?_
        refine g_lv X (lv' := [(0, .ref h_t), (1, .ref h_p1), (2, .int v2), (3, .int v6), (4, .int r_19), (5, .int v5), (6, .int v6)]) [0, 1, 2, 3, 4, 5, 6] rfl ?_
        exact J114 k54 hk54 t_weights_16 v2 v6 r_19 v5 v6 hf
  have J85 : ∀ (k54 : (Nat → Int32) → Int32 → Int32 → Int32 → Int32 → Int32 → Option (Int32 × (Nat → Int32))) (hk54 : ∀ (t_weights : (Nat → Int32)) (v2 : Int32) (v3 : Int32) (v4 : Int32) (v5 : Int32) (v6 : Int32), k54 t_weights v2 v3 v4 v5 v6 = some res → G 0 0 (wd_X8_fewestUnbent cI cZ h_t h_t_sizes h_t_weights h_t_sitting h_t_needed h_p1 h_p1_cells t_weights p1_most p1_width p1_size p1_N p1_cells) [(0, .ref h_t), (1, .ref h_p1), (2, .int v2), (3, .int v3), (4, .int v4), (5, .int v5), (6, .int v6)] 54 []) (t_weights : (Nat → Int32)) (v2 : Int32) (v3 : Int32) (v4 : Int32) (v5 : Int32) (v6 : Int32), f_X8_fewestUnbent_85 p1_width p1_size p1_N p1_cells k54 t_weights v2 v3 v4 v5 v6 = some res → G 0 0 (wd_X8_fewestUnbent cI cZ h_t h_t_sizes h_t_weights h_t_sitting h_t_needed h_p1 h_p1_cells t_weights p1_most p1_width p1_size p1_N p1_cells) [(0, .ref h_t), (1, .ref h_p1), (2, .int v2), (3, .int v3), (4, .int v4), (5, .int v5), (6, .int v6)] 85 [] := by
    intro k54 hk54 t_weights v2 v3 v4 v5 v6 hf
    unfold f_X8_fewestUnbent_85 at hf
    refine g_iconst (v := 0) X dX8_fewestUnbent_85 (by decide) ?_
    exact J86 k54 hk54 t_weights v2 v3 v4 v5 v6 0 hf
  have J54 : ∀ (n : Nat) (t_weights : (Nat → Int32)) (v2 : Int32) (v3 : Int32) (v4 : Int32) (v5 : Int32) (v6 : Int32), f_X8_fewestUnbent_54 p1_width p1_size p1_N p1_cells n t_weights v2 v3 v4 v5 v6 = some res → G 0 0 (wd_X8_fewestUnbent cI cZ h_t h_t_sizes h_t_weights h_t_sitting h_t_needed h_p1 h_p1_cells t_weights p1_most p1_width p1_size p1_N p1_cells) [(0, .ref h_t), (1, .ref h_p1), (2, .int v2), (3, .int v3), (4, .int v4), (5, .int v5), (6, .int v6)] 54 [] := by
    intro n
    induction n with
    | zero => intro t_weights v2 v3 v4 v5 v6 hf; rw [f_X8_fewestUnbent_54] at hf; cases hf
    | succ n ih =>
      intro t_weights v2 v3 v4 v5 v6 hf
      rw [f_X8_fewestUnbent_54] at hf
      refine g_iload X dX8_fewestUnbent_54 6 rfl ?_
      refine g_iload X dX8_fewestUnbent_56 5 rfl ?_
      refine g_icmp_gt (tgt := 120) X dX8_fewestUnbent_58 (by decide) (fun hc_9 => ?_) (fun hc_9 => ?_)
      · replace hf := ite_t hc_9 hf
        refine g_iload_n X dX8_fewestUnbent_120 rfl 3 rfl ?_
        exact hR _ _ _ _ dX8_fewestUnbent_121 (kV_in (u := (v3, t_weights)) hf)
      · replace hf := ite_f hc_9 hf
        refine g_iload X dX8_fewestUnbent_61 6 rfl ?_
        refine g_iload X dX8_fewestUnbent_63 5 rfl ?_
        refine g_iand X dX8_fewestUnbent_65 ?_
        refine g_iload X dX8_fewestUnbent_66 6 rfl ?_
        refine g_icmp_ne (tgt := 85) X dX8_fewestUnbent_68 (by decide) (fun hc_10 => ?_) (fun hc_10 => ?_)
        · replace hf := ite_f hc_10 hf
          exact J85 (f_X8_fewestUnbent_54 p1_width p1_size p1_N p1_cells n) ih t_weights v2 v3 v4 v5 v6 hf
        · replace hf := ite_t hc_10 hf
          refine g_iload X dX8_fewestUnbent_71 6 rfl ?_
          obtain ⟨r_11, hk_12, hf⟩ := ob1_out hf
          refine g_cSR (st := []) (st1 := [.int r_11]) X (c_J6_bitCount_0f7a4 l D cI cZ v6 _ hk_12) (Or.inl rfl) 1 gX8_fewestUnbent_J6_bitCount_0f7a4 rfl hs_J6_bitCount_0f7a4 ⟨Nat.le_of_ble_eq_true rfl, Nat.le_of_ble_eq_true rfl⟩ rfl rfl (Nat.le_of_ble_eq_true rfl) ⟨rfl, rfl⟩ (Nat.zero_le _) (Nat.zero_le _) dX8_fewestUnbent_73 [] rfl rfl rfl ?_
          refine g_iload X dX8_fewestUnbent_76 4 rfl ?_
          refine g_icmp_ge (tgt := 85) X dX8_fewestUnbent_78 (by decide) (fun hc_13 => ?_) (fun hc_13 => ?_)
          · replace hf := ite_t hc_13 hf
            exact J85 (f_X8_fewestUnbent_54 p1_width p1_size p1_N p1_cells n) ih t_weights v2 v3 v4 v5 v6 hf
          · replace hf := ite_f hc_13 hf
            refine g_iconst (v := 1) X dX8_fewestUnbent_81 (by decide) ?_
            refine g_goto (tgt := 86) X dX8_fewestUnbent_82 (by decide) ?_
            exact J86 (f_X8_fewestUnbent_54 p1_width p1_size p1_N p1_cells n) ih t_weights v2 v3 v4 v5 v6 1 hf
  have J51 : ∀ (t_weights : (Nat → Int32)) (v2 : Int32) (v3 : Int32) (v4 : Int32) (v5 : Int32), f_X8_fewestUnbent_51 p1_width p1_size p1_N p1_cells t_weights v2 v3 v4 v5 = some res → G 0 0 (wd_X8_fewestUnbent cI cZ h_t h_t_sizes h_t_weights h_t_sitting h_t_needed h_p1 h_p1_cells t_weights p1_most p1_width p1_size p1_N p1_cells) [(0, .ref h_t), (1, .ref h_p1), (2, .int v2), (3, .int v3), (4, .int v4), (5, .int v5)] 51 [] := by
    intro t_weights v2 v3 v4 v5 hf
    unfold f_X8_fewestUnbent_51 at hf
    refine g_iconst (v := 0) X dX8_fewestUnbent_51 (by decide) ?_
    refine g_istore (lv' := [(0, .ref h_t), (1, .ref h_p1), (2, .int v2), (3, .int v3), (4, .int v4), (5, .int v5), (6, .int 0)]) X dX8_fewestUnbent_52 (Nat.le_of_ble_eq_true rfl) [1, 2, 3, 4, 5, 6, 0] rfl ?_
    exact J54 FU t_weights v2 v3 v4 v5 0 hf
  have J12 : ∀ (n : Nat) (t_weights : (Nat → Int32)) (v2 : Int32) (v3 : Int32) (v4 : Int32) (v5 : Int32) (v6 : Int32), f_X8_fewestUnbent_12 p1_width p1_size p1_N p1_cells n t_weights v2 v3 v4 v5 v6 = some res → G 0 0 (wd_X8_fewestUnbent cI cZ h_t h_t_sizes h_t_weights h_t_sitting h_t_needed h_p1 h_p1_cells t_weights p1_most p1_width p1_size p1_N p1_cells) [(0, .ref h_t), (1, .ref h_p1), (2, .int v2), (3, .int v3), (4, .int v4), (5, .int v5), (6, .int v6)] 12 [] := by
    intro n
    induction n with
    | zero => intro t_weights v2 v3 v4 v5 v6 hf; rw [f_X8_fewestUnbent_12] at hf; cases hf
    | succ n ih =>
      intro t_weights v2 v3 v4 v5 v6 hf
      rw [f_X8_fewestUnbent_12] at hf
      refine g_iload X dX8_fewestUnbent_12 6 rfl ?_
      refine g_aload_n X dX8_fewestUnbent_14 rfl 1 rfl ?_
      obtain ⟨r_1, hk_2, hf⟩ := ob1_out hf
      refine g_cVR (st := [.int v6]) (st1 := [.int r_1, .int v6]) (C := RX7) (ci := 3) (q0 := 2) X (c_X7_size l D cI cZ h_p1 h_p1_cells p1_most p1_width p1_size _ hk_2) (Or.inl rfl) 0 gX8_fewestUnbent_X7_size rfl hv_X7_size ⟨Nat.le_of_ble_eq_true rfl, Nat.le_of_ble_eq_true rfl⟩ rfl rfl (Nat.le_of_ble_eq_true rfl) ⟨rfl, rfl⟩ (Nat.zero_le _) (Nat.zero_le _) rfl rfl rfl dX8_fewestUnbent_15 [2] rfl rfl rfl ?_
      refine g_icmp_ge (tgt := 51) X dX8_fewestUnbent_18 (by decide) (fun hc_3 => ?_) (fun hc_3 => ?_)
      · replace hf := ite_t hc_3 hf
        refine g_lv X (lv' := [(0, .ref h_t), (1, .ref h_p1), (2, .int v2), (3, .int v3), (4, .int v4), (5, .int v5)]) [0, 1, 2, 3, 4, 5] rfl ?_
        exact J51 t_weights v2 v3 v4 v5 hf
      · replace hf := ite_f hc_3 hf
        refine g_iload X dX8_fewestUnbent_21 5 rfl ?_
        refine g_aload_n X dX8_fewestUnbent_23 rfl 1 rfl ?_
        refine g_iload X dX8_fewestUnbent_24 6 rfl ?_
        refine g_iconst (v := 4) X dX8_fewestUnbent_26 (by decide) ?_
        obtain ⟨r_4, hk_5, hf⟩ := ob1_out hf
        refine g_cVR (st := [.int v5]) (st1 := [.int r_4, .int v5]) (C := RX7) (ci := 3) (q0 := 2) X (c_X7_get l D cI cZ h_p1 h_p1_cells p1_most p1_width p1_size p1_N p1_cells v6 4 _ hk_5) (Or.inl rfl) 2 gX8_fewestUnbent_X7_get rfl hv_X7_get ⟨Nat.le_of_ble_eq_true rfl, Nat.le_of_ble_eq_true rfl⟩ rfl rfl (Nat.le_of_ble_eq_true rfl) ⟨rfl, rfl⟩ (Nat.zero_le _) (Nat.zero_le _) rfl rfl rfl dX8_fewestUnbent_27 [2, 3] rfl rfl rfl ?_
        refine g_iconst (v := (-1)) X dX8_fewestUnbent_30 (by decide) ?_
        refine g_icmp_eq (tgt := 41) X dX8_fewestUnbent_31 (by decide) (fun hc_6 => ?_) (fun hc_6 => ?_)
        · replace hf := ite_t hc_6 hf
          refine g_iconst (v := 0) X dX8_fewestUnbent_41 (by decide) ?_
          refine g_lv X (lv' := [(0, .ref h_t), (1, .ref h_p1), (2, .int v2), (3, .int v3), (4, .int v4), (6, .int v6)]) [0, 1, 2, 3, 4, 6] rfl ?_
          exact J42 (f_X8_fewestUnbent_12 p1_width p1_size p1_N p1_cells n) ih t_weights v2 v3 v4 v6 v5 0 hf
        · replace hf := ite_f hc_6 hf
          refine g_iconst (v := 1) X dX8_fewestUnbent_34 (by decide) ?_
          refine g_iload X dX8_fewestUnbent_35 6 rfl ?_
          refine g_ishl X dX8_fewestUnbent_37 ?_
          refine g_goto (tgt := 42) X dX8_fewestUnbent_38 (by decide) ?_
          refine g_lv X (lv' := [(0, .ref h_t), (1, .ref h_p1), (2, .int v2), (3, .int v3), (4, .int v4), (6, .int v6)]) [0, 1, 2, 3, 4, 6] rfl ?_
          exact J42 (f_X8_fewestUnbent_12 p1_width p1_size p1_N p1_cells n) ih t_weights v2 v3 v4 v6 v5 (1 <<< (v6 &&& 31)) hf
  refine g_iconst (v := (-1)) X dX8_fewestUnbent_0 (by decide) ?_
  refine g_istore_n (lv' := [(0, .ref h_t), (1, .ref h_p1), (2, .int v2), (3, .int (-1))]) X dX8_fewestUnbent_1 rfl (Nat.le_of_ble_eq_true rfl) [1, 2, 3, 0] rfl ?_
  refine g_bipush (v := 8) X dX8_fewestUnbent_2 (by decide) ?_
  refine g_istore (lv' := [(0, .ref h_t), (1, .ref h_p1), (2, .int v2), (3, .int (-1)), (4, .int 8)]) X dX8_fewestUnbent_4 (Nat.le_of_ble_eq_true rfl) [1, 2, 3, 4, 0] rfl ?_
  refine g_iconst (v := 0) X dX8_fewestUnbent_6 (by decide) ?_
  refine g_istore (lv' := [(0, .ref h_t), (1, .ref h_p1), (2, .int v2), (3, .int (-1)), (4, .int 8), (5, .int 0)]) X dX8_fewestUnbent_7 (Nat.le_of_ble_eq_true rfl) [1, 2, 3, 4, 5, 0] rfl ?_
  refine g_iconst (v := 0) X dX8_fewestUnbent_9 (by decide) ?_
  refine g_istore (lv' := [(0, .ref h_t), (1, .ref h_p1), (2, .int v2), (3, .int (-1)), (4, .int 8), (5, .int 0), (6, .int 0)]) X dX8_fewestUnbent_10 (Nat.le_of_ble_eq_true rfl) [1, 2, 3, 4, 5, 6, 0] rfl ?_
  exact J12 FU t_weights v2 (-1) 8 0 0 hf
def wd_X10_agrees (cI cZ : ClassId) (h_t : Nat) (h_t_feels : Nat) (h_p1 : Nat) (h_p1_cells : Nat) (h_p2 : Nat) (h_p2_cells : Nat) (t_feels : (Nat → Int32)) (p1_most : Int32) (p1_width : Int32) (p1_size : Int32) (p1_N : Nat) (p1_cells : (Nat → Int32)) (p2_most : Int32) (p2_width : Int32) (p2_size : Int32) (p2_N : Nat) (p2_cells : (Nat → Int32)) : va_W := [(h_t, .inr (6, [.ref h_t_feels])), (h_t_feels, .inl (cI, 7, .inl t_feels)), (h_p1, .inr (3, [.int p1_most, .int p1_width, .ref h_p1_cells, .int p1_size])), (h_p1_cells, .inl (cI, p1_N, .inl p1_cells)), (h_p2, .inr (3, [.int p2_most, .int p2_width, .ref h_p2_cells, .int p2_size])), (h_p2_cells, .inl (cI, p2_N, .inl p2_cells))]
abbrev rm_X10_agrees : Room := { frames := 4, cells := 0, slots := 0, locals := 98 }
theorem hv_X10_agrees : yX10_agrees.cls = RX10 ∧ yX10_agrees.cls ≠ "java/lang/invoke/MethodHandle" ∧ yX10_agrees.cls ≠ "java/lang/invoke/VarHandle" ∧ (parseMethodDescriptor yX10_agrees.desc).map (fun d => d.parameters.length) = some 2 := by decide +kernel
set_option maxHeartbeats 4000000 in
set_option maxRecDepth 100000 in
theorem c_X10_agrees (l : Launch) (D : va_G) (cI cZ : ClassId) (h_t : Nat) (h_t_feels : Nat) (h_p1 : Nat) (h_p1_cells : Nat) (h_p2 : Nat) (h_p2_cells : Nat) (t_feels : (Nat → Int32)) (p1_most : Int32) (p1_width : Int32) (p1_size : Int32) (p1_N : Nat) (p1_cells : (Nat → Int32)) (p2_most : Int32) (p2_width : Int32) (p2_size : Int32) (p2_N : Nat) (p2_cells : (Nat → Int32)) (res : Int32 × (Nat → Int32)) (hf : f_X10_agrees t_feels p1_width p1_size p1_N p1_cells p2_width p2_size p2_N p2_cells = some res) : MetG l yX10_agrees wsX10_agrees rm_X10_agrees D cI cZ none [.ref h_t, .ref h_p1, .ref h_p2] (wd_X10_agrees cI cZ h_t h_t_feels h_p1 h_p1_cells h_p2 h_p2_cells t_feels p1_most p1_width p1_size p1_N p1_cells p2_most p2_width p2_size p2_N p2_cells) (kV res (fun u => some (.int u.1)) (fun u => (wd_X10_agrees cI cZ h_t h_t_feels h_p1 h_p1_cells h_p2 h_p2_cells (u.2) p1_most p1_width p1_size p1_N p1_cells p2_most p2_width p2_size p2_N p2_cells))) := by
  refine metG_of (cc := cX10_agrees) (maxL := 4) (ret := (some .boolean)) (own := RX10) (lv0 := [(0, .ref h_t), (1, .ref h_p1), (2, .ref h_p2)]) (ini := false) (by decide) rfl (Nat.le_of_ble_eq_true rfl) rfl rfl (fun h => by cases h) (fun G X hR => ?_)
  replace hR := rt_bool hR
  unfold f_X10_agrees at hf
  have J2 : ∀ (n : Nat) (t_feels : (Nat → Int32)) (v3 : Int32), f_X10_agrees_2 p1_width p1_size p1_N p1_cells p2_width p2_size p2_N p2_cells n t_feels v3 = some res → G 0 0 (wd_X10_agrees cI cZ h_t h_t_feels h_p1 h_p1_cells h_p2 h_p2_cells t_feels p1_most p1_width p1_size p1_N p1_cells p2_most p2_width p2_size p2_N p2_cells) [(0, .ref h_t), (1, .ref h_p1), (2, .ref h_p2), (3, .int v3)] 2 [] := by
    intro n
    induction n with
    | zero => intro t_feels v3 hf; rw [f_X10_agrees_2] at hf; cases hf
    | succ n ih =>
      intro t_feels v3 hf
      rw [f_X10_agrees_2] at hf
      refine g_iload_n X dX10_agrees_2 rfl 3 rfl ?_
      refine g_aload_n X dX10_agrees_3 rfl 2 rfl ?_
      obtain ⟨r_1, hk_2, hf⟩ := ob1_out hf
      refine g_cVR (st := [.int v3]) (st1 := [.int r_1, .int v3]) (C := RX7) (ci := 3) (q0 := 4) X (c_X7_size l D cI cZ h_p2 h_p2_cells p2_most p2_width p2_size _ hk_2) (Or.inl rfl) 0 gX10_agrees_X7_size rfl hv_X7_size ⟨Nat.le_of_ble_eq_true rfl, Nat.le_of_ble_eq_true rfl⟩ rfl rfl (Nat.le_of_ble_eq_true rfl) ⟨rfl, rfl⟩ (Nat.zero_le _) (Nat.zero_le _) rfl rfl rfl dX10_agrees_4 [4] rfl rfl rfl ?_
      refine g_icmp_ge (tgt := 54) X dX10_agrees_7 (by decide) (fun hc_3 => ?_) (fun hc_3 => ?_)
      · replace hf := ite_t hc_3 hf
        refine g_iconst (v := 1) X dX10_agrees_54 (by decide) ?_
        exact hR _ _ _ _ (Or.inr rfl) dX10_agrees_55 (kV_in (u := (1, t_feels)) hf)
      · replace hf := ite_f hc_3 hf
        refine g_aload_n X dX10_agrees_10 rfl 0 rfl ?_
        refine g_aload_n X dX10_agrees_11 rfl 1 rfl ?_
        refine g_aload_n X dX10_agrees_12 rfl 2 rfl ?_
        refine g_iload_n X dX10_agrees_13 rfl 3 rfl ?_
        refine g_iconst (v := 0) X dX10_agrees_14 (by decide) ?_
        obtain ⟨r_4, hk_5, hf⟩ := ob1_out hf
        refine g_cVR (st := [.ref h_p1, .ref h_t]) (st1 := [.int r_4, .ref h_p1, .ref h_t]) (C := RX7) (ci := 3) (q0 := 4) X (c_X7_get l D cI cZ h_p2 h_p2_cells p2_most p2_width p2_size p2_N p2_cells v3 0 _ hk_5) (Or.inl rfl) 2 gX10_agrees_X7_get rfl hv_X7_get ⟨Nat.le_of_ble_eq_true rfl, Nat.le_of_ble_eq_true rfl⟩ rfl rfl (Nat.le_of_ble_eq_true rfl) ⟨rfl, rfl⟩ (Nat.zero_le _) (Nat.zero_le _) rfl rfl rfl dX10_agrees_15 [4, 5] rfl rfl rfl ?_
        refine g_aload_n X dX10_agrees_18 rfl 2 rfl ?_
        refine g_iload_n X dX10_agrees_19 rfl 3 rfl ?_
        refine g_iconst (v := 1) X dX10_agrees_20 (by decide) ?_
        obtain ⟨r_6, hk_7, hf⟩ := ob1_out hf
        refine g_cVR (st := [.int r_4, .ref h_p1, .ref h_t]) (st1 := [.int r_6, .int r_4, .ref h_p1, .ref h_t]) (C := RX7) (ci := 3) (q0 := 4) X (c_X7_get l D cI cZ h_p2 h_p2_cells p2_most p2_width p2_size p2_N p2_cells v3 1 _ hk_7) (Or.inl rfl) 2 gX10_agrees_X7_get rfl hv_X7_get ⟨Nat.le_of_ble_eq_true rfl, Nat.le_of_ble_eq_true rfl⟩ rfl rfl (Nat.le_of_ble_eq_true rfl) ⟨rfl, rfl⟩ (Nat.zero_le _) (Nat.zero_le _) rfl rfl rfl dX10_agrees_21 [4, 5] rfl rfl rfl ?_
        obtain ⟨t_feels_8, hk_9, hf⟩ := ob1_out hf
        refine g_cVW (st := []) (st1 := []) (C := RX10) (ci := 6) (q0 := 0) (ws' := (wd_X10_agrees cI cZ h_t h_t_feels h_p1 h_p1_cells h_p2 h_p2_cells t_feels_8 p1_most p1_width p1_size p1_N p1_cells p2_most p2_width p2_size p2_N p2_cells)) X (c_X10_spread l D cI cZ h_t h_t_feels h_p1 h_p1_cells t_feels p1_most p1_width p1_size p1_N p1_cells r_4 r_6 _ hk_9) (Or.inl rfl) 3 gX10_agrees_X10_spread rfl hv_X10_spread ⟨Nat.le_of_ble_eq_true rfl, Nat.le_of_ble_eq_true rfl⟩ rfl rfl (Nat.le_of_ble_eq_true rfl) ⟨rfl, rfl⟩ (Nat.zero_le _) (Nat.zero_le _) rfl rfl rfl dX10_agrees_24 [0, 1, 2, 3] rfl rfl [4, 5] rfl rfl (by decide) [2, 3, 4, 5, 0, 1] rfl rfl rfl ?_
        refine g_aload_n X dX10_agrees_27 rfl 0 rfl ?_
        refine g_aload_n X dX10_agrees_28 rfl 2 rfl ?_
        refine g_iload_n X dX10_agrees_29 rfl 3 rfl ?_
        refine g_iconst (v := 2) X dX10_agrees_30 (by decide) ?_
        obtain ⟨r_10, hk_11, hf⟩ := ob1_out hf
        refine g_cVR (st := [.ref h_t]) (st1 := [.int r_10, .ref h_t]) (C := RX7) (ci := 3) (q0 := 4) X (c_X7_get l D cI cZ h_p2 h_p2_cells p2_most p2_width p2_size p2_N p2_cells v3 2 _ hk_11) (Or.inl rfl) 2 gX10_agrees_X7_get rfl hv_X7_get ⟨Nat.le_of_ble_eq_true rfl, Nat.le_of_ble_eq_true rfl⟩ rfl rfl (Nat.le_of_ble_eq_true rfl) ⟨rfl, rfl⟩ (Nat.zero_le _) (Nat.zero_le _) rfl rfl rfl dX10_agrees_31 [4, 5] rfl rfl rfl ?_
        obtain ⟨r_12, hk_13, hf⟩ := ob1_out hf
        refine g_cVR (st := []) (st1 := [.int r_12]) (C := RX10) (ci := 6) (q0 := 0) X (c_X10_feltBy l D cI cZ h_t h_t_feels t_feels_8 r_10 _ hk_13) (Or.inl rfl) 1 gX10_agrees_X10_feltBy rfl hv_X10_feltBy ⟨Nat.le_of_ble_eq_true rfl, Nat.le_of_ble_eq_true rfl⟩ rfl rfl (Nat.le_of_ble_eq_true rfl) ⟨rfl, rfl⟩ (Nat.zero_le _) (Nat.zero_le _) rfl rfl rfl dX10_agrees_34 [0, 1] rfl rfl rfl ?_
        refine g_aload_n X dX10_agrees_37 rfl 2 rfl ?_
        refine g_iload_n X dX10_agrees_38 rfl 3 rfl ?_
        refine g_iconst (v := 3) X dX10_agrees_39 (by decide) ?_
        obtain ⟨r_14, hk_15, hf⟩ := ob1_out hf
        refine g_cVR (st := [.int r_12]) (st1 := [.int r_14, .int r_12]) (C := RX7) (ci := 3) (q0 := 4) X (c_X7_get l D cI cZ h_p2 h_p2_cells p2_most p2_width p2_size p2_N p2_cells v3 3 _ hk_15) (Or.inl rfl) 2 gX10_agrees_X7_get rfl hv_X7_get ⟨Nat.le_of_ble_eq_true rfl, Nat.le_of_ble_eq_true rfl⟩ rfl rfl (Nat.le_of_ble_eq_true rfl) ⟨rfl, rfl⟩ (Nat.zero_le _) (Nat.zero_le _) rfl rfl rfl dX10_agrees_40 [4, 5] rfl rfl rfl ?_
        refine g_icmp_eq (tgt := 48) X dX10_agrees_43 (by decide) (fun hc_16 => ?_) (fun hc_16 => ?_)
        · replace hf := ite_t hc_16 hf
          obtain ⟨v3_17, ev3_17, hf⟩ := bnd_out hf
          refine g_iinc (v := v3_17) (lv' := [(0, .ref h_t), (1, .ref h_p1), (2, .ref h_p2), (3, .int v3_17)]) X dX10_agrees_48 3 rfl (by rw [ev3_17]; rfl) (Nat.le_of_ble_eq_true rfl) [1, 2, 3, 0] rfl ?_
          refine g_goto (tgt := 2) X dX10_agrees_51 (by decide) ?_
          exact ih t_feels_8 v3_17 hf
        · replace hf := ite_f hc_16 hf
          refine g_iconst (v := 0) X dX10_agrees_46 (by decide) ?_
          exact hR _ _ _ _ (Or.inl rfl) dX10_agrees_47 (kV_in (u := (0, t_feels_8)) hf)
  refine g_iconst (v := 0) X dX10_agrees_0 (by decide) ?_
  refine g_istore_n (lv' := [(0, .ref h_t), (1, .ref h_p1), (2, .ref h_p2), (3, .int 0)]) X dX10_agrees_1 rfl (Nat.le_of_ble_eq_true rfl) [1, 2, 3, 0] rfl ?_
  exact J2 FU t_feels 0 hf
def wd_X3_clerkKinds (cI cZ : ClassId) (h_p0 : Nat) (h_p0_cells : Nat) (p0_most : Int32) (p0_width : Int32) (p0_size : Int32) (p0_N : Nat) (p0_cells : (Nat → Int32)) : va_W := [(h_p0, .inr (3, [.int p0_most, .int p0_width, .ref h_p0_cells, .int p0_size])), (h_p0_cells, .inl (cI, p0_N, .inl p0_cells))]
abbrev rm_X3_clerkKinds : Room := { frames := 2, cells := 0, slots := 0, locals := 46 }
theorem hs_X3_clerkKinds : yX3_clerkKinds.cls ≠ "java/lang/invoke/MethodHandle" ∧ yX3_clerkKinds.cls ≠ "java/lang/invoke/VarHandle" ∧ (parseMethodDescriptor yX3_clerkKinds.desc).map (fun d => d.parameters.length) = some 2 := by decide +kernel
set_option maxHeartbeats 4000000 in
set_option maxRecDepth 100000 in
theorem c_X3_clerkKinds (l : Launch) (D : va_G) (cI cZ : ClassId) (h_p0 : Nat) (h_p0_cells : Nat) (p0_most : Int32) (p0_width : Int32) (p0_size : Int32) (p0_N : Nat) (p0_cells : (Nat → Int32)) (v1 : Int32) (res : Int32) (hf : f_X3_clerkKinds p0_width p0_size p0_N p0_cells v1 = some res) : MetR l yX3_clerkKinds wsX3_clerkKinds rm_X3_clerkKinds D cI cZ none [.ref h_p0, .int v1] (wd_X3_clerkKinds cI cZ h_p0 h_p0_cells p0_most p0_width p0_size p0_N p0_cells) (kR res (fun u => some (.int u))) := by
  refine metR_of (cc := cX3_clerkKinds) (maxL := 7) (ret := (some .int)) (own := RX3) (lv0 := [(0, .ref h_p0), (1, .int v1)]) (by decide) rfl (Nat.le_of_ble_eq_true rfl) rfl rfl (fun G X hR => ?_)
  replace hR := rt_int hR
  unfold f_X3_clerkKinds at hf
  have J75 : ∀ (k4 : Int32 → Int32 → Int32 → Option (Int32)) (hk4 : ∀ (v1 : Int32) (v2 : Int32) (v3 : Int32), k4 v1 v2 v3 = some res → G 0 0 (wd_X3_clerkKinds cI cZ h_p0 h_p0_cells p0_most p0_width p0_size p0_N p0_cells) [(0, .ref h_p0), (1, .int v1), (2, .int v2), (3, .int v3)] 4 []) (k16 : Int32 → Int32 → Int32 → Int32 → Int32 → Option (Int32)) (hk16 : ∀ (v1 : Int32) (v2 : Int32) (v3 : Int32) (v4 : Int32) (v5 : Int32), k16 v1 v2 v3 v4 v5 = some res → G 0 0 (wd_X3_clerkKinds cI cZ h_p0 h_p0_cells p0_most p0_width p0_size p0_N p0_cells) [(0, .ref h_p0), (1, .int v1), (2, .int v2), (3, .int v3), (4, .int v4), (5, .int v5)] 16 []) (v1 : Int32) (v2 : Int32) (v3 : Int32) (v5 : Int32) (s0 : Int32) (s1 : Int32), f_X3_clerkKinds_75 p0_width p0_size p0_N p0_cells k4 k16 v1 v2 v3 v5 s0 s1 = some res → G 0 0 (wd_X3_clerkKinds cI cZ h_p0 h_p0_cells p0_most p0_width p0_size p0_N p0_cells) [(0, .ref h_p0), (1, .int v1), (2, .int v2), (3, .int v3), (5, .int v5)] 75 [.int s1, .int s0] := by
    intro k4 hk4 k16 hk16 v1 v2 v3 v5 s0 s1 hf
    unfold f_X3_clerkKinds_75 at hf
    refine g_iand X dX3_clerkKinds_75 ?_
    obtain ⟨v4_17, ev4_17, hf⟩ := bnd_out hf
    refine g_nmI X ev4_17 ?_
    refine g_istore (lv' := [(0, .ref h_p0), (1, .int v1), (2, .int v2), (3, .int v3), (4, .int v4_17), (5, .int v5)]) X dX3_clerkKinds_76 (Nat.le_of_ble_eq_true rfl) [1, 2, 3, 4, 0, 5] rfl ?_
    obtain ⟨v5_18, ev5_18, hf⟩ := bnd_out hf
    refine g_iinc (v := v5_18) (lv' := [(0, .ref h_p0), (1, .int v1), (2, .int v2), (3, .int v3), (4, .int v4_17), (5, .int v5_18)]) X dX3_clerkKinds_78 5 rfl (by rw [ev5_18]; rfl) (Nat.le_of_ble_eq_true rfl) [1, 2, 3, 4, 5, 0] rfl ?_
    refine g_goto (tgt := 16) X dX3_clerkKinds_81 (by decide) ?_
    exact hk16 v1 v2 v3 v4_17 v5_18 hf
  have J70 : ∀ (k4 : Int32 → Int32 → Int32 → Option (Int32)) (hk4 : ∀ (v1 : Int32) (v2 : Int32) (v3 : Int32), k4 v1 v2 v3 = some res → G 0 0 (wd_X3_clerkKinds cI cZ h_p0 h_p0_cells p0_most p0_width p0_size p0_N p0_cells) [(0, .ref h_p0), (1, .int v1), (2, .int v2), (3, .int v3)] 4 []) (k16 : Int32 → Int32 → Int32 → Int32 → Int32 → Option (Int32)) (hk16 : ∀ (v1 : Int32) (v2 : Int32) (v3 : Int32) (v4 : Int32) (v5 : Int32), k16 v1 v2 v3 v4 v5 = some res → G 0 0 (wd_X3_clerkKinds cI cZ h_p0 h_p0_cells p0_most p0_width p0_size p0_N p0_cells) [(0, .ref h_p0), (1, .int v1), (2, .int v2), (3, .int v3), (4, .int v4), (5, .int v5)] 16 []) (v1 : Int32) (v2 : Int32) (v3 : Int32) (v5 : Int32) (s0 : Int32), f_X3_clerkKinds_70 p0_width p0_size p0_N p0_cells k4 k16 v1 v2 v3 v5 s0 = some res → G 0 0 (wd_X3_clerkKinds cI cZ h_p0 h_p0_cells p0_most p0_width p0_size p0_N p0_cells) [(0, .ref h_p0), (1, .int v1), (2, .int v2), (3, .int v3), (5, .int v5)] 70 [.int s0] := by
    intro k4 hk4 k16 hk16 v1 v2 v3 v5 s0 hf
    unfold f_X3_clerkKinds_70 at hf
    refine g_iconst (v := 1) X dX3_clerkKinds_70 (by decide) ?_
    refine g_goto (tgt := 75) X dX3_clerkKinds_71 (by decide) ?_
    exact J75 k4 hk4 k16 hk16 v1 v2 v3 v5 s0 1 hf
  have J97 : ∀ (k4 : Int32 → Int32 → Int32 → Option (Int32)) (hk4 : ∀ (v1 : Int32) (v2 : Int32) (v3 : Int32), k4 v1 v2 v3 = some res → G 0 0 (wd_X3_clerkKinds cI cZ h_p0 h_p0_cells p0_most p0_width p0_size p0_N p0_cells) [(0, .ref h_p0), (1, .int v1), (2, .int v2), (3, .int v3)] 4 []) (v1 : Int32) (v3 : Int32) (s0 : Int32) (s1 : Int32), f_X3_clerkKinds_97 p0_width p0_size p0_N p0_cells k4 v1 v3 s0 s1 = some res → G 0 0 (wd_X3_clerkKinds cI cZ h_p0 h_p0_cells p0_most p0_width p0_size p0_N p0_cells) [(0, .ref h_p0), (1, .int v1), (3, .int v3)] 97 [.int s1, .int s0] := by
    intro k4 hk4 v1 v3 s0 s1 hf
    unfold f_X3_clerkKinds_97 at hf
    refine g_ior X dX3_clerkKinds_97 ?_
    obtain ⟨v2_20, ev2_20, hf⟩ := bnd_out hf
    refine g_nmI X ev2_20 ?_
    refine g_istore_n (lv' := [(0, .ref h_p0), (1, .int v1), (2, .int v2_20), (3, .int v3)]) X dX3_clerkKinds_98 rfl (Nat.le_of_ble_eq_true rfl) [1, 2, 0, 3] rfl ?_
    obtain ⟨v3_21, ev3_21, hf⟩ := bnd_out hf
    refine g_iinc (v := v3_21) (lv' := [(0, .ref h_p0), (1, .int v1), (2, .int v2_20), (3, .int v3_21)]) X dX3_clerkKinds_99 3 rfl (by rw [ev3_21]; rfl) (Nat.le_of_ble_eq_true rfl) [1, 2, 3, 0] rfl ?_
    refine g_goto (tgt := 4) X dX3_clerkKinds_102 (by decide) ?_
    exact hk4 v1 v2_20 v3_21 hf
  have J84 : ∀ (k4 : Int32 → Int32 → Int32 → Option (Int32)) (hk4 : ∀ (v1 : Int32) (v2 : Int32) (v3 : Int32), k4 v1 v2 v3 = some res → G 0 0 (wd_X3_clerkKinds cI cZ h_p0 h_p0_cells p0_most p0_width p0_size p0_N p0_cells) [(0, .ref h_p0), (1, .int v1), (2, .int v2), (3, .int v3)] 4 []) (v1 : Int32) (v2 : Int32) (v3 : Int32) (v4 : Int32), f_X3_clerkKinds_84 p0_width p0_size p0_N p0_cells k4 v1 v2 v3 v4 = some res → G 0 0 (wd_X3_clerkKinds cI cZ h_p0 h_p0_cells p0_most p0_width p0_size p0_N p0_cells) [(0, .ref h_p0), (1, .int v1), (2, .int v2), (3, .int v3), (4, .int v4)] 84 [] := by
    intro k4 hk4 v1 v2 v3 v4 hf
    unfold f_X3_clerkKinds_84 at hf
    refine g_iload_n X dX3_clerkKinds_84 rfl 2 rfl ?_
    refine g_iload X dX3_clerkKinds_85 4 rfl ?_
    refine g_if_eq (tgt := 96) X dX3_clerkKinds_87 (by decide) (fun hc_19 => ?_) (fun hc_19 => ?_)
    · replace hf := ite_t hc_19 hf
      refine g_iconst (v := 0) X dX3_clerkKinds_96 (by decide) ?_
      refine g_lv X (lv' := [(0, .ref h_p0), (1, .int v1), (3, .int v3)]) [0, 1, 3] rfl ?_
      exact J97 k4 hk4 v1 v3 v2 0 hf
    · replace hf := ite_f hc_19 hf
      refine g_iconst (v := 1) X dX3_clerkKinds_90 (by decide) ?_
      refine g_iload_n X dX3_clerkKinds_91 rfl 3 rfl ?_
      refine g_ishl X dX3_clerkKinds_92 ?_
      refine g_goto (tgt := 97) X dX3_clerkKinds_93 (by decide) ?_
      refine g_lv X (lv' := [(0, .ref h_p0), (1, .int v1), (3, .int v3)]) [0, 1, 3] rfl ?_
      exact J97 k4 hk4 v1 v3 v2 (1 <<< (v3 &&& 31)) hf
  have J16 : ∀ (k4 : Int32 → Int32 → Int32 → Option (Int32)) (hk4 : ∀ (v1 : Int32) (v2 : Int32) (v3 : Int32), k4 v1 v2 v3 = some res → G 0 0 (wd_X3_clerkKinds cI cZ h_p0 h_p0_cells p0_most p0_width p0_size p0_N p0_cells) [(0, .ref h_p0), (1, .int v1), (2, .int v2), (3, .int v3)] 4 []) (n : Nat) (v1 : Int32) (v2 : Int32) (v3 : Int32) (v4 : Int32) (v5 : Int32), f_X3_clerkKinds_16 p0_width p0_size p0_N p0_cells k4 n v1 v2 v3 v4 v5 = some res → G 0 0 (wd_X3_clerkKinds cI cZ h_p0 h_p0_cells p0_most p0_width p0_size p0_N p0_cells) [(0, .ref h_p0), (1, .int v1), (2, .int v2), (3, .int v3), (4, .int v4), (5, .int v5)] 16 [] := by
    intro k4 hk4 n
    induction n with
    | zero => intro v1 v2 v3 v4 v5 hf; rw [f_X3_clerkKinds_16] at hf; cases hf
    | succ n ih =>
      intro v1 v2 v3 v4 v5 hf
      rw [f_X3_clerkKinds_16] at hf
      refine g_iload X dX3_clerkKinds_16 5 rfl ?_
      refine g_aload_n X dX3_clerkKinds_18 rfl 0 rfl ?_
      obtain ⟨r_2, hk_3, hf⟩ := ob1_out hf
      refine g_cVR (st := [.int v5]) (st1 := [.int r_2, .int v5]) (C := RX7) (ci := 3) (q0 := 0) X (c_X7_size l D cI cZ h_p0 h_p0_cells p0_most p0_width p0_size _ hk_3) (Or.inl rfl) 0 gX3_clerkKinds_X7_size rfl hv_X7_size ⟨Nat.le_of_ble_eq_true rfl, Nat.le_of_ble_eq_true rfl⟩ rfl rfl (Nat.le_of_ble_eq_true rfl) ⟨rfl, rfl⟩ (Nat.zero_le _) (Nat.zero_le _) rfl rfl rfl dX3_clerkKinds_19 [0] rfl rfl rfl ?_
      refine g_icmp_ge (tgt := 84) X dX3_clerkKinds_22 (by decide) (fun hc_4 => ?_) (fun hc_4 => ?_)
      · replace hf := ite_t hc_4 hf
        refine g_lv X (lv' := [(0, .ref h_p0), (1, .int v1), (2, .int v2), (3, .int v3), (4, .int v4)]) [0, 1, 2, 3, 4] rfl ?_
        exact J84 k4 hk4 v1 v2 v3 v4 hf
      · replace hf := ite_f hc_4 hf
        refine g_iload_n X dX3_clerkKinds_25 rfl 3 rfl ?_
        refine g_aload_n X dX3_clerkKinds_26 rfl 0 rfl ?_
        refine g_iload X dX3_clerkKinds_27 5 rfl ?_
        refine g_iconst (v := 1) X dX3_clerkKinds_29 (by decide) ?_
        obtain ⟨r_5, hk_6, hf⟩ := ob1_out hf
        refine g_cVR (st := [.int v3]) (st1 := [.int r_5, .int v3]) (C := RX7) (ci := 3) (q0 := 0) X (c_X7_get l D cI cZ h_p0 h_p0_cells p0_most p0_width p0_size p0_N p0_cells v5 1 _ hk_6) (Or.inl rfl) 2 gX3_clerkKinds_X7_get rfl hv_X7_get ⟨Nat.le_of_ble_eq_true rfl, Nat.le_of_ble_eq_true rfl⟩ rfl rfl (Nat.le_of_ble_eq_true rfl) ⟨rfl, rfl⟩ (Nat.zero_le _) (Nat.zero_le _) rfl rfl rfl dX3_clerkKinds_30 [0, 1] rfl rfl rfl ?_
        refine g_aload_n X dX3_clerkKinds_33 rfl 0 rfl ?_
        refine g_iload X dX3_clerkKinds_34 5 rfl ?_
        refine g_iconst (v := 2) X dX3_clerkKinds_36 (by decide) ?_
        obtain ⟨r_7, hk_8, hf⟩ := ob1_out hf
        refine g_cVR (st := [.int r_5, .int v3]) (st1 := [.int r_7, .int r_5, .int v3]) (C := RX7) (ci := 3) (q0 := 0) X (c_X7_get l D cI cZ h_p0 h_p0_cells p0_most p0_width p0_size p0_N p0_cells v5 2 _ hk_8) (Or.inl rfl) 2 gX3_clerkKinds_X7_get rfl hv_X7_get ⟨Nat.le_of_ble_eq_true rfl, Nat.le_of_ble_eq_true rfl⟩ rfl rfl (Nat.le_of_ble_eq_true rfl) ⟨rfl, rfl⟩ (Nat.zero_le _) (Nat.zero_le _) rfl rfl rfl dX3_clerkKinds_37 [0, 1] rfl rfl rfl ?_
        obtain ⟨r_9, hk_10, hf⟩ := ob1_out hf
        refine g_cSR (st := []) (st1 := [.int r_9]) X (c_X4_letsGo l D cI cZ v3 r_5 r_7 _ hk_10) (Or.inl rfl) 3 gX3_clerkKinds_X4_letsGo rfl hs_X4_letsGo ⟨Nat.le_of_ble_eq_true rfl, Nat.le_of_ble_eq_true rfl⟩ rfl rfl (Nat.le_of_ble_eq_true rfl) ⟨rfl, rfl⟩ (Nat.zero_le _) (Nat.zero_le _) dX3_clerkKinds_40 [] rfl rfl rfl ?_
        refine g_istore (lv' := [(0, .ref h_p0), (1, .int v1), (2, .int v2), (3, .int v3), (4, .int v4), (5, .int v5), (6, .int r_9)]) X dX3_clerkKinds_43 (Nat.le_of_ble_eq_true rfl) [1, 2, 3, 4, 5, 6, 0] rfl ?_
        refine g_iload X dX3_clerkKinds_45 4 rfl ?_
        refine g_aload_n X dX3_clerkKinds_47 rfl 0 rfl ?_
        refine g_iload X dX3_clerkKinds_48 5 rfl ?_
        refine g_iconst (v := 0) X dX3_clerkKinds_50 (by decide) ?_
        obtain ⟨r_11, hk_12, hf⟩ := ob1_out hf
        refine g_cVR (st := [.int v4]) (st1 := [.int r_11, .int v4]) (C := RX7) (ci := 3) (q0 := 0) X (c_X7_get l D cI cZ h_p0 h_p0_cells p0_most p0_width p0_size p0_N p0_cells v5 0 _ hk_12) (Or.inl rfl) 2 gX3_clerkKinds_X7_get rfl hv_X7_get ⟨Nat.le_of_ble_eq_true rfl, Nat.le_of_ble_eq_true rfl⟩ rfl rfl (Nat.le_of_ble_eq_true rfl) ⟨rfl, rfl⟩ (Nat.zero_le _) (Nat.zero_le _) rfl rfl rfl dX3_clerkKinds_51 [0, 1] rfl rfl rfl ?_
        refine g_iload_n X dX3_clerkKinds_54 rfl 1 rfl ?_
        refine g_icmp_ne (tgt := 70) X dX3_clerkKinds_55 (by decide) (fun hc_13 => ?_) (fun hc_13 => ?_)
        · replace hf := ite_f hc_13 hf
          refine g_lv X (lv' := [(0, .ref h_p0), (1, .int v1), (2, .int v2), (3, .int v3), (5, .int v5)]) [0, 1, 2, 3, 5] rfl ?_
          exact J70 k4 hk4 (f_X3_clerkKinds_16 p0_width p0_size p0_N p0_cells k4 n) ih v1 v2 v3 v5 v4 hf
        · replace hf := ite_t hc_13 hf
          refine g_iload X dX3_clerkKinds_58 6 rfl ?_
          refine g_aload_n X dX3_clerkKinds_60 rfl 0 rfl ?_
          refine g_iload X dX3_clerkKinds_61 5 rfl ?_
          refine g_iconst (v := 3) X dX3_clerkKinds_63 (by decide) ?_
          obtain ⟨r_14, hk_15, hf⟩ := ob1_out hf
          refine g_cVR (st := [.int r_9, .int v4]) (st1 := [.int r_14, .int r_9, .int v4]) (C := RX7) (ci := 3) (q0 := 0) X (c_X7_get l D cI cZ h_p0 h_p0_cells p0_most p0_width p0_size p0_N p0_cells v5 3 _ hk_15) (Or.inl rfl) 2 gX3_clerkKinds_X7_get rfl hv_X7_get ⟨Nat.le_of_ble_eq_true rfl, Nat.le_of_ble_eq_true rfl⟩ rfl rfl (Nat.le_of_ble_eq_true rfl) ⟨rfl, rfl⟩ (Nat.zero_le _) (Nat.zero_le _) rfl rfl rfl dX3_clerkKinds_64 [0, 1] rfl rfl rfl ?_
          refine g_icmp_ne (tgt := 74) X dX3_clerkKinds_67 (by decide) (fun hc_16 => ?_) (fun hc_16 => ?_)
          · replace hf := ite_f hc_16 hf
            refine g_iconst (v := 0) X dX3_clerkKinds_74 (by decide) ?_
            refine g_lv X (lv' := [(0, .ref h_p0), (1, .int v1), (2, .int v2), (3, .int v3), (5, .int v5)]) [0, 1, 2, 3, 5] rfl ?_
            exact J75 k4 hk4 (f_X3_clerkKinds_16 p0_width p0_size p0_N p0_cells k4 n) ih v1 v2 v3 v5 v4 0 hf
          · replace hf := ite_t hc_16 hf
            refine g_lv X (lv' := [(0, .ref h_p0), (1, .int v1), (2, .int v2), (3, .int v3), (5, .int v5)]) [0, 1, 2, 3, 5] rfl ?_
            exact J70 k4 hk4 (f_X3_clerkKinds_16 p0_width p0_size p0_N p0_cells k4 n) ih v1 v2 v3 v5 v4 hf
  have J4 : ∀ (n : Nat) (v1 : Int32) (v2 : Int32) (v3 : Int32), f_X3_clerkKinds_4 p0_width p0_size p0_N p0_cells n v1 v2 v3 = some res → G 0 0 (wd_X3_clerkKinds cI cZ h_p0 h_p0_cells p0_most p0_width p0_size p0_N p0_cells) [(0, .ref h_p0), (1, .int v1), (2, .int v2), (3, .int v3)] 4 [] := by
    intro n
    induction n with
    | zero => intro v1 v2 v3 hf; rw [f_X3_clerkKinds_4] at hf; cases hf
    | succ n ih =>
      intro v1 v2 v3 hf
      rw [f_X3_clerkKinds_4] at hf
      refine g_iload_n X dX3_clerkKinds_4 rfl 3 rfl ?_
      refine g_bipush (v := 6) X dX3_clerkKinds_5 (by decide) ?_
      refine g_icmp_ge (tgt := 105) X dX3_clerkKinds_7 (by decide) (fun hc_1 => ?_) (fun hc_1 => ?_)
      · replace hf := ite_t hc_1 hf
        refine g_iload_n X dX3_clerkKinds_105 rfl 2 rfl ?_
        exact hR _ _ _ _ dX3_clerkKinds_106 (kR_in (u := v2) hf)
      · replace hf := ite_f hc_1 hf
        refine g_iconst (v := 1) X dX3_clerkKinds_10 (by decide) ?_
        refine g_istore (lv' := [(0, .ref h_p0), (1, .int v1), (2, .int v2), (3, .int v3), (4, .int 1)]) X dX3_clerkKinds_11 (Nat.le_of_ble_eq_true rfl) [1, 2, 3, 4, 0] rfl ?_
        refine g_iconst (v := 0) X dX3_clerkKinds_13 (by decide) ?_
        refine g_istore (lv' := [(0, .ref h_p0), (1, .int v1), (2, .int v2), (3, .int v3), (4, .int 1), (5, .int 0)]) X dX3_clerkKinds_14 (Nat.le_of_ble_eq_true rfl) [1, 2, 3, 4, 5, 0] rfl ?_
        exact J16 (f_X3_clerkKinds_4 p0_width p0_size p0_N p0_cells n) ih FU v1 v2 v3 1 0 hf
  refine g_iconst (v := 0) X dX3_clerkKinds_0 (by decide) ?_
  refine g_istore_n (lv' := [(0, .ref h_p0), (1, .int v1), (2, .int 0)]) X dX3_clerkKinds_1 rfl (Nat.le_of_ble_eq_true rfl) [1, 2, 0] rfl ?_
  refine g_iconst (v := 0) X dX3_clerkKinds_2 (by decide) ?_
  refine g_istore_n (lv' := [(0, .ref h_p0), (1, .int v1), (2, .int 0), (3, .int 0)]) X dX3_clerkKinds_3 rfl (Nat.le_of_ble_eq_true rfl) [1, 2, 3, 0] rfl ?_
  exact J4 FU v1 0 0 hf
def wd_X3_mostAlike (cI cZ : ClassId) (h_t : Nat) (h_t_values : Nat) (t_values : (Nat → Int32)) : va_W := [(h_t, .inr (1, [.ref h_t_values])), (h_t_values, .inl (cI, 6, .inl t_values))]
abbrev rm_X3_mostAlike : Room := { frames := 1, cells := 0, slots := 0, locals := 21 }
theorem hv_X3_mostAlike : yX3_mostAlike.cls = RX3 ∧ yX3_mostAlike.cls ≠ "java/lang/invoke/MethodHandle" ∧ yX3_mostAlike.cls ≠ "java/lang/invoke/VarHandle" ∧ (parseMethodDescriptor yX3_mostAlike.desc).map (fun d => d.parameters.length) = some 1 := by decide +kernel
theorem lk_X3_mostAlike_iX11 : Cond.initialized RX11 ∈ wsX3_mostAlike := by decide +kernel
theorem lk_X3_mostAlike_sX11_hasBit : Cond.static yX11_hasBit ∈ wsX3_mostAlike := by decide +kernel
theorem iw_X3_mostAlike_X3 : ∀ w ∈ u_ws RX3 TX3 1, w ∈ wsX3_mostAlike := by decide +kernel
theorem lk_X3_mostAlike_9 : Cond.fieldLink RX3 9 "ClerkChains$Guess" "values" "[I" ∈ wsX3_mostAlike := by decide +kernel
theorem lk_X3_mostAlike_sX11_cell : Cond.static yX11_cell ∈ wsX3_mostAlike := by decide +kernel
theorem lk_X3_mostAlike_m51 : Cond.methodLink RX3 51 Lib.Math.max.name ∈ wsX3_mostAlike := by decide +kernel
theorem lk_X3_mostAlike_smax : Cond.static Lib.Math.max.name ∈ wsX3_mostAlike := by decide +kernel
theorem lk_X3_mostAlike_iMath : Cond.initialized "java/lang/Math" ∈ wsX3_mostAlike := by decide +kernel
theorem lk_X3_mostAlike_cmax : Cond.code Lib.Math.max.name Lib.Math.max.code 2 (some .int) ∈ wsX3_mostAlike := by decide +kernel
set_option maxHeartbeats 4000000 in
set_option maxRecDepth 100000 in
theorem c_X3_mostAlike (l : Launch) (D : va_G) (cI cZ : ClassId) (h_t : Nat) (h_t_values : Nat) (t_values : (Nat → Int32)) (v1 : Int32) (res : Int32) (hf : f_X3_mostAlike t_values v1 = some res) : MetR l yX3_mostAlike wsX3_mostAlike rm_X3_mostAlike D cI cZ none [.ref h_t, .int v1] (wd_X3_mostAlike cI cZ h_t h_t_values t_values) (kR res (fun u => some (.int u))) := by
  refine metR_of (cc := cX3_mostAlike) (maxL := 7) (ret := (some .int)) (own := RX3) (lv0 := [(0, .ref h_t), (1, .int v1)]) (by decide) rfl (Nat.le_of_ble_eq_true rfl) rfl rfl (fun G X hR => ?_)
  replace hR := rt_int hR
  unfold f_X3_mostAlike at hf
  have J79 : ∀ (k4 : Int32 → Int32 → Int32 → Option (Int32)) (hk4 : ∀ (v1 : Int32) (v2 : Int32) (v3 : Int32), k4 v1 v2 v3 = some res → G 0 0 (wd_X3_mostAlike cI cZ h_t h_t_values t_values) [(0, .ref h_t), (1, .int v1), (2, .int v2), (3, .int v3)] 4 []) (k16 : Int32 → Int32 → Int32 → Int32 → Int32 → Option (Int32)) (hk16 : ∀ (v1 : Int32) (v2 : Int32) (v3 : Int32) (v4 : Int32) (v5 : Int32), k16 v1 v2 v3 v4 v5 = some res → G 0 0 (wd_X3_mostAlike cI cZ h_t h_t_values t_values) [(0, .ref h_t), (1, .int v1), (2, .int v2), (3, .int v3), (4, .int v4), (5, .int v5)] 16 []) (v1 : Int32) (v2 : Int32) (v3 : Int32) (v5 : Int32) (s0 : Int32) (s1 : Int32), f_X3_mostAlike_79 t_values k4 k16 v1 v2 v3 v5 s0 s1 = some res → G 0 0 (wd_X3_mostAlike cI cZ h_t h_t_values t_values) [(0, .ref h_t), (1, .int v1), (2, .int v2), (3, .int v3), (5, .int v5)] 79 [.int s1, .int s0] := by
    intro k4 hk4 k16 hk16 v1 v2 v3 v5 s0 s1 hf
    unfold f_X3_mostAlike_79 at hf
    refine g_iadd X dX3_mostAlike_79 ?_
    obtain ⟨v4_15, ev4_15, hf⟩ := bnd_out hf
    refine g_nmI X ev4_15 ?_
    refine g_istore (lv' := [(0, .ref h_t), (1, .int v1), (2, .int v2), (3, .int v3), (4, .int v4_15), (5, .int v5)]) X dX3_mostAlike_80 (Nat.le_of_ble_eq_true rfl) [1, 2, 3, 4, 0, 5] rfl ?_
    obtain ⟨v5_16, ev5_16, hf⟩ := bnd_out hf
    refine g_iinc (v := v5_16) (lv' := [(0, .ref h_t), (1, .int v1), (2, .int v2), (3, .int v3), (4, .int v4_15), (5, .int v5_16)]) X dX3_mostAlike_82 5 rfl (by rw [ev5_16]; rfl) (Nat.le_of_ble_eq_true rfl) [1, 2, 3, 4, 5, 0] rfl ?_
    refine g_goto (tgt := 16) X dX3_mostAlike_85 (by decide) ?_
    exact hk16 v1 v2 v3 v4_15 v5_16 hf
  have J65 : ∀ (k4 : Int32 → Int32 → Int32 → Option (Int32)) (hk4 : ∀ (v1 : Int32) (v2 : Int32) (v3 : Int32), k4 v1 v2 v3 = some res → G 0 0 (wd_X3_mostAlike cI cZ h_t h_t_values t_values) [(0, .ref h_t), (1, .int v1), (2, .int v2), (3, .int v3)] 4 []) (k16 : Int32 → Int32 → Int32 → Int32 → Int32 → Option (Int32)) (hk16 : ∀ (v1 : Int32) (v2 : Int32) (v3 : Int32) (v4 : Int32) (v5 : Int32), k16 v1 v2 v3 v4 v5 = some res → G 0 0 (wd_X3_mostAlike cI cZ h_t h_t_values t_values) [(0, .ref h_t), (1, .int v1), (2, .int v2), (3, .int v3), (4, .int v4), (5, .int v5)] 16 []) (v1 : Int32) (v2 : Int32) (v3 : Int32) (v4 : Int32) (v5 : Int32) (s0 : Int32), f_X3_mostAlike_65 t_values k4 k16 v1 v2 v3 v4 v5 s0 = some res → G 0 0 (wd_X3_mostAlike cI cZ h_t h_t_values t_values) [(0, .ref h_t), (1, .int v1), (2, .int v2), (3, .int v3), (4, .int v4), (5, .int v5)] 65 [.int s0] := by
    intro k4 hk4 k16 hk16 v1 v2 v3 v4 v5 s0 hf
    unfold f_X3_mostAlike_65 at hf
    refine g_istore (lv' := [(0, .ref h_t), (1, .int v1), (2, .int v2), (3, .int v3), (4, .int v4), (5, .int v5), (6, .int s0)]) X dX3_mostAlike_65 (Nat.le_of_ble_eq_true rfl) [1, 2, 3, 4, 5, 6, 0] rfl ?_
    refine g_iload X dX3_mostAlike_67 4 rfl ?_
    refine g_iload X dX3_mostAlike_69 6 rfl ?_
    refine g_if_eq (tgt := 78) X dX3_mostAlike_71 (by decide) (fun hc_14 => ?_) (fun hc_14 => ?_)
    · replace hf := ite_t hc_14 hf
      refine g_iconst (v := 0) X dX3_mostAlike_78 (by decide) ?_
      refine g_lv X (lv' := [(0, .ref h_t), (1, .int v1), (2, .int v2), (3, .int v3), (5, .int v5)]) [0, 1, 2, 3, 5] rfl ?_
      exact J79 k4 hk4 k16 hk16 v1 v2 v3 v5 v4 0 hf
    · replace hf := ite_f hc_14 hf
      refine g_iconst (v := 1) X dX3_mostAlike_74 (by decide) ?_
      refine g_goto (tgt := 79) X dX3_mostAlike_75 (by decide) ?_
      refine g_lv X (lv' := [(0, .ref h_t), (1, .int v1), (2, .int v2), (3, .int v3), (5, .int v5)]) [0, 1, 2, 3, 5] rfl ?_
      exact J79 k4 hk4 k16 hk16 v1 v2 v3 v5 v4 1 hf
  have J64 : ∀ (k4 : Int32 → Int32 → Int32 → Option (Int32)) (hk4 : ∀ (v1 : Int32) (v2 : Int32) (v3 : Int32), k4 v1 v2 v3 = some res → G 0 0 (wd_X3_mostAlike cI cZ h_t h_t_values t_values) [(0, .ref h_t), (1, .int v1), (2, .int v2), (3, .int v3)] 4 []) (k16 : Int32 → Int32 → Int32 → Int32 → Int32 → Option (Int32)) (hk16 : ∀ (v1 : Int32) (v2 : Int32) (v3 : Int32) (v4 : Int32) (v5 : Int32), k16 v1 v2 v3 v4 v5 = some res → G 0 0 (wd_X3_mostAlike cI cZ h_t h_t_values t_values) [(0, .ref h_t), (1, .int v1), (2, .int v2), (3, .int v3), (4, .int v4), (5, .int v5)] 16 []) (v1 : Int32) (v2 : Int32) (v3 : Int32) (v4 : Int32) (v5 : Int32), f_X3_mostAlike_64 t_values k4 k16 v1 v2 v3 v4 v5 = some res → G 0 0 (wd_X3_mostAlike cI cZ h_t h_t_values t_values) [(0, .ref h_t), (1, .int v1), (2, .int v2), (3, .int v3), (4, .int v4), (5, .int v5)] 64 [] := by
    intro k4 hk4 k16 hk16 v1 v2 v3 v4 v5 hf
    unfold f_X3_mostAlike_64 at hf
    refine g_iconst (v := 0) X dX3_mostAlike_64 (by decide) ?_
    exact J65 k4 hk4 k16 hk16 v1 v2 v3 v4 v5 0 hf
  have J88 : ∀ (k4 : Int32 → Int32 → Int32 → Option (Int32)) (hk4 : ∀ (v1 : Int32) (v2 : Int32) (v3 : Int32), k4 v1 v2 v3 = some res → G 0 0 (wd_X3_mostAlike cI cZ h_t h_t_values t_values) [(0, .ref h_t), (1, .int v1), (2, .int v2), (3, .int v3)] 4 []) (v1 : Int32) (v2 : Int32) (v3 : Int32) (v4 : Int32), f_X3_mostAlike_88 t_values k4 v1 v2 v3 v4 = some res → G 0 0 (wd_X3_mostAlike cI cZ h_t h_t_values t_values) [(0, .ref h_t), (1, .int v1), (2, .int v2), (3, .int v3), (4, .int v4)] 88 [] := by
    intro k4 hk4 v1 v2 v3 v4 hf
    unfold f_X3_mostAlike_88 at hf
    refine g_iload_n X dX3_mostAlike_88 rfl 2 rfl ?_
    refine g_iload X dX3_mostAlike_89 4 rfl ?_
    refine g_mmax X lk_X3_mostAlike_m51 lk_X3_mostAlike_smax lk_X3_mostAlike_iMath lk_X3_mostAlike_cmax dX3_mostAlike_91 (Nat.le_of_ble_eq_true rfl) (Nat.le_of_ble_eq_true rfl) (Nat.zero_le _) (Nat.zero_le _) ?_
    obtain ⟨v2_17, ev2_17, hf⟩ := bnd_out hf
    refine g_nmI X ev2_17 ?_
    refine g_istore_n (lv' := [(0, .ref h_t), (1, .int v1), (2, .int v2_17), (3, .int v3), (4, .int v4)]) X dX3_mostAlike_94 rfl (Nat.le_of_ble_eq_true rfl) [1, 2, 0, 3, 4] rfl ?_
    obtain ⟨v3_18, ev3_18, hf⟩ := bnd_out hf
    refine g_iinc (v := v3_18) (lv' := [(0, .ref h_t), (1, .int v1), (2, .int v2_17), (3, .int v3_18), (4, .int v4)]) X dX3_mostAlike_95 3 rfl (by rw [ev3_18]; rfl) (Nat.le_of_ble_eq_true rfl) [1, 2, 3, 0, 4] rfl ?_
    refine g_goto (tgt := 4) X dX3_mostAlike_98 (by decide) ?_
    refine g_lv X (lv' := [(0, .ref h_t), (1, .int v1), (2, .int v2_17), (3, .int v3_18)]) [0, 1, 2, 3] rfl ?_
    exact hk4 v1 v2_17 v3_18 hf
  have J16 : ∀ (k4 : Int32 → Int32 → Int32 → Option (Int32)) (hk4 : ∀ (v1 : Int32) (v2 : Int32) (v3 : Int32), k4 v1 v2 v3 = some res → G 0 0 (wd_X3_mostAlike cI cZ h_t h_t_values t_values) [(0, .ref h_t), (1, .int v1), (2, .int v2), (3, .int v3)] 4 []) (n : Nat) (v1 : Int32) (v2 : Int32) (v3 : Int32) (v4 : Int32) (v5 : Int32), f_X3_mostAlike_16 t_values k4 n v1 v2 v3 v4 v5 = some res → G 0 0 (wd_X3_mostAlike cI cZ h_t h_t_values t_values) [(0, .ref h_t), (1, .int v1), (2, .int v2), (3, .int v3), (4, .int v4), (5, .int v5)] 16 [] := by
    intro k4 hk4 n
    induction n with
    | zero => intro v1 v2 v3 v4 v5 hf; rw [f_X3_mostAlike_16] at hf; cases hf
    | succ n ih =>
      intro v1 v2 v3 v4 v5 hf
      rw [f_X3_mostAlike_16] at hf
      refine g_iload X dX3_mostAlike_16 5 rfl ?_
      refine g_bipush (v := 6) X dX3_mostAlike_18 (by decide) ?_
      refine g_icmp_ge (tgt := 88) X dX3_mostAlike_20 (by decide) (fun hc_2 => ?_) (fun hc_2 => ?_)
      · replace hf := ite_t hc_2 hf
        refine g_lv X (lv' := [(0, .ref h_t), (1, .int v1), (2, .int v2), (3, .int v3), (4, .int v4)]) [0, 1, 2, 3, 4] rfl ?_
        exact J88 k4 hk4 v1 v2 v3 v4 hf
      · replace hf := ite_f hc_2 hf
        refine g_iload_n X dX3_mostAlike_23 rfl 1 rfl ?_
        refine g_iload_n X dX3_mostAlike_24 rfl 3 rfl ?_
        obtain ⟨r_3, hk_4, hf⟩ := ob1_out hf
        refine g_cNR (st := []) (st1 := [.int r_3]) X (c_X11_hasBit l D cI cZ v1 v3 _ hk_4) (Or.inl rfl) 2 gX3_mostAlike_X11_hasBit_n43 (by decide +kernel) lk_X3_mostAlike_iX11 lk_X3_mostAlike_sX11_hasBit rfl hs_X11_hasBit ⟨Nat.le_of_ble_eq_true rfl, Nat.le_of_ble_eq_true rfl⟩ rfl rfl (Nat.le_of_ble_eq_true rfl) ⟨rfl, rfl⟩ (Nat.zero_le _) (Nat.zero_le _) dX3_mostAlike_25 [] rfl rfl rfl ?_
        refine g_if_eq (tgt := 88) X dX3_mostAlike_28 (by decide) (fun hc_5 => ?_) (fun hc_5 => ?_)
        · replace hf := ite_t hc_5 hf
          refine g_lv X (lv' := [(0, .ref h_t), (1, .int v1), (2, .int v2), (3, .int v3), (4, .int v4)]) [0, 1, 2, 3, 4] rfl ?_
          exact J88 k4 hk4 v1 v2 v3 v4 hf
        · replace hf := ite_f hc_5 hf
          refine g_iload_n X dX3_mostAlike_31 rfl 1 rfl ?_
          refine g_iload X dX3_mostAlike_32 5 rfl ?_
          obtain ⟨r_6, hk_7, hf⟩ := ob1_out hf
          refine g_cNR (st := []) (st1 := [.int r_6]) X (c_X11_hasBit l D cI cZ v1 v5 _ hk_7) (Or.inl rfl) 2 gX3_mostAlike_X11_hasBit_n43 (by decide +kernel) lk_X3_mostAlike_iX11 lk_X3_mostAlike_sX11_hasBit rfl hs_X11_hasBit ⟨Nat.le_of_ble_eq_true rfl, Nat.le_of_ble_eq_true rfl⟩ rfl rfl (Nat.le_of_ble_eq_true rfl) ⟨rfl, rfl⟩ (Nat.zero_le _) (Nat.zero_le _) dX3_mostAlike_34 [] rfl rfl rfl ?_
          refine g_if_eq (tgt := 64) X dX3_mostAlike_37 (by decide) (fun hc_8 => ?_) (fun hc_8 => ?_)
          · replace hf := ite_t hc_8 hf
            exact J64 k4 hk4 (f_X3_mostAlike_16 t_values k4 n) ih v1 v2 v3 v4 v5 hf
          · replace hf := ite_f hc_8 hf
            refine g_aload_n X dX3_mostAlike_40 rfl 0 rfl ?_
            refine g_get (C := RX3) (T := TX3) (N := 1) (ci := 1) (v := (.ref h_t_values)) X iw_X3_mostAlike_X3 0 rfl rfl 0 (by decide) lk_X3_mostAlike_9 rfl dX3_mostAlike_41 ?_
            refine g_iload_n X dX3_mostAlike_44 rfl 3 rfl ?_
            obtain ⟨r_9, hk_10, hf⟩ := ob1_out hf
            refine g_cNR (st := []) (st1 := [.int r_9]) X (c_X11_cell l D cI cZ h_t_values 6 t_values v3 _ hk_10) (Or.inl rfl) 2 gX3_mostAlike_X11_cell_n47 (by decide +kernel) lk_X3_mostAlike_iX11 lk_X3_mostAlike_sX11_cell rfl hs_X11_cell ⟨Nat.le_of_ble_eq_true rfl, Nat.le_of_ble_eq_true rfl⟩ rfl rfl (Nat.le_of_ble_eq_true rfl) ⟨rfl, rfl⟩ (Nat.zero_le _) (Nat.zero_le _) dX3_mostAlike_45 [1] rfl rfl rfl ?_
            refine g_aload_n X dX3_mostAlike_48 rfl 0 rfl ?_
            refine g_get (C := RX3) (T := TX3) (N := 1) (ci := 1) (v := (.ref h_t_values)) X iw_X3_mostAlike_X3 0 rfl rfl 0 (by decide) lk_X3_mostAlike_9 rfl dX3_mostAlike_49 ?_
            refine g_iload X dX3_mostAlike_52 5 rfl ?_
            obtain ⟨r_11, hk_12, hf⟩ := ob1_out hf
            refine g_cNR (st := [.int r_9]) (st1 := [.int r_11, .int r_9]) X (c_X11_cell l D cI cZ h_t_values 6 t_values v5 _ hk_12) (Or.inl rfl) 2 gX3_mostAlike_X11_cell_n47 (by decide +kernel) lk_X3_mostAlike_iX11 lk_X3_mostAlike_sX11_cell rfl hs_X11_cell ⟨Nat.le_of_ble_eq_true rfl, Nat.le_of_ble_eq_true rfl⟩ rfl rfl (Nat.le_of_ble_eq_true rfl) ⟨rfl, rfl⟩ (Nat.zero_le _) (Nat.zero_le _) dX3_mostAlike_54 [1] rfl rfl rfl ?_
            refine g_icmp_ne (tgt := 64) X dX3_mostAlike_57 (by decide) (fun hc_13 => ?_) (fun hc_13 => ?_)
            · replace hf := ite_f hc_13 hf
              exact J64 k4 hk4 (f_X3_mostAlike_16 t_values k4 n) ih v1 v2 v3 v4 v5 hf
            · replace hf := ite_t hc_13 hf
              refine g_iconst (v := 1) X dX3_mostAlike_60 (by decide) ?_
              refine g_goto (tgt := 65) X dX3_mostAlike_61 (by decide) ?_
              exact J65 k4 hk4 (f_X3_mostAlike_16 t_values k4 n) ih v1 v2 v3 v4 v5 1 hf
  have J4 : ∀ (n : Nat) (v1 : Int32) (v2 : Int32) (v3 : Int32), f_X3_mostAlike_4 t_values n v1 v2 v3 = some res → G 0 0 (wd_X3_mostAlike cI cZ h_t h_t_values t_values) [(0, .ref h_t), (1, .int v1), (2, .int v2), (3, .int v3)] 4 [] := by
    intro n
    induction n with
    | zero => intro v1 v2 v3 hf; rw [f_X3_mostAlike_4] at hf; cases hf
    | succ n ih =>
      intro v1 v2 v3 hf
      rw [f_X3_mostAlike_4] at hf
      refine g_iload_n X dX3_mostAlike_4 rfl 3 rfl ?_
      refine g_bipush (v := 6) X dX3_mostAlike_5 (by decide) ?_
      refine g_icmp_ge (tgt := 101) X dX3_mostAlike_7 (by decide) (fun hc_1 => ?_) (fun hc_1 => ?_)
      · replace hf := ite_t hc_1 hf
        refine g_iload_n X dX3_mostAlike_101 rfl 2 rfl ?_
        exact hR _ _ _ _ dX3_mostAlike_102 (kR_in (u := v2) hf)
      · replace hf := ite_f hc_1 hf
        refine g_iconst (v := 0) X dX3_mostAlike_10 (by decide) ?_
        refine g_istore (lv' := [(0, .ref h_t), (1, .int v1), (2, .int v2), (3, .int v3), (4, .int 0)]) X dX3_mostAlike_11 (Nat.le_of_ble_eq_true rfl) [1, 2, 3, 4, 0] rfl ?_
        refine g_iconst (v := 0) X dX3_mostAlike_13 (by decide) ?_
        refine g_istore (lv' := [(0, .ref h_t), (1, .int v1), (2, .int v2), (3, .int v3), (4, .int 0), (5, .int 0)]) X dX3_mostAlike_14 (Nat.le_of_ble_eq_true rfl) [1, 2, 3, 4, 5, 0] rfl ?_
        exact J16 (f_X3_mostAlike_4 t_values n) ih FU v1 v2 v3 0 0 hf
  refine g_iconst (v := 0) X dX3_mostAlike_0 (by decide) ?_
  refine g_istore_n (lv' := [(0, .ref h_t), (1, .int v1), (2, .int 0)]) X dX3_mostAlike_1 rfl (Nat.le_of_ble_eq_true rfl) [1, 2, 0] rfl ?_
  refine g_iconst (v := 0) X dX3_mostAlike_2 (by decide) ?_
  refine g_istore_n (lv' := [(0, .ref h_t), (1, .int v1), (2, .int 0), (3, .int 0)]) X dX3_mostAlike_3 rfl (Nat.le_of_ble_eq_true rfl) [1, 2, 3, 0] rfl ?_
  exact J4 FU v1 0 0 hf
def wd_X3_nextLook (cI cZ : ClassId) (h_t : Nat) (h_t_values : Nat) (t_values : (Nat → Int32)) : va_W := [(h_t, .inr (1, [.ref h_t_values])), (h_t_values, .inl (cI, 6, .inl t_values))]
abbrev rm_X3_nextLook : Room := { frames := 2, cells := 0, slots := 0, locals := 47 }
theorem hv_X3_nextLook : yX3_nextLook.cls = RX3 ∧ yX3_nextLook.cls ≠ "java/lang/invoke/MethodHandle" ∧ yX3_nextLook.cls ≠ "java/lang/invoke/VarHandle" ∧ (parseMethodDescriptor yX3_nextLook.desc).map (fun d => d.parameters.length) = some 1 := by decide +kernel
theorem iw_X3_nextLook_X3 : ∀ w ∈ u_ws RX3 TX3 1, w ∈ wsX3_nextLook := by decide +kernel
theorem lk_X3_nextLook_9 : Cond.fieldLink RX3 9 "ClerkChains$Guess" "values" "[I" ∈ wsX3_nextLook := by decide +kernel
theorem lk_X3_nextLook_iX11 : Cond.initialized RX11 ∈ wsX3_nextLook := by decide +kernel
theorem lk_X3_nextLook_sX11_setCell : Cond.static yX11_setCell ∈ wsX3_nextLook := by decide +kernel
set_option maxHeartbeats 4000000 in
set_option maxRecDepth 100000 in
theorem c_X3_nextLook (l : Launch) (D : va_G) (cI cZ : ClassId) (h_t : Nat) (h_t_values : Nat) (t_values : (Nat → Int32)) (v1 : Int32) (res : Int32 × (Nat → Int32)) (hf : f_X3_nextLook t_values v1 = some res) : MetG l yX3_nextLook wsX3_nextLook rm_X3_nextLook D cI cZ none [.ref h_t, .int v1] (wd_X3_nextLook cI cZ h_t h_t_values t_values) (kV res (fun u => some (.int u.1)) (fun u => (wd_X3_nextLook cI cZ h_t h_t_values (u.2)))) := by
  refine metG_of (cc := cX3_nextLook) (maxL := 7) (ret := (some .int)) (own := RX3) (lv0 := [(0, .ref h_t), (1, .int v1)]) (ini := false) (by decide) rfl (Nat.le_of_ble_eq_true rfl) rfl rfl (fun h => by cases h) (fun G X hR => ?_)
  replace hR := rt_int hR
  unfold f_X3_nextLook at hf
  have J92 : ∀ (k16 : (Nat → Int32) → Int32 → Int32 → Int32 → Int32 → Option (Int32 × (Nat → Int32))) (hk16 : ∀ (t_values : (Nat → Int32)) (v1 : Int32) (v2 : Int32) (v3 : Int32) (v4 : Int32), k16 t_values v1 v2 v3 v4 = some res → G 0 0 (wd_X3_nextLook cI cZ h_t h_t_values t_values) [(0, .ref h_t), (1, .int v1), (2, .int v2), (3, .int v3), (4, .int v4)] 16 []) (k26 : (Nat → Int32) → Int32 → Int32 → Int32 → Int32 → Int32 → Option (Int32 × (Nat → Int32))) (hk26 : ∀ (t_values : (Nat → Int32)) (v1 : Int32) (v2 : Int32) (v3 : Int32) (v4 : Int32) (v5 : Int32), k26 t_values v1 v2 v3 v4 v5 = some res → G 0 0 (wd_X3_nextLook cI cZ h_t h_t_values t_values) [(0, .ref h_t), (1, .int v1), (2, .int v2), (3, .int v3), (4, .int v4), (5, .int v5)] 26 []) (t_values : (Nat → Int32)) (v1 : Int32) (v2 : Int32) (v3 : Int32) (v4 : Int32) (v5 : Int32), f_X3_nextLook_92 k16 k26 t_values v1 v2 v3 v4 v5 = some res → G 0 0 (wd_X3_nextLook cI cZ h_t h_t_values t_values) [(0, .ref h_t), (1, .int v1), (2, .int v2), (3, .int v3), (4, .int v4), (5, .int v5)] 92 [] := by
    intro k16 hk16 k26 hk26 t_values v1 v2 v3 v4 v5 hf
    unfold f_X3_nextLook_92 at hf
    obtain ⟨v5_13, ev5_13, hf⟩ := bnd_out hf
    refine g_iinc (v := v5_13) (lv' := [(0, .ref h_t), (1, .int v1), (2, .int v2), (3, .int v3), (4, .int v4), (5, .int v5_13)]) X dX3_nextLook_92 5 rfl (by rw [ev5_13]; rfl) (Nat.le_of_ble_eq_true rfl) [1, 2, 3, 4, 5, 0] rfl ?_
    refine g_goto (tgt := 26) X dX3_nextLook_95 (by decide) ?_
    exact hk26 t_values v1 v2 v3 v4 v5_13 hf
  have J67 : ∀ (k16 : (Nat → Int32) → Int32 → Int32 → Int32 → Int32 → Option (Int32 × (Nat → Int32))) (hk16 : ∀ (t_values : (Nat → Int32)) (v1 : Int32) (v2 : Int32) (v3 : Int32) (v4 : Int32), k16 t_values v1 v2 v3 v4 = some res → G 0 0 (wd_X3_nextLook cI cZ h_t h_t_values t_values) [(0, .ref h_t), (1, .int v1), (2, .int v2), (3, .int v3), (4, .int v4)] 16 []) (k26 : (Nat → Int32) → Int32 → Int32 → Int32 → Int32 → Int32 → Option (Int32 × (Nat → Int32))) (hk26 : ∀ (t_values : (Nat → Int32)) (v1 : Int32) (v2 : Int32) (v3 : Int32) (v4 : Int32) (v5 : Int32), k26 t_values v1 v2 v3 v4 v5 = some res → G 0 0 (wd_X3_nextLook cI cZ h_t h_t_values t_values) [(0, .ref h_t), (1, .int v1), (2, .int v2), (3, .int v3), (4, .int v4), (5, .int v5)] 26 []) (t_values : (Nat → Int32)) (v1 : Int32) (v2 : Int32) (v3 : Int32) (v4 : Int32) (v5 : Int32), f_X3_nextLook_67 k16 k26 t_values v1 v2 v3 v4 v5 = some res → G 0 0 (wd_X3_nextLook cI cZ h_t h_t_values t_values) [(0, .ref h_t), (1, .int v1), (2, .int v2), (3, .int v3), (4, .int v4), (5, .int v5)] 67 [] := by
    intro k16 hk16 k26 hk26 t_values v1 v2 v3 v4 v5 hf
    unfold f_X3_nextLook_67 at hf
    refine g_aload_n X dX3_nextLook_67 rfl 0 rfl ?_
    refine g_iload_n X dX3_nextLook_68 rfl 1 rfl ?_
    obtain ⟨r_9, hk_10, hf⟩ := ob1_out hf
    refine g_cVR (st := []) (st1 := [.int r_9]) (C := RX3) (ci := 1) (q0 := 0) X (c_X3_mostAlike l D cI cZ h_t h_t_values t_values v1 _ hk_10) (Or.inl rfl) 1 gX3_nextLook_X3_mostAlike rfl hv_X3_mostAlike ⟨Nat.le_of_ble_eq_true rfl, Nat.le_of_ble_eq_true rfl⟩ rfl rfl (Nat.le_of_ble_eq_true rfl) ⟨rfl, rfl⟩ (Nat.zero_le _) (Nat.zero_le _) rfl rfl rfl dX3_nextLook_69 [0, 1] rfl rfl rfl ?_
    refine g_istore (lv' := [(0, .ref h_t), (1, .int v1), (2, .int v2), (3, .int v3), (4, .int v4), (5, .int v5), (6, .int r_9)]) X dX3_nextLook_72 (Nat.le_of_ble_eq_true rfl) [1, 2, 3, 4, 5, 6, 0] rfl ?_
    refine g_iload X dX3_nextLook_74 6 rfl ?_
    refine g_iload_n X dX3_nextLook_76 rfl 3 rfl ?_
    refine g_icmp_ge (tgt := 92) X dX3_nextLook_77 (by decide) (fun hc_11 => ?_) (fun hc_11 => ?_)
    · replace hf := ite_t hc_11 hf
      refine g_lv X (lv' := [(0, .ref h_t), (1, .int v1), (2, .int v2), (3, .int v3), (4, .int v4), (5, .int v5)]) [0, 1, 2, 3, 4, 5] rfl ?_
      exact J92 k16 hk16 k26 hk26 t_values v1 v2 v3 v4 v5 hf
    · replace hf := ite_f hc_11 hf
      refine g_iload X dX3_nextLook_80 6 rfl ?_
      refine g_istore_n (lv' := [(0, .ref h_t), (1, .int v1), (2, .int v2), (3, .int r_9), (4, .int v4), (5, .int v5), (6, .int r_9)]) X dX3_nextLook_82 rfl (Nat.le_of_ble_eq_true rfl) [1, 2, 3, 0, 4, 5, 6] rfl ?_
      refine g_bipush (v := 10) X dX3_nextLook_83 (by decide) ?_
      refine g_iload X dX3_nextLook_85 4 rfl ?_
      refine g_imul X dX3_nextLook_87 ?_
      refine g_iload X dX3_nextLook_88 5 rfl ?_
      refine g_iadd X dX3_nextLook_90 ?_
      obtain ⟨v2_12, ev2_12, hf⟩ := bnd_out hf
      refine g_nmI X ev2_12 ?_
      refine g_istore_n (lv' := [(0, .ref h_t), (1, .int v1), (2, .int v2_12), (3, .int r_9), (4, .int v4), (5, .int v5), (6, .int r_9)]) X dX3_nextLook_91 rfl (Nat.le_of_ble_eq_true rfl) [1, 2, 0, 3, 4, 5, 6] rfl ?_
      refine g_lv X (lv' := [(0, .ref h_t), (1, .int v1), (2, .int v2_12), (3, .int r_9), (4, .int v4), (5, .int v5)]) [0, 1, 2, 3, 4, 5] rfl ?_
      exact J92 k16 hk16 k26 hk26 t_values v1 v2_12 r_9 v4 v5 hf
  have J36 : ∀ (k16 : (Nat → Int32) → Int32 → Int32 → Int32 → Int32 → Option (Int32 × (Nat → Int32))) (hk16 : ∀ (t_values : (Nat → Int32)) (v1 : Int32) (v2 : Int32) (v3 : Int32) (v4 : Int32), k16 t_values v1 v2 v3 v4 = some res → G 0 0 (wd_X3_nextLook cI cZ h_t h_t_values t_values) [(0, .ref h_t), (1, .int v1), (2, .int v2), (3, .int v3), (4, .int v4)] 16 []) (k26 : (Nat → Int32) → Int32 → Int32 → Int32 → Int32 → Int32 → Option (Int32 × (Nat → Int32))) (hk26 : ∀ (t_values : (Nat → Int32)) (v1 : Int32) (v2 : Int32) (v3 : Int32) (v4 : Int32) (v5 : Int32), k26 t_values v1 v2 v3 v4 v5 = some res → G 0 0 (wd_X3_nextLook cI cZ h_t h_t_values t_values) [(0, .ref h_t), (1, .int v1), (2, .int v2), (3, .int v3), (4, .int v4), (5, .int v5)] 26 []) (n : Nat) (t_values : (Nat → Int32)) (v1 : Int32) (v2 : Int32) (v3 : Int32) (v4 : Int32) (v5 : Int32) (v6 : Int32), f_X3_nextLook_36 k16 k26 n t_values v1 v2 v3 v4 v5 v6 = some res → G 0 0 (wd_X3_nextLook cI cZ h_t h_t_values t_values) [(0, .ref h_t), (1, .int v1), (2, .int v2), (3, .int v3), (4, .int v4), (5, .int v5), (6, .int v6)] 36 [] := by
    intro k16 hk16 k26 hk26 n
    induction n with
    | zero => intro t_values v1 v2 v3 v4 v5 v6 hf; rw [f_X3_nextLook_36] at hf; cases hf
    | succ n ih =>
      intro t_values v1 v2 v3 v4 v5 v6 hf
      rw [f_X3_nextLook_36] at hf
      refine g_iload X dX3_nextLook_36 6 rfl ?_
      refine g_bipush (v := 6) X dX3_nextLook_38 (by decide) ?_
      refine g_icmp_ge (tgt := 67) X dX3_nextLook_40 (by decide) (fun hc_3 => ?_) (fun hc_3 => ?_)
      · replace hf := ite_t hc_3 hf
        refine g_lv X (lv' := [(0, .ref h_t), (1, .int v1), (2, .int v2), (3, .int v3), (4, .int v4), (5, .int v5)]) [0, 1, 2, 3, 4, 5] rfl ?_
        exact J67 k16 hk16 k26 hk26 t_values v1 v2 v3 v4 v5 hf
      · replace hf := ite_f hc_3 hf
        refine g_aload_n X dX3_nextLook_43 rfl 0 rfl ?_
        refine g_get (C := RX3) (T := TX3) (N := 1) (ci := 1) (v := (.ref h_t_values)) X iw_X3_nextLook_X3 0 rfl rfl 0 (by decide) lk_X3_nextLook_9 rfl dX3_nextLook_44 ?_
        refine g_iload X dX3_nextLook_47 6 rfl ?_
        refine g_iload X dX3_nextLook_49 6 rfl ?_
        refine g_iload X dX3_nextLook_51 4 rfl ?_
        refine g_iload X dX3_nextLook_53 5 rfl ?_
        obtain ⟨r_4, hk_5, hf⟩ := ob1_out hf
        refine g_cSR (st := [.int v6, .ref h_t_values]) (st1 := [.int r_4, .int v6, .ref h_t_values]) X (c_X4_letsGo l D cI cZ v6 v4 v5 _ hk_5) (Or.inl rfl) 3 gX3_nextLook_X4_letsGo rfl hs_X4_letsGo ⟨Nat.le_of_ble_eq_true rfl, Nat.le_of_ble_eq_true rfl⟩ rfl rfl (Nat.le_of_ble_eq_true rfl) ⟨rfl, rfl⟩ (Nat.zero_le _) (Nat.zero_le _) dX3_nextLook_55 [] rfl rfl rfl ?_
        obtain ⟨t_values_6, hk_7, hf⟩ := ob1_out hf
        refine g_cNW (st := []) (st1 := []) (ws' := (wd_X3_nextLook cI cZ h_t h_t_values t_values_6)) X (c_X11_setCell l D cI cZ h_t_values 6 t_values v6 r_4 _ hk_7) (Or.inl rfl) 3 gX3_nextLook_X11_setCell_n35 (by decide +kernel) lk_X3_nextLook_iX11 lk_X3_nextLook_sX11_setCell rfl hs_X11_setCell ⟨Nat.le_of_ble_eq_true rfl, Nat.le_of_ble_eq_true rfl⟩ rfl rfl (Nat.le_of_ble_eq_true rfl) ⟨rfl, rfl⟩ (Nat.zero_le _) (Nat.zero_le _) dX3_nextLook_58 [1] rfl rfl [0] rfl rfl (by decide) [0, 1] rfl rfl rfl ?_
        obtain ⟨v6_8, ev6_8, hf⟩ := bnd_out hf
        refine g_iinc (v := v6_8) (lv' := [(0, .ref h_t), (1, .int v1), (2, .int v2), (3, .int v3), (4, .int v4), (5, .int v5), (6, .int v6_8)]) X dX3_nextLook_61 6 rfl (by rw [ev6_8]; rfl) (Nat.le_of_ble_eq_true rfl) [1, 2, 3, 4, 5, 6, 0] rfl ?_
        refine g_goto (tgt := 36) X dX3_nextLook_64 (by decide) ?_
        exact ih t_values_6 v1 v2 v3 v4 v5 v6_8 hf
  have J98 : ∀ (k16 : (Nat → Int32) → Int32 → Int32 → Int32 → Int32 → Option (Int32 × (Nat → Int32))) (hk16 : ∀ (t_values : (Nat → Int32)) (v1 : Int32) (v2 : Int32) (v3 : Int32) (v4 : Int32), k16 t_values v1 v2 v3 v4 = some res → G 0 0 (wd_X3_nextLook cI cZ h_t h_t_values t_values) [(0, .ref h_t), (1, .int v1), (2, .int v2), (3, .int v3), (4, .int v4)] 16 []) (t_values : (Nat → Int32)) (v1 : Int32) (v2 : Int32) (v3 : Int32) (v4 : Int32), f_X3_nextLook_98 k16 t_values v1 v2 v3 v4 = some res → G 0 0 (wd_X3_nextLook cI cZ h_t h_t_values t_values) [(0, .ref h_t), (1, .int v1), (2, .int v2), (3, .int v3), (4, .int v4)] 98 [] := by
    intro k16 hk16 t_values v1 v2 v3 v4 hf
    unfold f_X3_nextLook_98 at hf
    obtain ⟨v4_14, ev4_14, hf⟩ := bnd_out hf
    refine g_iinc (v := v4_14) (lv' := [(0, .ref h_t), (1, .int v1), (2, .int v2), (3, .int v3), (4, .int v4_14)]) X dX3_nextLook_98 4 rfl (by rw [ev4_14]; rfl) (Nat.le_of_ble_eq_true rfl) [1, 2, 3, 4, 0] rfl ?_
    refine g_goto (tgt := 16) X dX3_nextLook_101 (by decide) ?_
    exact hk16 t_values v1 v2 v3 v4_14 hf
  have J26 : ∀ (k16 : (Nat → Int32) → Int32 → Int32 → Int32 → Int32 → Option (Int32 × (Nat → Int32))) (hk16 : ∀ (t_values : (Nat → Int32)) (v1 : Int32) (v2 : Int32) (v3 : Int32) (v4 : Int32), k16 t_values v1 v2 v3 v4 = some res → G 0 0 (wd_X3_nextLook cI cZ h_t h_t_values t_values) [(0, .ref h_t), (1, .int v1), (2, .int v2), (3, .int v3), (4, .int v4)] 16 []) (n : Nat) (t_values : (Nat → Int32)) (v1 : Int32) (v2 : Int32) (v3 : Int32) (v4 : Int32) (v5 : Int32), f_X3_nextLook_26 k16 n t_values v1 v2 v3 v4 v5 = some res → G 0 0 (wd_X3_nextLook cI cZ h_t h_t_values t_values) [(0, .ref h_t), (1, .int v1), (2, .int v2), (3, .int v3), (4, .int v4), (5, .int v5)] 26 [] := by
    intro k16 hk16 n
    induction n with
    | zero => intro t_values v1 v2 v3 v4 v5 hf; rw [f_X3_nextLook_26] at hf; cases hf
    | succ n ih =>
      intro t_values v1 v2 v3 v4 v5 hf
      rw [f_X3_nextLook_26] at hf
      refine g_iload X dX3_nextLook_26 5 rfl ?_
      refine g_bipush (v := 9) X dX3_nextLook_28 (by decide) ?_
      refine g_icmp_gt (tgt := 98) X dX3_nextLook_30 (by decide) (fun hc_2 => ?_) (fun hc_2 => ?_)
      · replace hf := ite_t hc_2 hf
        refine g_lv X (lv' := [(0, .ref h_t), (1, .int v1), (2, .int v2), (3, .int v3), (4, .int v4)]) [0, 1, 2, 3, 4] rfl ?_
        exact J98 k16 hk16 t_values v1 v2 v3 v4 hf
      · replace hf := ite_f hc_2 hf
        refine g_iconst (v := 0) X dX3_nextLook_33 (by decide) ?_
        refine g_istore (lv' := [(0, .ref h_t), (1, .int v1), (2, .int v2), (3, .int v3), (4, .int v4), (5, .int v5), (6, .int 0)]) X dX3_nextLook_34 (Nat.le_of_ble_eq_true rfl) [1, 2, 3, 4, 5, 6, 0] rfl ?_
        exact J36 k16 hk16 (f_X3_nextLook_26 k16 n) ih FU t_values v1 v2 v3 v4 v5 0 hf
  have J16 : ∀ (n : Nat) (t_values : (Nat → Int32)) (v1 : Int32) (v2 : Int32) (v3 : Int32) (v4 : Int32), f_X3_nextLook_16 n t_values v1 v2 v3 v4 = some res → G 0 0 (wd_X3_nextLook cI cZ h_t h_t_values t_values) [(0, .ref h_t), (1, .int v1), (2, .int v2), (3, .int v3), (4, .int v4)] 16 [] := by
    intro n
    induction n with
    | zero => intro t_values v1 v2 v3 v4 hf; rw [f_X3_nextLook_16] at hf; cases hf
    | succ n ih =>
      intro t_values v1 v2 v3 v4 hf
      rw [f_X3_nextLook_16] at hf
      refine g_iload X dX3_nextLook_16 4 rfl ?_
      refine g_bipush (v := 20) X dX3_nextLook_18 (by decide) ?_
      refine g_icmp_gt (tgt := 104) X dX3_nextLook_20 (by decide) (fun hc_1 => ?_) (fun hc_1 => ?_)
      · replace hf := ite_t hc_1 hf
        refine g_iload_n X dX3_nextLook_104 rfl 2 rfl ?_
        exact hR _ _ _ _ dX3_nextLook_105 (kV_in (u := (v2, t_values)) hf)
      · replace hf := ite_f hc_1 hf
        refine g_iconst (v := 0) X dX3_nextLook_23 (by decide) ?_
        refine g_istore (lv' := [(0, .ref h_t), (1, .int v1), (2, .int v2), (3, .int v3), (4, .int v4), (5, .int 0)]) X dX3_nextLook_24 (Nat.le_of_ble_eq_true rfl) [1, 2, 3, 4, 5, 0] rfl ?_
        exact J26 (f_X3_nextLook_16 n) ih FU t_values v1 v2 v3 v4 0 hf
  have J12 : ∀ (t_values : (Nat → Int32)) (v1 : Int32) (v2 : Int32) (s0 : Int32), f_X3_nextLook_12 t_values v1 v2 s0 = some res → G 0 0 (wd_X3_nextLook cI cZ h_t h_t_values t_values) [(0, .ref h_t), (1, .int v1), (2, .int v2)] 12 [.int s0] := by
    intro t_values v1 v2 s0 hf
    unfold f_X3_nextLook_12 at hf
    refine g_istore_n (lv' := [(0, .ref h_t), (1, .int v1), (2, .int v2), (3, .int s0)]) X dX3_nextLook_12 rfl (Nat.le_of_ble_eq_true rfl) [1, 2, 3, 0] rfl ?_
    refine g_iconst (v := 1) X dX3_nextLook_13 (by decide) ?_
    refine g_istore (lv' := [(0, .ref h_t), (1, .int v1), (2, .int v2), (3, .int s0), (4, .int 1)]) X dX3_nextLook_14 (Nat.le_of_ble_eq_true rfl) [1, 2, 3, 4, 0] rfl ?_
    exact J16 FU t_values v1 v2 s0 1 hf
  refine g_iconst (v := (-1)) X dX3_nextLook_0 (by decide) ?_
  refine g_istore_n (lv' := [(0, .ref h_t), (1, .int v1), (2, .int (-1))]) X dX3_nextLook_1 rfl (Nat.le_of_ble_eq_true rfl) [1, 2, 0] rfl ?_
  refine g_iload_n X dX3_nextLook_2 rfl 1 rfl ?_
  refine g_if_ne (tgt := 10) X dX3_nextLook_3 (by decide) (fun hc_15 => ?_) (fun hc_15 => ?_)
  · replace hf := ite_f hc_15 hf
    refine g_bipush (v := 7) X dX3_nextLook_10 (by decide) ?_
    exact J12 t_values v1 (-1) 7 hf
  · replace hf := ite_t hc_15 hf
    refine g_iconst (v := 0) X dX3_nextLook_6 (by decide) ?_
    refine g_goto (tgt := 12) X dX3_nextLook_7 (by decide) ?_
    exact J12 t_values v1 (-1) 0 hf
def wd_X3_magnetKinds (cI cZ : ClassId) (h_p0 : Nat) (h_p0_cells : Nat) (p0_most : Int32) (p0_width : Int32) (p0_size : Int32) (p0_N : Nat) (p0_cells : (Nat → Int32)) : va_W := [(h_p0, .inr (3, [.int p0_most, .int p0_width, .ref h_p0_cells, .int p0_size])), (h_p0_cells, .inl (cI, p0_N, .inl p0_cells))]
abbrev rm_X3_magnetKinds : Room := { frames := 2, cells := 0, slots := 0, locals := 47 }
theorem hs_X3_magnetKinds : yX3_magnetKinds.cls ≠ "java/lang/invoke/MethodHandle" ∧ yX3_magnetKinds.cls ≠ "java/lang/invoke/VarHandle" ∧ (parseMethodDescriptor yX3_magnetKinds.desc).map (fun d => d.parameters.length) = some 2 := by decide +kernel
set_option maxHeartbeats 4000000 in
set_option maxRecDepth 100000 in
theorem c_X3_magnetKinds (l : Launch) (D : va_G) (cI cZ : ClassId) (h_p0 : Nat) (h_p0_cells : Nat) (p0_most : Int32) (p0_width : Int32) (p0_size : Int32) (p0_N : Nat) (p0_cells : (Nat → Int32)) (v1 : Int32) (res : Int32) (hf : f_X3_magnetKinds p0_width p0_size p0_N p0_cells v1 = some res) : MetR l yX3_magnetKinds wsX3_magnetKinds rm_X3_magnetKinds D cI cZ none [.ref h_p0, .int v1] (wd_X3_magnetKinds cI cZ h_p0 h_p0_cells p0_most p0_width p0_size p0_N p0_cells) (kR res (fun u => some (.int u))) := by
  refine metR_of (cc := cX3_magnetKinds) (maxL := 7) (ret := (some .int)) (own := RX3) (lv0 := [(0, .ref h_p0), (1, .int v1)]) (by decide) rfl (Nat.le_of_ble_eq_true rfl) rfl rfl (fun G X hR => ?_)
  replace hR := rt_int hR
  unfold f_X3_magnetKinds at hf
  have J82 : ∀ (k4 : Int32 → Int32 → Int32 → Option (Int32)) (hk4 : ∀ (v1 : Int32) (v2 : Int32) (v3 : Int32), k4 v1 v2 v3 = some res → G 0 0 (wd_X3_magnetKinds cI cZ h_p0 h_p0_cells p0_most p0_width p0_size p0_N p0_cells) [(0, .ref h_p0), (1, .int v1), (2, .int v2), (3, .int v3)] 4 []) (k16 : Int32 → Int32 → Int32 → Int32 → Int32 → Option (Int32)) (hk16 : ∀ (v1 : Int32) (v2 : Int32) (v3 : Int32) (v4 : Int32) (v5 : Int32), k16 v1 v2 v3 v4 v5 = some res → G 0 0 (wd_X3_magnetKinds cI cZ h_p0 h_p0_cells p0_most p0_width p0_size p0_N p0_cells) [(0, .ref h_p0), (1, .int v1), (2, .int v2), (3, .int v3), (4, .int v4), (5, .int v5)] 16 []) (v1 : Int32) (v2 : Int32) (v3 : Int32) (v5 : Int32) (s0 : Int32) (s1 : Int32), f_X3_magnetKinds_82 p0_width p0_size p0_N p0_cells k4 k16 v1 v2 v3 v5 s0 s1 = some res → G 0 0 (wd_X3_magnetKinds cI cZ h_p0 h_p0_cells p0_most p0_width p0_size p0_N p0_cells) [(0, .ref h_p0), (1, .int v1), (2, .int v2), (3, .int v3), (5, .int v5)] 82 [.int s1, .int s0] := by
    intro k4 hk4 k16 hk16 v1 v2 v3 v5 s0 s1 hf
    unfold f_X3_magnetKinds_82 at hf
    refine g_iand X dX3_magnetKinds_82 ?_
    obtain ⟨v4_19, ev4_19, hf⟩ := bnd_out hf
    refine g_nmI X ev4_19 ?_
    refine g_istore (lv' := [(0, .ref h_p0), (1, .int v1), (2, .int v2), (3, .int v3), (4, .int v4_19), (5, .int v5)]) X dX3_magnetKinds_83 (Nat.le_of_ble_eq_true rfl) [1, 2, 3, 4, 0, 5] rfl ?_
    obtain ⟨v5_20, ev5_20, hf⟩ := bnd_out hf
    refine g_iinc (v := v5_20) (lv' := [(0, .ref h_p0), (1, .int v1), (2, .int v2), (3, .int v3), (4, .int v4_19), (5, .int v5_20)]) X dX3_magnetKinds_85 5 rfl (by rw [ev5_20]; rfl) (Nat.le_of_ble_eq_true rfl) [1, 2, 3, 4, 5, 0] rfl ?_
    refine g_goto (tgt := 16) X dX3_magnetKinds_88 (by decide) ?_
    exact hk16 v1 v2 v3 v4_19 v5_20 hf
  have J77 : ∀ (k4 : Int32 → Int32 → Int32 → Option (Int32)) (hk4 : ∀ (v1 : Int32) (v2 : Int32) (v3 : Int32), k4 v1 v2 v3 = some res → G 0 0 (wd_X3_magnetKinds cI cZ h_p0 h_p0_cells p0_most p0_width p0_size p0_N p0_cells) [(0, .ref h_p0), (1, .int v1), (2, .int v2), (3, .int v3)] 4 []) (k16 : Int32 → Int32 → Int32 → Int32 → Int32 → Option (Int32)) (hk16 : ∀ (v1 : Int32) (v2 : Int32) (v3 : Int32) (v4 : Int32) (v5 : Int32), k16 v1 v2 v3 v4 v5 = some res → G 0 0 (wd_X3_magnetKinds cI cZ h_p0 h_p0_cells p0_most p0_width p0_size p0_N p0_cells) [(0, .ref h_p0), (1, .int v1), (2, .int v2), (3, .int v3), (4, .int v4), (5, .int v5)] 16 []) (v1 : Int32) (v2 : Int32) (v3 : Int32) (v5 : Int32) (s0 : Int32), f_X3_magnetKinds_77 p0_width p0_size p0_N p0_cells k4 k16 v1 v2 v3 v5 s0 = some res → G 0 0 (wd_X3_magnetKinds cI cZ h_p0 h_p0_cells p0_most p0_width p0_size p0_N p0_cells) [(0, .ref h_p0), (1, .int v1), (2, .int v2), (3, .int v3), (5, .int v5)] 77 [.int s0] := by
    intro k4 hk4 k16 hk16 v1 v2 v3 v5 s0 hf
    unfold f_X3_magnetKinds_77 at hf
    refine g_iconst (v := 1) X dX3_magnetKinds_77 (by decide) ?_
    refine g_goto (tgt := 82) X dX3_magnetKinds_78 (by decide) ?_
    exact J82 k4 hk4 k16 hk16 v1 v2 v3 v5 s0 1 hf
  have J104 : ∀ (k4 : Int32 → Int32 → Int32 → Option (Int32)) (hk4 : ∀ (v1 : Int32) (v2 : Int32) (v3 : Int32), k4 v1 v2 v3 = some res → G 0 0 (wd_X3_magnetKinds cI cZ h_p0 h_p0_cells p0_most p0_width p0_size p0_N p0_cells) [(0, .ref h_p0), (1, .int v1), (2, .int v2), (3, .int v3)] 4 []) (v1 : Int32) (v3 : Int32) (s0 : Int32) (s1 : Int32), f_X3_magnetKinds_104 p0_width p0_size p0_N p0_cells k4 v1 v3 s0 s1 = some res → G 0 0 (wd_X3_magnetKinds cI cZ h_p0 h_p0_cells p0_most p0_width p0_size p0_N p0_cells) [(0, .ref h_p0), (1, .int v1), (3, .int v3)] 104 [.int s1, .int s0] := by
    intro k4 hk4 v1 v3 s0 s1 hf
    unfold f_X3_magnetKinds_104 at hf
    refine g_ior X dX3_magnetKinds_104 ?_
    obtain ⟨v2_22, ev2_22, hf⟩ := bnd_out hf
    refine g_nmI X ev2_22 ?_
    refine g_istore_n (lv' := [(0, .ref h_p0), (1, .int v1), (2, .int v2_22), (3, .int v3)]) X dX3_magnetKinds_105 rfl (Nat.le_of_ble_eq_true rfl) [1, 2, 0, 3] rfl ?_
    obtain ⟨v3_23, ev3_23, hf⟩ := bnd_out hf
    refine g_iinc (v := v3_23) (lv' := [(0, .ref h_p0), (1, .int v1), (2, .int v2_22), (3, .int v3_23)]) X dX3_magnetKinds_106 3 rfl (by rw [ev3_23]; rfl) (Nat.le_of_ble_eq_true rfl) [1, 2, 3, 0] rfl ?_
    refine g_goto (tgt := 4) X dX3_magnetKinds_109 (by decide) ?_
    exact hk4 v1 v2_22 v3_23 hf
  have J91 : ∀ (k4 : Int32 → Int32 → Int32 → Option (Int32)) (hk4 : ∀ (v1 : Int32) (v2 : Int32) (v3 : Int32), k4 v1 v2 v3 = some res → G 0 0 (wd_X3_magnetKinds cI cZ h_p0 h_p0_cells p0_most p0_width p0_size p0_N p0_cells) [(0, .ref h_p0), (1, .int v1), (2, .int v2), (3, .int v3)] 4 []) (v1 : Int32) (v2 : Int32) (v3 : Int32) (v4 : Int32), f_X3_magnetKinds_91 p0_width p0_size p0_N p0_cells k4 v1 v2 v3 v4 = some res → G 0 0 (wd_X3_magnetKinds cI cZ h_p0 h_p0_cells p0_most p0_width p0_size p0_N p0_cells) [(0, .ref h_p0), (1, .int v1), (2, .int v2), (3, .int v3), (4, .int v4)] 91 [] := by
    intro k4 hk4 v1 v2 v3 v4 hf
    unfold f_X3_magnetKinds_91 at hf
    refine g_iload_n X dX3_magnetKinds_91 rfl 2 rfl ?_
    refine g_iload X dX3_magnetKinds_92 4 rfl ?_
    refine g_if_eq (tgt := 103) X dX3_magnetKinds_94 (by decide) (fun hc_21 => ?_) (fun hc_21 => ?_)
    · replace hf := ite_t hc_21 hf
      refine g_iconst (v := 0) X dX3_magnetKinds_103 (by decide) ?_
      refine g_lv X (lv' := [(0, .ref h_p0), (1, .int v1), (3, .int v3)]) [0, 1, 3] rfl ?_
      exact J104 k4 hk4 v1 v3 v2 0 hf
    · replace hf := ite_f hc_21 hf
      refine g_iconst (v := 1) X dX3_magnetKinds_97 (by decide) ?_
      refine g_iload_n X dX3_magnetKinds_98 rfl 3 rfl ?_
      refine g_ishl X dX3_magnetKinds_99 ?_
      refine g_goto (tgt := 104) X dX3_magnetKinds_100 (by decide) ?_
      refine g_lv X (lv' := [(0, .ref h_p0), (1, .int v1), (3, .int v3)]) [0, 1, 3] rfl ?_
      exact J104 k4 hk4 v1 v3 v2 (1 <<< (v3 &&& 31)) hf
  have J16 : ∀ (k4 : Int32 → Int32 → Int32 → Option (Int32)) (hk4 : ∀ (v1 : Int32) (v2 : Int32) (v3 : Int32), k4 v1 v2 v3 = some res → G 0 0 (wd_X3_magnetKinds cI cZ h_p0 h_p0_cells p0_most p0_width p0_size p0_N p0_cells) [(0, .ref h_p0), (1, .int v1), (2, .int v2), (3, .int v3)] 4 []) (n : Nat) (v1 : Int32) (v2 : Int32) (v3 : Int32) (v4 : Int32) (v5 : Int32), f_X3_magnetKinds_16 p0_width p0_size p0_N p0_cells k4 n v1 v2 v3 v4 v5 = some res → G 0 0 (wd_X3_magnetKinds cI cZ h_p0 h_p0_cells p0_most p0_width p0_size p0_N p0_cells) [(0, .ref h_p0), (1, .int v1), (2, .int v2), (3, .int v3), (4, .int v4), (5, .int v5)] 16 [] := by
    intro k4 hk4 n
    induction n with
    | zero => intro v1 v2 v3 v4 v5 hf; rw [f_X3_magnetKinds_16] at hf; cases hf
    | succ n ih =>
      intro v1 v2 v3 v4 v5 hf
      rw [f_X3_magnetKinds_16] at hf
      refine g_iload X dX3_magnetKinds_16 5 rfl ?_
      refine g_aload_n X dX3_magnetKinds_18 rfl 0 rfl ?_
      obtain ⟨r_2, hk_3, hf⟩ := ob1_out hf
      refine g_cVR (st := [.int v5]) (st1 := [.int r_2, .int v5]) (C := RX7) (ci := 3) (q0 := 0) X (c_X7_size l D cI cZ h_p0 h_p0_cells p0_most p0_width p0_size _ hk_3) (Or.inl rfl) 0 gX3_magnetKinds_X7_size rfl hv_X7_size ⟨Nat.le_of_ble_eq_true rfl, Nat.le_of_ble_eq_true rfl⟩ rfl rfl (Nat.le_of_ble_eq_true rfl) ⟨rfl, rfl⟩ (Nat.zero_le _) (Nat.zero_le _) rfl rfl rfl dX3_magnetKinds_19 [0] rfl rfl rfl ?_
      refine g_icmp_ge (tgt := 91) X dX3_magnetKinds_22 (by decide) (fun hc_4 => ?_) (fun hc_4 => ?_)
      · replace hf := ite_t hc_4 hf
        refine g_lv X (lv' := [(0, .ref h_p0), (1, .int v1), (2, .int v2), (3, .int v3), (4, .int v4)]) [0, 1, 2, 3, 4] rfl ?_
        exact J91 k4 hk4 v1 v2 v3 v4 hf
      · replace hf := ite_f hc_4 hf
        refine g_iload_n X dX3_magnetKinds_25 rfl 3 rfl ?_
        refine g_aload_n X dX3_magnetKinds_26 rfl 0 rfl ?_
        refine g_iload X dX3_magnetKinds_27 5 rfl ?_
        refine g_iconst (v := 1) X dX3_magnetKinds_29 (by decide) ?_
        obtain ⟨r_5, hk_6, hf⟩ := ob1_out hf
        refine g_cVR (st := [.int v3]) (st1 := [.int r_5, .int v3]) (C := RX7) (ci := 3) (q0 := 0) X (c_X7_get l D cI cZ h_p0 h_p0_cells p0_most p0_width p0_size p0_N p0_cells v5 1 _ hk_6) (Or.inl rfl) 2 gX3_magnetKinds_X7_get rfl hv_X7_get ⟨Nat.le_of_ble_eq_true rfl, Nat.le_of_ble_eq_true rfl⟩ rfl rfl (Nat.le_of_ble_eq_true rfl) ⟨rfl, rfl⟩ (Nat.zero_le _) (Nat.zero_le _) rfl rfl rfl dX3_magnetKinds_30 [0, 1] rfl rfl rfl ?_
        refine g_aload_n X dX3_magnetKinds_33 rfl 0 rfl ?_
        refine g_iload X dX3_magnetKinds_34 5 rfl ?_
        refine g_iconst (v := 2) X dX3_magnetKinds_36 (by decide) ?_
        obtain ⟨r_7, hk_8, hf⟩ := ob1_out hf
        refine g_cVR (st := [.int r_5, .int v3]) (st1 := [.int r_7, .int r_5, .int v3]) (C := RX7) (ci := 3) (q0 := 0) X (c_X7_get l D cI cZ h_p0 h_p0_cells p0_most p0_width p0_size p0_N p0_cells v5 2 _ hk_8) (Or.inl rfl) 2 gX3_magnetKinds_X7_get rfl hv_X7_get ⟨Nat.le_of_ble_eq_true rfl, Nat.le_of_ble_eq_true rfl⟩ rfl rfl (Nat.le_of_ble_eq_true rfl) ⟨rfl, rfl⟩ (Nat.zero_le _) (Nat.zero_le _) rfl rfl rfl dX3_magnetKinds_37 [0, 1] rfl rfl rfl ?_
        refine g_aload_n X dX3_magnetKinds_40 rfl 0 rfl ?_
        refine g_iload X dX3_magnetKinds_41 5 rfl ?_
        refine g_iconst (v := 3) X dX3_magnetKinds_43 (by decide) ?_
        obtain ⟨r_9, hk_10, hf⟩ := ob1_out hf
        refine g_cVR (st := [.int r_7, .int r_5, .int v3]) (st1 := [.int r_9, .int r_7, .int r_5, .int v3]) (C := RX7) (ci := 3) (q0 := 0) X (c_X7_get l D cI cZ h_p0 h_p0_cells p0_most p0_width p0_size p0_N p0_cells v5 3 _ hk_10) (Or.inl rfl) 2 gX3_magnetKinds_X7_get rfl hv_X7_get ⟨Nat.le_of_ble_eq_true rfl, Nat.le_of_ble_eq_true rfl⟩ rfl rfl (Nat.le_of_ble_eq_true rfl) ⟨rfl, rfl⟩ (Nat.zero_le _) (Nat.zero_le _) rfl rfl rfl dX3_magnetKinds_44 [0, 1] rfl rfl rfl ?_
        obtain ⟨r_11, hk_12, hf⟩ := ob1_out hf
        refine g_cSR (st := []) (st1 := [.int r_11]) X (c_X4_pulls l D cI cZ v3 r_5 r_7 r_9 _ hk_12) (Or.inl rfl) 4 gX3_magnetKinds_X4_pulls rfl hs_X4_pulls ⟨Nat.le_of_ble_eq_true rfl, Nat.le_of_ble_eq_true rfl⟩ rfl rfl (Nat.le_of_ble_eq_true rfl) ⟨rfl, rfl⟩ (Nat.zero_le _) (Nat.zero_le _) dX3_magnetKinds_47 [] rfl rfl rfl ?_
        refine g_istore (lv' := [(0, .ref h_p0), (1, .int v1), (2, .int v2), (3, .int v3), (4, .int v4), (5, .int v5), (6, .int r_11)]) X dX3_magnetKinds_50 (Nat.le_of_ble_eq_true rfl) [1, 2, 3, 4, 5, 6, 0] rfl ?_
        refine g_iload X dX3_magnetKinds_52 4 rfl ?_
        refine g_aload_n X dX3_magnetKinds_54 rfl 0 rfl ?_
        refine g_iload X dX3_magnetKinds_55 5 rfl ?_
        refine g_iconst (v := 0) X dX3_magnetKinds_57 (by decide) ?_
        obtain ⟨r_13, hk_14, hf⟩ := ob1_out hf
        refine g_cVR (st := [.int v4]) (st1 := [.int r_13, .int v4]) (C := RX7) (ci := 3) (q0 := 0) X (c_X7_get l D cI cZ h_p0 h_p0_cells p0_most p0_width p0_size p0_N p0_cells v5 0 _ hk_14) (Or.inl rfl) 2 gX3_magnetKinds_X7_get rfl hv_X7_get ⟨Nat.le_of_ble_eq_true rfl, Nat.le_of_ble_eq_true rfl⟩ rfl rfl (Nat.le_of_ble_eq_true rfl) ⟨rfl, rfl⟩ (Nat.zero_le _) (Nat.zero_le _) rfl rfl rfl dX3_magnetKinds_58 [0, 1] rfl rfl rfl ?_
        refine g_iload_n X dX3_magnetKinds_61 rfl 1 rfl ?_
        refine g_icmp_ne (tgt := 77) X dX3_magnetKinds_62 (by decide) (fun hc_15 => ?_) (fun hc_15 => ?_)
        · replace hf := ite_f hc_15 hf
          refine g_lv X (lv' := [(0, .ref h_p0), (1, .int v1), (2, .int v2), (3, .int v3), (5, .int v5)]) [0, 1, 2, 3, 5] rfl ?_
          exact J77 k4 hk4 (f_X3_magnetKinds_16 p0_width p0_size p0_N p0_cells k4 n) ih v1 v2 v3 v5 v4 hf
        · replace hf := ite_t hc_15 hf
          refine g_iload X dX3_magnetKinds_65 6 rfl ?_
          refine g_aload_n X dX3_magnetKinds_67 rfl 0 rfl ?_
          refine g_iload X dX3_magnetKinds_68 5 rfl ?_
          refine g_iconst (v := 4) X dX3_magnetKinds_70 (by decide) ?_
          obtain ⟨r_16, hk_17, hf⟩ := ob1_out hf
          refine g_cVR (st := [.int r_11, .int v4]) (st1 := [.int r_16, .int r_11, .int v4]) (C := RX7) (ci := 3) (q0 := 0) X (c_X7_get l D cI cZ h_p0 h_p0_cells p0_most p0_width p0_size p0_N p0_cells v5 4 _ hk_17) (Or.inl rfl) 2 gX3_magnetKinds_X7_get rfl hv_X7_get ⟨Nat.le_of_ble_eq_true rfl, Nat.le_of_ble_eq_true rfl⟩ rfl rfl (Nat.le_of_ble_eq_true rfl) ⟨rfl, rfl⟩ (Nat.zero_le _) (Nat.zero_le _) rfl rfl rfl dX3_magnetKinds_71 [0, 1] rfl rfl rfl ?_
          refine g_icmp_ne (tgt := 81) X dX3_magnetKinds_74 (by decide) (fun hc_18 => ?_) (fun hc_18 => ?_)
          · replace hf := ite_f hc_18 hf
            refine g_iconst (v := 0) X dX3_magnetKinds_81 (by decide) ?_
            refine g_lv X (lv' := [(0, .ref h_p0), (1, .int v1), (2, .int v2), (3, .int v3), (5, .int v5)]) [0, 1, 2, 3, 5] rfl ?_
            exact J82 k4 hk4 (f_X3_magnetKinds_16 p0_width p0_size p0_N p0_cells k4 n) ih v1 v2 v3 v5 v4 0 hf
          · replace hf := ite_t hc_18 hf
            refine g_lv X (lv' := [(0, .ref h_p0), (1, .int v1), (2, .int v2), (3, .int v3), (5, .int v5)]) [0, 1, 2, 3, 5] rfl ?_
            exact J77 k4 hk4 (f_X3_magnetKinds_16 p0_width p0_size p0_N p0_cells k4 n) ih v1 v2 v3 v5 v4 hf
  have J4 : ∀ (n : Nat) (v1 : Int32) (v2 : Int32) (v3 : Int32), f_X3_magnetKinds_4 p0_width p0_size p0_N p0_cells n v1 v2 v3 = some res → G 0 0 (wd_X3_magnetKinds cI cZ h_p0 h_p0_cells p0_most p0_width p0_size p0_N p0_cells) [(0, .ref h_p0), (1, .int v1), (2, .int v2), (3, .int v3)] 4 [] := by
    intro n
    induction n with
    | zero => intro v1 v2 v3 hf; rw [f_X3_magnetKinds_4] at hf; cases hf
    | succ n ih =>
      intro v1 v2 v3 hf
      rw [f_X3_magnetKinds_4] at hf
      refine g_iload_n X dX3_magnetKinds_4 rfl 3 rfl ?_
      refine g_bipush (v := 6) X dX3_magnetKinds_5 (by decide) ?_
      refine g_icmp_ge (tgt := 112) X dX3_magnetKinds_7 (by decide) (fun hc_1 => ?_) (fun hc_1 => ?_)
      · replace hf := ite_t hc_1 hf
        refine g_iload_n X dX3_magnetKinds_112 rfl 2 rfl ?_
        exact hR _ _ _ _ dX3_magnetKinds_113 (kR_in (u := v2) hf)
      · replace hf := ite_f hc_1 hf
        refine g_iconst (v := 1) X dX3_magnetKinds_10 (by decide) ?_
        refine g_istore (lv' := [(0, .ref h_p0), (1, .int v1), (2, .int v2), (3, .int v3), (4, .int 1)]) X dX3_magnetKinds_11 (Nat.le_of_ble_eq_true rfl) [1, 2, 3, 4, 0] rfl ?_
        refine g_iconst (v := 0) X dX3_magnetKinds_13 (by decide) ?_
        refine g_istore (lv' := [(0, .ref h_p0), (1, .int v1), (2, .int v2), (3, .int v3), (4, .int 1), (5, .int 0)]) X dX3_magnetKinds_14 (Nat.le_of_ble_eq_true rfl) [1, 2, 3, 4, 5, 0] rfl ?_
        exact J16 (f_X3_magnetKinds_4 p0_width p0_size p0_N p0_cells n) ih FU v1 v2 v3 1 0 hf
  refine g_iconst (v := 0) X dX3_magnetKinds_0 (by decide) ?_
  refine g_istore_n (lv' := [(0, .ref h_p0), (1, .int v1), (2, .int 0)]) X dX3_magnetKinds_1 rfl (Nat.le_of_ble_eq_true rfl) [1, 2, 0] rfl ?_
  refine g_iconst (v := 0) X dX3_magnetKinds_2 (by decide) ?_
  refine g_istore_n (lv' := [(0, .ref h_p0), (1, .int v1), (2, .int 0), (3, .int 0)]) X dX3_magnetKinds_3 rfl (Nat.le_of_ble_eq_true rfl) [1, 2, 3, 0] rfl ?_
  exact J4 FU v1 0 0 hf
def wd_X3_nextAsk (cI cZ : ClassId) (h_t : Nat) (h_t_values : Nat) (t_values : (Nat → Int32)) : va_W := [(h_t, .inr (1, [.ref h_t_values])), (h_t_values, .inl (cI, 6, .inl t_values))]
abbrev rm_X3_nextAsk : Room := { frames := 2, cells := 0, slots := 0, locals := 47 }
theorem hv_X3_nextAsk : yX3_nextAsk.cls = RX3 ∧ yX3_nextAsk.cls ≠ "java/lang/invoke/MethodHandle" ∧ yX3_nextAsk.cls ≠ "java/lang/invoke/VarHandle" ∧ (parseMethodDescriptor yX3_nextAsk.desc).map (fun d => d.parameters.length) = some 2 := by decide +kernel
theorem iw_X3_nextAsk_X3 : ∀ w ∈ u_ws RX3 TX3 1, w ∈ wsX3_nextAsk := by decide +kernel
theorem lk_X3_nextAsk_9 : Cond.fieldLink RX3 9 "ClerkChains$Guess" "values" "[I" ∈ wsX3_nextAsk := by decide +kernel
theorem lk_X3_nextAsk_iX11 : Cond.initialized RX11 ∈ wsX3_nextAsk := by decide +kernel
theorem lk_X3_nextAsk_sX11_setCell : Cond.static yX11_setCell ∈ wsX3_nextAsk := by decide +kernel
set_option maxHeartbeats 4000000 in
set_option maxRecDepth 100000 in
theorem c_X3_nextAsk (l : Launch) (D : va_G) (cI cZ : ClassId) (h_t : Nat) (h_t_values : Nat) (t_values : (Nat → Int32)) (v1 : Int32) (v2 : Int32) (res : Int32 × (Nat → Int32)) (hf : f_X3_nextAsk t_values v1 v2 = some res) : MetG l yX3_nextAsk wsX3_nextAsk rm_X3_nextAsk D cI cZ none [.ref h_t, .int v1, .int v2] (wd_X3_nextAsk cI cZ h_t h_t_values t_values) (kV res (fun u => some (.int u.1)) (fun u => (wd_X3_nextAsk cI cZ h_t h_t_values (u.2)))) := by
  refine metG_of (cc := cX3_nextAsk) (maxL := 8) (ret := (some .int)) (own := RX3) (lv0 := [(0, .ref h_t), (1, .int v1), (2, .int v2)]) (ini := false) (by decide) rfl (Nat.le_of_ble_eq_true rfl) rfl rfl (fun h => by cases h) (fun G X hR => ?_)
  replace hR := rt_int hR
  unfold f_X3_nextAsk at hf
  have J95 : ∀ (k17 : (Nat → Int32) → Int32 → Int32 → Int32 → Int32 → Int32 → Option (Int32 × (Nat → Int32))) (hk17 : ∀ (t_values : (Nat → Int32)) (v1 : Int32) (v2 : Int32) (v3 : Int32) (v4 : Int32) (v5 : Int32), k17 t_values v1 v2 v3 v4 v5 = some res → G 0 0 (wd_X3_nextAsk cI cZ h_t h_t_values t_values) [(0, .ref h_t), (1, .int v1), (2, .int v2), (3, .int v3), (4, .int v4), (5, .int v5)] 17 []) (k26 : (Nat → Int32) → Int32 → Int32 → Int32 → Int32 → Int32 → Int32 → Option (Int32 × (Nat → Int32))) (hk26 : ∀ (t_values : (Nat → Int32)) (v1 : Int32) (v2 : Int32) (v3 : Int32) (v4 : Int32) (v5 : Int32) (v6 : Int32), k26 t_values v1 v2 v3 v4 v5 v6 = some res → G 0 0 (wd_X3_nextAsk cI cZ h_t h_t_values t_values) [(0, .ref h_t), (1, .int v1), (2, .int v2), (3, .int v3), (4, .int v4), (5, .int v5), (6, .int v6)] 26 []) (t_values : (Nat → Int32)) (v1 : Int32) (v2 : Int32) (v3 : Int32) (v4 : Int32) (v5 : Int32) (v6 : Int32), f_X3_nextAsk_95 k17 k26 t_values v1 v2 v3 v4 v5 v6 = some res → G 0 0 (wd_X3_nextAsk cI cZ h_t h_t_values t_values) [(0, .ref h_t), (1, .int v1), (2, .int v2), (3, .int v3), (4, .int v4), (5, .int v5), (6, .int v6)] 95 [] := by
    intro k17 hk17 k26 hk26 t_values v1 v2 v3 v4 v5 v6 hf
    unfold f_X3_nextAsk_95 at hf
    obtain ⟨v6_13, ev6_13, hf⟩ := bnd_out hf
    refine g_iinc (v := v6_13) (lv' := [(0, .ref h_t), (1, .int v1), (2, .int v2), (3, .int v3), (4, .int v4), (5, .int v5), (6, .int v6_13)]) X dX3_nextAsk_95 6 rfl (by rw [ev6_13]; rfl) (Nat.le_of_ble_eq_true rfl) [1, 2, 3, 4, 5, 6, 0] rfl ?_
    refine g_goto (tgt := 26) X dX3_nextAsk_98 (by decide) ?_
    exact hk26 t_values v1 v2 v3 v4 v5 v6_13 hf
  have J68 : ∀ (k17 : (Nat → Int32) → Int32 → Int32 → Int32 → Int32 → Int32 → Option (Int32 × (Nat → Int32))) (hk17 : ∀ (t_values : (Nat → Int32)) (v1 : Int32) (v2 : Int32) (v3 : Int32) (v4 : Int32) (v5 : Int32), k17 t_values v1 v2 v3 v4 v5 = some res → G 0 0 (wd_X3_nextAsk cI cZ h_t h_t_values t_values) [(0, .ref h_t), (1, .int v1), (2, .int v2), (3, .int v3), (4, .int v4), (5, .int v5)] 17 []) (k26 : (Nat → Int32) → Int32 → Int32 → Int32 → Int32 → Int32 → Int32 → Option (Int32 × (Nat → Int32))) (hk26 : ∀ (t_values : (Nat → Int32)) (v1 : Int32) (v2 : Int32) (v3 : Int32) (v4 : Int32) (v5 : Int32) (v6 : Int32), k26 t_values v1 v2 v3 v4 v5 v6 = some res → G 0 0 (wd_X3_nextAsk cI cZ h_t h_t_values t_values) [(0, .ref h_t), (1, .int v1), (2, .int v2), (3, .int v3), (4, .int v4), (5, .int v5), (6, .int v6)] 26 []) (t_values : (Nat → Int32)) (v1 : Int32) (v2 : Int32) (v3 : Int32) (v4 : Int32) (v5 : Int32) (v6 : Int32), f_X3_nextAsk_68 k17 k26 t_values v1 v2 v3 v4 v5 v6 = some res → G 0 0 (wd_X3_nextAsk cI cZ h_t h_t_values t_values) [(0, .ref h_t), (1, .int v1), (2, .int v2), (3, .int v3), (4, .int v4), (5, .int v5), (6, .int v6)] 68 [] := by
    intro k17 hk17 k26 hk26 t_values v1 v2 v3 v4 v5 v6 hf
    unfold f_X3_nextAsk_68 at hf
    refine g_aload_n X dX3_nextAsk_68 rfl 0 rfl ?_
    refine g_iload_n X dX3_nextAsk_69 rfl 1 rfl ?_
    obtain ⟨r_9, hk_10, hf⟩ := ob1_out hf
    refine g_cVR (st := []) (st1 := [.int r_9]) (C := RX3) (ci := 1) (q0 := 0) X (c_X3_mostAlike l D cI cZ h_t h_t_values t_values v1 _ hk_10) (Or.inl rfl) 1 gX3_nextAsk_X3_mostAlike rfl hv_X3_mostAlike ⟨Nat.le_of_ble_eq_true rfl, Nat.le_of_ble_eq_true rfl⟩ rfl rfl (Nat.le_of_ble_eq_true rfl) ⟨rfl, rfl⟩ (Nat.zero_le _) (Nat.zero_le _) rfl rfl rfl dX3_nextAsk_70 [0, 1] rfl rfl rfl ?_
    refine g_istore (lv' := [(0, .ref h_t), (1, .int v1), (2, .int v2), (3, .int v3), (4, .int v4), (5, .int v5), (6, .int v6), (7, .int r_9)]) X dX3_nextAsk_73 (Nat.le_of_ble_eq_true rfl) [1, 2, 3, 4, 5, 6, 7, 0] rfl ?_
    refine g_iload X dX3_nextAsk_75 7 rfl ?_
    refine g_iload X dX3_nextAsk_77 4 rfl ?_
    refine g_icmp_ge (tgt := 95) X dX3_nextAsk_79 (by decide) (fun hc_11 => ?_) (fun hc_11 => ?_)
    · replace hf := ite_t hc_11 hf
      refine g_lv X (lv' := [(0, .ref h_t), (1, .int v1), (2, .int v2), (3, .int v3), (4, .int v4), (5, .int v5), (6, .int v6)]) [0, 1, 2, 3, 4, 5, 6] rfl ?_
      exact J95 k17 hk17 k26 hk26 t_values v1 v2 v3 v4 v5 v6 hf
    · replace hf := ite_f hc_11 hf
      refine g_iload X dX3_nextAsk_82 7 rfl ?_
      refine g_istore (lv' := [(0, .ref h_t), (1, .int v1), (2, .int v2), (3, .int v3), (4, .int r_9), (5, .int v5), (6, .int v6), (7, .int r_9)]) X dX3_nextAsk_84 (Nat.le_of_ble_eq_true rfl) [1, 2, 3, 4, 0, 5, 6, 7] rfl ?_
      refine g_bipush (v := 100) X dX3_nextAsk_86 (by decide) ?_
      refine g_iload X dX3_nextAsk_88 5 rfl ?_
      refine g_imul X dX3_nextAsk_90 ?_
      refine g_iload X dX3_nextAsk_91 6 rfl ?_
      refine g_iadd X dX3_nextAsk_93 ?_
      obtain ⟨v3_12, ev3_12, hf⟩ := bnd_out hf
      refine g_nmI X ev3_12 ?_
      refine g_istore_n (lv' := [(0, .ref h_t), (1, .int v1), (2, .int v2), (3, .int v3_12), (4, .int r_9), (5, .int v5), (6, .int v6), (7, .int r_9)]) X dX3_nextAsk_94 rfl (Nat.le_of_ble_eq_true rfl) [1, 2, 3, 0, 4, 5, 6, 7] rfl ?_
      refine g_lv X (lv' := [(0, .ref h_t), (1, .int v1), (2, .int v2), (3, .int v3_12), (4, .int r_9), (5, .int v5), (6, .int v6)]) [0, 1, 2, 3, 4, 5, 6] rfl ?_
      exact J95 k17 hk17 k26 hk26 t_values v1 v2 v3_12 r_9 v5 v6 hf
  have J36 : ∀ (k17 : (Nat → Int32) → Int32 → Int32 → Int32 → Int32 → Int32 → Option (Int32 × (Nat → Int32))) (hk17 : ∀ (t_values : (Nat → Int32)) (v1 : Int32) (v2 : Int32) (v3 : Int32) (v4 : Int32) (v5 : Int32), k17 t_values v1 v2 v3 v4 v5 = some res → G 0 0 (wd_X3_nextAsk cI cZ h_t h_t_values t_values) [(0, .ref h_t), (1, .int v1), (2, .int v2), (3, .int v3), (4, .int v4), (5, .int v5)] 17 []) (k26 : (Nat → Int32) → Int32 → Int32 → Int32 → Int32 → Int32 → Int32 → Option (Int32 × (Nat → Int32))) (hk26 : ∀ (t_values : (Nat → Int32)) (v1 : Int32) (v2 : Int32) (v3 : Int32) (v4 : Int32) (v5 : Int32) (v6 : Int32), k26 t_values v1 v2 v3 v4 v5 v6 = some res → G 0 0 (wd_X3_nextAsk cI cZ h_t h_t_values t_values) [(0, .ref h_t), (1, .int v1), (2, .int v2), (3, .int v3), (4, .int v4), (5, .int v5), (6, .int v6)] 26 []) (n : Nat) (t_values : (Nat → Int32)) (v1 : Int32) (v2 : Int32) (v3 : Int32) (v4 : Int32) (v5 : Int32) (v6 : Int32) (v7 : Int32), f_X3_nextAsk_36 k17 k26 n t_values v1 v2 v3 v4 v5 v6 v7 = some res → G 0 0 (wd_X3_nextAsk cI cZ h_t h_t_values t_values) [(0, .ref h_t), (1, .int v1), (2, .int v2), (3, .int v3), (4, .int v4), (5, .int v5), (6, .int v6), (7, .int v7)] 36 [] := by
    intro k17 hk17 k26 hk26 n
    induction n with
    | zero => intro t_values v1 v2 v3 v4 v5 v6 v7 hf; rw [f_X3_nextAsk_36] at hf; cases hf
    | succ n ih =>
      intro t_values v1 v2 v3 v4 v5 v6 v7 hf
      rw [f_X3_nextAsk_36] at hf
      refine g_iload X dX3_nextAsk_36 7 rfl ?_
      refine g_bipush (v := 6) X dX3_nextAsk_38 (by decide) ?_
      refine g_icmp_ge (tgt := 68) X dX3_nextAsk_40 (by decide) (fun hc_3 => ?_) (fun hc_3 => ?_)
      · replace hf := ite_t hc_3 hf
        refine g_lv X (lv' := [(0, .ref h_t), (1, .int v1), (2, .int v2), (3, .int v3), (4, .int v4), (5, .int v5), (6, .int v6)]) [0, 1, 2, 3, 4, 5, 6] rfl ?_
        exact J68 k17 hk17 k26 hk26 t_values v1 v2 v3 v4 v5 v6 hf
      · replace hf := ite_f hc_3 hf
        refine g_aload_n X dX3_nextAsk_43 rfl 0 rfl ?_
        refine g_get (C := RX3) (T := TX3) (N := 1) (ci := 1) (v := (.ref h_t_values)) X iw_X3_nextAsk_X3 0 rfl rfl 0 (by decide) lk_X3_nextAsk_9 rfl dX3_nextAsk_44 ?_
        refine g_iload X dX3_nextAsk_47 7 rfl ?_
        refine g_iload X dX3_nextAsk_49 7 rfl ?_
        refine g_iload_n X dX3_nextAsk_51 rfl 2 rfl ?_
        refine g_iload X dX3_nextAsk_52 6 rfl ?_
        refine g_iload X dX3_nextAsk_54 5 rfl ?_
        obtain ⟨r_4, hk_5, hf⟩ := ob1_out hf
        refine g_cSR (st := [.int v7, .ref h_t_values]) (st1 := [.int r_4, .int v7, .ref h_t_values]) X (c_X4_pulls l D cI cZ v7 v2 v6 v5 _ hk_5) (Or.inl rfl) 4 gX3_nextAsk_X4_pulls rfl hs_X4_pulls ⟨Nat.le_of_ble_eq_true rfl, Nat.le_of_ble_eq_true rfl⟩ rfl rfl (Nat.le_of_ble_eq_true rfl) ⟨rfl, rfl⟩ (Nat.zero_le _) (Nat.zero_le _) dX3_nextAsk_56 [] rfl rfl rfl ?_
        obtain ⟨t_values_6, hk_7, hf⟩ := ob1_out hf
        refine g_cNW (st := []) (st1 := []) (ws' := (wd_X3_nextAsk cI cZ h_t h_t_values t_values_6)) X (c_X11_setCell l D cI cZ h_t_values 6 t_values v7 r_4 _ hk_7) (Or.inl rfl) 3 gX3_nextAsk_X11_setCell_n35 (by decide +kernel) lk_X3_nextAsk_iX11 lk_X3_nextAsk_sX11_setCell rfl hs_X11_setCell ⟨Nat.le_of_ble_eq_true rfl, Nat.le_of_ble_eq_true rfl⟩ rfl rfl (Nat.le_of_ble_eq_true rfl) ⟨rfl, rfl⟩ (Nat.zero_le _) (Nat.zero_le _) dX3_nextAsk_59 [1] rfl rfl [0] rfl rfl (by decide) [0, 1] rfl rfl rfl ?_
        obtain ⟨v7_8, ev7_8, hf⟩ := bnd_out hf
        refine g_iinc (v := v7_8) (lv' := [(0, .ref h_t), (1, .int v1), (2, .int v2), (3, .int v3), (4, .int v4), (5, .int v5), (6, .int v6), (7, .int v7_8)]) X dX3_nextAsk_62 7 rfl (by rw [ev7_8]; rfl) (Nat.le_of_ble_eq_true rfl) [1, 2, 3, 4, 5, 6, 7, 0] rfl ?_
        refine g_goto (tgt := 36) X dX3_nextAsk_65 (by decide) ?_
        exact ih t_values_6 v1 v2 v3 v4 v5 v6 v7_8 hf
  have J101 : ∀ (k17 : (Nat → Int32) → Int32 → Int32 → Int32 → Int32 → Int32 → Option (Int32 × (Nat → Int32))) (hk17 : ∀ (t_values : (Nat → Int32)) (v1 : Int32) (v2 : Int32) (v3 : Int32) (v4 : Int32) (v5 : Int32), k17 t_values v1 v2 v3 v4 v5 = some res → G 0 0 (wd_X3_nextAsk cI cZ h_t h_t_values t_values) [(0, .ref h_t), (1, .int v1), (2, .int v2), (3, .int v3), (4, .int v4), (5, .int v5)] 17 []) (t_values : (Nat → Int32)) (v1 : Int32) (v2 : Int32) (v3 : Int32) (v4 : Int32) (v5 : Int32), f_X3_nextAsk_101 k17 t_values v1 v2 v3 v4 v5 = some res → G 0 0 (wd_X3_nextAsk cI cZ h_t h_t_values t_values) [(0, .ref h_t), (1, .int v1), (2, .int v2), (3, .int v3), (4, .int v4), (5, .int v5)] 101 [] := by
    intro k17 hk17 t_values v1 v2 v3 v4 v5 hf
    unfold f_X3_nextAsk_101 at hf
    obtain ⟨v5_14, ev5_14, hf⟩ := bnd_out hf
    refine g_iinc (v := v5_14) (lv' := [(0, .ref h_t), (1, .int v1), (2, .int v2), (3, .int v3), (4, .int v4), (5, .int v5_14)]) X dX3_nextAsk_101 5 rfl (by rw [ev5_14]; rfl) (Nat.le_of_ble_eq_true rfl) [1, 2, 3, 4, 5, 0] rfl ?_
    refine g_goto (tgt := 17) X dX3_nextAsk_104 (by decide) ?_
    exact hk17 t_values v1 v2 v3 v4 v5_14 hf
  have J26 : ∀ (k17 : (Nat → Int32) → Int32 → Int32 → Int32 → Int32 → Int32 → Option (Int32 × (Nat → Int32))) (hk17 : ∀ (t_values : (Nat → Int32)) (v1 : Int32) (v2 : Int32) (v3 : Int32) (v4 : Int32) (v5 : Int32), k17 t_values v1 v2 v3 v4 v5 = some res → G 0 0 (wd_X3_nextAsk cI cZ h_t h_t_values t_values) [(0, .ref h_t), (1, .int v1), (2, .int v2), (3, .int v3), (4, .int v4), (5, .int v5)] 17 []) (n : Nat) (t_values : (Nat → Int32)) (v1 : Int32) (v2 : Int32) (v3 : Int32) (v4 : Int32) (v5 : Int32) (v6 : Int32), f_X3_nextAsk_26 k17 n t_values v1 v2 v3 v4 v5 v6 = some res → G 0 0 (wd_X3_nextAsk cI cZ h_t h_t_values t_values) [(0, .ref h_t), (1, .int v1), (2, .int v2), (3, .int v3), (4, .int v4), (5, .int v5), (6, .int v6)] 26 [] := by
    intro k17 hk17 n
    induction n with
    | zero => intro t_values v1 v2 v3 v4 v5 v6 hf; rw [f_X3_nextAsk_26] at hf; cases hf
    | succ n ih =>
      intro t_values v1 v2 v3 v4 v5 v6 hf
      rw [f_X3_nextAsk_26] at hf
      refine g_iload X dX3_nextAsk_26 6 rfl ?_
      refine g_bipush (v := 11) X dX3_nextAsk_28 (by decide) ?_
      refine g_icmp_gt (tgt := 101) X dX3_nextAsk_30 (by decide) (fun hc_2 => ?_) (fun hc_2 => ?_)
      · replace hf := ite_t hc_2 hf
        refine g_lv X (lv' := [(0, .ref h_t), (1, .int v1), (2, .int v2), (3, .int v3), (4, .int v4), (5, .int v5)]) [0, 1, 2, 3, 4, 5] rfl ?_
        exact J101 k17 hk17 t_values v1 v2 v3 v4 v5 hf
      · replace hf := ite_f hc_2 hf
        refine g_iconst (v := 0) X dX3_nextAsk_33 (by decide) ?_
        refine g_istore (lv' := [(0, .ref h_t), (1, .int v1), (2, .int v2), (3, .int v3), (4, .int v4), (5, .int v5), (6, .int v6), (7, .int 0)]) X dX3_nextAsk_34 (Nat.le_of_ble_eq_true rfl) [1, 2, 3, 4, 5, 6, 7, 0] rfl ?_
        exact J36 k17 hk17 (f_X3_nextAsk_26 k17 n) ih FU t_values v1 v2 v3 v4 v5 v6 0 hf
  have J17 : ∀ (n : Nat) (t_values : (Nat → Int32)) (v1 : Int32) (v2 : Int32) (v3 : Int32) (v4 : Int32) (v5 : Int32), f_X3_nextAsk_17 n t_values v1 v2 v3 v4 v5 = some res → G 0 0 (wd_X3_nextAsk cI cZ h_t h_t_values t_values) [(0, .ref h_t), (1, .int v1), (2, .int v2), (3, .int v3), (4, .int v4), (5, .int v5)] 17 [] := by
    intro n
    induction n with
    | zero => intro t_values v1 v2 v3 v4 v5 hf; rw [f_X3_nextAsk_17] at hf; cases hf
    | succ n ih =>
      intro t_values v1 v2 v3 v4 v5 hf
      rw [f_X3_nextAsk_17] at hf
      refine g_iload X dX3_nextAsk_17 5 rfl ?_
      refine g_iconst (v := 1) X dX3_nextAsk_19 (by decide) ?_
      refine g_icmp_gt (tgt := 107) X dX3_nextAsk_20 (by decide) (fun hc_1 => ?_) (fun hc_1 => ?_)
      · replace hf := ite_t hc_1 hf
        refine g_iload_n X dX3_nextAsk_107 rfl 3 rfl ?_
        exact hR _ _ _ _ dX3_nextAsk_108 (kV_in (u := (v3, t_values)) hf)
      · replace hf := ite_f hc_1 hf
        refine g_iconst (v := 0) X dX3_nextAsk_23 (by decide) ?_
        refine g_istore (lv' := [(0, .ref h_t), (1, .int v1), (2, .int v2), (3, .int v3), (4, .int v4), (5, .int v5), (6, .int 0)]) X dX3_nextAsk_24 (Nat.le_of_ble_eq_true rfl) [1, 2, 3, 4, 5, 6, 0] rfl ?_
        exact J26 (f_X3_nextAsk_17 n) ih FU t_values v1 v2 v3 v4 v5 0 hf
  have J12 : ∀ (t_values : (Nat → Int32)) (v1 : Int32) (v2 : Int32) (v3 : Int32) (s0 : Int32), f_X3_nextAsk_12 t_values v1 v2 v3 s0 = some res → G 0 0 (wd_X3_nextAsk cI cZ h_t h_t_values t_values) [(0, .ref h_t), (1, .int v1), (2, .int v2), (3, .int v3)] 12 [.int s0] := by
    intro t_values v1 v2 v3 s0 hf
    unfold f_X3_nextAsk_12 at hf
    refine g_istore (lv' := [(0, .ref h_t), (1, .int v1), (2, .int v2), (3, .int v3), (4, .int s0)]) X dX3_nextAsk_12 (Nat.le_of_ble_eq_true rfl) [1, 2, 3, 4, 0] rfl ?_
    refine g_iconst (v := 0) X dX3_nextAsk_14 (by decide) ?_
    refine g_istore (lv' := [(0, .ref h_t), (1, .int v1), (2, .int v2), (3, .int v3), (4, .int s0), (5, .int 0)]) X dX3_nextAsk_15 (Nat.le_of_ble_eq_true rfl) [1, 2, 3, 4, 5, 0] rfl ?_
    exact J17 FU t_values v1 v2 v3 s0 0 hf
  refine g_iconst (v := (-1)) X dX3_nextAsk_0 (by decide) ?_
  refine g_istore_n (lv' := [(0, .ref h_t), (1, .int v1), (2, .int v2), (3, .int (-1))]) X dX3_nextAsk_1 rfl (Nat.le_of_ble_eq_true rfl) [1, 2, 3, 0] rfl ?_
  refine g_iload_n X dX3_nextAsk_2 rfl 1 rfl ?_
  refine g_if_ne (tgt := 10) X dX3_nextAsk_3 (by decide) (fun hc_15 => ?_) (fun hc_15 => ?_)
  · replace hf := ite_f hc_15 hf
    refine g_bipush (v := 7) X dX3_nextAsk_10 (by decide) ?_
    exact J12 t_values v1 v2 (-1) 7 hf
  · replace hf := ite_t hc_15 hf
    refine g_iconst (v := 0) X dX3_nextAsk_6 (by decide) ?_
    refine g_goto (tgt := 12) X dX3_nextAsk_7 (by decide) ?_
    exact J12 t_values v1 v2 (-1) 0 hf
