def wd_X12_in (cI cZ : ClassId) : va_W := []
abbrev rm_X12_in : Room := { frames := 0, cells := 0, slots := 0, locals := 0 }
theorem hs_X12_in : yX12_in.cls ≠ "java/lang/invoke/MethodHandle" ∧ yX12_in.cls ≠ "java/lang/invoke/VarHandle" ∧ (parseMethodDescriptor yX12_in.desc).map (fun d => d.parameters.length) = some 3 := by decide +kernel
set_option maxHeartbeats 4000000 in
set_option maxRecDepth 100000 in
theorem c_X12_in (l : Launch) (D : va_G) (cI cZ : ClassId) (v0 : Int64) (v2 : Int64) (v4 : Int64) (res : Int32) (hf : f_X12_in v0 v2 v4 = some res) : MetR l yX12_in wsX12_in rm_X12_in D cI cZ none [.long v0, .long v2, .long v4] (wd_X12_in cI cZ) (kR res (fun u => some (.int u))) := by
  refine metR_of (cc := cX12_in) (maxL := 6) (ret := (some .boolean)) (own := RX12) (lv0 := [(0, .long v0), (2, .long v2), (4, .long v4)]) (by decide) rfl (Nat.le_of_ble_eq_true rfl) rfl rfl (fun G X hR => ?_)
  replace hR := rt_bool hR
  unfold f_X12_in at hf
  refine g_lload_n X dX12_in_0 rfl 0 rfl ?_
  refine g_lload_n X dX12_in_1 rfl 1 rfl ?_
  refine g_lcmp X dX12_in_2 ?_
  refine g_if_lt (tgt := 17) X dX12_in_3 (by decide) (fun hc_1 => ?_) (fun hc_1 => ?_)
  · replace hf := ite_t hc_1 hf
    refine g_iconst (v := 0) X dX12_in_17 (by decide) ?_
    exact hR _ _ _ _ (Or.inl rfl) dX12_in_18 (kR_in (u := 0) hf)
  · replace hf := ite_f hc_1 hf
    refine g_lload_n X dX12_in_6 rfl 0 rfl ?_
    refine g_lload X dX12_in_7 2 rfl ?_
    refine g_lcmp X dX12_in_9 ?_
    refine g_if_gt (tgt := 17) X dX12_in_10 (by decide) (fun hc_2 => ?_) (fun hc_2 => ?_)
    · replace hf := ite_t hc_2 hf
      refine g_iconst (v := 0) X dX12_in_17 (by decide) ?_
      exact hR _ _ _ _ (Or.inl rfl) dX12_in_18 (kR_in (u := 0) hf)
    · replace hf := ite_f hc_2 hf
      refine g_iconst (v := 1) X dX12_in_13 (by decide) ?_
      refine g_goto (tgt := 18) X dX12_in_14 (by decide) ?_
      exact hR _ _ _ _ (Or.inr rfl) dX12_in_18 (kR_in (u := 1) hf)
def wd_X12_has (cI cZ : ClassId) : va_W := []
abbrev rm_X12_has : Room := { frames := 0, cells := 0, slots := 0, locals := 0 }
theorem hs_X12_has : yX12_has.cls ≠ "java/lang/invoke/MethodHandle" ∧ yX12_has.cls ≠ "java/lang/invoke/VarHandle" ∧ (parseMethodDescriptor yX12_has.desc).map (fun d => d.parameters.length) = some 2 := by decide +kernel
set_option maxHeartbeats 4000000 in
set_option maxRecDepth 100000 in
theorem c_X12_has (l : Launch) (D : va_G) (cI cZ : ClassId) (v0 : Int32) (v1 : Int32) (res : Int32) (hf : f_X12_has v0 v1 = some res) : MetR l yX12_has wsX12_has rm_X12_has D cI cZ none [.int v0, .int v1] (wd_X12_has cI cZ) (kR res (fun u => some (.int u))) := by
  refine metR_of (cc := cX12_has) (maxL := 2) (ret := (some .boolean)) (own := RX12) (lv0 := [(0, .int v0), (1, .int v1)]) (by decide) rfl (Nat.le_of_ble_eq_true rfl) rfl rfl (fun G X hR => ?_)
  replace hR := rt_bool hR
  unfold f_X12_has at hf
  refine g_iload_n X dX12_has_0 rfl 0 rfl ?_
  refine g_iload_n X dX12_has_1 rfl 1 rfl ?_
  refine g_ishr X dX12_has_2 ?_
  refine g_iconst (v := 1) X dX12_has_3 (by decide) ?_
  refine g_iand X dX12_has_4 ?_
  refine g_iconst (v := 1) X dX12_has_5 (by decide) ?_
  refine g_icmp_ne (tgt := 13) X dX12_has_6 (by decide) (fun hc_1 => ?_) (fun hc_1 => ?_)
  · replace hf := ite_f hc_1 hf
    refine g_iconst (v := 0) X dX12_has_13 (by decide) ?_
    exact hR _ _ _ _ (Or.inl rfl) dX12_has_14 (kR_in (u := 0) hf)
  · replace hf := ite_t hc_1 hf
    refine g_iconst (v := 1) X dX12_has_9 (by decide) ?_
    refine g_goto (tgt := 14) X dX12_has_10 (by decide) ?_
    exact hR _ _ _ _ (Or.inr rfl) dX12_has_14 (kR_in (u := 1) hf)
def wd_X12_ones (cI cZ : ClassId) : va_W := []
abbrev rm_X12_ones : Room := { frames := 0, cells := 0, slots := 0, locals := 0 }
theorem hs_X12_ones : yX12_ones.cls ≠ "java/lang/invoke/MethodHandle" ∧ yX12_ones.cls ≠ "java/lang/invoke/VarHandle" ∧ (parseMethodDescriptor yX12_ones.desc).map (fun d => d.parameters.length) = some 1 := by decide +kernel
set_option maxHeartbeats 4000000 in
set_option maxRecDepth 100000 in
theorem c_X12_ones (l : Launch) (D : va_G) (cI cZ : ClassId) (v0 : Int32) (res : Int32) (hf : f_X12_ones v0 = some res) : MetR l yX12_ones wsX12_ones rm_X12_ones D cI cZ none [.int v0] (wd_X12_ones cI cZ) (kR res (fun u => some (.int u))) := by
  refine metR_of (cc := cX12_ones) (maxL := 3) (ret := (some .int)) (own := RX12) (lv0 := [(0, .int v0)]) (by decide) rfl (Nat.le_of_ble_eq_true rfl) rfl rfl (fun G X hR => ?_)
  replace hR := rt_int hR
  unfold f_X12_ones at hf
  have J4 : ∀ (n : Nat) (v0 : Int32) (v1 : Int32) (v2 : Int32), f_X12_ones_4 n v0 v1 v2 = some res → G 0 0 (wd_X12_ones cI cZ) [(0, .int v0), (1, .int v1), (2, .int v2)] 4 [] := by
    intro n
    induction n with
    | zero => intro v0 v1 v2 hf; rw [f_X12_ones_4] at hf; cases hf
    | succ n ih =>
      intro v0 v1 v2 hf
      rw [f_X12_ones_4] at hf
      refine g_iload_n X dX12_ones_4 rfl 2 rfl ?_
      refine g_bipush (v := 7) X dX12_ones_5 (by decide) ?_
      refine g_icmp_ge (tgt := 24) X dX12_ones_7 (by decide) (fun hc_1 => ?_) (fun hc_1 => ?_)
      · replace hf := ite_t hc_1 hf
        refine g_iload_n X dX12_ones_24 rfl 1 rfl ?_
        exact hR _ _ _ _ dX12_ones_25 (kR_in (u := v1) hf)
      · replace hf := ite_f hc_1 hf
        refine g_iload_n X dX12_ones_10 rfl 1 rfl ?_
        refine g_iload_n X dX12_ones_11 rfl 0 rfl ?_
        refine g_iload_n X dX12_ones_12 rfl 2 rfl ?_
        refine g_ishr X dX12_ones_13 ?_
        refine g_iconst (v := 1) X dX12_ones_14 (by decide) ?_
        refine g_iand X dX12_ones_15 ?_
        refine g_iadd X dX12_ones_16 ?_
        obtain ⟨v1_2, ev1_2, hf⟩ := bnd_out hf
        refine g_nmI X ev1_2 ?_
        refine g_istore_n (lv' := [(0, .int v0), (1, .int v1_2), (2, .int v2)]) X dX12_ones_17 rfl (Nat.le_of_ble_eq_true rfl) [1, 0, 2] rfl ?_
        obtain ⟨v2_3, ev2_3, hf⟩ := bnd_out hf
        refine g_iinc (v := v2_3) (lv' := [(0, .int v0), (1, .int v1_2), (2, .int v2_3)]) X dX12_ones_18 2 rfl (by rw [ev2_3]; rfl) (Nat.le_of_ble_eq_true rfl) [1, 2, 0] rfl ?_
        refine g_goto (tgt := 4) X dX12_ones_21 (by decide) ?_
        exact ih v0 v1_2 v2_3 hf
  refine g_iconst (v := 0) X dX12_ones_0 (by decide) ?_
  refine g_istore_n (lv' := [(0, .int v0), (1, .int 0)]) X dX12_ones_1 rfl (Nat.le_of_ble_eq_true rfl) [1, 0] rfl ?_
  refine g_iconst (v := 0) X dX12_ones_2 (by decide) ?_
  refine g_istore_n (lv' := [(0, .int v0), (1, .int 0), (2, .int 0)]) X dX12_ones_3 rfl (Nat.le_of_ble_eq_true rfl) [1, 2, 0] rfl ?_
  exact J4 FU v0 0 0 hf
def wd_X12_bad (cI cZ : ClassId) (h_t : Nat) (h_t_w : Nat) (h_t_isKept : Nat) (h_t_text : Nat) (h_t_statuses : Nat) (h_t_ways : Nat) (h_t_feels : Nat) (h_t_next : Nat) (h_t_came : Nat) (h_t_deep : Nat) (h_t_sizes : Nat) (h_t_tableOf : Nat) (h_t_usedBy : Nat) (h_t_taken : Nat) (h_t_sixOf : Nat) (t_texted : Int32) (t_above : Int64) (t_below : Int64) (t_at : Int32) (t_start : Int32) (t_number : Int32) (t_went : Int32) (t_h : Int64) (t_statuses : (Nat → Int32)) : va_W := [(h_t, .inr (8, [.ref h_t_w, .ref h_t_isKept, .ref h_t_text, .int t_texted, .long t_above, .long t_below, .ref h_t_statuses, .int t_at, .int t_start, .int t_number, .ref h_t_ways, .int t_went, .ref h_t_feels, .ref h_t_next, .ref h_t_came, .ref h_t_deep, .ref h_t_sizes, .ref h_t_tableOf, .ref h_t_usedBy, .ref h_t_taken, .ref h_t_sixOf, .long t_h])), (h_t_statuses, .inl (cI, 3, .inl t_statuses))]
abbrev rm_X12_bad : Room := { frames := 0, cells := 0, slots := 0, locals := 0 }
theorem hv_X12_bad : yX12_bad.cls = RX12 ∧ yX12_bad.cls ≠ "java/lang/invoke/MethodHandle" ∧ yX12_bad.cls ≠ "java/lang/invoke/VarHandle" ∧ (parseMethodDescriptor yX12_bad.desc).map (fun d => d.parameters.length) = some 1 := by decide +kernel
theorem iw_X12_bad_X12 : ∀ w ∈ u_ws RX12 TX12 22, w ∈ wsX12_bad := by decide +kernel
theorem lk_X12_bad_27 : Cond.fieldLink RX12 27 "ClerkChainsModel" "statuses" "[I" ∈ wsX12_bad := by decide +kernel
set_option maxHeartbeats 4000000 in
set_option maxRecDepth 100000 in
theorem c_X12_bad (l : Launch) (D : va_G) (cI cZ : ClassId) (h_t : Nat) (h_t_w : Nat) (h_t_isKept : Nat) (h_t_text : Nat) (h_t_statuses : Nat) (h_t_ways : Nat) (h_t_feels : Nat) (h_t_next : Nat) (h_t_came : Nat) (h_t_deep : Nat) (h_t_sizes : Nat) (h_t_tableOf : Nat) (h_t_usedBy : Nat) (h_t_taken : Nat) (h_t_sixOf : Nat) (t_texted : Int32) (t_above : Int64) (t_below : Int64) (t_at : Int32) (t_start : Int32) (t_number : Int32) (t_went : Int32) (t_h : Int64) (t_statuses : (Nat → Int32)) (v1 : Int32) (res : Int32 × (Nat → Int32)) (hf : f_X12_bad t_statuses v1 = some res) : MetG l yX12_bad wsX12_bad rm_X12_bad D cI cZ none [.ref h_t, .int v1] (wd_X12_bad cI cZ h_t h_t_w h_t_isKept h_t_text h_t_statuses h_t_ways h_t_feels h_t_next h_t_came h_t_deep h_t_sizes h_t_tableOf h_t_usedBy h_t_taken h_t_sixOf t_texted t_above t_below t_at t_start t_number t_went t_h t_statuses) (kV res (fun u => some (.int u.1)) (fun u => (wd_X12_bad cI cZ h_t h_t_w h_t_isKept h_t_text h_t_statuses h_t_ways h_t_feels h_t_next h_t_came h_t_deep h_t_sizes h_t_tableOf h_t_usedBy h_t_taken h_t_sixOf t_texted t_above t_below t_at t_start t_number t_went t_h (u.2)))) := by
  refine metG_of (cc := cX12_bad) (maxL := 2) (ret := (some .int)) (own := RX12) (lv0 := [(0, .ref h_t), (1, .int v1)]) (ini := false) (by decide) rfl (Nat.le_of_ble_eq_true rfl) rfl rfl (fun h => by cases h) (fun G X hR => ?_)
  replace hR := rt_int hR
  unfold f_X12_bad at hf
  refine g_aload_n X dX12_bad_0 rfl 0 rfl ?_
  refine g_get (C := RX12) (T := TX12) (N := 22) (ci := 8) (v := (.ref h_t_statuses)) X iw_X12_bad_X12 0 rfl rfl 6 (by decide) lk_X12_bad_27 rfl dX12_bad_1 ?_
  refine g_iconst (v := 0) X dX12_bad_4 (by decide) ?_
  refine g_dup2_11 X dX12_bad_5 rfl rfl ?_
  obtain ⟨hb_1, hf⟩ := chk_out hf
  refine g_iald X 1 rfl hb_1 dX12_bad_6 ?_
  refine g_iconst (v := 1) X dX12_bad_7 (by decide) ?_
  refine g_iadd X dX12_bad_8 ?_
  obtain ⟨hb_2, hf⟩ := chk_out hf
  obtain ⟨t_statuses_3, et_statuses_3, hf⟩ := bnd_out hf
  refine g_iast (ws' := (wd_X12_bad cI cZ h_t h_t_w h_t_isKept h_t_text h_t_statuses h_t_ways h_t_feels h_t_next h_t_came h_t_deep h_t_sizes h_t_tableOf h_t_usedBy h_t_taken h_t_sixOf t_texted t_above t_below t_at t_start t_number t_went t_h t_statuses_3)) X 1 rfl hb_2 et_statuses_3 dX12_bad_9 rfl ?_
  refine g_iload_n X dX12_bad_10 rfl 1 rfl ?_
  exact hR _ _ _ _ dX12_bad_11 (kV_in (u := (v1, t_statuses_3)) hf)
def wd_X12_no (cI cZ : ClassId) (h_t : Nat) (h_t_w : Nat) (h_t_isKept : Nat) (h_t_text : Nat) (h_t_statuses : Nat) (h_t_ways : Nat) (h_t_feels : Nat) (h_t_next : Nat) (h_t_came : Nat) (h_t_deep : Nat) (h_t_sizes : Nat) (h_t_tableOf : Nat) (h_t_usedBy : Nat) (h_t_taken : Nat) (h_t_sixOf : Nat) (t_texted : Int32) (t_above : Int64) (t_below : Int64) (t_at : Int32) (t_start : Int32) (t_number : Int32) (t_went : Int32) (t_h : Int64) (t_statuses : (Nat → Int32)) : va_W := [(h_t, .inr (8, [.ref h_t_w, .ref h_t_isKept, .ref h_t_text, .int t_texted, .long t_above, .long t_below, .ref h_t_statuses, .int t_at, .int t_start, .int t_number, .ref h_t_ways, .int t_went, .ref h_t_feels, .ref h_t_next, .ref h_t_came, .ref h_t_deep, .ref h_t_sizes, .ref h_t_tableOf, .ref h_t_usedBy, .ref h_t_taken, .ref h_t_sixOf, .long t_h])), (h_t_statuses, .inl (cI, 3, .inl t_statuses))]
abbrev rm_X12_no : Room := { frames := 0, cells := 0, slots := 0, locals := 0 }
theorem hv_X12_no : yX12_no.cls = RX12 ∧ yX12_no.cls ≠ "java/lang/invoke/MethodHandle" ∧ yX12_no.cls ≠ "java/lang/invoke/VarHandle" ∧ (parseMethodDescriptor yX12_no.desc).map (fun d => d.parameters.length) = some 0 := by decide +kernel
theorem iw_X12_no_X12 : ∀ w ∈ u_ws RX12 TX12 22, w ∈ wsX12_no := by decide +kernel
theorem lk_X12_no_27 : Cond.fieldLink RX12 27 "ClerkChainsModel" "statuses" "[I" ∈ wsX12_no := by decide +kernel
set_option maxHeartbeats 4000000 in
set_option maxRecDepth 100000 in
theorem c_X12_no (l : Launch) (D : va_G) (cI cZ : ClassId) (h_t : Nat) (h_t_w : Nat) (h_t_isKept : Nat) (h_t_text : Nat) (h_t_statuses : Nat) (h_t_ways : Nat) (h_t_feels : Nat) (h_t_next : Nat) (h_t_came : Nat) (h_t_deep : Nat) (h_t_sizes : Nat) (h_t_tableOf : Nat) (h_t_usedBy : Nat) (h_t_taken : Nat) (h_t_sixOf : Nat) (t_texted : Int32) (t_above : Int64) (t_below : Int64) (t_at : Int32) (t_start : Int32) (t_number : Int32) (t_went : Int32) (t_h : Int64) (t_statuses : (Nat → Int32)) (res : Int32 × (Nat → Int32)) (hf : f_X12_no t_statuses = some res) : MetG l yX12_no wsX12_no rm_X12_no D cI cZ none [.ref h_t] (wd_X12_no cI cZ h_t h_t_w h_t_isKept h_t_text h_t_statuses h_t_ways h_t_feels h_t_next h_t_came h_t_deep h_t_sizes h_t_tableOf h_t_usedBy h_t_taken h_t_sixOf t_texted t_above t_below t_at t_start t_number t_went t_h t_statuses) (kV res (fun u => some (.int u.1)) (fun u => (wd_X12_no cI cZ h_t h_t_w h_t_isKept h_t_text h_t_statuses h_t_ways h_t_feels h_t_next h_t_came h_t_deep h_t_sizes h_t_tableOf h_t_usedBy h_t_taken h_t_sixOf t_texted t_above t_below t_at t_start t_number t_went t_h (u.2)))) := by
  refine metG_of (cc := cX12_no) (maxL := 1) (ret := (some .int)) (own := RX12) (lv0 := [(0, .ref h_t)]) (ini := false) (by decide) rfl (Nat.le_of_ble_eq_true rfl) rfl rfl (fun h => by cases h) (fun G X hR => ?_)
  replace hR := rt_int hR
  unfold f_X12_no at hf
  refine g_aload_n X dX12_no_0 rfl 0 rfl ?_
  refine g_get (C := RX12) (T := TX12) (N := 22) (ci := 8) (v := (.ref h_t_statuses)) X iw_X12_no_X12 0 rfl rfl 6 (by decide) lk_X12_no_27 rfl dX12_no_1 ?_
  refine g_iconst (v := 1) X dX12_no_4 (by decide) ?_
  refine g_dup2_11 X dX12_no_5 rfl rfl ?_
  obtain ⟨hb_1, hf⟩ := chk_out hf
  refine g_iald X 1 rfl hb_1 dX12_no_6 ?_
  refine g_iconst (v := 1) X dX12_no_7 (by decide) ?_
  refine g_iadd X dX12_no_8 ?_
  obtain ⟨hb_2, hf⟩ := chk_out hf
  obtain ⟨t_statuses_3, et_statuses_3, hf⟩ := bnd_out hf
  refine g_iast (ws' := (wd_X12_no cI cZ h_t h_t_w h_t_isKept h_t_text h_t_statuses h_t_ways h_t_feels h_t_next h_t_came h_t_deep h_t_sizes h_t_tableOf h_t_usedBy h_t_taken h_t_sixOf t_texted t_above t_below t_at t_start t_number t_went t_h t_statuses_3)) X 1 rfl hb_2 et_statuses_3 dX12_no_9 rfl ?_
  refine g_bipush (v := (-3)) X dX12_no_10 (by decide) ?_
  exact hR _ _ _ _ dX12_no_12 (kV_in (u := ((-3), t_statuses_3)) hf)
def wd_X12_full (cI cZ : ClassId) (h_t : Nat) (h_t_w : Nat) (h_t_isKept : Nat) (h_t_text : Nat) (h_t_statuses : Nat) (h_t_ways : Nat) (h_t_feels : Nat) (h_t_next : Nat) (h_t_came : Nat) (h_t_deep : Nat) (h_t_sizes : Nat) (h_t_tableOf : Nat) (h_t_usedBy : Nat) (h_t_taken : Nat) (h_t_sixOf : Nat) (t_texted : Int32) (t_above : Int64) (t_below : Int64) (t_at : Int32) (t_start : Int32) (t_number : Int32) (t_went : Int32) (t_h : Int64) (t_statuses : (Nat → Int32)) : va_W := [(h_t, .inr (8, [.ref h_t_w, .ref h_t_isKept, .ref h_t_text, .int t_texted, .long t_above, .long t_below, .ref h_t_statuses, .int t_at, .int t_start, .int t_number, .ref h_t_ways, .int t_went, .ref h_t_feels, .ref h_t_next, .ref h_t_came, .ref h_t_deep, .ref h_t_sizes, .ref h_t_tableOf, .ref h_t_usedBy, .ref h_t_taken, .ref h_t_sixOf, .long t_h])), (h_t_statuses, .inl (cI, 3, .inl t_statuses))]
abbrev rm_X12_full : Room := { frames := 0, cells := 0, slots := 0, locals := 0 }
theorem hv_X12_full : yX12_full.cls = RX12 ∧ yX12_full.cls ≠ "java/lang/invoke/MethodHandle" ∧ yX12_full.cls ≠ "java/lang/invoke/VarHandle" ∧ (parseMethodDescriptor yX12_full.desc).map (fun d => d.parameters.length) = some 0 := by decide +kernel
theorem iw_X12_full_X12 : ∀ w ∈ u_ws RX12 TX12 22, w ∈ wsX12_full := by decide +kernel
theorem lk_X12_full_27 : Cond.fieldLink RX12 27 "ClerkChainsModel" "statuses" "[I" ∈ wsX12_full := by decide +kernel
set_option maxHeartbeats 4000000 in
set_option maxRecDepth 100000 in
theorem c_X12_full (l : Launch) (D : va_G) (cI cZ : ClassId) (h_t : Nat) (h_t_w : Nat) (h_t_isKept : Nat) (h_t_text : Nat) (h_t_statuses : Nat) (h_t_ways : Nat) (h_t_feels : Nat) (h_t_next : Nat) (h_t_came : Nat) (h_t_deep : Nat) (h_t_sizes : Nat) (h_t_tableOf : Nat) (h_t_usedBy : Nat) (h_t_taken : Nat) (h_t_sixOf : Nat) (t_texted : Int32) (t_above : Int64) (t_below : Int64) (t_at : Int32) (t_start : Int32) (t_number : Int32) (t_went : Int32) (t_h : Int64) (t_statuses : (Nat → Int32)) (res : Int32 × (Nat → Int32)) (hf : f_X12_full t_statuses = some res) : MetG l yX12_full wsX12_full rm_X12_full D cI cZ none [.ref h_t] (wd_X12_full cI cZ h_t h_t_w h_t_isKept h_t_text h_t_statuses h_t_ways h_t_feels h_t_next h_t_came h_t_deep h_t_sizes h_t_tableOf h_t_usedBy h_t_taken h_t_sixOf t_texted t_above t_below t_at t_start t_number t_went t_h t_statuses) (kV res (fun u => some (.int u.1)) (fun u => (wd_X12_full cI cZ h_t h_t_w h_t_isKept h_t_text h_t_statuses h_t_ways h_t_feels h_t_next h_t_came h_t_deep h_t_sizes h_t_tableOf h_t_usedBy h_t_taken h_t_sixOf t_texted t_above t_below t_at t_start t_number t_went t_h (u.2)))) := by
  refine metG_of (cc := cX12_full) (maxL := 1) (ret := (some .int)) (own := RX12) (lv0 := [(0, .ref h_t)]) (ini := false) (by decide) rfl (Nat.le_of_ble_eq_true rfl) rfl rfl (fun h => by cases h) (fun G X hR => ?_)
  replace hR := rt_int hR
  unfold f_X12_full at hf
  refine g_aload_n X dX12_full_0 rfl 0 rfl ?_
  refine g_get (C := RX12) (T := TX12) (N := 22) (ci := 8) (v := (.ref h_t_statuses)) X iw_X12_full_X12 0 rfl rfl 6 (by decide) lk_X12_full_27 rfl dX12_full_1 ?_
  refine g_iconst (v := 2) X dX12_full_4 (by decide) ?_
  refine g_dup2_11 X dX12_full_5 rfl rfl ?_
  obtain ⟨hb_1, hf⟩ := chk_out hf
  refine g_iald X 1 rfl hb_1 dX12_full_6 ?_
  refine g_iconst (v := 1) X dX12_full_7 (by decide) ?_
  refine g_iadd X dX12_full_8 ?_
  obtain ⟨hb_2, hf⟩ := chk_out hf
  obtain ⟨t_statuses_3, et_statuses_3, hf⟩ := bnd_out hf
  refine g_iast (ws' := (wd_X12_full cI cZ h_t h_t_w h_t_isKept h_t_text h_t_statuses h_t_ways h_t_feels h_t_next h_t_came h_t_deep h_t_sizes h_t_tableOf h_t_usedBy h_t_taken h_t_sixOf t_texted t_above t_below t_at t_start t_number t_went t_h t_statuses_3)) X 1 rfl hb_2 et_statuses_3 dX12_full_9 rfl ?_
  refine g_bipush (v := (-4)) X dX12_full_10 (by decide) ?_
  exact hR _ _ _ _ dX12_full_12 (kV_in (u := ((-4), t_statuses_3)) hf)
def wd_X12_copy (cI cZ : ClassId) (h_t : Nat) (h_t_w : Nat) (h_t_isKept : Nat) (h_t_text : Nat) (h_t_statuses : Nat) (h_t_ways : Nat) (h_t_feels : Nat) (h_t_next : Nat) (h_t_came : Nat) (h_t_deep : Nat) (h_t_sizes : Nat) (h_t_tableOf : Nat) (h_t_usedBy : Nat) (h_t_taken : Nat) (h_t_sixOf : Nat) (t_texted : Int32) (t_above : Int64) (t_below : Int64) (t_at : Int32) (t_start : Int32) (t_number : Int32) (t_went : Int32) (t_h : Int64) (t_w : (Nat → Int32)) : va_W := [(h_t, .inr (8, [.ref h_t_w, .ref h_t_isKept, .ref h_t_text, .int t_texted, .long t_above, .long t_below, .ref h_t_statuses, .int t_at, .int t_start, .int t_number, .ref h_t_ways, .int t_went, .ref h_t_feels, .ref h_t_next, .ref h_t_came, .ref h_t_deep, .ref h_t_sizes, .ref h_t_tableOf, .ref h_t_usedBy, .ref h_t_taken, .ref h_t_sixOf, .long t_h])), (h_t_w, .inl (cI, 1251, .inl t_w))]
abbrev rm_X12_copy : Room := { frames := 0, cells := 0, slots := 0, locals := 0 }
theorem hv_X12_copy : yX12_copy.cls = RX12 ∧ yX12_copy.cls ≠ "java/lang/invoke/MethodHandle" ∧ yX12_copy.cls ≠ "java/lang/invoke/VarHandle" ∧ (parseMethodDescriptor yX12_copy.desc).map (fun d => d.parameters.length) = some 2 := by decide +kernel
theorem iw_X12_copy_X12 : ∀ w ∈ u_ws RX12 TX12 22, w ∈ wsX12_copy := by decide +kernel
theorem lk_X12_copy_7 : Cond.fieldLink RX12 7 "ClerkChainsModel" "w" "[I" ∈ wsX12_copy := by decide +kernel
set_option maxHeartbeats 4000000 in
set_option maxRecDepth 100000 in
theorem c_X12_copy (l : Launch) (D : va_G) (cI cZ : ClassId) (h_t : Nat) (h_t_w : Nat) (h_t_isKept : Nat) (h_t_text : Nat) (h_t_statuses : Nat) (h_t_ways : Nat) (h_t_feels : Nat) (h_t_next : Nat) (h_t_came : Nat) (h_t_deep : Nat) (h_t_sizes : Nat) (h_t_tableOf : Nat) (h_t_usedBy : Nat) (h_t_taken : Nat) (h_t_sixOf : Nat) (t_texted : Int32) (t_above : Int64) (t_below : Int64) (t_at : Int32) (t_start : Int32) (t_number : Int32) (t_went : Int32) (t_h : Int64) (t_w : (Nat → Int32)) (v1 : Int32) (v2 : Int32) (res : (Nat → Int32)) (hf : f_X12_copy t_w v1 v2 = some res) : MetG l yX12_copy wsX12_copy rm_X12_copy D cI cZ none [.ref h_t, .int v1, .int v2] (wd_X12_copy cI cZ h_t h_t_w h_t_isKept h_t_text h_t_statuses h_t_ways h_t_feels h_t_next h_t_came h_t_deep h_t_sizes h_t_tableOf h_t_usedBy h_t_taken h_t_sixOf t_texted t_above t_below t_at t_start t_number t_went t_h t_w) (kV res (fun _ => none) (fun u => (wd_X12_copy cI cZ h_t h_t_w h_t_isKept h_t_text h_t_statuses h_t_ways h_t_feels h_t_next h_t_came h_t_deep h_t_sizes h_t_tableOf h_t_usedBy h_t_taken h_t_sixOf t_texted t_above t_below t_at t_start t_number t_went t_h u))) := by
  refine metG_of (cc := cX12_copy) (maxL := 4) (ret := none) (own := RX12) (lv0 := [(0, .ref h_t), (1, .int v1), (2, .int v2)]) (ini := false) (by decide) rfl (Nat.le_of_ble_eq_true rfl) rfl rfl (fun h => by cases h) (fun G X hR => ?_)
  replace hR := rt_void hR
  unfold f_X12_copy at hf
  have J2 : ∀ (n : Nat) (t_w : (Nat → Int32)) (v1 : Int32) (v2 : Int32) (v3 : Int32), f_X12_copy_2 n t_w v1 v2 v3 = some res → G 0 0 (wd_X12_copy cI cZ h_t h_t_w h_t_isKept h_t_text h_t_statuses h_t_ways h_t_feels h_t_next h_t_came h_t_deep h_t_sizes h_t_tableOf h_t_usedBy h_t_taken h_t_sixOf t_texted t_above t_below t_at t_start t_number t_went t_h t_w) [(0, .ref h_t), (1, .int v1), (2, .int v2), (3, .int v3)] 2 [] := by
    intro n
    induction n with
    | zero => intro t_w v1 v2 v3 hf; rw [f_X12_copy_2] at hf; cases hf
    | succ n ih =>
      intro t_w v1 v2 v3 hf
      rw [f_X12_copy_2] at hf
      refine g_iload_n X dX12_copy_2 rfl 3 rfl ?_
      refine g_sipush (v := 301) X dX12_copy_3 (by decide) ?_
      refine g_icmp_ge (tgt := 31) X dX12_copy_6 (by decide) (fun hc_1 => ?_) (fun hc_1 => ?_)
      · replace hf := ite_t hc_1 hf
        exact hR _ _ _ dX12_copy_31 (kV_in (u := t_w) hf)
      · replace hf := ite_f hc_1 hf
        refine g_aload_n X dX12_copy_9 rfl 0 rfl ?_
        refine g_get (C := RX12) (T := TX12) (N := 22) (ci := 8) (v := (.ref h_t_w)) X iw_X12_copy_X12 0 rfl rfl 0 (by decide) lk_X12_copy_7 rfl dX12_copy_10 ?_
        refine g_iload_n X dX12_copy_13 rfl 2 rfl ?_
        refine g_iload_n X dX12_copy_14 rfl 3 rfl ?_
        refine g_iadd X dX12_copy_15 ?_
        refine g_aload_n X dX12_copy_16 rfl 0 rfl ?_
        refine g_get (C := RX12) (T := TX12) (N := 22) (ci := 8) (v := (.ref h_t_w)) X iw_X12_copy_X12 0 rfl rfl 0 (by decide) lk_X12_copy_7 rfl dX12_copy_17 ?_
        refine g_iload_n X dX12_copy_20 rfl 1 rfl ?_
        refine g_iload_n X dX12_copy_21 rfl 3 rfl ?_
        refine g_iadd X dX12_copy_22 ?_
        obtain ⟨hb_2, hf⟩ := chk_out hf
        refine g_iald X 1 rfl hb_2 dX12_copy_23 ?_
        obtain ⟨hb_3, hf⟩ := chk_out hf
        obtain ⟨t_w_4, et_w_4, hf⟩ := bnd_out hf
        refine g_iast (ws' := (wd_X12_copy cI cZ h_t h_t_w h_t_isKept h_t_text h_t_statuses h_t_ways h_t_feels h_t_next h_t_came h_t_deep h_t_sizes h_t_tableOf h_t_usedBy h_t_taken h_t_sixOf t_texted t_above t_below t_at t_start t_number t_went t_h t_w_4)) X 1 rfl hb_3 et_w_4 dX12_copy_24 rfl ?_
        obtain ⟨v3_5, ev3_5, hf⟩ := bnd_out hf
        refine g_iinc (v := v3_5) (lv' := [(0, .ref h_t), (1, .int v1), (2, .int v2), (3, .int v3_5)]) X dX12_copy_25 3 rfl (by rw [ev3_5]; rfl) (Nat.le_of_ble_eq_true rfl) [1, 2, 3, 0] rfl ?_
        refine g_goto (tgt := 2) X dX12_copy_28 (by decide) ?_
        exact ih t_w_4 v1 v2 v3_5 hf
  refine g_iconst (v := 0) X dX12_copy_0 (by decide) ?_
  refine g_istore_n (lv' := [(0, .ref h_t), (1, .int v1), (2, .int v2), (3, .int 0)]) X dX12_copy_1 rfl (Nat.le_of_ble_eq_true rfl) [1, 2, 3, 0] rfl ?_
  exact J2 FU t_w v1 v2 0 hf
def wd_X12_empties (cI cZ : ClassId) (h_t : Nat) (h_t_w : Nat) (h_t_isKept : Nat) (h_t_text : Nat) (h_t_statuses : Nat) (h_t_ways : Nat) (h_t_feels : Nat) (h_t_next : Nat) (h_t_came : Nat) (h_t_deep : Nat) (h_t_sizes : Nat) (h_t_tableOf : Nat) (h_t_usedBy : Nat) (h_t_taken : Nat) (h_t_sixOf : Nat) (t_texted : Int32) (t_above : Int64) (t_below : Int64) (t_at : Int32) (t_start : Int32) (t_number : Int32) (t_went : Int32) (t_h : Int64) (t_w : (Nat → Int32)) : va_W := [(h_t, .inr (8, [.ref h_t_w, .ref h_t_isKept, .ref h_t_text, .int t_texted, .long t_above, .long t_below, .ref h_t_statuses, .int t_at, .int t_start, .int t_number, .ref h_t_ways, .int t_went, .ref h_t_feels, .ref h_t_next, .ref h_t_came, .ref h_t_deep, .ref h_t_sizes, .ref h_t_tableOf, .ref h_t_usedBy, .ref h_t_taken, .ref h_t_sixOf, .long t_h])), (h_t_w, .inl (cI, 1251, .inl t_w))]
abbrev rm_X12_empties : Room := { frames := 0, cells := 0, slots := 0, locals := 0 }
theorem hv_X12_empties : yX12_empties.cls = RX12 ∧ yX12_empties.cls ≠ "java/lang/invoke/MethodHandle" ∧ yX12_empties.cls ≠ "java/lang/invoke/VarHandle" ∧ (parseMethodDescriptor yX12_empties.desc).map (fun d => d.parameters.length) = some 1 := by decide +kernel
theorem iw_X12_empties_X12 : ∀ w ∈ u_ws RX12 TX12 22, w ∈ wsX12_empties := by decide +kernel
theorem lk_X12_empties_7 : Cond.fieldLink RX12 7 "ClerkChainsModel" "w" "[I" ∈ wsX12_empties := by decide +kernel
set_option maxHeartbeats 4000000 in
set_option maxRecDepth 100000 in
theorem c_X12_empties (l : Launch) (D : va_G) (cI cZ : ClassId) (h_t : Nat) (h_t_w : Nat) (h_t_isKept : Nat) (h_t_text : Nat) (h_t_statuses : Nat) (h_t_ways : Nat) (h_t_feels : Nat) (h_t_next : Nat) (h_t_came : Nat) (h_t_deep : Nat) (h_t_sizes : Nat) (h_t_tableOf : Nat) (h_t_usedBy : Nat) (h_t_taken : Nat) (h_t_sixOf : Nat) (t_texted : Int32) (t_above : Int64) (t_below : Int64) (t_at : Int32) (t_start : Int32) (t_number : Int32) (t_went : Int32) (t_h : Int64) (t_w : (Nat → Int32)) (v1 : Int32) (res : (Nat → Int32)) (hf : f_X12_empties t_w v1 = some res) : MetG l yX12_empties wsX12_empties rm_X12_empties D cI cZ none [.ref h_t, .int v1] (wd_X12_empties cI cZ h_t h_t_w h_t_isKept h_t_text h_t_statuses h_t_ways h_t_feels h_t_next h_t_came h_t_deep h_t_sizes h_t_tableOf h_t_usedBy h_t_taken h_t_sixOf t_texted t_above t_below t_at t_start t_number t_went t_h t_w) (kV res (fun _ => none) (fun u => (wd_X12_empties cI cZ h_t h_t_w h_t_isKept h_t_text h_t_statuses h_t_ways h_t_feels h_t_next h_t_came h_t_deep h_t_sizes h_t_tableOf h_t_usedBy h_t_taken h_t_sixOf t_texted t_above t_below t_at t_start t_number t_went t_h u))) := by
  refine metG_of (cc := cX12_empties) (maxL := 3) (ret := none) (own := RX12) (lv0 := [(0, .ref h_t), (1, .int v1)]) (ini := false) (by decide) rfl (Nat.le_of_ble_eq_true rfl) rfl rfl (fun h => by cases h) (fun G X hR => ?_)
  replace hR := rt_void hR
  unfold f_X12_empties at hf
  have J2 : ∀ (n : Nat) (t_w : (Nat → Int32)) (v1 : Int32) (v2 : Int32), f_X12_empties_2 n t_w v1 v2 = some res → G 0 0 (wd_X12_empties cI cZ h_t h_t_w h_t_isKept h_t_text h_t_statuses h_t_ways h_t_feels h_t_next h_t_came h_t_deep h_t_sizes h_t_tableOf h_t_usedBy h_t_taken h_t_sixOf t_texted t_above t_below t_at t_start t_number t_went t_h t_w) [(0, .ref h_t), (1, .int v1), (2, .int v2)] 2 [] := by
    intro n
    induction n with
    | zero => intro t_w v1 v2 hf; rw [f_X12_empties_2] at hf; cases hf
    | succ n ih =>
      intro t_w v1 v2 hf
      rw [f_X12_empties_2] at hf
      refine g_iload_n X dX12_empties_2 rfl 2 rfl ?_
      refine g_sipush (v := 301) X dX12_empties_3 (by decide) ?_
      refine g_icmp_ge (tgt := 24) X dX12_empties_6 (by decide) (fun hc_1 => ?_) (fun hc_1 => ?_)
      · replace hf := ite_t hc_1 hf
        exact hR _ _ _ dX12_empties_24 (kV_in (u := t_w) hf)
      · replace hf := ite_f hc_1 hf
        refine g_aload_n X dX12_empties_9 rfl 0 rfl ?_
        refine g_get (C := RX12) (T := TX12) (N := 22) (ci := 8) (v := (.ref h_t_w)) X iw_X12_empties_X12 0 rfl rfl 0 (by decide) lk_X12_empties_7 rfl dX12_empties_10 ?_
        refine g_iload_n X dX12_empties_13 rfl 1 rfl ?_
        refine g_iload_n X dX12_empties_14 rfl 2 rfl ?_
        refine g_iadd X dX12_empties_15 ?_
        refine g_iconst (v := 0) X dX12_empties_16 (by decide) ?_
        obtain ⟨hb_2, hf⟩ := chk_out hf
        obtain ⟨t_w_3, et_w_3, hf⟩ := bnd_out hf
        refine g_iast (ws' := (wd_X12_empties cI cZ h_t h_t_w h_t_isKept h_t_text h_t_statuses h_t_ways h_t_feels h_t_next h_t_came h_t_deep h_t_sizes h_t_tableOf h_t_usedBy h_t_taken h_t_sixOf t_texted t_above t_below t_at t_start t_number t_went t_h t_w_3)) X 1 rfl hb_2 et_w_3 dX12_empties_17 rfl ?_
        obtain ⟨v2_4, ev2_4, hf⟩ := bnd_out hf
        refine g_iinc (v := v2_4) (lv' := [(0, .ref h_t), (1, .int v1), (2, .int v2_4)]) X dX12_empties_18 2 rfl (by rw [ev2_4]; rfl) (Nat.le_of_ble_eq_true rfl) [1, 2, 0] rfl ?_
        refine g_goto (tgt := 2) X dX12_empties_21 (by decide) ?_
        exact ih t_w_3 v1 v2_4 hf
  refine g_iconst (v := 0) X dX12_empties_0 (by decide) ?_
  refine g_istore_n (lv' := [(0, .ref h_t), (1, .int v1), (2, .int 0)]) X dX12_empties_1 rfl (Nat.le_of_ble_eq_true rfl) [1, 2, 0] rfl ?_
  exact J2 FU t_w v1 0 hf
def wd_X12_isClerk (cI cZ : ClassId) (h_t : Nat) (h_t_w : Nat) (h_t_isKept : Nat) (h_t_text : Nat) (h_t_statuses : Nat) (h_t_ways : Nat) (h_t_feels : Nat) (h_t_next : Nat) (h_t_came : Nat) (h_t_deep : Nat) (h_t_sizes : Nat) (h_t_tableOf : Nat) (h_t_usedBy : Nat) (h_t_taken : Nat) (h_t_sixOf : Nat) (t_texted : Int32) (t_above : Int64) (t_below : Int64) (t_at : Int32) (t_start : Int32) (t_number : Int32) (t_went : Int32) (t_h : Int64) (t_w : (Nat → Int32)) : va_W := [(h_t, .inr (8, [.ref h_t_w, .ref h_t_isKept, .ref h_t_text, .int t_texted, .long t_above, .long t_below, .ref h_t_statuses, .int t_at, .int t_start, .int t_number, .ref h_t_ways, .int t_went, .ref h_t_feels, .ref h_t_next, .ref h_t_came, .ref h_t_deep, .ref h_t_sizes, .ref h_t_tableOf, .ref h_t_usedBy, .ref h_t_taken, .ref h_t_sixOf, .long t_h])), (h_t_w, .inl (cI, 1251, .inl t_w))]
abbrev rm_X12_isClerk : Room := { frames := 1, cells := 0, slots := 0, locals := 25 }
theorem hv_X12_isClerk : yX12_isClerk.cls = RX12 ∧ yX12_isClerk.cls ≠ "java/lang/invoke/MethodHandle" ∧ yX12_isClerk.cls ≠ "java/lang/invoke/VarHandle" ∧ (parseMethodDescriptor yX12_isClerk.desc).map (fun d => d.parameters.length) = some 1 := by decide +kernel
theorem iw_X12_isClerk_X12 : ∀ w ∈ u_ws RX12 TX12 22, w ∈ wsX12_isClerk := by decide +kernel
theorem lk_X12_isClerk_7 : Cond.fieldLink RX12 7 "ClerkChainsModel" "w" "[I" ∈ wsX12_isClerk := by decide +kernel
set_option maxHeartbeats 4000000 in
set_option maxRecDepth 100000 in
theorem c_X12_isClerk (l : Launch) (D : va_G) (cI cZ : ClassId) (h_t : Nat) (h_t_w : Nat) (h_t_isKept : Nat) (h_t_text : Nat) (h_t_statuses : Nat) (h_t_ways : Nat) (h_t_feels : Nat) (h_t_next : Nat) (h_t_came : Nat) (h_t_deep : Nat) (h_t_sizes : Nat) (h_t_tableOf : Nat) (h_t_usedBy : Nat) (h_t_taken : Nat) (h_t_sixOf : Nat) (t_texted : Int32) (t_above : Int64) (t_below : Int64) (t_at : Int32) (t_start : Int32) (t_number : Int32) (t_went : Int32) (t_h : Int64) (t_w : (Nat → Int32)) (v1 : Int32) (res : Int32) (hf : f_X12_isClerk t_w v1 = some res) : MetR l yX12_isClerk wsX12_isClerk rm_X12_isClerk D cI cZ none [.ref h_t, .int v1] (wd_X12_isClerk cI cZ h_t h_t_w h_t_isKept h_t_text h_t_statuses h_t_ways h_t_feels h_t_next h_t_came h_t_deep h_t_sizes h_t_tableOf h_t_usedBy h_t_taken h_t_sixOf t_texted t_above t_below t_at t_start t_number t_went t_h t_w) (kR res (fun u => some (.int u))) := by
  refine metR_of (cc := cX12_isClerk) (maxL := 2) (ret := (some .boolean)) (own := RX12) (lv0 := [(0, .ref h_t), (1, .int v1)]) (by decide) rfl (Nat.le_of_ble_eq_true rfl) rfl rfl (fun G X hR => ?_)
  replace hR := rt_bool hR
  unfold f_X12_isClerk at hf
  refine g_iload_n X dX12_isClerk_0 rfl 1 rfl ?_
  refine g_i2l X dX12_isClerk_1 ?_
  refine g_lconst (v := 0) X dX12_isClerk_2 (by decide) ?_
  refine g_aload_n X dX12_isClerk_3 rfl 0 rfl ?_
  refine g_get (C := RX12) (T := TX12) (N := 22) (ci := 8) (v := (.ref h_t_w)) X iw_X12_isClerk_X12 0 rfl rfl 0 (by decide) lk_X12_isClerk_7 rfl dX12_isClerk_4 ?_
  refine g_iconst (v := 0) X dX12_isClerk_7 (by decide) ?_
  obtain ⟨hb_1, hf⟩ := chk_out hf
  refine g_iald X 1 rfl hb_1 dX12_isClerk_8 ?_
  refine g_iconst (v := 1) X dX12_isClerk_9 (by decide) ?_
  refine g_isub X dX12_isClerk_10 ?_
  refine g_i2l X dX12_isClerk_11 ?_
  obtain ⟨r_2, hk_3, hf⟩ := ob1_out hf
  refine g_cSR (st := []) (st1 := [.int r_2]) X (c_X12_in l D cI cZ (v1.toInt64) 0 (((t_w (0 : Int32).toNatClampNeg) - 1).toInt64) _ hk_3) (Or.inl rfl) 3 gX12_isClerk_X12_in rfl hs_X12_in ⟨Nat.le_of_ble_eq_true rfl, Nat.le_of_ble_eq_true rfl⟩ rfl rfl (Nat.le_of_ble_eq_true rfl) ⟨rfl, rfl⟩ (Nat.zero_le _) (Nat.zero_le _) dX12_isClerk_12 [] rfl rfl rfl ?_
  obtain ⟨hz_4, hf⟩ := chb_out hf
  exact hR _ _ _ _ hz_4 dX12_isClerk_15 (kR_in (u := r_2) hf)
def wd_X12_isMagnet (cI cZ : ClassId) (h_t : Nat) (h_t_w : Nat) (h_t_isKept : Nat) (h_t_text : Nat) (h_t_statuses : Nat) (h_t_ways : Nat) (h_t_feels : Nat) (h_t_next : Nat) (h_t_came : Nat) (h_t_deep : Nat) (h_t_sizes : Nat) (h_t_tableOf : Nat) (h_t_usedBy : Nat) (h_t_taken : Nat) (h_t_sixOf : Nat) (t_texted : Int32) (t_above : Int64) (t_below : Int64) (t_at : Int32) (t_start : Int32) (t_number : Int32) (t_went : Int32) (t_h : Int64) (t_w : (Nat → Int32)) : va_W := [(h_t, .inr (8, [.ref h_t_w, .ref h_t_isKept, .ref h_t_text, .int t_texted, .long t_above, .long t_below, .ref h_t_statuses, .int t_at, .int t_start, .int t_number, .ref h_t_ways, .int t_went, .ref h_t_feels, .ref h_t_next, .ref h_t_came, .ref h_t_deep, .ref h_t_sizes, .ref h_t_tableOf, .ref h_t_usedBy, .ref h_t_taken, .ref h_t_sixOf, .long t_h])), (h_t_w, .inl (cI, 1251, .inl t_w))]
abbrev rm_X12_isMagnet : Room := { frames := 1, cells := 0, slots := 0, locals := 25 }
theorem hv_X12_isMagnet : yX12_isMagnet.cls = RX12 ∧ yX12_isMagnet.cls ≠ "java/lang/invoke/MethodHandle" ∧ yX12_isMagnet.cls ≠ "java/lang/invoke/VarHandle" ∧ (parseMethodDescriptor yX12_isMagnet.desc).map (fun d => d.parameters.length) = some 1 := by decide +kernel
theorem iw_X12_isMagnet_X12 : ∀ w ∈ u_ws RX12 TX12 22, w ∈ wsX12_isMagnet := by decide +kernel
theorem lk_X12_isMagnet_7 : Cond.fieldLink RX12 7 "ClerkChainsModel" "w" "[I" ∈ wsX12_isMagnet := by decide +kernel
set_option maxHeartbeats 4000000 in
set_option maxRecDepth 100000 in
theorem c_X12_isMagnet (l : Launch) (D : va_G) (cI cZ : ClassId) (h_t : Nat) (h_t_w : Nat) (h_t_isKept : Nat) (h_t_text : Nat) (h_t_statuses : Nat) (h_t_ways : Nat) (h_t_feels : Nat) (h_t_next : Nat) (h_t_came : Nat) (h_t_deep : Nat) (h_t_sizes : Nat) (h_t_tableOf : Nat) (h_t_usedBy : Nat) (h_t_taken : Nat) (h_t_sixOf : Nat) (t_texted : Int32) (t_above : Int64) (t_below : Int64) (t_at : Int32) (t_start : Int32) (t_number : Int32) (t_went : Int32) (t_h : Int64) (t_w : (Nat → Int32)) (v1 : Int32) (res : Int32) (hf : f_X12_isMagnet t_w v1 = some res) : MetR l yX12_isMagnet wsX12_isMagnet rm_X12_isMagnet D cI cZ none [.ref h_t, .int v1] (wd_X12_isMagnet cI cZ h_t h_t_w h_t_isKept h_t_text h_t_statuses h_t_ways h_t_feels h_t_next h_t_came h_t_deep h_t_sizes h_t_tableOf h_t_usedBy h_t_taken h_t_sixOf t_texted t_above t_below t_at t_start t_number t_went t_h t_w) (kR res (fun u => some (.int u))) := by
  refine metR_of (cc := cX12_isMagnet) (maxL := 2) (ret := (some .boolean)) (own := RX12) (lv0 := [(0, .ref h_t), (1, .int v1)]) (by decide) rfl (Nat.le_of_ble_eq_true rfl) rfl rfl (fun G X hR => ?_)
  replace hR := rt_bool hR
  unfold f_X12_isMagnet at hf
  refine g_iload_n X dX12_isMagnet_0 rfl 1 rfl ?_
  refine g_i2l X dX12_isMagnet_1 ?_
  refine g_lconst (v := 0) X dX12_isMagnet_2 (by decide) ?_
  refine g_aload_n X dX12_isMagnet_3 rfl 0 rfl ?_
  refine g_get (C := RX12) (T := TX12) (N := 22) (ci := 8) (v := (.ref h_t_w)) X iw_X12_isMagnet_X12 0 rfl rfl 0 (by decide) lk_X12_isMagnet_7 rfl dX12_isMagnet_4 ?_
  refine g_iconst (v := 1) X dX12_isMagnet_7 (by decide) ?_
  obtain ⟨hb_1, hf⟩ := chk_out hf
  refine g_iald X 1 rfl hb_1 dX12_isMagnet_8 ?_
  refine g_iconst (v := 1) X dX12_isMagnet_9 (by decide) ?_
  refine g_isub X dX12_isMagnet_10 ?_
  refine g_i2l X dX12_isMagnet_11 ?_
  obtain ⟨r_2, hk_3, hf⟩ := ob1_out hf
  refine g_cSR (st := []) (st1 := [.int r_2]) X (c_X12_in l D cI cZ (v1.toInt64) 0 (((t_w (1 : Int32).toNatClampNeg) - 1).toInt64) _ hk_3) (Or.inl rfl) 3 gX12_isMagnet_X12_in rfl hs_X12_in ⟨Nat.le_of_ble_eq_true rfl, Nat.le_of_ble_eq_true rfl⟩ rfl rfl (Nat.le_of_ble_eq_true rfl) ⟨rfl, rfl⟩ (Nat.zero_le _) (Nat.zero_le _) dX12_isMagnet_12 [] rfl rfl rfl ?_
  obtain ⟨hz_4, hf⟩ := chb_out hf
  exact hR _ _ _ _ hz_4 dX12_isMagnet_15 (kR_in (u := r_2) hf)
def wd_X12_rusty (cI cZ : ClassId) : va_W := []
abbrev rm_X12_rusty : Room := { frames := 0, cells := 0, slots := 0, locals := 0 }
theorem hs_X12_rusty : yX12_rusty.cls ≠ "java/lang/invoke/MethodHandle" ∧ yX12_rusty.cls ≠ "java/lang/invoke/VarHandle" ∧ (parseMethodDescriptor yX12_rusty.desc).map (fun d => d.parameters.length) = some 2 := by decide +kernel
set_option maxHeartbeats 4000000 in
set_option maxRecDepth 100000 in
theorem c_X12_rusty (l : Launch) (D : va_G) (cI cZ : ClassId) (v0 : Int32) (v1 : Int32) (res : Int32) (hf : f_X12_rusty v0 v1 = some res) : MetR l yX12_rusty wsX12_rusty rm_X12_rusty D cI cZ none [.int v0, .int v1] (wd_X12_rusty cI cZ) (kR res (fun u => some (.int u))) := by
  refine metR_of (cc := cX12_rusty) (maxL := 3) (ret := (some .int)) (own := RX12) (lv0 := [(0, .int v0), (1, .int v1)]) (by decide) rfl (Nat.le_of_ble_eq_true rfl) rfl rfl (fun G X hR => ?_)
  replace hR := rt_int hR
  unfold f_X12_rusty at hf
  have J13 : ∀ (s0 : Int32) (s1 : Int32), f_X12_rusty_13 s0 s1 = some res → G 0 0 (wd_X12_rusty cI cZ) [] 13 [.int s1, .int s0] := by
    intro s0 s1 hf
    unfold f_X12_rusty_13 at hf
    refine g_isub X dX12_rusty_13 ?_
    obtain ⟨v2_1, ev2_1, hf⟩ := bnd_out hf
    refine g_nmI X ev2_1 ?_
    refine g_istore_n (lv' := [(2, .int v2_1)]) X dX12_rusty_14 rfl (Nat.le_of_ble_eq_true rfl) [0] rfl ?_
    refine g_iload_n X dX12_rusty_15 rfl 0 rfl ?_
    refine g_if_ge (tgt := 23) X dX12_rusty_16 (by decide) (fun hc_2 => ?_) (fun hc_2 => ?_)
    · replace hf := ite_t hc_2 hf
      refine g_iload_n X dX12_rusty_23 rfl 0 rfl ?_
      exact hR _ _ _ _ dX12_rusty_24 (kR_in (u := v2_1) hf)
    · replace hf := ite_f hc_2 hf
      refine g_iconst (v := 0) X dX12_rusty_19 (by decide) ?_
      refine g_goto (tgt := 24) X dX12_rusty_20 (by decide) ?_
      exact hR _ _ _ _ dX12_rusty_24 (kR_in (u := 0) hf)
  refine g_iload_n X dX12_rusty_0 rfl 0 rfl ?_
  refine g_iconst (v := 1) X dX12_rusty_1 (by decide) ?_
  refine g_isub X dX12_rusty_2 ?_
  refine g_iload_n X dX12_rusty_3 rfl 1 rfl ?_
  refine g_iconst (v := 4) X dX12_rusty_4 (by decide) ?_
  refine g_icmp_le (tgt := 12) X dX12_rusty_5 (by decide) (fun hc_3 => ?_) (fun hc_3 => ?_)
  · replace hf := ite_t hc_3 hf
    refine g_iload_n X dX12_rusty_12 rfl 1 rfl ?_
    refine g_lv X (lv' := []) [] rfl ?_
    exact J13 (v0 - 1) v1 hf
  · replace hf := ite_f hc_3 hf
    refine g_iconst (v := 4) X dX12_rusty_8 (by decide) ?_
    refine g_goto (tgt := 13) X dX12_rusty_9 (by decide) ?_
    refine g_lv X (lv' := []) [] rfl ?_
    exact J13 (v0 - 1) 4 hf
def wd_X12_goesOn (cI cZ : ClassId) : va_W := []
abbrev rm_X12_goesOn : Room := { frames := 1, cells := 0, slots := 0, locals := 22 }
theorem hs_X12_goesOn : yX12_goesOn.cls ≠ "java/lang/invoke/MethodHandle" ∧ yX12_goesOn.cls ≠ "java/lang/invoke/VarHandle" ∧ (parseMethodDescriptor yX12_goesOn.desc).map (fun d => d.parameters.length) = some 3 := by decide +kernel
set_option maxHeartbeats 4000000 in
set_option maxRecDepth 100000 in
theorem c_X12_goesOn (l : Launch) (D : va_G) (cI cZ : ClassId) (v0 : Int32) (v1 : Int32) (v2 : Int32) (res : Int32) (hf : f_X12_goesOn v0 v1 v2 = some res) : MetR l yX12_goesOn wsX12_goesOn rm_X12_goesOn D cI cZ none [.int v0, .int v1, .int v2] (wd_X12_goesOn cI cZ) (kR res (fun u => some (.int u))) := by
  refine metR_of (cc := cX12_goesOn) (maxL := 3) (ret := (some .int)) (own := RX12) (lv0 := [(0, .int v0), (1, .int v1), (2, .int v2)]) (by decide) rfl (Nat.le_of_ble_eq_true rfl) rfl rfl (fun G X hR => ?_)
  replace hR := rt_int hR
  unfold f_X12_goesOn at hf
  refine g_iload_n X dX12_goesOn_0 rfl 0 rfl ?_
  by_cases hc_1 : v0 = 1
  · replace hf := ite_t hc_1 hf
    refine g_tableIn (tgt := 36) X dX12_goesOn_1 (by rw [hc_1]; decide) (by rw [hc_1]; decide) (by rw [hc_1]; rfl) (by decide) ?_
    refine g_iload_n X dX12_goesOn_36 rfl 1 rfl ?_
    refine g_iload_n X dX12_goesOn_37 rfl 2 rfl ?_
    obtain ⟨r_2, hk_3, hf⟩ := ob1_out hf
    refine g_cSR (st := []) (st1 := [.int r_2]) X (c_X12_rusty l D cI cZ v1 v2 _ hk_3) (Or.inl rfl) 2 gX12_goesOn_X12_rusty rfl hs_X12_rusty ⟨Nat.le_of_ble_eq_true rfl, Nat.le_of_ble_eq_true rfl⟩ rfl rfl (Nat.le_of_ble_eq_true rfl) ⟨rfl, rfl⟩ (Nat.zero_le _) (Nat.zero_le _) dX12_goesOn_38 [] rfl rfl rfl ?_
    exact hR _ _ _ _ dX12_goesOn_41 (kR_in (u := r_2) hf)
  · replace hf := ite_f hc_1 hf
    by_cases hc_4 : v0 = 2
    · replace hf := ite_t hc_4 hf
      refine g_tableIn (tgt := 42) X dX12_goesOn_1 (by rw [hc_4]; decide) (by rw [hc_4]; decide) (by rw [hc_4]; rfl) (by decide) ?_
      refine g_iload_n X dX12_goesOn_42 rfl 1 rfl ?_
      exact hR _ _ _ _ dX12_goesOn_43 (kR_in (u := v1) hf)
    · replace hf := ite_f hc_4 hf
      by_cases hc_5 : v0 = 3
      · replace hf := ite_t hc_5 hf
        refine g_tableIn (tgt := 44) X dX12_goesOn_1 (by rw [hc_5]; decide) (by rw [hc_5]; decide) (by rw [hc_5]; rfl) (by decide) ?_
        refine g_iload_n X dX12_goesOn_44 rfl 1 rfl ?_
        refine g_iload_n X dX12_goesOn_45 rfl 2 rfl ?_
        obtain ⟨r_6, hk_7, hf⟩ := ob1_out hf
        refine g_cSR (st := []) (st1 := [.int r_6]) X (c_X12_rusty l D cI cZ v1 v2 _ hk_7) (Or.inl rfl) 2 gX12_goesOn_X12_rusty rfl hs_X12_rusty ⟨Nat.le_of_ble_eq_true rfl, Nat.le_of_ble_eq_true rfl⟩ rfl rfl (Nat.le_of_ble_eq_true rfl) ⟨rfl, rfl⟩ (Nat.zero_le _) (Nat.zero_le _) dX12_goesOn_46 [] rfl rfl rfl ?_
        refine g_iconst (v := 2) X dX12_goesOn_49 (by decide) ?_
        obtain ⟨hz_8, hf⟩ := chz_out hf
        refine g_idiv X dX12_goesOn_50 hz_8 ?_
        exact hR _ _ _ _ dX12_goesOn_51 (kR_in (u := (r_6 / 2)) hf)
      · replace hf := ite_f hc_5 hf
        by_cases hc_9 : v0 = 4
        · replace hf := ite_t hc_9 hf
          refine g_tableIn (tgt := 52) X dX12_goesOn_1 (by rw [hc_9]; decide) (by rw [hc_9]; decide) (by rw [hc_9]; rfl) (by decide) ?_
          refine g_iload_n X dX12_goesOn_52 rfl 1 rfl ?_
          refine g_iconst (v := 5) X dX12_goesOn_53 (by decide) ?_
          refine g_icmp_lt (tgt := 63) X dX12_goesOn_54 (by decide) (fun hc_10 => ?_) (fun hc_10 => ?_)
          · replace hf := ite_t hc_10 hf
            refine g_iconst (v := 0) X dX12_goesOn_63 (by decide) ?_
            exact hR _ _ _ _ dX12_goesOn_64 (kR_in (u := 0) hf)
          · replace hf := ite_f hc_10 hf
            refine g_iload_n X dX12_goesOn_57 rfl 1 rfl ?_
            refine g_iconst (v := 1) X dX12_goesOn_58 (by decide) ?_
            refine g_isub X dX12_goesOn_59 ?_
            refine g_goto (tgt := 64) X dX12_goesOn_60 (by decide) ?_
            exact hR _ _ _ _ dX12_goesOn_64 (kR_in (u := (v1 - 1)) hf)
        · replace hf := ite_f hc_9 hf
          by_cases hc_11 : v0 = 5
          · replace hf := ite_t hc_11 hf
            refine g_tableIn (tgt := 65) X dX12_goesOn_1 (by rw [hc_11]; decide) (by rw [hc_11]; decide) (by rw [hc_11]; rfl) (by decide) ?_
            refine g_iconst (v := 2) X dX12_goesOn_65 (by decide) ?_
            refine g_iload_n X dX12_goesOn_66 rfl 1 rfl ?_
            refine g_imul X dX12_goesOn_67 ?_
            refine g_bipush (v := 20) X dX12_goesOn_68 (by decide) ?_
            refine g_icmp_le (tgt := 78) X dX12_goesOn_70 (by decide) (fun hc_12 => ?_) (fun hc_12 => ?_)
            · replace hf := ite_t hc_12 hf
              refine g_iconst (v := 2) X dX12_goesOn_78 (by decide) ?_
              refine g_iload_n X dX12_goesOn_79 rfl 1 rfl ?_
              refine g_imul X dX12_goesOn_80 ?_
              exact hR _ _ _ _ dX12_goesOn_81 (kR_in (u := (2 * v1)) hf)
            · replace hf := ite_f hc_12 hf
              refine g_bipush (v := 20) X dX12_goesOn_73 (by decide) ?_
              refine g_goto (tgt := 81) X dX12_goesOn_75 (by decide) ?_
              exact hR _ _ _ _ dX12_goesOn_81 (kR_in (u := 20) hf)
          · replace hf := ite_f hc_11 hf
            have thc_1 := lv_neT hc_1 (show (1 : Int32).toInt = 1 by decide)
            have thc_4 := lv_neT hc_4 (show (2 : Int32).toInt = 2 by decide)
            have thc_5 := lv_neT hc_5 (show (3 : Int32).toInt = 3 by decide)
            have thc_9 := lv_neT hc_9 (show (4 : Int32).toInt = 4 by decide)
            have thc_11 := lv_neT hc_11 (show (5 : Int32).toInt = 5 by decide)
            refine g_tableOut (tgt := 82) X dX12_goesOn_1 (by omega) (by decide) ?_
            refine g_iload_n X dX12_goesOn_82 rfl 1 rfl ?_
            refine g_iconst (v := 1) X dX12_goesOn_83 (by decide) ?_
            refine g_isub X dX12_goesOn_84 ?_
            exact hR _ _ _ _ dX12_goesOn_85 (kR_in (u := (v1 - 1)) hf)
def wd_X12_plain (cI cZ : ClassId) : va_W := []
abbrev rm_X12_plain : Room := { frames := 0, cells := 0, slots := 0, locals := 0 }
theorem hs_X12_plain : yX12_plain.cls ≠ "java/lang/invoke/MethodHandle" ∧ yX12_plain.cls ≠ "java/lang/invoke/VarHandle" ∧ (parseMethodDescriptor yX12_plain.desc).map (fun d => d.parameters.length) = some 2 := by decide +kernel
set_option maxHeartbeats 4000000 in
set_option maxRecDepth 100000 in
theorem c_X12_plain (l : Launch) (D : va_G) (cI cZ : ClassId) (v0 : Int32) (v1 : Int32) (res : Int32) (hf : f_X12_plain v0 v1 = some res) : MetR l yX12_plain wsX12_plain rm_X12_plain D cI cZ none [.int v0, .int v1] (wd_X12_plain cI cZ) (kR res (fun u => some (.int u))) := by
  refine metR_of (cc := cX12_plain) (maxL := 2) (ret := (some .int)) (own := RX12) (lv0 := [(0, .int v0), (1, .int v1)]) (by decide) rfl (Nat.le_of_ble_eq_true rfl) rfl rfl (fun G X hR => ?_)
  replace hR := rt_int hR
  unfold f_X12_plain at hf
  refine g_iload_n X dX12_plain_0 rfl 1 rfl ?_
  refine g_iconst (v := 2) X dX12_plain_1 (by decide) ?_
  refine g_iload_n X dX12_plain_2 rfl 0 rfl ?_
  refine g_imul X dX12_plain_3 ?_
  refine g_icmp_le (tgt := 11) X dX12_plain_4 (by decide) (fun hc_1 => ?_) (fun hc_1 => ?_)
  · replace hf := ite_t hc_1 hf
    refine g_iconst (v := 2) X dX12_plain_11 (by decide) ?_
    refine g_iload_n X dX12_plain_12 rfl 0 rfl ?_
    refine g_imul X dX12_plain_13 ?_
    refine g_iload_n X dX12_plain_14 rfl 1 rfl ?_
    refine g_isub X dX12_plain_15 ?_
    exact hR _ _ _ _ dX12_plain_16 (kR_in (u := ((2 * v0) - v1)) hf)
  · replace hf := ite_f hc_1 hf
    refine g_iconst (v := 0) X dX12_plain_7 (by decide) ?_
    refine g_goto (tgt := 16) X dX12_plain_8 (by decide) ?_
    exact hR _ _ _ _ dX12_plain_16 (kR_in (u := 0) hf)
def wd_X12_horseshoe (cI cZ : ClassId) : va_W := []
abbrev rm_X12_horseshoe : Room := { frames := 1, cells := 0, slots := 0, locals := 21 }
theorem hs_X12_horseshoe : yX12_horseshoe.cls ≠ "java/lang/invoke/MethodHandle" ∧ yX12_horseshoe.cls ≠ "java/lang/invoke/VarHandle" ∧ (parseMethodDescriptor yX12_horseshoe.desc).map (fun d => d.parameters.length) = some 2 := by decide +kernel
set_option maxHeartbeats 4000000 in
set_option maxRecDepth 100000 in
theorem c_X12_horseshoe (l : Launch) (D : va_G) (cI cZ : ClassId) (v0 : Int32) (v1 : Int32) (res : Int32) (hf : f_X12_horseshoe v0 v1 = some res) : MetR l yX12_horseshoe wsX12_horseshoe rm_X12_horseshoe D cI cZ none [.int v0, .int v1] (wd_X12_horseshoe cI cZ) (kR res (fun u => some (.int u))) := by
  refine metR_of (cc := cX12_horseshoe) (maxL := 2) (ret := (some .int)) (own := RX12) (lv0 := [(0, .int v0), (1, .int v1)]) (by decide) rfl (Nat.le_of_ble_eq_true rfl) rfl rfl (fun G X hR => ?_)
  replace hR := rt_int hR
  unfold f_X12_horseshoe at hf
  refine g_iload_n X dX12_horseshoe_0 rfl 1 rfl ?_
  refine g_iconst (v := 2) X dX12_horseshoe_1 (by decide) ?_
  refine g_icmp_gt (tgt := 15) X dX12_horseshoe_2 (by decide) (fun hc_1 => ?_) (fun hc_1 => ?_)
  · replace hf := ite_t hc_1 hf
    refine g_iload_n X dX12_horseshoe_15 rfl 0 rfl ?_
    refine g_iload_n X dX12_horseshoe_16 rfl 1 rfl ?_
    obtain ⟨r_2, hk_3, hf⟩ := ob1_out hf
    refine g_cSR (st := []) (st1 := [.int r_2]) X (c_X12_plain l D cI cZ v0 v1 _ hk_3) (Or.inl rfl) 2 gX12_horseshoe_X12_plain rfl hs_X12_plain ⟨Nat.le_of_ble_eq_true rfl, Nat.le_of_ble_eq_true rfl⟩ rfl rfl (Nat.le_of_ble_eq_true rfl) ⟨rfl, rfl⟩ (Nat.zero_le _) (Nat.zero_le _) dX12_horseshoe_17 [] rfl rfl rfl ?_
    exact hR _ _ _ _ dX12_horseshoe_20 (kR_in (u := r_2) hf)
  · replace hf := ite_f hc_1 hf
    refine g_iconst (v := 2) X dX12_horseshoe_5 (by decide) ?_
    refine g_iload_n X dX12_horseshoe_6 rfl 0 rfl ?_
    refine g_iload_n X dX12_horseshoe_7 rfl 1 rfl ?_
    obtain ⟨r_4, hk_5, hf⟩ := ob1_out hf
    refine g_cSR (st := [.int 2]) (st1 := [.int r_4, .int 2]) X (c_X12_plain l D cI cZ v0 v1 _ hk_5) (Or.inl rfl) 2 gX12_horseshoe_X12_plain rfl hs_X12_plain ⟨Nat.le_of_ble_eq_true rfl, Nat.le_of_ble_eq_true rfl⟩ rfl rfl (Nat.le_of_ble_eq_true rfl) ⟨rfl, rfl⟩ (Nat.zero_le _) (Nat.zero_le _) dX12_horseshoe_8 [] rfl rfl rfl ?_
    refine g_imul X dX12_horseshoe_11 ?_
    refine g_goto (tgt := 20) X dX12_horseshoe_12 (by decide) ?_
    exact hR _ _ _ _ dX12_horseshoe_20 (kR_in (u := (2 * r_4)) hf)
def wd_X12_pullOf (cI cZ : ClassId) : va_W := []
abbrev rm_X12_pullOf : Room := { frames := 2, cells := 0, slots := 0, locals := 42 }
theorem hs_X12_pullOf : yX12_pullOf.cls ≠ "java/lang/invoke/MethodHandle" ∧ yX12_pullOf.cls ≠ "java/lang/invoke/VarHandle" ∧ (parseMethodDescriptor yX12_pullOf.desc).map (fun d => d.parameters.length) = some 4 := by decide +kernel
set_option maxHeartbeats 4000000 in
set_option maxRecDepth 100000 in
theorem c_X12_pullOf (l : Launch) (D : va_G) (cI cZ : ClassId) (v0 : Int32) (v1 : Int32) (v2 : Int32) (v3 : Int32) (res : Int32) (hf : f_X12_pullOf v0 v1 v2 v3 = some res) : MetR l yX12_pullOf wsX12_pullOf rm_X12_pullOf D cI cZ none [.int v0, .int v1, .int v2, .int v3] (wd_X12_pullOf cI cZ) (kR res (fun u => some (.int u))) := by
  refine metR_of (cc := cX12_pullOf) (maxL := 4) (ret := (some .int)) (own := RX12) (lv0 := [(0, .int v0), (1, .int v1), (2, .int v2), (3, .int v3)]) (by decide) rfl (Nat.le_of_ble_eq_true rfl) rfl rfl (fun G X hR => ?_)
  replace hR := rt_int hR
  unfold f_X12_pullOf at hf
  refine g_iload_n X dX12_pullOf_0 rfl 0 rfl ?_
  by_cases hc_1 : v0 = 1
  · replace hf := ite_t hc_1 hf
    refine g_tableIn (tgt := 36) X dX12_pullOf_1 (by rw [hc_1]; decide) (by rw [hc_1]; decide) (by rw [hc_1]; rfl) (by decide) ?_
    refine g_iload_n X dX12_pullOf_36 rfl 1 rfl ?_
    refine g_iload_n X dX12_pullOf_37 rfl 2 rfl ?_
    obtain ⟨r_2, hk_3, hf⟩ := ob1_out hf
    refine g_cSR (st := []) (st1 := [.int r_2]) X (c_X12_horseshoe l D cI cZ v1 v2 _ hk_3) (Or.inl rfl) 2 gX12_pullOf_X12_horseshoe rfl hs_X12_horseshoe ⟨Nat.le_of_ble_eq_true rfl, Nat.le_of_ble_eq_true rfl⟩ rfl rfl (Nat.le_of_ble_eq_true rfl) ⟨rfl, rfl⟩ (Nat.zero_le _) (Nat.zero_le _) dX12_pullOf_38 [] rfl rfl rfl ?_
    exact hR _ _ _ _ dX12_pullOf_41 (kR_in (u := r_2) hf)
  · replace hf := ite_f hc_1 hf
    by_cases hc_4 : v0 = 2
    · replace hf := ite_t hc_4 hf
      refine g_tableIn (tgt := 42) X dX12_pullOf_1 (by rw [hc_4]; decide) (by rw [hc_4]; decide) (by rw [hc_4]; rfl) (by decide) ?_
      refine g_iload_n X dX12_pullOf_42 rfl 1 rfl ?_
      refine g_iload_n X dX12_pullOf_43 rfl 2 rfl ?_
      obtain ⟨r_5, hk_6, hf⟩ := ob1_out hf
      refine g_cSR (st := []) (st1 := [.int r_5]) X (c_X12_plain l D cI cZ v1 v2 _ hk_6) (Or.inl rfl) 2 gX12_pullOf_X12_plain rfl hs_X12_plain ⟨Nat.le_of_ble_eq_true rfl, Nat.le_of_ble_eq_true rfl⟩ rfl rfl (Nat.le_of_ble_eq_true rfl) ⟨rfl, rfl⟩ (Nat.zero_le _) (Nat.zero_le _) dX12_pullOf_44 [] rfl rfl rfl ?_
      refine g_iconst (v := 1) X dX12_pullOf_47 (by decide) ?_
      refine g_iadd X dX12_pullOf_48 ?_
      refine g_iconst (v := 2) X dX12_pullOf_49 (by decide) ?_
      obtain ⟨hz_7, hf⟩ := chz_out hf
      refine g_idiv X dX12_pullOf_50 hz_7 ?_
      exact hR _ _ _ _ dX12_pullOf_51 (kR_in (u := ((r_5 + 1) / 2)) hf)
    · replace hf := ite_f hc_4 hf
      by_cases hc_8 : v0 = 3
      · replace hf := ite_t hc_8 hf
        refine g_tableIn (tgt := 52) X dX12_pullOf_1 (by rw [hc_8]; decide) (by rw [hc_8]; decide) (by rw [hc_8]; rfl) (by decide) ?_
        refine g_iload_n X dX12_pullOf_52 rfl 3 rfl ?_
        refine g_iconst (v := 2) X dX12_pullOf_53 (by decide) ?_
        obtain ⟨hz_9, hf⟩ := chz_out hf
        refine g_irem X dX12_pullOf_54 hz_9 ?_
        refine g_if_ne (tgt := 70) X dX12_pullOf_55 (by decide) (fun hc_10 => ?_) (fun hc_10 => ?_)
        · replace hf := ite_f hc_10 hf
          refine g_iconst (v := 0) X dX12_pullOf_70 (by decide) ?_
          exact hR _ _ _ _ dX12_pullOf_71 (kR_in (u := 0) hf)
        · replace hf := ite_t hc_10 hf
          refine g_iload_n X dX12_pullOf_58 rfl 1 rfl ?_
          refine g_iload_n X dX12_pullOf_59 rfl 2 rfl ?_
          obtain ⟨r_11, hk_12, hf⟩ := ob1_out hf
          refine g_cSR (st := []) (st1 := [.int r_11]) X (c_X12_plain l D cI cZ v1 v2 _ hk_12) (Or.inl rfl) 2 gX12_pullOf_X12_plain rfl hs_X12_plain ⟨Nat.le_of_ble_eq_true rfl, Nat.le_of_ble_eq_true rfl⟩ rfl rfl (Nat.le_of_ble_eq_true rfl) ⟨rfl, rfl⟩ (Nat.zero_le _) (Nat.zero_le _) dX12_pullOf_60 [] rfl rfl rfl ?_
          refine g_iconst (v := 1) X dX12_pullOf_63 (by decide) ?_
          refine g_iadd X dX12_pullOf_64 ?_
          refine g_iconst (v := 2) X dX12_pullOf_65 (by decide) ?_
          obtain ⟨hz_13, hf⟩ := chz_out hf
          refine g_idiv X dX12_pullOf_66 hz_13 ?_
          refine g_goto (tgt := 71) X dX12_pullOf_67 (by decide) ?_
          exact hR _ _ _ _ dX12_pullOf_71 (kR_in (u := ((r_11 + 1) / 2)) hf)
      · replace hf := ite_f hc_8 hf
        by_cases hc_14 : v0 = 4
        · replace hf := ite_t hc_14 hf
          refine g_tableIn (tgt := 72) X dX12_pullOf_1 (by rw [hc_14]; decide) (by rw [hc_14]; decide) (by rw [hc_14]; rfl) (by decide) ?_
          refine g_iload_n X dX12_pullOf_72 rfl 1 rfl ?_
          refine g_iload_n X dX12_pullOf_73 rfl 2 rfl ?_
          obtain ⟨r_15, hk_16, hf⟩ := ob1_out hf
          refine g_cSR (st := []) (st1 := [.int r_15]) X (c_X12_plain l D cI cZ v1 v2 _ hk_16) (Or.inl rfl) 2 gX12_pullOf_X12_plain rfl hs_X12_plain ⟨Nat.le_of_ble_eq_true rfl, Nat.le_of_ble_eq_true rfl⟩ rfl rfl (Nat.le_of_ble_eq_true rfl) ⟨rfl, rfl⟩ (Nat.zero_le _) (Nat.zero_le _) dX12_pullOf_74 [] rfl rfl rfl ?_
          refine g_ineg X dX12_pullOf_77 ?_
          exact hR _ _ _ _ dX12_pullOf_78 (kR_in (u := (-r_15)) hf)
        · replace hf := ite_f hc_14 hf
          by_cases hc_17 : v0 = 5
          · replace hf := ite_t hc_17 hf
            refine g_tableIn (tgt := 79) X dX12_pullOf_1 (by rw [hc_17]; decide) (by rw [hc_17]; decide) (by rw [hc_17]; rfl) (by decide) ?_
            refine g_iload_n X dX12_pullOf_79 rfl 1 rfl ?_
            refine g_iload_n X dX12_pullOf_80 rfl 2 rfl ?_
            obtain ⟨r_18, hk_19, hf⟩ := ob1_out hf
            refine g_cSR (st := []) (st1 := [.int r_18]) X (c_X12_horseshoe l D cI cZ v1 v2 _ hk_19) (Or.inl rfl) 2 gX12_pullOf_X12_horseshoe rfl hs_X12_horseshoe ⟨Nat.le_of_ble_eq_true rfl, Nat.le_of_ble_eq_true rfl⟩ rfl rfl (Nat.le_of_ble_eq_true rfl) ⟨rfl, rfl⟩ (Nat.zero_le _) (Nat.zero_le _) dX12_pullOf_81 [] rfl rfl rfl ?_
            refine g_iconst (v := 1) X dX12_pullOf_84 (by decide) ?_
            refine g_icmp_lt (tgt := 98) X dX12_pullOf_85 (by decide) (fun hc_20 => ?_) (fun hc_20 => ?_)
            · replace hf := ite_t hc_20 hf
              refine g_iload_n X dX12_pullOf_98 rfl 1 rfl ?_
              refine g_iload_n X dX12_pullOf_99 rfl 2 rfl ?_
              obtain ⟨r_21, hk_22, hf⟩ := ob1_out hf
              refine g_cSR (st := []) (st1 := [.int r_21]) X (c_X12_horseshoe l D cI cZ v1 v2 _ hk_22) (Or.inl rfl) 2 gX12_pullOf_X12_horseshoe rfl hs_X12_horseshoe ⟨Nat.le_of_ble_eq_true rfl, Nat.le_of_ble_eq_true rfl⟩ rfl rfl (Nat.le_of_ble_eq_true rfl) ⟨rfl, rfl⟩ (Nat.zero_le _) (Nat.zero_le _) dX12_pullOf_100 [] rfl rfl rfl ?_
              exact hR _ _ _ _ dX12_pullOf_103 (kR_in (u := r_21) hf)
            · replace hf := ite_f hc_20 hf
              refine g_iload_n X dX12_pullOf_88 rfl 1 rfl ?_
              refine g_iload_n X dX12_pullOf_89 rfl 2 rfl ?_
              obtain ⟨r_23, hk_24, hf⟩ := ob1_out hf
              refine g_cSR (st := []) (st1 := [.int r_23]) X (c_X12_horseshoe l D cI cZ v1 v2 _ hk_24) (Or.inl rfl) 2 gX12_pullOf_X12_horseshoe rfl hs_X12_horseshoe ⟨Nat.le_of_ble_eq_true rfl, Nat.le_of_ble_eq_true rfl⟩ rfl rfl (Nat.le_of_ble_eq_true rfl) ⟨rfl, rfl⟩ (Nat.zero_le _) (Nat.zero_le _) dX12_pullOf_90 [] rfl rfl rfl ?_
              refine g_iconst (v := 3) X dX12_pullOf_93 (by decide) ?_
              refine g_iadd X dX12_pullOf_94 ?_
              refine g_goto (tgt := 103) X dX12_pullOf_95 (by decide) ?_
              exact hR _ _ _ _ dX12_pullOf_103 (kR_in (u := (r_23 + 3)) hf)
          · replace hf := ite_f hc_17 hf
            have thc_1 := lv_neT hc_1 (show (1 : Int32).toInt = 1 by decide)
            have thc_4 := lv_neT hc_4 (show (2 : Int32).toInt = 2 by decide)
            have thc_8 := lv_neT hc_8 (show (3 : Int32).toInt = 3 by decide)
            have thc_14 := lv_neT hc_14 (show (4 : Int32).toInt = 4 by decide)
            have thc_17 := lv_neT hc_17 (show (5 : Int32).toInt = 5 by decide)
            refine g_tableOut (tgt := 104) X dX12_pullOf_1 (by omega) (by decide) ?_
            refine g_iload_n X dX12_pullOf_104 rfl 1 rfl ?_
            refine g_iload_n X dX12_pullOf_105 rfl 2 rfl ?_
            obtain ⟨r_25, hk_26, hf⟩ := ob1_out hf
            refine g_cSR (st := []) (st1 := [.int r_25]) X (c_X12_plain l D cI cZ v1 v2 _ hk_26) (Or.inl rfl) 2 gX12_pullOf_X12_plain rfl hs_X12_plain ⟨Nat.le_of_ble_eq_true rfl, Nat.le_of_ble_eq_true rfl⟩ rfl rfl (Nat.le_of_ble_eq_true rfl) ⟨rfl, rfl⟩ (Nat.zero_le _) (Nat.zero_le _) dX12_pullOf_106 [] rfl rfl rfl ?_
            exact hR _ _ _ _ dX12_pullOf_109 (kR_in (u := r_25) hf)
def wd_X12_office (cI cZ : ClassId) (h_t : Nat) (h_t_w : Nat) (h_t_isKept : Nat) (h_t_text : Nat) (h_t_statuses : Nat) (h_t_ways : Nat) (h_t_feels : Nat) (h_t_next : Nat) (h_t_came : Nat) (h_t_deep : Nat) (h_t_sizes : Nat) (h_t_tableOf : Nat) (h_t_usedBy : Nat) (h_t_taken : Nat) (h_t_sixOf : Nat) (t_texted : Int32) (t_above : Int64) (t_below : Int64) (t_at : Int32) (t_start : Int32) (t_number : Int32) (t_went : Int32) (t_h : Int64) (t_w : (Nat → Int32)) : va_W := [(h_t, .inr (8, [.ref h_t_w, .ref h_t_isKept, .ref h_t_text, .int t_texted, .long t_above, .long t_below, .ref h_t_statuses, .int t_at, .int t_start, .int t_number, .ref h_t_ways, .int t_went, .ref h_t_feels, .ref h_t_next, .ref h_t_came, .ref h_t_deep, .ref h_t_sizes, .ref h_t_tableOf, .ref h_t_usedBy, .ref h_t_taken, .ref h_t_sixOf, .long t_h])), (h_t_w, .inl (cI, 1251, .inl t_w))]
abbrev rm_X12_office : Room := { frames := 1, cells := 0, slots := 0, locals := 22 }
theorem hv_X12_office : yX12_office.cls = RX12 ∧ yX12_office.cls ≠ "java/lang/invoke/MethodHandle" ∧ yX12_office.cls ≠ "java/lang/invoke/VarHandle" ∧ (parseMethodDescriptor yX12_office.desc).map (fun d => d.parameters.length) = some 0 := by decide +kernel
theorem iw_X12_office_X12 : ∀ w ∈ u_ws RX12 TX12 22, w ∈ wsX12_office := by decide +kernel
theorem lk_X12_office_7 : Cond.fieldLink RX12 7 "ClerkChainsModel" "w" "[I" ∈ wsX12_office := by decide +kernel
set_option maxHeartbeats 4000000 in
set_option maxRecDepth 100000 in
theorem c_X12_office (l : Launch) (D : va_G) (cI cZ : ClassId) (h_t : Nat) (h_t_w : Nat) (h_t_isKept : Nat) (h_t_text : Nat) (h_t_statuses : Nat) (h_t_ways : Nat) (h_t_feels : Nat) (h_t_next : Nat) (h_t_came : Nat) (h_t_deep : Nat) (h_t_sizes : Nat) (h_t_tableOf : Nat) (h_t_usedBy : Nat) (h_t_taken : Nat) (h_t_sixOf : Nat) (t_texted : Int32) (t_above : Int64) (t_below : Int64) (t_at : Int32) (t_start : Int32) (t_number : Int32) (t_went : Int32) (t_h : Int64) (t_w : (Nat → Int32)) (res : Int32 × (Nat → Int32)) (hf : f_X12_office t_w = some res) : MetG l yX12_office wsX12_office rm_X12_office D cI cZ none [.ref h_t] (wd_X12_office cI cZ h_t h_t_w h_t_isKept h_t_text h_t_statuses h_t_ways h_t_feels h_t_next h_t_came h_t_deep h_t_sizes h_t_tableOf h_t_usedBy h_t_taken h_t_sixOf t_texted t_above t_below t_at t_start t_number t_went t_h t_w) (kV res (fun u => some (.int u.1)) (fun u => (wd_X12_office cI cZ h_t h_t_w h_t_isKept h_t_text h_t_statuses h_t_ways h_t_feels h_t_next h_t_came h_t_deep h_t_sizes h_t_tableOf h_t_usedBy h_t_taken h_t_sixOf t_texted t_above t_below t_at t_start t_number t_went t_h (u.2)))) := by
  refine metG_of (cc := cX12_office) (maxL := 2) (ret := (some .int)) (own := RX12) (lv0 := [(0, .ref h_t)]) (ini := false) (by decide) rfl (Nat.le_of_ble_eq_true rfl) rfl rfl (fun h => by cases h) (fun G X hR => ?_)
  replace hR := rt_int hR
  unfold f_X12_office at hf
  refine g_aload_n X dX12_office_0 rfl 0 rfl ?_
  refine g_get (C := RX12) (T := TX12) (N := 22) (ci := 8) (v := (.ref h_t_w)) X iw_X12_office_X12 0 rfl rfl 0 (by decide) lk_X12_office_7 rfl dX12_office_1 ?_
  refine g_iconst (v := 0) X dX12_office_4 (by decide) ?_
  obtain ⟨hb_1, hf⟩ := chk_out hf
  refine g_iald X 1 rfl hb_1 dX12_office_5 ?_
  obtain ⟨v1_2, ev1_2, hf⟩ := bnd_out hf
  refine g_nmI X ev1_2 ?_
  refine g_istore_n (lv' := [(0, .ref h_t), (1, .int v1_2)]) X dX12_office_6 rfl (Nat.le_of_ble_eq_true rfl) [1, 0] rfl ?_
  refine g_aload_n X dX12_office_7 rfl 0 rfl ?_
  refine g_iconst (v := 0) X dX12_office_8 (by decide) ?_
  obtain ⟨t_w_3, hk_4, hf⟩ := ob1_out hf
  refine g_cVW (st := []) (st1 := []) (C := RX12) (ci := 8) (q0 := 0) (ws' := (wd_X12_office cI cZ h_t h_t_w h_t_isKept h_t_text h_t_statuses h_t_ways h_t_feels h_t_next h_t_came h_t_deep h_t_sizes h_t_tableOf h_t_usedBy h_t_taken h_t_sixOf t_texted t_above t_below t_at t_start t_number t_went t_h t_w_3)) X (c_X12_empties l D cI cZ h_t h_t_w h_t_isKept h_t_text h_t_statuses h_t_ways h_t_feels h_t_next h_t_came h_t_deep h_t_sizes h_t_tableOf h_t_usedBy h_t_taken h_t_sixOf t_texted t_above t_below t_at t_start t_number t_went t_h t_w 0 _ hk_4) (Or.inl rfl) 1 gX12_office_X12_empties rfl hv_X12_empties ⟨Nat.le_of_ble_eq_true rfl, Nat.le_of_ble_eq_true rfl⟩ rfl rfl (Nat.le_of_ble_eq_true rfl) ⟨rfl, rfl⟩ (Nat.zero_le _) (Nat.zero_le _) rfl rfl rfl dX12_office_9 [0, 1] rfl rfl [] rfl rfl (by decide) [0, 1] rfl rfl rfl ?_
  refine g_iload_n X dX12_office_12 rfl 1 rfl ?_
  exact hR _ _ _ _ dX12_office_13 (kV_in (u := (v1_2, t_w_3)) hf)
def wd_X12_adds (cI cZ : ClassId) (h_t : Nat) (h_t_w : Nat) (h_t_isKept : Nat) (h_t_text : Nat) (h_t_statuses : Nat) (h_t_ways : Nat) (h_t_feels : Nat) (h_t_next : Nat) (h_t_came : Nat) (h_t_deep : Nat) (h_t_sizes : Nat) (h_t_tableOf : Nat) (h_t_usedBy : Nat) (h_t_taken : Nat) (h_t_sixOf : Nat) (t_texted : Int32) (t_above : Int64) (t_below : Int64) (t_at : Int32) (t_start : Int32) (t_number : Int32) (t_went : Int32) (t_h : Int64) (t_w : (Nat → Int32)) : va_W := [(h_t, .inr (8, [.ref h_t_w, .ref h_t_isKept, .ref h_t_text, .int t_texted, .long t_above, .long t_below, .ref h_t_statuses, .int t_at, .int t_start, .int t_number, .ref h_t_ways, .int t_went, .ref h_t_feels, .ref h_t_next, .ref h_t_came, .ref h_t_deep, .ref h_t_sizes, .ref h_t_tableOf, .ref h_t_usedBy, .ref h_t_taken, .ref h_t_sixOf, .long t_h])), (h_t_w, .inl (cI, 1251, .inl t_w))]
abbrev rm_X12_adds : Room := { frames := 0, cells := 0, slots := 0, locals := 0 }
theorem hv_X12_adds : yX12_adds.cls = RX12 ∧ yX12_adds.cls ≠ "java/lang/invoke/MethodHandle" ∧ yX12_adds.cls ≠ "java/lang/invoke/VarHandle" ∧ (parseMethodDescriptor yX12_adds.desc).map (fun d => d.parameters.length) = some 4 := by decide +kernel
theorem iw_X12_adds_X12 : ∀ w ∈ u_ws RX12 TX12 22, w ∈ wsX12_adds := by decide +kernel
theorem lk_X12_adds_7 : Cond.fieldLink RX12 7 "ClerkChainsModel" "w" "[I" ∈ wsX12_adds := by decide +kernel
set_option maxHeartbeats 4000000 in
set_option maxRecDepth 100000 in
theorem c_X12_adds (l : Launch) (D : va_G) (cI cZ : ClassId) (h_t : Nat) (h_t_w : Nat) (h_t_isKept : Nat) (h_t_text : Nat) (h_t_statuses : Nat) (h_t_ways : Nat) (h_t_feels : Nat) (h_t_next : Nat) (h_t_came : Nat) (h_t_deep : Nat) (h_t_sizes : Nat) (h_t_tableOf : Nat) (h_t_usedBy : Nat) (h_t_taken : Nat) (h_t_sixOf : Nat) (t_texted : Int32) (t_above : Int64) (t_below : Int64) (t_at : Int32) (t_start : Int32) (t_number : Int32) (t_went : Int32) (t_h : Int64) (t_w : (Nat → Int32)) (v1 : Int32) (v2 : Int32) (v3 : Int32) (v4 : Int32) (res : (Nat → Int32)) (hf : f_X12_adds t_w v1 v2 v3 v4 = some res) : MetG l yX12_adds wsX12_adds rm_X12_adds D cI cZ none [.ref h_t, .int v1, .int v2, .int v3, .int v4] (wd_X12_adds cI cZ h_t h_t_w h_t_isKept h_t_text h_t_statuses h_t_ways h_t_feels h_t_next h_t_came h_t_deep h_t_sizes h_t_tableOf h_t_usedBy h_t_taken h_t_sixOf t_texted t_above t_below t_at t_start t_number t_went t_h t_w) (kV res (fun _ => none) (fun u => (wd_X12_adds cI cZ h_t h_t_w h_t_isKept h_t_text h_t_statuses h_t_ways h_t_feels h_t_next h_t_came h_t_deep h_t_sizes h_t_tableOf h_t_usedBy h_t_taken h_t_sixOf t_texted t_above t_below t_at t_start t_number t_went t_h u))) := by
  refine metG_of (cc := cX12_adds) (maxL := 6) (ret := none) (own := RX12) (lv0 := [(0, .ref h_t), (1, .int v1), (2, .int v2), (3, .int v3), (4, .int v4)]) (ini := false) (by decide) rfl (Nat.le_of_ble_eq_true rfl) rfl rfl (fun h => by cases h) (fun G X hR => ?_)
  replace hR := rt_void hR
  unfold f_X12_adds at hf
  refine g_aload_n X dX12_adds_0 rfl 0 rfl ?_
  refine g_get (C := RX12) (T := TX12) (N := 22) (ci := 8) (v := (.ref h_t_w)) X iw_X12_adds_X12 0 rfl rfl 0 (by decide) lk_X12_adds_7 rfl dX12_adds_1 ?_
  refine g_iload_n X dX12_adds_4 rfl 1 rfl ?_
  refine g_iconst (v := 0) X dX12_adds_5 (by decide) ?_
  refine g_iadd X dX12_adds_6 ?_
  obtain ⟨hb_1, hf⟩ := chk_out hf
  refine g_iald X 1 rfl hb_1 dX12_adds_7 ?_
  obtain ⟨v5_2, ev5_2, hf⟩ := bnd_out hf
  refine g_nmI X ev5_2 ?_
  refine g_istore (lv' := [(0, .ref h_t), (1, .int v1), (2, .int v2), (3, .int v3), (4, .int v4), (5, .int v5_2)]) X dX12_adds_8 (Nat.le_of_ble_eq_true rfl) [1, 2, 3, 4, 5, 0] rfl ?_
  refine g_aload_n X dX12_adds_10 rfl 0 rfl ?_
  refine g_get (C := RX12) (T := TX12) (N := 22) (ci := 8) (v := (.ref h_t_w)) X iw_X12_adds_X12 0 rfl rfl 0 (by decide) lk_X12_adds_7 rfl dX12_adds_11 ?_
  refine g_iload_n X dX12_adds_14 rfl 1 rfl ?_
  refine g_iconst (v := 3) X dX12_adds_15 (by decide) ?_
  refine g_iadd X dX12_adds_16 ?_
  refine g_iload X dX12_adds_17 5 rfl ?_
  refine g_iadd X dX12_adds_19 ?_
  refine g_iload_n X dX12_adds_20 rfl 2 rfl ?_
  obtain ⟨hb_3, hf⟩ := chk_out hf
  obtain ⟨t_w_4, et_w_4, hf⟩ := bnd_out hf
  refine g_iast (ws' := (wd_X12_adds cI cZ h_t h_t_w h_t_isKept h_t_text h_t_statuses h_t_ways h_t_feels h_t_next h_t_came h_t_deep h_t_sizes h_t_tableOf h_t_usedBy h_t_taken h_t_sixOf t_texted t_above t_below t_at t_start t_number t_went t_h t_w_4)) X 1 rfl hb_3 et_w_4 dX12_adds_21 rfl ?_
  refine g_aload_n X dX12_adds_22 rfl 0 rfl ?_
  refine g_get (C := RX12) (T := TX12) (N := 22) (ci := 8) (v := (.ref h_t_w)) X iw_X12_adds_X12 0 rfl rfl 0 (by decide) lk_X12_adds_7 rfl dX12_adds_23 ?_
  refine g_iload_n X dX12_adds_26 rfl 1 rfl ?_
  refine g_bipush (v := 17) X dX12_adds_27 (by decide) ?_
  refine g_iadd X dX12_adds_29 ?_
  refine g_iload X dX12_adds_30 5 rfl ?_
  refine g_iadd X dX12_adds_32 ?_
  refine g_iload_n X dX12_adds_33 rfl 3 rfl ?_
  obtain ⟨hb_5, hf⟩ := chk_out hf
  obtain ⟨t_w_6, et_w_6, hf⟩ := bnd_out hf
  refine g_iast (ws' := (wd_X12_adds cI cZ h_t h_t_w h_t_isKept h_t_text h_t_statuses h_t_ways h_t_feels h_t_next h_t_came h_t_deep h_t_sizes h_t_tableOf h_t_usedBy h_t_taken h_t_sixOf t_texted t_above t_below t_at t_start t_number t_went t_h t_w_6)) X 1 rfl hb_5 et_w_6 dX12_adds_34 rfl ?_
  refine g_aload_n X dX12_adds_35 rfl 0 rfl ?_
  refine g_get (C := RX12) (T := TX12) (N := 22) (ci := 8) (v := (.ref h_t_w)) X iw_X12_adds_X12 0 rfl rfl 0 (by decide) lk_X12_adds_7 rfl dX12_adds_36 ?_
  refine g_iload_n X dX12_adds_39 rfl 1 rfl ?_
  refine g_bipush (v := 10) X dX12_adds_40 (by decide) ?_
  refine g_iadd X dX12_adds_42 ?_
  refine g_iload X dX12_adds_43 5 rfl ?_
  refine g_iadd X dX12_adds_45 ?_
  refine g_iload X dX12_adds_46 4 rfl ?_
  obtain ⟨hb_7, hf⟩ := chk_out hf
  obtain ⟨t_w_8, et_w_8, hf⟩ := bnd_out hf
  refine g_iast (ws' := (wd_X12_adds cI cZ h_t h_t_w h_t_isKept h_t_text h_t_statuses h_t_ways h_t_feels h_t_next h_t_came h_t_deep h_t_sizes h_t_tableOf h_t_usedBy h_t_taken h_t_sixOf t_texted t_above t_below t_at t_start t_number t_went t_h t_w_8)) X 1 rfl hb_7 et_w_8 dX12_adds_48 rfl ?_
  refine g_aload_n X dX12_adds_49 rfl 0 rfl ?_
  refine g_get (C := RX12) (T := TX12) (N := 22) (ci := 8) (v := (.ref h_t_w)) X iw_X12_adds_X12 0 rfl rfl 0 (by decide) lk_X12_adds_7 rfl dX12_adds_50 ?_
  refine g_iload_n X dX12_adds_53 rfl 1 rfl ?_
  refine g_bipush (v := 24) X dX12_adds_54 (by decide) ?_
  refine g_iadd X dX12_adds_56 ?_
  refine g_iload X dX12_adds_57 5 rfl ?_
  refine g_iadd X dX12_adds_59 ?_
  refine g_iconst (v := 0) X dX12_adds_60 (by decide) ?_
  obtain ⟨hb_9, hf⟩ := chk_out hf
  obtain ⟨t_w_10, et_w_10, hf⟩ := bnd_out hf
  refine g_iast (ws' := (wd_X12_adds cI cZ h_t h_t_w h_t_isKept h_t_text h_t_statuses h_t_ways h_t_feels h_t_next h_t_came h_t_deep h_t_sizes h_t_tableOf h_t_usedBy h_t_taken h_t_sixOf t_texted t_above t_below t_at t_start t_number t_went t_h t_w_10)) X 1 rfl hb_9 et_w_10 dX12_adds_61 rfl ?_
  refine g_aload_n X dX12_adds_62 rfl 0 rfl ?_
  refine g_get (C := RX12) (T := TX12) (N := 22) (ci := 8) (v := (.ref h_t_w)) X iw_X12_adds_X12 0 rfl rfl 0 (by decide) lk_X12_adds_7 rfl dX12_adds_63 ?_
  refine g_iload_n X dX12_adds_66 rfl 1 rfl ?_
  refine g_bipush (v := 31) X dX12_adds_67 (by decide) ?_
  refine g_iadd X dX12_adds_69 ?_
  refine g_iload X dX12_adds_70 5 rfl ?_
  refine g_iadd X dX12_adds_72 ?_
  refine g_iconst (v := (-1)) X dX12_adds_73 (by decide) ?_
  obtain ⟨hb_11, hf⟩ := chk_out hf
  obtain ⟨t_w_12, et_w_12, hf⟩ := bnd_out hf
  refine g_iast (ws' := (wd_X12_adds cI cZ h_t h_t_w h_t_isKept h_t_text h_t_statuses h_t_ways h_t_feels h_t_next h_t_came h_t_deep h_t_sizes h_t_tableOf h_t_usedBy h_t_taken h_t_sixOf t_texted t_above t_below t_at t_start t_number t_went t_h t_w_12)) X 1 rfl hb_11 et_w_12 dX12_adds_74 rfl ?_
  refine g_aload_n X dX12_adds_75 rfl 0 rfl ?_
  refine g_get (C := RX12) (T := TX12) (N := 22) (ci := 8) (v := (.ref h_t_w)) X iw_X12_adds_X12 0 rfl rfl 0 (by decide) lk_X12_adds_7 rfl dX12_adds_76 ?_
  refine g_iload_n X dX12_adds_79 rfl 1 rfl ?_
  refine g_iconst (v := 0) X dX12_adds_80 (by decide) ?_
  refine g_iadd X dX12_adds_81 ?_
  refine g_dup2_11 X dX12_adds_82 rfl rfl ?_
  obtain ⟨hb_13, hf⟩ := chk_out hf
  refine g_iald X 1 rfl hb_13 dX12_adds_83 ?_
  refine g_iconst (v := 1) X dX12_adds_84 (by decide) ?_
  refine g_iadd X dX12_adds_85 ?_
  obtain ⟨hb_14, hf⟩ := chk_out hf
  obtain ⟨t_w_15, et_w_15, hf⟩ := bnd_out hf
  refine g_iast (ws' := (wd_X12_adds cI cZ h_t h_t_w h_t_isKept h_t_text h_t_statuses h_t_ways h_t_feels h_t_next h_t_came h_t_deep h_t_sizes h_t_tableOf h_t_usedBy h_t_taken h_t_sixOf t_texted t_above t_below t_at t_start t_number t_went t_h t_w_15)) X 1 rfl hb_14 et_w_15 dX12_adds_86 rfl ?_
  exact hR _ _ _ dX12_adds_87 (kV_in (u := t_w_15) hf)
def wd_X12_clerk (cI cZ : ClassId) (h_t : Nat) (h_t_w : Nat) (h_t_isKept : Nat) (h_t_text : Nat) (h_t_statuses : Nat) (h_t_ways : Nat) (h_t_feels : Nat) (h_t_next : Nat) (h_t_came : Nat) (h_t_deep : Nat) (h_t_sizes : Nat) (h_t_tableOf : Nat) (h_t_usedBy : Nat) (h_t_taken : Nat) (h_t_sixOf : Nat) (t_texted : Int32) (t_above : Int64) (t_below : Int64) (t_at : Int32) (t_start : Int32) (t_number : Int32) (t_went : Int32) (t_h : Int64) (t_w : (Nat → Int32)) (t_statuses : (Nat → Int32)) : va_W := [(h_t, .inr (8, [.ref h_t_w, .ref h_t_isKept, .ref h_t_text, .int t_texted, .long t_above, .long t_below, .ref h_t_statuses, .int t_at, .int t_start, .int t_number, .ref h_t_ways, .int t_went, .ref h_t_feels, .ref h_t_next, .ref h_t_came, .ref h_t_deep, .ref h_t_sizes, .ref h_t_tableOf, .ref h_t_usedBy, .ref h_t_taken, .ref h_t_sixOf, .long t_h])), (h_t_w, .inl (cI, 1251, .inl t_w)), (h_t_statuses, .inl (cI, 3, .inl t_statuses))]
abbrev rm_X12_clerk : Room := { frames := 1, cells := 0, slots := 0, locals := 25 }
theorem hv_X12_clerk : yX12_clerk.cls = RX12 ∧ yX12_clerk.cls ≠ "java/lang/invoke/MethodHandle" ∧ yX12_clerk.cls ≠ "java/lang/invoke/VarHandle" ∧ (parseMethodDescriptor yX12_clerk.desc).map (fun d => d.parameters.length) = some 3 := by decide +kernel
theorem lk_X12_clerk_82 : Cond.constantLong RX12 82 5 ∈ wsX12_clerk := by decide +kernel
theorem lk_X12_clerk_84 : Cond.constantLong RX12 84 11 ∈ wsX12_clerk := by decide +kernel
theorem lk_X12_clerk_86 : Cond.constantLong RX12 86 9 ∈ wsX12_clerk := by decide +kernel
theorem iw_X12_clerk_X12 : ∀ w ∈ u_ws RX12 TX12 22, w ∈ wsX12_clerk := by decide +kernel
theorem lk_X12_clerk_7 : Cond.fieldLink RX12 7 "ClerkChainsModel" "w" "[I" ∈ wsX12_clerk := by decide +kernel
set_option maxHeartbeats 4000000 in
set_option maxRecDepth 100000 in
theorem c_X12_clerk (l : Launch) (D : va_G) (cI cZ : ClassId) (h_t : Nat) (h_t_w : Nat) (h_t_isKept : Nat) (h_t_text : Nat) (h_t_statuses : Nat) (h_t_ways : Nat) (h_t_feels : Nat) (h_t_next : Nat) (h_t_came : Nat) (h_t_deep : Nat) (h_t_sizes : Nat) (h_t_tableOf : Nat) (h_t_usedBy : Nat) (h_t_taken : Nat) (h_t_sixOf : Nat) (t_texted : Int32) (t_above : Int64) (t_below : Int64) (t_at : Int32) (t_start : Int32) (t_number : Int32) (t_went : Int32) (t_h : Int64) (t_w : (Nat → Int32)) (t_statuses : (Nat → Int32)) (v1 : Int32) (v2 : Int32) (v3 : Int32) (res : Int32 × (Nat → Int32) × (Nat → Int32)) (hf : f_X12_clerk t_w t_statuses v1 v2 v3 = some res) : MetG l yX12_clerk wsX12_clerk rm_X12_clerk D cI cZ none [.ref h_t, .int v1, .int v2, .int v3] (wd_X12_clerk cI cZ h_t h_t_w h_t_isKept h_t_text h_t_statuses h_t_ways h_t_feels h_t_next h_t_came h_t_deep h_t_sizes h_t_tableOf h_t_usedBy h_t_taken h_t_sixOf t_texted t_above t_below t_at t_start t_number t_went t_h t_w t_statuses) (kV res (fun u => some (.int u.1)) (fun u => (wd_X12_clerk cI cZ h_t h_t_w h_t_isKept h_t_text h_t_statuses h_t_ways h_t_feels h_t_next h_t_came h_t_deep h_t_sizes h_t_tableOf h_t_usedBy h_t_taken h_t_sixOf t_texted t_above t_below t_at t_start t_number t_went t_h (u.2.1) (u.2.2)))) := by
  refine metG_of (cc := cX12_clerk) (maxL := 4) (ret := (some .int)) (own := RX12) (lv0 := [(0, .ref h_t), (1, .int v1), (2, .int v2), (3, .int v3)]) (ini := false) (by decide) rfl (Nat.le_of_ble_eq_true rfl) rfl rfl (fun h => by cases h) (fun G X hR => ?_)
  replace hR := rt_int hR
  unfold f_X12_clerk at hf
  have J36 : ∀ (t_w : (Nat → Int32)) (t_statuses : (Nat → Int32)), f_X12_clerk_36 t_w t_statuses = some res → G 0 0 (wd_X12_clerk cI cZ h_t h_t_w h_t_isKept h_t_text h_t_statuses h_t_ways h_t_feels h_t_next h_t_came h_t_deep h_t_sizes h_t_tableOf h_t_usedBy h_t_taken h_t_sixOf t_texted t_above t_below t_at t_start t_number t_went t_h t_w t_statuses) [(0, .ref h_t)] 36 [] := by
    intro t_w t_statuses hf
    unfold f_X12_clerk_36 at hf
    refine g_aload_n X dX12_clerk_36 rfl 0 rfl ?_
    refine g_bipush (v := (-2)) X dX12_clerk_37 (by decide) ?_
    obtain ⟨r_1, t_statuses_2, hk_3, hf⟩ := ob2_out hf
    refine g_cVW (st := []) (st1 := [.int r_1]) (C := RX12) (ci := 8) (q0 := 0) (ws' := (wd_X12_clerk cI cZ h_t h_t_w h_t_isKept h_t_text h_t_statuses h_t_ways h_t_feels h_t_next h_t_came h_t_deep h_t_sizes h_t_tableOf h_t_usedBy h_t_taken h_t_sixOf t_texted t_above t_below t_at t_start t_number t_went t_h t_w t_statuses_2)) X (c_X12_bad l D cI cZ h_t h_t_w h_t_isKept h_t_text h_t_statuses h_t_ways h_t_feels h_t_next h_t_came h_t_deep h_t_sizes h_t_tableOf h_t_usedBy h_t_taken h_t_sixOf t_texted t_above t_below t_at t_start t_number t_went t_h t_statuses (-2) _ hk_3) (Or.inl rfl) 1 gX12_clerk_X12_bad rfl hv_X12_bad ⟨Nat.le_of_ble_eq_true rfl, Nat.le_of_ble_eq_true rfl⟩ rfl rfl (Nat.le_of_ble_eq_true rfl) ⟨rfl, rfl⟩ (Nat.zero_le _) (Nat.zero_le _) rfl rfl rfl dX12_clerk_39 [0, 2] rfl rfl [1] rfl rfl (by decide) [1, 0, 2] rfl rfl rfl ?_
    exact hR _ _ _ _ dX12_clerk_42 (kV_in (u := (r_1, t_w, t_statuses_2)) hf)
  refine g_iload_n X dX12_clerk_0 rfl 1 rfl ?_
  refine g_i2l X dX12_clerk_1 ?_
  refine g_lconst (v := 0) X dX12_clerk_2 (by decide) ?_
  refine g_ldc2 (v := 5) X dX12_clerk_3 lk_X12_clerk_82 ?_
  obtain ⟨r_4, hk_5, hf⟩ := ob1_out hf
  refine g_cSR (st := []) (st1 := [.int r_4]) X (c_X12_in l D cI cZ (v1.toInt64) 0 5 _ hk_5) (Or.inl rfl) 3 gX12_clerk_X12_in rfl hs_X12_in ⟨Nat.le_of_ble_eq_true rfl, Nat.le_of_ble_eq_true rfl⟩ rfl rfl (Nat.le_of_ble_eq_true rfl) ⟨rfl, rfl⟩ (Nat.zero_le _) (Nat.zero_le _) dX12_clerk_6 [] rfl rfl rfl ?_
  refine g_if_eq (tgt := 36) X dX12_clerk_9 (by decide) (fun hc_6 => ?_) (fun hc_6 => ?_)
  · replace hf := ite_t hc_6 hf
    refine g_lv X (lv' := [(0, .ref h_t)]) [0] rfl ?_
    exact J36 t_w t_statuses hf
  · replace hf := ite_f hc_6 hf
    refine g_iload_n X dX12_clerk_12 rfl 2 rfl ?_
    refine g_i2l X dX12_clerk_13 ?_
    refine g_lconst (v := 0) X dX12_clerk_14 (by decide) ?_
    refine g_ldc2 (v := 11) X dX12_clerk_15 lk_X12_clerk_84 ?_
    obtain ⟨r_7, hk_8, hf⟩ := ob1_out hf
    refine g_cSR (st := []) (st1 := [.int r_7]) X (c_X12_in l D cI cZ (v2.toInt64) 0 11 _ hk_8) (Or.inl rfl) 3 gX12_clerk_X12_in rfl hs_X12_in ⟨Nat.le_of_ble_eq_true rfl, Nat.le_of_ble_eq_true rfl⟩ rfl rfl (Nat.le_of_ble_eq_true rfl) ⟨rfl, rfl⟩ (Nat.zero_le _) (Nat.zero_le _) dX12_clerk_18 [] rfl rfl rfl ?_
    refine g_if_eq (tgt := 36) X dX12_clerk_21 (by decide) (fun hc_9 => ?_) (fun hc_9 => ?_)
    · replace hf := ite_t hc_9 hf
      refine g_lv X (lv' := [(0, .ref h_t)]) [0] rfl ?_
      exact J36 t_w t_statuses hf
    · replace hf := ite_f hc_9 hf
      refine g_iload_n X dX12_clerk_24 rfl 3 rfl ?_
      refine g_i2l X dX12_clerk_25 ?_
      refine g_lconst (v := 1) X dX12_clerk_26 (by decide) ?_
      refine g_ldc2 (v := 9) X dX12_clerk_27 lk_X12_clerk_86 ?_
      obtain ⟨r_10, hk_11, hf⟩ := ob1_out hf
      refine g_cSR (st := []) (st1 := [.int r_10]) X (c_X12_in l D cI cZ (v3.toInt64) 1 9 _ hk_11) (Or.inl rfl) 3 gX12_clerk_X12_in rfl hs_X12_in ⟨Nat.le_of_ble_eq_true rfl, Nat.le_of_ble_eq_true rfl⟩ rfl rfl (Nat.le_of_ble_eq_true rfl) ⟨rfl, rfl⟩ (Nat.zero_le _) (Nat.zero_le _) dX12_clerk_30 [] rfl rfl rfl ?_
      refine g_if_ne (tgt := 43) X dX12_clerk_33 (by decide) (fun hc_12 => ?_) (fun hc_12 => ?_)
      · replace hf := ite_f hc_12 hf
        refine g_aload_n X dX12_clerk_43 rfl 0 rfl ?_
        refine g_get (C := RX12) (T := TX12) (N := 22) (ci := 8) (v := (.ref h_t_w)) X iw_X12_clerk_X12 0 rfl rfl 0 (by decide) lk_X12_clerk_7 rfl dX12_clerk_44 ?_
        refine g_iconst (v := 0) X dX12_clerk_47 (by decide) ?_
        obtain ⟨hb_13, hf⟩ := chk_out hf
        refine g_iald X 1 rfl hb_13 dX12_clerk_48 ?_
        refine g_bipush (v := 7) X dX12_clerk_49 (by decide) ?_
        refine g_icmp_ne (tgt := 59) X dX12_clerk_51 (by decide) (fun hc_14 => ?_) (fun hc_14 => ?_)
        · replace hf := ite_f hc_14 hf
          refine g_aload_n X dX12_clerk_59 rfl 0 rfl ?_
          refine g_iconst (v := 0) X dX12_clerk_60 (by decide) ?_
          refine g_iload_n X dX12_clerk_61 rfl 1 rfl ?_
          refine g_iload_n X dX12_clerk_62 rfl 2 rfl ?_
          refine g_iload_n X dX12_clerk_63 rfl 3 rfl ?_
          obtain ⟨t_w_15, hk_16, hf⟩ := ob1_out hf
          refine g_cVW (st := []) (st1 := []) (C := RX12) (ci := 8) (q0 := 0) (ws' := (wd_X12_clerk cI cZ h_t h_t_w h_t_isKept h_t_text h_t_statuses h_t_ways h_t_feels h_t_next h_t_came h_t_deep h_t_sizes h_t_tableOf h_t_usedBy h_t_taken h_t_sixOf t_texted t_above t_below t_at t_start t_number t_went t_h t_w_15 t_statuses)) X (c_X12_adds l D cI cZ h_t h_t_w h_t_isKept h_t_text h_t_statuses h_t_ways h_t_feels h_t_next h_t_came h_t_deep h_t_sizes h_t_tableOf h_t_usedBy h_t_taken h_t_sixOf t_texted t_above t_below t_at t_start t_number t_went t_h t_w 0 v1 v2 v3 _ hk_16) (Or.inl rfl) 4 gX12_clerk_X12_adds rfl hv_X12_adds ⟨Nat.le_of_ble_eq_true rfl, Nat.le_of_ble_eq_true rfl⟩ rfl rfl (Nat.le_of_ble_eq_true rfl) ⟨rfl, rfl⟩ (Nat.zero_le _) (Nat.zero_le _) rfl rfl rfl dX12_clerk_64 [0, 1] rfl rfl [2] rfl rfl (by decide) [1, 2, 0] rfl rfl rfl ?_
          refine g_aload_n X dX12_clerk_67 rfl 0 rfl ?_
          refine g_get (C := RX12) (T := TX12) (N := 22) (ci := 8) (v := (.ref h_t_w)) X iw_X12_clerk_X12 0 rfl rfl 0 (by decide) lk_X12_clerk_7 rfl dX12_clerk_68 ?_
          refine g_bipush (v := 124) X dX12_clerk_71 (by decide) ?_
          refine g_iconst (v := 0) X dX12_clerk_73 (by decide) ?_
          obtain ⟨hb_17, hf⟩ := chk_out hf
          obtain ⟨t_w_18, et_w_18, hf⟩ := bnd_out hf
          refine g_iast (ws' := (wd_X12_clerk cI cZ h_t h_t_w h_t_isKept h_t_text h_t_statuses h_t_ways h_t_feels h_t_next h_t_came h_t_deep h_t_sizes h_t_tableOf h_t_usedBy h_t_taken h_t_sixOf t_texted t_above t_below t_at t_start t_number t_went t_h t_w_18 t_statuses)) X 1 rfl hb_17 et_w_18 dX12_clerk_74 rfl ?_
          refine g_aload_n X dX12_clerk_75 rfl 0 rfl ?_
          refine g_get (C := RX12) (T := TX12) (N := 22) (ci := 8) (v := (.ref h_t_w)) X iw_X12_clerk_X12 0 rfl rfl 0 (by decide) lk_X12_clerk_7 rfl dX12_clerk_76 ?_
          refine g_iconst (v := 0) X dX12_clerk_79 (by decide) ?_
          obtain ⟨hb_19, hf⟩ := chk_out hf
          refine g_iald X 1 rfl hb_19 dX12_clerk_80 ?_
          refine g_iconst (v := 1) X dX12_clerk_81 (by decide) ?_
          refine g_isub X dX12_clerk_82 ?_
          exact hR _ _ _ _ dX12_clerk_83 (kV_in (u := ((t_w_18 (0 : Int32).toNatClampNeg) - 1, t_w_18, t_statuses)) hf)
        · replace hf := ite_t hc_14 hf
          refine g_aload_n X dX12_clerk_54 rfl 0 rfl ?_
          obtain ⟨r_20, t_statuses_21, hk_22, hf⟩ := ob2_out hf
          refine g_cVW (st := []) (st1 := [.int r_20]) (C := RX12) (ci := 8) (q0 := 0) (ws' := (wd_X12_clerk cI cZ h_t h_t_w h_t_isKept h_t_text h_t_statuses h_t_ways h_t_feels h_t_next h_t_came h_t_deep h_t_sizes h_t_tableOf h_t_usedBy h_t_taken h_t_sixOf t_texted t_above t_below t_at t_start t_number t_went t_h t_w t_statuses_21)) X (c_X12_full l D cI cZ h_t h_t_w h_t_isKept h_t_text h_t_statuses h_t_ways h_t_feels h_t_next h_t_came h_t_deep h_t_sizes h_t_tableOf h_t_usedBy h_t_taken h_t_sixOf t_texted t_above t_below t_at t_start t_number t_went t_h t_statuses _ hk_22) (Or.inl rfl) 0 gX12_clerk_X12_full rfl hv_X12_full ⟨Nat.le_of_ble_eq_true rfl, Nat.le_of_ble_eq_true rfl⟩ rfl rfl (Nat.le_of_ble_eq_true rfl) ⟨rfl, rfl⟩ (Nat.zero_le _) (Nat.zero_le _) rfl rfl rfl dX12_clerk_55 [0, 2] rfl rfl [1] rfl rfl (by decide) [1, 0, 2] rfl rfl rfl ?_
          exact hR _ _ _ _ dX12_clerk_58 (kV_in (u := (r_20, t_w, t_statuses_21)) hf)
      · replace hf := ite_t hc_12 hf
        refine g_lv X (lv' := [(0, .ref h_t)]) [0] rfl ?_
        exact J36 t_w t_statuses hf
def wd_X12_addsMagnet (cI cZ : ClassId) (h_t : Nat) (h_t_w : Nat) (h_t_isKept : Nat) (h_t_text : Nat) (h_t_statuses : Nat) (h_t_ways : Nat) (h_t_feels : Nat) (h_t_next : Nat) (h_t_came : Nat) (h_t_deep : Nat) (h_t_sizes : Nat) (h_t_tableOf : Nat) (h_t_usedBy : Nat) (h_t_taken : Nat) (h_t_sixOf : Nat) (t_texted : Int32) (t_above : Int64) (t_below : Int64) (t_at : Int32) (t_start : Int32) (t_number : Int32) (t_went : Int32) (t_h : Int64) (t_w : (Nat → Int32)) : va_W := [(h_t, .inr (8, [.ref h_t_w, .ref h_t_isKept, .ref h_t_text, .int t_texted, .long t_above, .long t_below, .ref h_t_statuses, .int t_at, .int t_start, .int t_number, .ref h_t_ways, .int t_went, .ref h_t_feels, .ref h_t_next, .ref h_t_came, .ref h_t_deep, .ref h_t_sizes, .ref h_t_tableOf, .ref h_t_usedBy, .ref h_t_taken, .ref h_t_sixOf, .long t_h])), (h_t_w, .inl (cI, 1251, .inl t_w))]
abbrev rm_X12_addsMagnet : Room := { frames := 0, cells := 0, slots := 0, locals := 0 }
theorem hv_X12_addsMagnet : yX12_addsMagnet.cls = RX12 ∧ yX12_addsMagnet.cls ≠ "java/lang/invoke/MethodHandle" ∧ yX12_addsMagnet.cls ≠ "java/lang/invoke/VarHandle" ∧ (parseMethodDescriptor yX12_addsMagnet.desc).map (fun d => d.parameters.length) = some 4 := by decide +kernel
theorem iw_X12_addsMagnet_X12 : ∀ w ∈ u_ws RX12 TX12 22, w ∈ wsX12_addsMagnet := by decide +kernel
theorem lk_X12_addsMagnet_7 : Cond.fieldLink RX12 7 "ClerkChainsModel" "w" "[I" ∈ wsX12_addsMagnet := by decide +kernel
set_option maxHeartbeats 4000000 in
set_option maxRecDepth 100000 in
theorem c_X12_addsMagnet (l : Launch) (D : va_G) (cI cZ : ClassId) (h_t : Nat) (h_t_w : Nat) (h_t_isKept : Nat) (h_t_text : Nat) (h_t_statuses : Nat) (h_t_ways : Nat) (h_t_feels : Nat) (h_t_next : Nat) (h_t_came : Nat) (h_t_deep : Nat) (h_t_sizes : Nat) (h_t_tableOf : Nat) (h_t_usedBy : Nat) (h_t_taken : Nat) (h_t_sixOf : Nat) (t_texted : Int32) (t_above : Int64) (t_below : Int64) (t_at : Int32) (t_start : Int32) (t_number : Int32) (t_went : Int32) (t_h : Int64) (t_w : (Nat → Int32)) (v1 : Int32) (v2 : Int32) (v3 : Int32) (v4 : Int32) (res : (Nat → Int32)) (hf : f_X12_addsMagnet t_w v1 v2 v3 v4 = some res) : MetG l yX12_addsMagnet wsX12_addsMagnet rm_X12_addsMagnet D cI cZ none [.ref h_t, .int v1, .int v2, .int v3, .int v4] (wd_X12_addsMagnet cI cZ h_t h_t_w h_t_isKept h_t_text h_t_statuses h_t_ways h_t_feels h_t_next h_t_came h_t_deep h_t_sizes h_t_tableOf h_t_usedBy h_t_taken h_t_sixOf t_texted t_above t_below t_at t_start t_number t_went t_h t_w) (kV res (fun _ => none) (fun u => (wd_X12_addsMagnet cI cZ h_t h_t_w h_t_isKept h_t_text h_t_statuses h_t_ways h_t_feels h_t_next h_t_came h_t_deep h_t_sizes h_t_tableOf h_t_usedBy h_t_taken h_t_sixOf t_texted t_above t_below t_at t_start t_number t_went t_h u))) := by
  refine metG_of (cc := cX12_addsMagnet) (maxL := 6) (ret := none) (own := RX12) (lv0 := [(0, .ref h_t), (1, .int v1), (2, .int v2), (3, .int v3), (4, .int v4)]) (ini := false) (by decide) rfl (Nat.le_of_ble_eq_true rfl) rfl rfl (fun h => by cases h) (fun G X hR => ?_)
  replace hR := rt_void hR
  unfold f_X12_addsMagnet at hf
  refine g_aload_n X dX12_addsMagnet_0 rfl 0 rfl ?_
  refine g_get (C := RX12) (T := TX12) (N := 22) (ci := 8) (v := (.ref h_t_w)) X iw_X12_addsMagnet_X12 0 rfl rfl 0 (by decide) lk_X12_addsMagnet_7 rfl dX12_addsMagnet_1 ?_
  refine g_iload_n X dX12_addsMagnet_4 rfl 1 rfl ?_
  refine g_iconst (v := 1) X dX12_addsMagnet_5 (by decide) ?_
  refine g_iadd X dX12_addsMagnet_6 ?_
  obtain ⟨hb_1, hf⟩ := chk_out hf
  refine g_iald X 1 rfl hb_1 dX12_addsMagnet_7 ?_
  obtain ⟨v5_2, ev5_2, hf⟩ := bnd_out hf
  refine g_nmI X ev5_2 ?_
  refine g_istore (lv' := [(0, .ref h_t), (1, .int v1), (2, .int v2), (3, .int v3), (4, .int v4), (5, .int v5_2)]) X dX12_addsMagnet_8 (Nat.le_of_ble_eq_true rfl) [1, 2, 3, 4, 5, 0] rfl ?_
  refine g_aload_n X dX12_addsMagnet_10 rfl 0 rfl ?_
  refine g_get (C := RX12) (T := TX12) (N := 22) (ci := 8) (v := (.ref h_t_w)) X iw_X12_addsMagnet_X12 0 rfl rfl 0 (by decide) lk_X12_addsMagnet_7 rfl dX12_addsMagnet_11 ?_
  refine g_iload_n X dX12_addsMagnet_14 rfl 1 rfl ?_
  refine g_bipush (v := 38) X dX12_addsMagnet_15 (by decide) ?_
  refine g_iadd X dX12_addsMagnet_17 ?_
  refine g_iload X dX12_addsMagnet_18 5 rfl ?_
  refine g_iadd X dX12_addsMagnet_20 ?_
  refine g_iload_n X dX12_addsMagnet_21 rfl 2 rfl ?_
  obtain ⟨hb_3, hf⟩ := chk_out hf
  obtain ⟨t_w_4, et_w_4, hf⟩ := bnd_out hf
  refine g_iast (ws' := (wd_X12_addsMagnet cI cZ h_t h_t_w h_t_isKept h_t_text h_t_statuses h_t_ways h_t_feels h_t_next h_t_came h_t_deep h_t_sizes h_t_tableOf h_t_usedBy h_t_taken h_t_sixOf t_texted t_above t_below t_at t_start t_number t_went t_h t_w_4)) X 1 rfl hb_3 et_w_4 dX12_addsMagnet_22 rfl ?_
  refine g_aload_n X dX12_addsMagnet_23 rfl 0 rfl ?_
  refine g_get (C := RX12) (T := TX12) (N := 22) (ci := 8) (v := (.ref h_t_w)) X iw_X12_addsMagnet_X12 0 rfl rfl 0 (by decide) lk_X12_addsMagnet_7 rfl dX12_addsMagnet_24 ?_
  refine g_iload_n X dX12_addsMagnet_27 rfl 1 rfl ?_
  refine g_bipush (v := 41) X dX12_addsMagnet_28 (by decide) ?_
  refine g_iadd X dX12_addsMagnet_30 ?_
  refine g_iload X dX12_addsMagnet_31 5 rfl ?_
  refine g_iadd X dX12_addsMagnet_33 ?_
  refine g_iload_n X dX12_addsMagnet_34 rfl 3 rfl ?_
  obtain ⟨hb_5, hf⟩ := chk_out hf
  obtain ⟨t_w_6, et_w_6, hf⟩ := bnd_out hf
  refine g_iast (ws' := (wd_X12_addsMagnet cI cZ h_t h_t_w h_t_isKept h_t_text h_t_statuses h_t_ways h_t_feels h_t_next h_t_came h_t_deep h_t_sizes h_t_tableOf h_t_usedBy h_t_taken h_t_sixOf t_texted t_above t_below t_at t_start t_number t_went t_h t_w_6)) X 1 rfl hb_5 et_w_6 dX12_addsMagnet_35 rfl ?_
  refine g_aload_n X dX12_addsMagnet_36 rfl 0 rfl ?_
  refine g_get (C := RX12) (T := TX12) (N := 22) (ci := 8) (v := (.ref h_t_w)) X iw_X12_addsMagnet_X12 0 rfl rfl 0 (by decide) lk_X12_addsMagnet_7 rfl dX12_addsMagnet_37 ?_
  refine g_iload_n X dX12_addsMagnet_40 rfl 1 rfl ?_
  refine g_bipush (v := 44) X dX12_addsMagnet_41 (by decide) ?_
  refine g_iadd X dX12_addsMagnet_43 ?_
  refine g_iload X dX12_addsMagnet_44 5 rfl ?_
  refine g_iadd X dX12_addsMagnet_46 ?_
  refine g_iload X dX12_addsMagnet_47 4 rfl ?_
  obtain ⟨hb_7, hf⟩ := chk_out hf
  obtain ⟨t_w_8, et_w_8, hf⟩ := bnd_out hf
  refine g_iast (ws' := (wd_X12_addsMagnet cI cZ h_t h_t_w h_t_isKept h_t_text h_t_statuses h_t_ways h_t_feels h_t_next h_t_came h_t_deep h_t_sizes h_t_tableOf h_t_usedBy h_t_taken h_t_sixOf t_texted t_above t_below t_at t_start t_number t_went t_h t_w_8)) X 1 rfl hb_7 et_w_8 dX12_addsMagnet_49 rfl ?_
  refine g_aload_n X dX12_addsMagnet_50 rfl 0 rfl ?_
  refine g_get (C := RX12) (T := TX12) (N := 22) (ci := 8) (v := (.ref h_t_w)) X iw_X12_addsMagnet_X12 0 rfl rfl 0 (by decide) lk_X12_addsMagnet_7 rfl dX12_addsMagnet_51 ?_
  refine g_iload_n X dX12_addsMagnet_54 rfl 1 rfl ?_
  refine g_iconst (v := 1) X dX12_addsMagnet_55 (by decide) ?_
  refine g_iadd X dX12_addsMagnet_56 ?_
  refine g_dup2_11 X dX12_addsMagnet_57 rfl rfl ?_
  obtain ⟨hb_9, hf⟩ := chk_out hf
  refine g_iald X 1 rfl hb_9 dX12_addsMagnet_58 ?_
  refine g_iconst (v := 1) X dX12_addsMagnet_59 (by decide) ?_
  refine g_iadd X dX12_addsMagnet_60 ?_
  obtain ⟨hb_10, hf⟩ := chk_out hf
  obtain ⟨t_w_11, et_w_11, hf⟩ := bnd_out hf
  refine g_iast (ws' := (wd_X12_addsMagnet cI cZ h_t h_t_w h_t_isKept h_t_text h_t_statuses h_t_ways h_t_feels h_t_next h_t_came h_t_deep h_t_sizes h_t_tableOf h_t_usedBy h_t_taken h_t_sixOf t_texted t_above t_below t_at t_start t_number t_went t_h t_w_11)) X 1 rfl hb_10 et_w_11 dX12_addsMagnet_61 rfl ?_
  exact hR _ _ _ dX12_addsMagnet_62 (kV_in (u := t_w_11) hf)
def wd_X12_magnet (cI cZ : ClassId) (h_t : Nat) (h_t_w : Nat) (h_t_isKept : Nat) (h_t_text : Nat) (h_t_statuses : Nat) (h_t_ways : Nat) (h_t_feels : Nat) (h_t_next : Nat) (h_t_came : Nat) (h_t_deep : Nat) (h_t_sizes : Nat) (h_t_tableOf : Nat) (h_t_usedBy : Nat) (h_t_taken : Nat) (h_t_sixOf : Nat) (t_texted : Int32) (t_above : Int64) (t_below : Int64) (t_at : Int32) (t_start : Int32) (t_number : Int32) (t_went : Int32) (t_h : Int64) (t_w : (Nat → Int32)) (t_statuses : (Nat → Int32)) : va_W := [(h_t, .inr (8, [.ref h_t_w, .ref h_t_isKept, .ref h_t_text, .int t_texted, .long t_above, .long t_below, .ref h_t_statuses, .int t_at, .int t_start, .int t_number, .ref h_t_ways, .int t_went, .ref h_t_feels, .ref h_t_next, .ref h_t_came, .ref h_t_deep, .ref h_t_sizes, .ref h_t_tableOf, .ref h_t_usedBy, .ref h_t_taken, .ref h_t_sixOf, .long t_h])), (h_t_w, .inl (cI, 1251, .inl t_w)), (h_t_statuses, .inl (cI, 3, .inl t_statuses))]
abbrev rm_X12_magnet : Room := { frames := 1, cells := 0, slots := 0, locals := 25 }
theorem hv_X12_magnet : yX12_magnet.cls = RX12 ∧ yX12_magnet.cls ≠ "java/lang/invoke/MethodHandle" ∧ yX12_magnet.cls ≠ "java/lang/invoke/VarHandle" ∧ (parseMethodDescriptor yX12_magnet.desc).map (fun d => d.parameters.length) = some 3 := by decide +kernel
theorem lk_X12_magnet_82 : Cond.constantLong RX12 82 5 ∈ wsX12_magnet := by decide +kernel
theorem lk_X12_magnet_84 : Cond.constantLong RX12 84 11 ∈ wsX12_magnet := by decide +kernel
theorem lk_X12_magnet_86 : Cond.constantLong RX12 86 9 ∈ wsX12_magnet := by decide +kernel
theorem iw_X12_magnet_X12 : ∀ w ∈ u_ws RX12 TX12 22, w ∈ wsX12_magnet := by decide +kernel
theorem lk_X12_magnet_7 : Cond.fieldLink RX12 7 "ClerkChainsModel" "w" "[I" ∈ wsX12_magnet := by decide +kernel
set_option maxHeartbeats 4000000 in
set_option maxRecDepth 100000 in
theorem c_X12_magnet (l : Launch) (D : va_G) (cI cZ : ClassId) (h_t : Nat) (h_t_w : Nat) (h_t_isKept : Nat) (h_t_text : Nat) (h_t_statuses : Nat) (h_t_ways : Nat) (h_t_feels : Nat) (h_t_next : Nat) (h_t_came : Nat) (h_t_deep : Nat) (h_t_sizes : Nat) (h_t_tableOf : Nat) (h_t_usedBy : Nat) (h_t_taken : Nat) (h_t_sixOf : Nat) (t_texted : Int32) (t_above : Int64) (t_below : Int64) (t_at : Int32) (t_start : Int32) (t_number : Int32) (t_went : Int32) (t_h : Int64) (t_w : (Nat → Int32)) (t_statuses : (Nat → Int32)) (v1 : Int32) (v2 : Int32) (v3 : Int32) (res : Int32 × (Nat → Int32) × (Nat → Int32)) (hf : f_X12_magnet t_w t_statuses v1 v2 v3 = some res) : MetG l yX12_magnet wsX12_magnet rm_X12_magnet D cI cZ none [.ref h_t, .int v1, .int v2, .int v3] (wd_X12_magnet cI cZ h_t h_t_w h_t_isKept h_t_text h_t_statuses h_t_ways h_t_feels h_t_next h_t_came h_t_deep h_t_sizes h_t_tableOf h_t_usedBy h_t_taken h_t_sixOf t_texted t_above t_below t_at t_start t_number t_went t_h t_w t_statuses) (kV res (fun u => some (.int u.1)) (fun u => (wd_X12_magnet cI cZ h_t h_t_w h_t_isKept h_t_text h_t_statuses h_t_ways h_t_feels h_t_next h_t_came h_t_deep h_t_sizes h_t_tableOf h_t_usedBy h_t_taken h_t_sixOf t_texted t_above t_below t_at t_start t_number t_went t_h (u.2.1) (u.2.2)))) := by
  refine metG_of (cc := cX12_magnet) (maxL := 4) (ret := (some .int)) (own := RX12) (lv0 := [(0, .ref h_t), (1, .int v1), (2, .int v2), (3, .int v3)]) (ini := false) (by decide) rfl (Nat.le_of_ble_eq_true rfl) rfl rfl (fun h => by cases h) (fun G X hR => ?_)
  replace hR := rt_int hR
  unfold f_X12_magnet at hf
  have J36 : ∀ (t_w : (Nat → Int32)) (t_statuses : (Nat → Int32)), f_X12_magnet_36 t_w t_statuses = some res → G 0 0 (wd_X12_magnet cI cZ h_t h_t_w h_t_isKept h_t_text h_t_statuses h_t_ways h_t_feels h_t_next h_t_came h_t_deep h_t_sizes h_t_tableOf h_t_usedBy h_t_taken h_t_sixOf t_texted t_above t_below t_at t_start t_number t_went t_h t_w t_statuses) [(0, .ref h_t)] 36 [] := by
    intro t_w t_statuses hf
    unfold f_X12_magnet_36 at hf
    refine g_aload_n X dX12_magnet_36 rfl 0 rfl ?_
    refine g_bipush (v := (-2)) X dX12_magnet_37 (by decide) ?_
    obtain ⟨r_1, t_statuses_2, hk_3, hf⟩ := ob2_out hf
    refine g_cVW (st := []) (st1 := [.int r_1]) (C := RX12) (ci := 8) (q0 := 0) (ws' := (wd_X12_magnet cI cZ h_t h_t_w h_t_isKept h_t_text h_t_statuses h_t_ways h_t_feels h_t_next h_t_came h_t_deep h_t_sizes h_t_tableOf h_t_usedBy h_t_taken h_t_sixOf t_texted t_above t_below t_at t_start t_number t_went t_h t_w t_statuses_2)) X (c_X12_bad l D cI cZ h_t h_t_w h_t_isKept h_t_text h_t_statuses h_t_ways h_t_feels h_t_next h_t_came h_t_deep h_t_sizes h_t_tableOf h_t_usedBy h_t_taken h_t_sixOf t_texted t_above t_below t_at t_start t_number t_went t_h t_statuses (-2) _ hk_3) (Or.inl rfl) 1 gX12_magnet_X12_bad rfl hv_X12_bad ⟨Nat.le_of_ble_eq_true rfl, Nat.le_of_ble_eq_true rfl⟩ rfl rfl (Nat.le_of_ble_eq_true rfl) ⟨rfl, rfl⟩ (Nat.zero_le _) (Nat.zero_le _) rfl rfl rfl dX12_magnet_39 [0, 2] rfl rfl [1] rfl rfl (by decide) [1, 0, 2] rfl rfl rfl ?_
    exact hR _ _ _ _ dX12_magnet_42 (kV_in (u := (r_1, t_w, t_statuses_2)) hf)
  refine g_iload_n X dX12_magnet_0 rfl 1 rfl ?_
  refine g_i2l X dX12_magnet_1 ?_
  refine g_lconst (v := 0) X dX12_magnet_2 (by decide) ?_
  refine g_ldc2 (v := 5) X dX12_magnet_3 lk_X12_magnet_82 ?_
  obtain ⟨r_4, hk_5, hf⟩ := ob1_out hf
  refine g_cSR (st := []) (st1 := [.int r_4]) X (c_X12_in l D cI cZ (v1.toInt64) 0 5 _ hk_5) (Or.inl rfl) 3 gX12_magnet_X12_in rfl hs_X12_in ⟨Nat.le_of_ble_eq_true rfl, Nat.le_of_ble_eq_true rfl⟩ rfl rfl (Nat.le_of_ble_eq_true rfl) ⟨rfl, rfl⟩ (Nat.zero_le _) (Nat.zero_le _) dX12_magnet_6 [] rfl rfl rfl ?_
  refine g_if_eq (tgt := 36) X dX12_magnet_9 (by decide) (fun hc_6 => ?_) (fun hc_6 => ?_)
  · replace hf := ite_t hc_6 hf
    refine g_lv X (lv' := [(0, .ref h_t)]) [0] rfl ?_
    exact J36 t_w t_statuses hf
  · replace hf := ite_f hc_6 hf
    refine g_iload_n X dX12_magnet_12 rfl 2 rfl ?_
    refine g_i2l X dX12_magnet_13 ?_
    refine g_lconst (v := 0) X dX12_magnet_14 (by decide) ?_
    refine g_ldc2 (v := 11) X dX12_magnet_15 lk_X12_magnet_84 ?_
    obtain ⟨r_7, hk_8, hf⟩ := ob1_out hf
    refine g_cSR (st := []) (st1 := [.int r_7]) X (c_X12_in l D cI cZ (v2.toInt64) 0 11 _ hk_8) (Or.inl rfl) 3 gX12_magnet_X12_in rfl hs_X12_in ⟨Nat.le_of_ble_eq_true rfl, Nat.le_of_ble_eq_true rfl⟩ rfl rfl (Nat.le_of_ble_eq_true rfl) ⟨rfl, rfl⟩ (Nat.zero_le _) (Nat.zero_le _) dX12_magnet_18 [] rfl rfl rfl ?_
    refine g_if_eq (tgt := 36) X dX12_magnet_21 (by decide) (fun hc_9 => ?_) (fun hc_9 => ?_)
    · replace hf := ite_t hc_9 hf
      refine g_lv X (lv' := [(0, .ref h_t)]) [0] rfl ?_
      exact J36 t_w t_statuses hf
    · replace hf := ite_f hc_9 hf
      refine g_iload_n X dX12_magnet_24 rfl 3 rfl ?_
      refine g_i2l X dX12_magnet_25 ?_
      refine g_lconst (v := 1) X dX12_magnet_26 (by decide) ?_
      refine g_ldc2 (v := 9) X dX12_magnet_27 lk_X12_magnet_86 ?_
      obtain ⟨r_10, hk_11, hf⟩ := ob1_out hf
      refine g_cSR (st := []) (st1 := [.int r_10]) X (c_X12_in l D cI cZ (v3.toInt64) 1 9 _ hk_11) (Or.inl rfl) 3 gX12_magnet_X12_in rfl hs_X12_in ⟨Nat.le_of_ble_eq_true rfl, Nat.le_of_ble_eq_true rfl⟩ rfl rfl (Nat.le_of_ble_eq_true rfl) ⟨rfl, rfl⟩ (Nat.zero_le _) (Nat.zero_le _) dX12_magnet_30 [] rfl rfl rfl ?_
      refine g_if_ne (tgt := 43) X dX12_magnet_33 (by decide) (fun hc_12 => ?_) (fun hc_12 => ?_)
      · replace hf := ite_f hc_12 hf
        refine g_aload_n X dX12_magnet_43 rfl 0 rfl ?_
        refine g_get (C := RX12) (T := TX12) (N := 22) (ci := 8) (v := (.ref h_t_w)) X iw_X12_magnet_X12 0 rfl rfl 0 (by decide) lk_X12_magnet_7 rfl dX12_magnet_44 ?_
        refine g_iconst (v := 1) X dX12_magnet_47 (by decide) ?_
        obtain ⟨hb_13, hf⟩ := chk_out hf
        refine g_iald X 1 rfl hb_13 dX12_magnet_48 ?_
        refine g_iconst (v := 3) X dX12_magnet_49 (by decide) ?_
        refine g_icmp_ne (tgt := 58) X dX12_magnet_50 (by decide) (fun hc_14 => ?_) (fun hc_14 => ?_)
        · replace hf := ite_f hc_14 hf
          refine g_aload_n X dX12_magnet_58 rfl 0 rfl ?_
          refine g_iconst (v := 0) X dX12_magnet_59 (by decide) ?_
          refine g_iload_n X dX12_magnet_60 rfl 1 rfl ?_
          refine g_iload_n X dX12_magnet_61 rfl 2 rfl ?_
          refine g_iload_n X dX12_magnet_62 rfl 3 rfl ?_
          obtain ⟨t_w_15, hk_16, hf⟩ := ob1_out hf
          refine g_cVW (st := []) (st1 := []) (C := RX12) (ci := 8) (q0 := 0) (ws' := (wd_X12_magnet cI cZ h_t h_t_w h_t_isKept h_t_text h_t_statuses h_t_ways h_t_feels h_t_next h_t_came h_t_deep h_t_sizes h_t_tableOf h_t_usedBy h_t_taken h_t_sixOf t_texted t_above t_below t_at t_start t_number t_went t_h t_w_15 t_statuses)) X (c_X12_addsMagnet l D cI cZ h_t h_t_w h_t_isKept h_t_text h_t_statuses h_t_ways h_t_feels h_t_next h_t_came h_t_deep h_t_sizes h_t_tableOf h_t_usedBy h_t_taken h_t_sixOf t_texted t_above t_below t_at t_start t_number t_went t_h t_w 0 v1 v2 v3 _ hk_16) (Or.inl rfl) 4 gX12_magnet_X12_addsMagnet rfl hv_X12_addsMagnet ⟨Nat.le_of_ble_eq_true rfl, Nat.le_of_ble_eq_true rfl⟩ rfl rfl (Nat.le_of_ble_eq_true rfl) ⟨rfl, rfl⟩ (Nat.zero_le _) (Nat.zero_le _) rfl rfl rfl dX12_magnet_63 [0, 1] rfl rfl [2] rfl rfl (by decide) [1, 2, 0] rfl rfl rfl ?_
          refine g_aload_n X dX12_magnet_66 rfl 0 rfl ?_
          refine g_get (C := RX12) (T := TX12) (N := 22) (ci := 8) (v := (.ref h_t_w)) X iw_X12_magnet_X12 0 rfl rfl 0 (by decide) lk_X12_magnet_7 rfl dX12_magnet_67 ?_
          refine g_bipush (v := 124) X dX12_magnet_70 (by decide) ?_
          refine g_iconst (v := 0) X dX12_magnet_72 (by decide) ?_
          obtain ⟨hb_17, hf⟩ := chk_out hf
          obtain ⟨t_w_18, et_w_18, hf⟩ := bnd_out hf
          refine g_iast (ws' := (wd_X12_magnet cI cZ h_t h_t_w h_t_isKept h_t_text h_t_statuses h_t_ways h_t_feels h_t_next h_t_came h_t_deep h_t_sizes h_t_tableOf h_t_usedBy h_t_taken h_t_sixOf t_texted t_above t_below t_at t_start t_number t_went t_h t_w_18 t_statuses)) X 1 rfl hb_17 et_w_18 dX12_magnet_73 rfl ?_
          refine g_aload_n X dX12_magnet_74 rfl 0 rfl ?_
          refine g_get (C := RX12) (T := TX12) (N := 22) (ci := 8) (v := (.ref h_t_w)) X iw_X12_magnet_X12 0 rfl rfl 0 (by decide) lk_X12_magnet_7 rfl dX12_magnet_75 ?_
          refine g_iconst (v := 1) X dX12_magnet_78 (by decide) ?_
          obtain ⟨hb_19, hf⟩ := chk_out hf
          refine g_iald X 1 rfl hb_19 dX12_magnet_79 ?_
          refine g_iconst (v := 1) X dX12_magnet_80 (by decide) ?_
          refine g_isub X dX12_magnet_81 ?_
          exact hR _ _ _ _ dX12_magnet_82 (kV_in (u := ((t_w_18 (1 : Int32).toNatClampNeg) - 1, t_w_18, t_statuses)) hf)
        · replace hf := ite_t hc_14 hf
          refine g_aload_n X dX12_magnet_53 rfl 0 rfl ?_
          obtain ⟨r_20, t_statuses_21, hk_22, hf⟩ := ob2_out hf
          refine g_cVW (st := []) (st1 := [.int r_20]) (C := RX12) (ci := 8) (q0 := 0) (ws' := (wd_X12_magnet cI cZ h_t h_t_w h_t_isKept h_t_text h_t_statuses h_t_ways h_t_feels h_t_next h_t_came h_t_deep h_t_sizes h_t_tableOf h_t_usedBy h_t_taken h_t_sixOf t_texted t_above t_below t_at t_start t_number t_went t_h t_w t_statuses_21)) X (c_X12_full l D cI cZ h_t h_t_w h_t_isKept h_t_text h_t_statuses h_t_ways h_t_feels h_t_next h_t_came h_t_deep h_t_sizes h_t_tableOf h_t_usedBy h_t_taken h_t_sixOf t_texted t_above t_below t_at t_start t_number t_went t_h t_statuses _ hk_22) (Or.inl rfl) 0 gX12_magnet_X12_full rfl hv_X12_full ⟨Nat.le_of_ble_eq_true rfl, Nat.le_of_ble_eq_true rfl⟩ rfl rfl (Nat.le_of_ble_eq_true rfl) ⟨rfl, rfl⟩ (Nat.zero_le _) (Nat.zero_le _) rfl rfl rfl dX12_magnet_54 [0, 2] rfl rfl [1] rfl rfl (by decide) [1, 0, 2] rfl rfl rfl ?_
          exact hR _ _ _ _ dX12_magnet_57 (kV_in (u := (r_20, t_w, t_statuses_21)) hf)
      · replace hf := ite_t hc_12 hf
        refine g_lv X (lv' := [(0, .ref h_t)]) [0] rfl ?_
        exact J36 t_w t_statuses hf
def wd_X12_type (cI cZ : ClassId) (h_t : Nat) (h_t_w : Nat) (h_t_isKept : Nat) (h_t_text : Nat) (h_t_statuses : Nat) (h_t_ways : Nat) (h_t_feels : Nat) (h_t_next : Nat) (h_t_came : Nat) (h_t_deep : Nat) (h_t_sizes : Nat) (h_t_tableOf : Nat) (h_t_usedBy : Nat) (h_t_taken : Nat) (h_t_sixOf : Nat) (t_texted : Int32) (t_above : Int64) (t_below : Int64) (t_at : Int32) (t_start : Int32) (t_number : Int32) (t_went : Int32) (t_h : Int64) (t_text : (Nat → Int32)) (t_statuses : (Nat → Int32)) : va_W := [(h_t, .inr (8, [.ref h_t_w, .ref h_t_isKept, .ref h_t_text, .int t_texted, .long t_above, .long t_below, .ref h_t_statuses, .int t_at, .int t_start, .int t_number, .ref h_t_ways, .int t_went, .ref h_t_feels, .ref h_t_next, .ref h_t_came, .ref h_t_deep, .ref h_t_sizes, .ref h_t_tableOf, .ref h_t_usedBy, .ref h_t_taken, .ref h_t_sixOf, .long t_h])), (h_t_text, .inl (cI, 150, .inl t_text)), (h_t_statuses, .inl (cI, 3, .inl t_statuses))]
abbrev rm_X12_type : Room := { frames := 1, cells := 0, slots := 0, locals := 25 }
theorem hv_X12_type : yX12_type.cls = RX12 ∧ yX12_type.cls ≠ "java/lang/invoke/MethodHandle" ∧ yX12_type.cls ≠ "java/lang/invoke/VarHandle" ∧ (parseMethodDescriptor yX12_type.desc).map (fun d => d.parameters.length) = some 1 := by decide +kernel
theorem lk_X12_type_103 : Cond.constantLong RX12 103 127 ∈ wsX12_type := by decide +kernel
theorem iw_X12_type_X12 : ∀ w ∈ u_ws RX12 TX12 22, w ∈ wsX12_type := by decide +kernel
theorem lk_X12_type_60 : Cond.fieldLink RX12 60 "ClerkChainsModel" "texted" "I" ∈ wsX12_type := by decide +kernel
theorem lk_X12_type_17 : Cond.fieldLink RX12 17 "ClerkChainsModel" "text" "[I" ∈ wsX12_type := by decide +kernel
set_option maxHeartbeats 4000000 in
set_option maxRecDepth 100000 in
theorem c_X12_type (l : Launch) (D : va_G) (cI cZ : ClassId) (h_t : Nat) (h_t_w : Nat) (h_t_isKept : Nat) (h_t_text : Nat) (h_t_statuses : Nat) (h_t_ways : Nat) (h_t_feels : Nat) (h_t_next : Nat) (h_t_came : Nat) (h_t_deep : Nat) (h_t_sizes : Nat) (h_t_tableOf : Nat) (h_t_usedBy : Nat) (h_t_taken : Nat) (h_t_sixOf : Nat) (t_texted : Int32) (t_above : Int64) (t_below : Int64) (t_at : Int32) (t_start : Int32) (t_number : Int32) (t_went : Int32) (t_h : Int64) (t_text : (Nat → Int32)) (t_statuses : (Nat → Int32)) (v1 : Int32) (res : Int32 × Int32 × (Nat → Int32) × (Nat → Int32)) (hf : f_X12_type t_texted t_text t_statuses v1 = some res) : MetG l yX12_type wsX12_type rm_X12_type D cI cZ none [.ref h_t, .int v1] (wd_X12_type cI cZ h_t h_t_w h_t_isKept h_t_text h_t_statuses h_t_ways h_t_feels h_t_next h_t_came h_t_deep h_t_sizes h_t_tableOf h_t_usedBy h_t_taken h_t_sixOf t_texted t_above t_below t_at t_start t_number t_went t_h t_text t_statuses) (kV res (fun u => some (.int u.1)) (fun u => (wd_X12_type cI cZ h_t h_t_w h_t_isKept h_t_text h_t_statuses h_t_ways h_t_feels h_t_next h_t_came h_t_deep h_t_sizes h_t_tableOf h_t_usedBy h_t_taken h_t_sixOf (u.2.1) t_above t_below t_at t_start t_number t_went t_h (u.2.2.1) (u.2.2.2)))) := by
  refine metG_of (cc := cX12_type) (maxL := 2) (ret := (some .int)) (own := RX12) (lv0 := [(0, .ref h_t), (1, .int v1)]) (ini := false) (by decide) rfl (Nat.le_of_ble_eq_true rfl) rfl rfl (fun h => by cases h) (fun G X hR => ?_)
  replace hR := rt_int hR
  unfold f_X12_type at hf
  refine g_iload_n X dX12_type_0 rfl 1 rfl ?_
  refine g_i2l X dX12_type_1 ?_
  refine g_lconst (v := 0) X dX12_type_2 (by decide) ?_
  refine g_ldc2 (v := 127) X dX12_type_3 lk_X12_type_103 ?_
  obtain ⟨r_1, hk_2, hf⟩ := ob1_out hf
  refine g_cSR (st := []) (st1 := [.int r_1]) X (c_X12_in l D cI cZ (v1.toInt64) 0 127 _ hk_2) (Or.inl rfl) 3 gX12_type_X12_in rfl hs_X12_in ⟨Nat.le_of_ble_eq_true rfl, Nat.le_of_ble_eq_true rfl⟩ rfl rfl (Nat.le_of_ble_eq_true rfl) ⟨rfl, rfl⟩ (Nat.zero_le _) (Nat.zero_le _) dX12_type_6 [] rfl rfl rfl ?_
  refine g_if_ne (tgt := 19) X dX12_type_9 (by decide) (fun hc_3 => ?_) (fun hc_3 => ?_)
  · replace hf := ite_f hc_3 hf
    refine g_aload_n X dX12_type_19 rfl 0 rfl ?_
    refine g_get (C := RX12) (T := TX12) (N := 22) (ci := 8) (v := (.int t_texted)) X iw_X12_type_X12 0 rfl rfl 3 (by decide) lk_X12_type_60 rfl dX12_type_20 ?_
    refine g_sipush (v := 150) X dX12_type_23 (by decide) ?_
    refine g_icmp_ne (tgt := 34) X dX12_type_26 (by decide) (fun hc_4 => ?_) (fun hc_4 => ?_)
    · replace hf := ite_f hc_4 hf
      refine g_aload_n X dX12_type_34 rfl 0 rfl ?_
      refine g_get (C := RX12) (T := TX12) (N := 22) (ci := 8) (v := (.ref h_t_text)) X iw_X12_type_X12 0 rfl rfl 2 (by decide) lk_X12_type_17 rfl dX12_type_35 ?_
      refine g_aload_n X dX12_type_38 rfl 0 rfl ?_
      refine g_get (C := RX12) (T := TX12) (N := 22) (ci := 8) (v := (.int t_texted)) X iw_X12_type_X12 0 rfl rfl 3 (by decide) lk_X12_type_60 rfl dX12_type_39 ?_
      refine g_iload_n X dX12_type_42 rfl 1 rfl ?_
      obtain ⟨hb_5, hf⟩ := chk_out hf
      obtain ⟨t_text_6, et_text_6, hf⟩ := bnd_out hf
      refine g_iast (ws' := (wd_X12_type cI cZ h_t h_t_w h_t_isKept h_t_text h_t_statuses h_t_ways h_t_feels h_t_next h_t_came h_t_deep h_t_sizes h_t_tableOf h_t_usedBy h_t_taken h_t_sixOf t_texted t_above t_below t_at t_start t_number t_went t_h t_text_6 t_statuses)) X 1 rfl hb_5 et_text_6 dX12_type_43 rfl ?_
      refine g_aload_n X dX12_type_44 rfl 0 rfl ?_
      refine g_dup X dX12_type_45 rfl ?_
      refine g_get (C := RX12) (T := TX12) (N := 22) (ci := 8) (v := (.int t_texted)) X iw_X12_type_X12 0 rfl rfl 3 (by decide) lk_X12_type_60 rfl dX12_type_46 ?_
      refine g_iconst (v := 1) X dX12_type_49 (by decide) ?_
      refine g_iadd X dX12_type_50 ?_
      obtain ⟨t_texted_7, et_texted_7, hf⟩ := bnd_out hf
      refine g_nmI X et_texted_7 ?_
      refine g_put (C := RX12) (T := TX12) (N := 22) (ci := 8) (v := .int t_texted_7) (ws' := (wd_X12_type cI cZ h_t h_t_w h_t_isKept h_t_text h_t_statuses h_t_ways h_t_feels h_t_next h_t_came h_t_deep h_t_sizes h_t_tableOf h_t_usedBy h_t_taken h_t_sixOf t_texted_7 t_above t_below t_at t_start t_number t_went t_h t_text_6 t_statuses)) X iw_X12_type_X12 tyX12 tyX12_ok nmX12 0 rfl rfl 3 (by decide) lk_X12_type_60 rfl (tyX12_ok 3 (by decide)) rfl rfl (Nat.le_of_ble_eq_true rfl) dX12_type_51 rfl ?_
      refine g_aload_n X dX12_type_54 rfl 0 rfl ?_
      refine g_get (C := RX12) (T := TX12) (N := 22) (ci := 8) (v := (.int t_texted_7)) X iw_X12_type_X12 0 rfl rfl 3 (by decide) lk_X12_type_60 rfl dX12_type_55 ?_
      exact hR _ _ _ _ dX12_type_58 (kV_in (u := (t_texted_7, t_texted_7, t_text_6, t_statuses)) hf)
    · replace hf := ite_t hc_4 hf
      refine g_aload_n X dX12_type_29 rfl 0 rfl ?_
      obtain ⟨r_8, t_statuses_9, hk_10, hf⟩ := ob2_out hf
      refine g_cVW (st := []) (st1 := [.int r_8]) (C := RX12) (ci := 8) (q0 := 0) (ws' := (wd_X12_type cI cZ h_t h_t_w h_t_isKept h_t_text h_t_statuses h_t_ways h_t_feels h_t_next h_t_came h_t_deep h_t_sizes h_t_tableOf h_t_usedBy h_t_taken h_t_sixOf t_texted t_above t_below t_at t_start t_number t_went t_h t_text t_statuses_9)) X (c_X12_full l D cI cZ h_t h_t_w h_t_isKept h_t_text h_t_statuses h_t_ways h_t_feels h_t_next h_t_came h_t_deep h_t_sizes h_t_tableOf h_t_usedBy h_t_taken h_t_sixOf t_texted t_above t_below t_at t_start t_number t_went t_h t_statuses _ hk_10) (Or.inl rfl) 0 gX12_type_X12_full rfl hv_X12_full ⟨Nat.le_of_ble_eq_true rfl, Nat.le_of_ble_eq_true rfl⟩ rfl rfl (Nat.le_of_ble_eq_true rfl) ⟨rfl, rfl⟩ (Nat.zero_le _) (Nat.zero_le _) rfl rfl rfl dX12_type_30 [0, 2] rfl rfl [1] rfl rfl (by decide) [1, 0, 2] rfl rfl rfl ?_
      exact hR _ _ _ _ dX12_type_33 (kV_in (u := (r_8, t_texted, t_text, t_statuses_9)) hf)
  · replace hf := ite_t hc_3 hf
    refine g_aload_n X dX12_type_12 rfl 0 rfl ?_
    refine g_bipush (v := (-2)) X dX12_type_13 (by decide) ?_
    obtain ⟨r_11, t_statuses_12, hk_13, hf⟩ := ob2_out hf
    refine g_cVW (st := []) (st1 := [.int r_11]) (C := RX12) (ci := 8) (q0 := 0) (ws' := (wd_X12_type cI cZ h_t h_t_w h_t_isKept h_t_text h_t_statuses h_t_ways h_t_feels h_t_next h_t_came h_t_deep h_t_sizes h_t_tableOf h_t_usedBy h_t_taken h_t_sixOf t_texted t_above t_below t_at t_start t_number t_went t_h t_text t_statuses_12)) X (c_X12_bad l D cI cZ h_t h_t_w h_t_isKept h_t_text h_t_statuses h_t_ways h_t_feels h_t_next h_t_came h_t_deep h_t_sizes h_t_tableOf h_t_usedBy h_t_taken h_t_sixOf t_texted t_above t_below t_at t_start t_number t_went t_h t_statuses (-2) _ hk_13) (Or.inl rfl) 1 gX12_type_X12_bad rfl hv_X12_bad ⟨Nat.le_of_ble_eq_true rfl, Nat.le_of_ble_eq_true rfl⟩ rfl rfl (Nat.le_of_ble_eq_true rfl) ⟨rfl, rfl⟩ (Nat.zero_le _) (Nat.zero_le _) rfl rfl rfl dX12_type_15 [0, 2] rfl rfl [1] rfl rfl (by decide) [1, 0, 2] rfl rfl rfl ?_
    exact hR _ _ _ _ dX12_type_18 (kV_in (u := (r_11, t_texted, t_text, t_statuses_12)) hf)
def wd_X12_clear (cI cZ : ClassId) (h_t : Nat) (h_t_w : Nat) (h_t_isKept : Nat) (h_t_text : Nat) (h_t_statuses : Nat) (h_t_ways : Nat) (h_t_feels : Nat) (h_t_next : Nat) (h_t_came : Nat) (h_t_deep : Nat) (h_t_sizes : Nat) (h_t_tableOf : Nat) (h_t_usedBy : Nat) (h_t_taken : Nat) (h_t_sixOf : Nat) (t_texted : Int32) (t_above : Int64) (t_below : Int64) (t_at : Int32) (t_start : Int32) (t_number : Int32) (t_went : Int32) (t_h : Int64) : va_W := [(h_t, .inr (8, [.ref h_t_w, .ref h_t_isKept, .ref h_t_text, .int t_texted, .long t_above, .long t_below, .ref h_t_statuses, .int t_at, .int t_start, .int t_number, .ref h_t_ways, .int t_went, .ref h_t_feels, .ref h_t_next, .ref h_t_came, .ref h_t_deep, .ref h_t_sizes, .ref h_t_tableOf, .ref h_t_usedBy, .ref h_t_taken, .ref h_t_sixOf, .long t_h]))]
abbrev rm_X12_clear : Room := { frames := 0, cells := 0, slots := 0, locals := 0 }
theorem hv_X12_clear : yX12_clear.cls = RX12 ∧ yX12_clear.cls ≠ "java/lang/invoke/MethodHandle" ∧ yX12_clear.cls ≠ "java/lang/invoke/VarHandle" ∧ (parseMethodDescriptor yX12_clear.desc).map (fun d => d.parameters.length) = some 0 := by decide +kernel
theorem iw_X12_clear_X12 : ∀ w ∈ u_ws RX12 TX12 22, w ∈ wsX12_clear := by decide +kernel
theorem lk_X12_clear_60 : Cond.fieldLink RX12 60 "ClerkChainsModel" "texted" "I" ∈ wsX12_clear := by decide +kernel
set_option maxHeartbeats 4000000 in
set_option maxRecDepth 100000 in
theorem c_X12_clear (l : Launch) (D : va_G) (cI cZ : ClassId) (h_t : Nat) (h_t_w : Nat) (h_t_isKept : Nat) (h_t_text : Nat) (h_t_statuses : Nat) (h_t_ways : Nat) (h_t_feels : Nat) (h_t_next : Nat) (h_t_came : Nat) (h_t_deep : Nat) (h_t_sizes : Nat) (h_t_tableOf : Nat) (h_t_usedBy : Nat) (h_t_taken : Nat) (h_t_sixOf : Nat) (t_texted : Int32) (t_above : Int64) (t_below : Int64) (t_at : Int32) (t_start : Int32) (t_number : Int32) (t_went : Int32) (t_h : Int64) (res : Int32 × Int32) (hf : f_X12_clear t_texted = some res) : MetG l yX12_clear wsX12_clear rm_X12_clear D cI cZ none [.ref h_t] (wd_X12_clear cI cZ h_t h_t_w h_t_isKept h_t_text h_t_statuses h_t_ways h_t_feels h_t_next h_t_came h_t_deep h_t_sizes h_t_tableOf h_t_usedBy h_t_taken h_t_sixOf t_texted t_above t_below t_at t_start t_number t_went t_h) (kV res (fun u => some (.int u.1)) (fun u => (wd_X12_clear cI cZ h_t h_t_w h_t_isKept h_t_text h_t_statuses h_t_ways h_t_feels h_t_next h_t_came h_t_deep h_t_sizes h_t_tableOf h_t_usedBy h_t_taken h_t_sixOf (u.2) t_above t_below t_at t_start t_number t_went t_h))) := by
  refine metG_of (cc := cX12_clear) (maxL := 2) (ret := (some .int)) (own := RX12) (lv0 := [(0, .ref h_t)]) (ini := false) (by decide) rfl (Nat.le_of_ble_eq_true rfl) rfl rfl (fun h => by cases h) (fun G X hR => ?_)
  replace hR := rt_int hR
  unfold f_X12_clear at hf
  refine g_aload_n X dX12_clear_0 rfl 0 rfl ?_
  refine g_get (C := RX12) (T := TX12) (N := 22) (ci := 8) (v := (.int t_texted)) X iw_X12_clear_X12 0 rfl rfl 3 (by decide) lk_X12_clear_60 rfl dX12_clear_1 ?_
  refine g_istore_n (lv' := [(0, .ref h_t), (1, .int t_texted)]) X dX12_clear_4 rfl (Nat.le_of_ble_eq_true rfl) [1, 0] rfl ?_
  refine g_aload_n X dX12_clear_5 rfl 0 rfl ?_
  refine g_iconst (v := 0) X dX12_clear_6 (by decide) ?_
  refine g_put (C := RX12) (T := TX12) (N := 22) (ci := 8) (v := .int 0) (ws' := (wd_X12_clear cI cZ h_t h_t_w h_t_isKept h_t_text h_t_statuses h_t_ways h_t_feels h_t_next h_t_came h_t_deep h_t_sizes h_t_tableOf h_t_usedBy h_t_taken h_t_sixOf 0 t_above t_below t_at t_start t_number t_went t_h)) X iw_X12_clear_X12 tyX12 tyX12_ok nmX12 0 rfl rfl 3 (by decide) lk_X12_clear_60 rfl (tyX12_ok 3 (by decide)) rfl rfl (Nat.le_of_ble_eq_true rfl) dX12_clear_7 rfl ?_
  refine g_iload_n X dX12_clear_10 rfl 1 rfl ?_
  exact hR _ _ _ _ dX12_clear_11 (kV_in (u := (t_texted, 0)) hf)
def wd_X12_byteAt (cI cZ : ClassId) (h_t : Nat) (h_t_w : Nat) (h_t_isKept : Nat) (h_t_text : Nat) (h_t_statuses : Nat) (h_t_ways : Nat) (h_t_feels : Nat) (h_t_next : Nat) (h_t_came : Nat) (h_t_deep : Nat) (h_t_sizes : Nat) (h_t_tableOf : Nat) (h_t_usedBy : Nat) (h_t_taken : Nat) (h_t_sixOf : Nat) (t_texted : Int32) (t_above : Int64) (t_below : Int64) (t_at : Int32) (t_start : Int32) (t_number : Int32) (t_went : Int32) (t_h : Int64) (t_text : (Nat → Int32)) : va_W := [(h_t, .inr (8, [.ref h_t_w, .ref h_t_isKept, .ref h_t_text, .int t_texted, .long t_above, .long t_below, .ref h_t_statuses, .int t_at, .int t_start, .int t_number, .ref h_t_ways, .int t_went, .ref h_t_feels, .ref h_t_next, .ref h_t_came, .ref h_t_deep, .ref h_t_sizes, .ref h_t_tableOf, .ref h_t_usedBy, .ref h_t_taken, .ref h_t_sixOf, .long t_h])), (h_t_text, .inl (cI, 150, .inl t_text))]
abbrev rm_X12_byteAt : Room := { frames := 0, cells := 0, slots := 0, locals := 0 }
theorem hv_X12_byteAt : yX12_byteAt.cls = RX12 ∧ yX12_byteAt.cls ≠ "java/lang/invoke/MethodHandle" ∧ yX12_byteAt.cls ≠ "java/lang/invoke/VarHandle" ∧ (parseMethodDescriptor yX12_byteAt.desc).map (fun d => d.parameters.length) = some 1 := by decide +kernel
theorem iw_X12_byteAt_X12 : ∀ w ∈ u_ws RX12 TX12 22, w ∈ wsX12_byteAt := by decide +kernel
theorem lk_X12_byteAt_60 : Cond.fieldLink RX12 60 "ClerkChainsModel" "texted" "I" ∈ wsX12_byteAt := by decide +kernel
theorem lk_X12_byteAt_17 : Cond.fieldLink RX12 17 "ClerkChainsModel" "text" "[I" ∈ wsX12_byteAt := by decide +kernel
set_option maxHeartbeats 4000000 in
set_option maxRecDepth 100000 in
theorem c_X12_byteAt (l : Launch) (D : va_G) (cI cZ : ClassId) (h_t : Nat) (h_t_w : Nat) (h_t_isKept : Nat) (h_t_text : Nat) (h_t_statuses : Nat) (h_t_ways : Nat) (h_t_feels : Nat) (h_t_next : Nat) (h_t_came : Nat) (h_t_deep : Nat) (h_t_sizes : Nat) (h_t_tableOf : Nat) (h_t_usedBy : Nat) (h_t_taken : Nat) (h_t_sixOf : Nat) (t_texted : Int32) (t_above : Int64) (t_below : Int64) (t_at : Int32) (t_start : Int32) (t_number : Int32) (t_went : Int32) (t_h : Int64) (t_text : (Nat → Int32)) (v1 : Int32) (res : Int32) (hf : f_X12_byteAt t_texted t_text v1 = some res) : MetR l yX12_byteAt wsX12_byteAt rm_X12_byteAt D cI cZ none [.ref h_t, .int v1] (wd_X12_byteAt cI cZ h_t h_t_w h_t_isKept h_t_text h_t_statuses h_t_ways h_t_feels h_t_next h_t_came h_t_deep h_t_sizes h_t_tableOf h_t_usedBy h_t_taken h_t_sixOf t_texted t_above t_below t_at t_start t_number t_went t_h t_text) (kR res (fun u => some (.int u))) := by
  refine metR_of (cc := cX12_byteAt) (maxL := 2) (ret := (some .int)) (own := RX12) (lv0 := [(0, .ref h_t), (1, .int v1)]) (by decide) rfl (Nat.le_of_ble_eq_true rfl) rfl rfl (fun G X hR => ?_)
  replace hR := rt_int hR
  unfold f_X12_byteAt at hf
  refine g_iload_n X dX12_byteAt_0 rfl 1 rfl ?_
  refine g_aload_n X dX12_byteAt_1 rfl 0 rfl ?_
  refine g_get (C := RX12) (T := TX12) (N := 22) (ci := 8) (v := (.int t_texted)) X iw_X12_byteAt_X12 0 rfl rfl 3 (by decide) lk_X12_byteAt_60 rfl dX12_byteAt_2 ?_
  refine g_icmp_ge (tgt := 17) X dX12_byteAt_5 (by decide) (fun hc_1 => ?_) (fun hc_1 => ?_)
  · replace hf := ite_t hc_1 hf
    refine g_iconst (v := (-1)) X dX12_byteAt_17 (by decide) ?_
    exact hR _ _ _ _ dX12_byteAt_18 (kR_in (u := (-1)) hf)
  · replace hf := ite_f hc_1 hf
    refine g_aload_n X dX12_byteAt_8 rfl 0 rfl ?_
    refine g_get (C := RX12) (T := TX12) (N := 22) (ci := 8) (v := (.ref h_t_text)) X iw_X12_byteAt_X12 0 rfl rfl 2 (by decide) lk_X12_byteAt_17 rfl dX12_byteAt_9 ?_
    refine g_iload_n X dX12_byteAt_12 rfl 1 rfl ?_
    obtain ⟨hb_2, hf⟩ := chk_out hf
    refine g_iald X 1 rfl hb_2 dX12_byteAt_13 ?_
    refine g_goto (tgt := 18) X dX12_byteAt_14 (by decide) ?_
    exact hR _ _ _ _ dX12_byteAt_18 (kR_in (u := (t_text v1.toNatClampNeg)) hf)
def wd_X12_blanks (cI cZ : ClassId) (h_t : Nat) (h_t_w : Nat) (h_t_isKept : Nat) (h_t_text : Nat) (h_t_statuses : Nat) (h_t_ways : Nat) (h_t_feels : Nat) (h_t_next : Nat) (h_t_came : Nat) (h_t_deep : Nat) (h_t_sizes : Nat) (h_t_tableOf : Nat) (h_t_usedBy : Nat) (h_t_taken : Nat) (h_t_sixOf : Nat) (t_texted : Int32) (t_above : Int64) (t_below : Int64) (t_at : Int32) (t_start : Int32) (t_number : Int32) (t_went : Int32) (t_h : Int64) (t_text : (Nat → Int32)) : va_W := [(h_t, .inr (8, [.ref h_t_w, .ref h_t_isKept, .ref h_t_text, .int t_texted, .long t_above, .long t_below, .ref h_t_statuses, .int t_at, .int t_start, .int t_number, .ref h_t_ways, .int t_went, .ref h_t_feels, .ref h_t_next, .ref h_t_came, .ref h_t_deep, .ref h_t_sizes, .ref h_t_tableOf, .ref h_t_usedBy, .ref h_t_taken, .ref h_t_sixOf, .long t_h])), (h_t_text, .inl (cI, 150, .inl t_text))]
abbrev rm_X12_blanks : Room := { frames := 1, cells := 0, slots := 0, locals := 21 }
theorem hv_X12_blanks : yX12_blanks.cls = RX12 ∧ yX12_blanks.cls ≠ "java/lang/invoke/MethodHandle" ∧ yX12_blanks.cls ≠ "java/lang/invoke/VarHandle" ∧ (parseMethodDescriptor yX12_blanks.desc).map (fun d => d.parameters.length) = some 0 := by decide +kernel
theorem iw_X12_blanks_X12 : ∀ w ∈ u_ws RX12 TX12 22, w ∈ wsX12_blanks := by decide +kernel
theorem lk_X12_blanks_105 : Cond.fieldLink RX12 105 "ClerkChainsModel" "at" "I" ∈ wsX12_blanks := by decide +kernel
theorem lk_X12_blanks_111 : Cond.fieldLink RX12 111 "ClerkChainsModel" "start" "I" ∈ wsX12_blanks := by decide +kernel
set_option maxHeartbeats 4000000 in
set_option maxRecDepth 100000 in
theorem c_X12_blanks (l : Launch) (D : va_G) (cI cZ : ClassId) (h_t : Nat) (h_t_w : Nat) (h_t_isKept : Nat) (h_t_text : Nat) (h_t_statuses : Nat) (h_t_ways : Nat) (h_t_feels : Nat) (h_t_next : Nat) (h_t_came : Nat) (h_t_deep : Nat) (h_t_sizes : Nat) (h_t_tableOf : Nat) (h_t_usedBy : Nat) (h_t_taken : Nat) (h_t_sixOf : Nat) (t_texted : Int32) (t_above : Int64) (t_below : Int64) (t_at : Int32) (t_start : Int32) (t_number : Int32) (t_went : Int32) (t_h : Int64) (t_text : (Nat → Int32)) (res : Int32 × Int32) (hf : f_X12_blanks t_texted t_at t_start t_text = some res) : MetG l yX12_blanks wsX12_blanks rm_X12_blanks D cI cZ none [.ref h_t] (wd_X12_blanks cI cZ h_t h_t_w h_t_isKept h_t_text h_t_statuses h_t_ways h_t_feels h_t_next h_t_came h_t_deep h_t_sizes h_t_tableOf h_t_usedBy h_t_taken h_t_sixOf t_texted t_above t_below t_at t_start t_number t_went t_h t_text) (kV res (fun _ => none) (fun u => (wd_X12_blanks cI cZ h_t h_t_w h_t_isKept h_t_text h_t_statuses h_t_ways h_t_feels h_t_next h_t_came h_t_deep h_t_sizes h_t_tableOf h_t_usedBy h_t_taken h_t_sixOf t_texted t_above t_below (u.1) (u.2) t_number t_went t_h t_text))) := by
  refine metG_of (cc := cX12_blanks) (maxL := 1) (ret := none) (own := RX12) (lv0 := [(0, .ref h_t)]) (ini := false) (by decide) rfl (Nat.le_of_ble_eq_true rfl) rfl rfl (fun h => by cases h) (fun G X hR => ?_)
  replace hR := rt_void hR
  unfold f_X12_blanks at hf
  have J26 : ∀ (t_at : Int32) (t_start : Int32), f_X12_blanks_26 t_texted t_text t_at t_start = some res → G 0 0 (wd_X12_blanks cI cZ h_t h_t_w h_t_isKept h_t_text h_t_statuses h_t_ways h_t_feels h_t_next h_t_came h_t_deep h_t_sizes h_t_tableOf h_t_usedBy h_t_taken h_t_sixOf t_texted t_above t_below t_at t_start t_number t_went t_h t_text) [(0, .ref h_t)] 26 [] := by
    intro t_at t_start hf
    unfold f_X12_blanks_26 at hf
    refine g_aload_n X dX12_blanks_26 rfl 0 rfl ?_
    refine g_aload_n X dX12_blanks_27 rfl 0 rfl ?_
    refine g_get (C := RX12) (T := TX12) (N := 22) (ci := 8) (v := (.int t_at)) X iw_X12_blanks_X12 0 rfl rfl 7 (by decide) lk_X12_blanks_105 rfl dX12_blanks_28 ?_
    refine g_put (C := RX12) (T := TX12) (N := 22) (ci := 8) (v := .int t_at) (ws' := (wd_X12_blanks cI cZ h_t h_t_w h_t_isKept h_t_text h_t_statuses h_t_ways h_t_feels h_t_next h_t_came h_t_deep h_t_sizes h_t_tableOf h_t_usedBy h_t_taken h_t_sixOf t_texted t_above t_below t_at t_at t_number t_went t_h t_text)) X iw_X12_blanks_X12 tyX12 tyX12_ok nmX12 0 rfl rfl 8 (by decide) lk_X12_blanks_111 rfl (tyX12_ok 8 (by decide)) rfl rfl (Nat.le_of_ble_eq_true rfl) dX12_blanks_31 rfl ?_
    exact hR _ _ _ dX12_blanks_34 (kV_in (u := (t_at, t_at)) hf)
  have J0 : ∀ (n : Nat) (t_at : Int32) (t_start : Int32), f_X12_blanks_0 t_texted t_text n t_at t_start = some res → G 0 0 (wd_X12_blanks cI cZ h_t h_t_w h_t_isKept h_t_text h_t_statuses h_t_ways h_t_feels h_t_next h_t_came h_t_deep h_t_sizes h_t_tableOf h_t_usedBy h_t_taken h_t_sixOf t_texted t_above t_below t_at t_start t_number t_went t_h t_text) [(0, .ref h_t)] 0 [] := by
    intro n
    induction n with
    | zero => intro t_at t_start hf; rw [f_X12_blanks_0] at hf; cases hf
    | succ n ih =>
      intro t_at t_start hf
      rw [f_X12_blanks_0] at hf
      refine g_aload_n X dX12_blanks_0 rfl 0 rfl ?_
      refine g_aload_n X dX12_blanks_1 rfl 0 rfl ?_
      refine g_get (C := RX12) (T := TX12) (N := 22) (ci := 8) (v := (.int t_at)) X iw_X12_blanks_X12 0 rfl rfl 7 (by decide) lk_X12_blanks_105 rfl dX12_blanks_2 ?_
      obtain ⟨r_1, hk_2, hf⟩ := ob1_out hf
      refine g_cVR (st := []) (st1 := [.int r_1]) (C := RX12) (ci := 8) (q0 := 0) X (c_X12_byteAt l D cI cZ h_t h_t_w h_t_isKept h_t_text h_t_statuses h_t_ways h_t_feels h_t_next h_t_came h_t_deep h_t_sizes h_t_tableOf h_t_usedBy h_t_taken h_t_sixOf t_texted t_above t_below t_at t_start t_number t_went t_h t_text t_at _ hk_2) (Or.inl rfl) 1 gX12_blanks_X12_byteAt rfl hv_X12_byteAt ⟨Nat.le_of_ble_eq_true rfl, Nat.le_of_ble_eq_true rfl⟩ rfl rfl (Nat.le_of_ble_eq_true rfl) ⟨rfl, rfl⟩ (Nat.zero_le _) (Nat.zero_le _) rfl rfl rfl dX12_blanks_5 [0, 1] rfl rfl rfl ?_
      refine g_bipush (v := 32) X dX12_blanks_8 (by decide) ?_
      refine g_icmp_ne (tgt := 26) X dX12_blanks_10 (by decide) (fun hc_3 => ?_) (fun hc_3 => ?_)
      · replace hf := ite_f hc_3 hf
        exact J26 t_at t_start hf
      · replace hf := ite_t hc_3 hf
        refine g_aload_n X dX12_blanks_13 rfl 0 rfl ?_
        refine g_dup X dX12_blanks_14 rfl ?_
        refine g_get (C := RX12) (T := TX12) (N := 22) (ci := 8) (v := (.int t_at)) X iw_X12_blanks_X12 0 rfl rfl 7 (by decide) lk_X12_blanks_105 rfl dX12_blanks_15 ?_
        refine g_iconst (v := 1) X dX12_blanks_18 (by decide) ?_
        refine g_iadd X dX12_blanks_19 ?_
        obtain ⟨t_at_4, et_at_4, hf⟩ := bnd_out hf
        refine g_nmI X et_at_4 ?_
        refine g_put (C := RX12) (T := TX12) (N := 22) (ci := 8) (v := .int t_at_4) (ws' := (wd_X12_blanks cI cZ h_t h_t_w h_t_isKept h_t_text h_t_statuses h_t_ways h_t_feels h_t_next h_t_came h_t_deep h_t_sizes h_t_tableOf h_t_usedBy h_t_taken h_t_sixOf t_texted t_above t_below t_at_4 t_start t_number t_went t_h t_text)) X iw_X12_blanks_X12 tyX12 tyX12_ok nmX12 0 rfl rfl 7 (by decide) lk_X12_blanks_105 rfl (tyX12_ok 7 (by decide)) rfl rfl (Nat.le_of_ble_eq_true rfl) dX12_blanks_20 rfl ?_
        refine g_goto (tgt := 0) X dX12_blanks_23 (by decide) ?_
        exact ih t_at_4 t_start hf
  exact J0 FU t_at t_start hf
def wd_X12_takesWord (cI cZ : ClassId) (h_t : Nat) (h_t_w : Nat) (h_t_isKept : Nat) (h_t_text : Nat) (h_t_statuses : Nat) (h_t_ways : Nat) (h_t_feels : Nat) (h_t_next : Nat) (h_t_came : Nat) (h_t_deep : Nat) (h_t_sizes : Nat) (h_t_tableOf : Nat) (h_t_usedBy : Nat) (h_t_taken : Nat) (h_t_sixOf : Nat) (t_texted : Int32) (t_above : Int64) (t_below : Int64) (t_at : Int32) (t_start : Int32) (t_number : Int32) (t_went : Int32) (t_h : Int64) (t_text : (Nat → Int32)) : va_W := [(h_t, .inr (8, [.ref h_t_w, .ref h_t_isKept, .ref h_t_text, .int t_texted, .long t_above, .long t_below, .ref h_t_statuses, .int t_at, .int t_start, .int t_number, .ref h_t_ways, .int t_went, .ref h_t_feels, .ref h_t_next, .ref h_t_came, .ref h_t_deep, .ref h_t_sizes, .ref h_t_tableOf, .ref h_t_usedBy, .ref h_t_taken, .ref h_t_sixOf, .long t_h])), (h_t_text, .inl (cI, 150, .inl t_text))]
abbrev rm_X12_takesWord : Room := { frames := 2, cells := 0, slots := 0, locals := 41 }
theorem hv_X12_takesWord : yX12_takesWord.cls = RX12 ∧ yX12_takesWord.cls ≠ "java/lang/invoke/MethodHandle" ∧ yX12_takesWord.cls ≠ "java/lang/invoke/VarHandle" ∧ (parseMethodDescriptor yX12_takesWord.desc).map (fun d => d.parameters.length) = some 0 := by decide +kernel
theorem iw_X12_takesWord_X12 : ∀ w ∈ u_ws RX12 TX12 22, w ∈ wsX12_takesWord := by decide +kernel
theorem lk_X12_takesWord_105 : Cond.fieldLink RX12 105 "ClerkChainsModel" "at" "I" ∈ wsX12_takesWord := by decide +kernel
theorem lk_X12_takesWord_117 : Cond.constantLong RX12 117 97 ∈ wsX12_takesWord := by decide +kernel
theorem lk_X12_takesWord_119 : Cond.constantLong RX12 119 122 ∈ wsX12_takesWord := by decide +kernel
set_option maxHeartbeats 4000000 in
set_option maxRecDepth 100000 in
theorem c_X12_takesWord (l : Launch) (D : va_G) (cI cZ : ClassId) (h_t : Nat) (h_t_w : Nat) (h_t_isKept : Nat) (h_t_text : Nat) (h_t_statuses : Nat) (h_t_ways : Nat) (h_t_feels : Nat) (h_t_next : Nat) (h_t_came : Nat) (h_t_deep : Nat) (h_t_sizes : Nat) (h_t_tableOf : Nat) (h_t_usedBy : Nat) (h_t_taken : Nat) (h_t_sixOf : Nat) (t_texted : Int32) (t_above : Int64) (t_below : Int64) (t_at : Int32) (t_start : Int32) (t_number : Int32) (t_went : Int32) (t_h : Int64) (t_text : (Nat → Int32)) (res : Int32 × Int32) (hf : f_X12_takesWord t_texted t_at t_start t_text = some res) : MetG l yX12_takesWord wsX12_takesWord rm_X12_takesWord D cI cZ none [.ref h_t] (wd_X12_takesWord cI cZ h_t h_t_w h_t_isKept h_t_text h_t_statuses h_t_ways h_t_feels h_t_next h_t_came h_t_deep h_t_sizes h_t_tableOf h_t_usedBy h_t_taken h_t_sixOf t_texted t_above t_below t_at t_start t_number t_went t_h t_text) (kV res (fun _ => none) (fun u => (wd_X12_takesWord cI cZ h_t h_t_w h_t_isKept h_t_text h_t_statuses h_t_ways h_t_feels h_t_next h_t_came h_t_deep h_t_sizes h_t_tableOf h_t_usedBy h_t_taken h_t_sixOf t_texted t_above t_below (u.1) (u.2) t_number t_went t_h t_text))) := by
  refine metG_of (cc := cX12_takesWord) (maxL := 1) (ret := none) (own := RX12) (lv0 := [(0, .ref h_t)]) (ini := false) (by decide) rfl (Nat.le_of_ble_eq_true rfl) rfl rfl (fun h => by cases h) (fun G X hR => ?_)
  replace hR := rt_void hR
  unfold f_X12_takesWord at hf
  have J4 : ∀ (n : Nat) (t_at : Int32) (t_start : Int32), f_X12_takesWord_4 t_texted t_text n t_at t_start = some res → G 0 0 (wd_X12_takesWord cI cZ h_t h_t_w h_t_isKept h_t_text h_t_statuses h_t_ways h_t_feels h_t_next h_t_came h_t_deep h_t_sizes h_t_tableOf h_t_usedBy h_t_taken h_t_sixOf t_texted t_above t_below t_at t_start t_number t_went t_h t_text) [(0, .ref h_t)] 4 [] := by
    intro n
    induction n with
    | zero => intro t_at t_start hf; rw [f_X12_takesWord_4] at hf; cases hf
    | succ n ih =>
      intro t_at t_start hf
      rw [f_X12_takesWord_4] at hf
      refine g_aload_n X dX12_takesWord_4 rfl 0 rfl ?_
      refine g_aload_n X dX12_takesWord_5 rfl 0 rfl ?_
      refine g_get (C := RX12) (T := TX12) (N := 22) (ci := 8) (v := (.int t_at)) X iw_X12_takesWord_X12 0 rfl rfl 7 (by decide) lk_X12_takesWord_105 rfl dX12_takesWord_6 ?_
      obtain ⟨r_1, hk_2, hf⟩ := ob1_out hf
      refine g_cVR (st := []) (st1 := [.int r_1]) (C := RX12) (ci := 8) (q0 := 0) X (c_X12_byteAt l D cI cZ h_t h_t_w h_t_isKept h_t_text h_t_statuses h_t_ways h_t_feels h_t_next h_t_came h_t_deep h_t_sizes h_t_tableOf h_t_usedBy h_t_taken h_t_sixOf t_texted t_above t_below t_at t_start t_number t_went t_h t_text t_at _ hk_2) (Or.inl rfl) 1 gX12_takesWord_X12_byteAt rfl hv_X12_byteAt ⟨Nat.le_of_ble_eq_true rfl, Nat.le_of_ble_eq_true rfl⟩ rfl rfl (Nat.le_of_ble_eq_true rfl) ⟨rfl, rfl⟩ (Nat.zero_le _) (Nat.zero_le _) rfl rfl rfl dX12_takesWord_9 [0, 1] rfl rfl rfl ?_
      refine g_i2l X dX12_takesWord_12 ?_
      refine g_ldc2 (v := 97) X dX12_takesWord_13 lk_X12_takesWord_117 ?_
      refine g_ldc2 (v := 122) X dX12_takesWord_16 lk_X12_takesWord_119 ?_
      obtain ⟨r_3, hk_4, hf⟩ := ob1_out hf
      refine g_cSR (st := []) (st1 := [.int r_3]) X (c_X12_in l D cI cZ (r_1.toInt64) 97 122 _ hk_4) (Or.inl rfl) 3 gX12_takesWord_X12_in rfl hs_X12_in ⟨Nat.le_of_ble_eq_true rfl, Nat.le_of_ble_eq_true rfl⟩ rfl rfl (Nat.le_of_ble_eq_true rfl) ⟨rfl, rfl⟩ (Nat.zero_le _) (Nat.zero_le _) dX12_takesWord_19 [] rfl rfl rfl ?_
      refine g_if_eq (tgt := 38) X dX12_takesWord_22 (by decide) (fun hc_5 => ?_) (fun hc_5 => ?_)
      · replace hf := ite_t hc_5 hf
        exact hR _ _ _ dX12_takesWord_38 (kV_in (u := (t_at, t_start)) hf)
      · replace hf := ite_f hc_5 hf
        refine g_aload_n X dX12_takesWord_25 rfl 0 rfl ?_
        refine g_dup X dX12_takesWord_26 rfl ?_
        refine g_get (C := RX12) (T := TX12) (N := 22) (ci := 8) (v := (.int t_at)) X iw_X12_takesWord_X12 0 rfl rfl 7 (by decide) lk_X12_takesWord_105 rfl dX12_takesWord_27 ?_
        refine g_iconst (v := 1) X dX12_takesWord_30 (by decide) ?_
        refine g_iadd X dX12_takesWord_31 ?_
        obtain ⟨t_at_6, et_at_6, hf⟩ := bnd_out hf
        refine g_nmI X et_at_6 ?_
        refine g_put (C := RX12) (T := TX12) (N := 22) (ci := 8) (v := .int t_at_6) (ws' := (wd_X12_takesWord cI cZ h_t h_t_w h_t_isKept h_t_text h_t_statuses h_t_ways h_t_feels h_t_next h_t_came h_t_deep h_t_sizes h_t_tableOf h_t_usedBy h_t_taken h_t_sixOf t_texted t_above t_below t_at_6 t_start t_number t_went t_h t_text)) X iw_X12_takesWord_X12 tyX12 tyX12_ok nmX12 0 rfl rfl 7 (by decide) lk_X12_takesWord_105 rfl (tyX12_ok 7 (by decide)) rfl rfl (Nat.le_of_ble_eq_true rfl) dX12_takesWord_32 rfl ?_
        refine g_goto (tgt := 4) X dX12_takesWord_35 (by decide) ?_
        exact ih t_at_6 t_start hf
  refine g_aload_n X dX12_takesWord_0 rfl 0 rfl ?_
  obtain ⟨t_at_7, t_start_8, hk_9, hf⟩ := ob2_out hf
  refine g_cVW (st := []) (st1 := []) (C := RX12) (ci := 8) (q0 := 0) (ws' := (wd_X12_takesWord cI cZ h_t h_t_w h_t_isKept h_t_text h_t_statuses h_t_ways h_t_feels h_t_next h_t_came h_t_deep h_t_sizes h_t_tableOf h_t_usedBy h_t_taken h_t_sixOf t_texted t_above t_below t_at_7 t_start_8 t_number t_went t_h t_text)) X (c_X12_blanks l D cI cZ h_t h_t_w h_t_isKept h_t_text h_t_statuses h_t_ways h_t_feels h_t_next h_t_came h_t_deep h_t_sizes h_t_tableOf h_t_usedBy h_t_taken h_t_sixOf t_texted t_above t_below t_at t_start t_number t_went t_h t_text _ hk_9) (Or.inl rfl) 0 gX12_takesWord_X12_blanks rfl hv_X12_blanks ⟨Nat.le_of_ble_eq_true rfl, Nat.le_of_ble_eq_true rfl⟩ rfl rfl (Nat.le_of_ble_eq_true rfl) ⟨rfl, rfl⟩ (Nat.zero_le _) (Nat.zero_le _) rfl rfl rfl dX12_takesWord_1 [0, 1] rfl rfl [] rfl rfl (by decide) [0, 1] rfl rfl rfl ?_
  exact J4 FU t_at_7 t_start_8 hf
def wd_X12_isLetter (cI cZ : ClassId) (h_t : Nat) (h_t_w : Nat) (h_t_isKept : Nat) (h_t_text : Nat) (h_t_statuses : Nat) (h_t_ways : Nat) (h_t_feels : Nat) (h_t_next : Nat) (h_t_came : Nat) (h_t_deep : Nat) (h_t_sizes : Nat) (h_t_tableOf : Nat) (h_t_usedBy : Nat) (h_t_taken : Nat) (h_t_sixOf : Nat) (t_texted : Int32) (t_above : Int64) (t_below : Int64) (t_at : Int32) (t_start : Int32) (t_number : Int32) (t_went : Int32) (t_h : Int64) (t_text : (Nat → Int32)) : va_W := [(h_t, .inr (8, [.ref h_t_w, .ref h_t_isKept, .ref h_t_text, .int t_texted, .long t_above, .long t_below, .ref h_t_statuses, .int t_at, .int t_start, .int t_number, .ref h_t_ways, .int t_went, .ref h_t_feels, .ref h_t_next, .ref h_t_came, .ref h_t_deep, .ref h_t_sizes, .ref h_t_tableOf, .ref h_t_usedBy, .ref h_t_taken, .ref h_t_sixOf, .long t_h])), (h_t_text, .inl (cI, 150, .inl t_text))]
abbrev rm_X12_isLetter : Room := { frames := 0, cells := 0, slots := 0, locals := 0 }
theorem hv_X12_isLetter : yX12_isLetter.cls = RX12 ∧ yX12_isLetter.cls ≠ "java/lang/invoke/MethodHandle" ∧ yX12_isLetter.cls ≠ "java/lang/invoke/VarHandle" ∧ (parseMethodDescriptor yX12_isLetter.desc).map (fun d => d.parameters.length) = some 3 := by decide +kernel
theorem iw_X12_isLetter_X12 : ∀ w ∈ u_ws RX12 TX12 22, w ∈ wsX12_isLetter := by decide +kernel
theorem lk_X12_isLetter_17 : Cond.fieldLink RX12 17 "ClerkChainsModel" "text" "[I" ∈ wsX12_isLetter := by decide +kernel
theorem lk_X12_isLetter_111 : Cond.fieldLink RX12 111 "ClerkChainsModel" "start" "I" ∈ wsX12_isLetter := by decide +kernel
set_option maxHeartbeats 4000000 in
set_option maxRecDepth 100000 in
theorem c_X12_isLetter (l : Launch) (D : va_G) (cI cZ : ClassId) (h_t : Nat) (h_t_w : Nat) (h_t_isKept : Nat) (h_t_text : Nat) (h_t_statuses : Nat) (h_t_ways : Nat) (h_t_feels : Nat) (h_t_next : Nat) (h_t_came : Nat) (h_t_deep : Nat) (h_t_sizes : Nat) (h_t_tableOf : Nat) (h_t_usedBy : Nat) (h_t_taken : Nat) (h_t_sixOf : Nat) (t_texted : Int32) (t_above : Int64) (t_below : Int64) (t_at : Int32) (t_start : Int32) (t_number : Int32) (t_went : Int32) (t_h : Int64) (t_text : (Nat → Int32)) (v1 : Int32) (v2 : Int32) (v3 : Int32) (res : Int32) (hf : f_X12_isLetter t_start t_text v1 v2 v3 = some res) : MetR l yX12_isLetter wsX12_isLetter rm_X12_isLetter D cI cZ none [.ref h_t, .int v1, .int v2, .int v3] (wd_X12_isLetter cI cZ h_t h_t_w h_t_isKept h_t_text h_t_statuses h_t_ways h_t_feels h_t_next h_t_came h_t_deep h_t_sizes h_t_tableOf h_t_usedBy h_t_taken h_t_sixOf t_texted t_above t_below t_at t_start t_number t_went t_h t_text) (kR res (fun u => some (.int u))) := by
  refine metR_of (cc := cX12_isLetter) (maxL := 4) (ret := (some .boolean)) (own := RX12) (lv0 := [(0, .ref h_t), (1, .int v1), (2, .int v2), (3, .int v3)]) (by decide) rfl (Nat.le_of_ble_eq_true rfl) rfl rfl (fun G X hR => ?_)
  replace hR := rt_bool hR
  unfold f_X12_isLetter at hf
  refine g_iload_n X dX12_isLetter_0 rfl 2 rfl ?_
  refine g_if_ne (tgt := 17) X dX12_isLetter_1 (by decide) (fun hc_1 => ?_) (fun hc_1 => ?_)
  · replace hf := ite_f hc_1 hf
    refine g_iload_n X dX12_isLetter_17 rfl 3 rfl ?_
    refine g_iload_n X dX12_isLetter_18 rfl 1 rfl ?_
    refine g_icmp_le (tgt := 41) X dX12_isLetter_19 (by decide) (fun hc_2 => ?_) (fun hc_2 => ?_)
    · replace hf := ite_t hc_2 hf
      refine g_iconst (v := 0) X dX12_isLetter_41 (by decide) ?_
      exact hR _ _ _ _ (Or.inl rfl) dX12_isLetter_42 (kR_in (u := 0) hf)
    · replace hf := ite_f hc_2 hf
      refine g_aload_n X dX12_isLetter_22 rfl 0 rfl ?_
      refine g_get (C := RX12) (T := TX12) (N := 22) (ci := 8) (v := (.ref h_t_text)) X iw_X12_isLetter_X12 0 rfl rfl 2 (by decide) lk_X12_isLetter_17 rfl dX12_isLetter_23 ?_
      refine g_aload_n X dX12_isLetter_26 rfl 0 rfl ?_
      refine g_get (C := RX12) (T := TX12) (N := 22) (ci := 8) (v := (.int t_start)) X iw_X12_isLetter_X12 0 rfl rfl 8 (by decide) lk_X12_isLetter_111 rfl dX12_isLetter_27 ?_
      refine g_iload_n X dX12_isLetter_30 rfl 1 rfl ?_
      refine g_iadd X dX12_isLetter_31 ?_
      obtain ⟨hb_3, hf⟩ := chk_out hf
      refine g_iald X 1 rfl hb_3 dX12_isLetter_32 ?_
      refine g_iload_n X dX12_isLetter_33 rfl 2 rfl ?_
      refine g_icmp_ne (tgt := 41) X dX12_isLetter_34 (by decide) (fun hc_4 => ?_) (fun hc_4 => ?_)
      · replace hf := ite_f hc_4 hf
        refine g_iconst (v := 0) X dX12_isLetter_41 (by decide) ?_
        exact hR _ _ _ _ (Or.inl rfl) dX12_isLetter_42 (kR_in (u := 0) hf)
      · replace hf := ite_t hc_4 hf
        refine g_iconst (v := 1) X dX12_isLetter_37 (by decide) ?_
        refine g_goto (tgt := 42) X dX12_isLetter_38 (by decide) ?_
        exact hR _ _ _ _ (Or.inr rfl) dX12_isLetter_42 (kR_in (u := 1) hf)
  · replace hf := ite_t hc_1 hf
    refine g_iload_n X dX12_isLetter_4 rfl 3 rfl ?_
    refine g_iload_n X dX12_isLetter_5 rfl 1 rfl ?_
    refine g_icmp_gt (tgt := 13) X dX12_isLetter_6 (by decide) (fun hc_5 => ?_) (fun hc_5 => ?_)
    · replace hf := ite_t hc_5 hf
      refine g_iconst (v := 0) X dX12_isLetter_13 (by decide) ?_
      refine g_goto (tgt := 42) X dX12_isLetter_14 (by decide) ?_
      exact hR _ _ _ _ (Or.inl rfl) dX12_isLetter_42 (kR_in (u := 0) hf)
    · replace hf := ite_f hc_5 hf
      refine g_iconst (v := 1) X dX12_isLetter_9 (by decide) ?_
      refine g_goto (tgt := 42) X dX12_isLetter_10 (by decide) ?_
      exact hR _ _ _ _ (Or.inr rfl) dX12_isLetter_42 (kR_in (u := 1) hf)
def wd_X12_isWord (cI cZ : ClassId) (h_t : Nat) (h_t_w : Nat) (h_t_isKept : Nat) (h_t_text : Nat) (h_t_statuses : Nat) (h_t_ways : Nat) (h_t_feels : Nat) (h_t_next : Nat) (h_t_came : Nat) (h_t_deep : Nat) (h_t_sizes : Nat) (h_t_tableOf : Nat) (h_t_usedBy : Nat) (h_t_taken : Nat) (h_t_sixOf : Nat) (t_texted : Int32) (t_above : Int64) (t_below : Int64) (t_at : Int32) (t_start : Int32) (t_number : Int32) (t_went : Int32) (t_h : Int64) (t_text : (Nat → Int32)) : va_W := [(h_t, .inr (8, [.ref h_t_w, .ref h_t_isKept, .ref h_t_text, .int t_texted, .long t_above, .long t_below, .ref h_t_statuses, .int t_at, .int t_start, .int t_number, .ref h_t_ways, .int t_went, .ref h_t_feels, .ref h_t_next, .ref h_t_came, .ref h_t_deep, .ref h_t_sizes, .ref h_t_tableOf, .ref h_t_usedBy, .ref h_t_taken, .ref h_t_sixOf, .long t_h])), (h_t_text, .inl (cI, 150, .inl t_text))]
abbrev rm_X12_isWord : Room := { frames := 1, cells := 0, slots := 0, locals := 23 }
theorem hv_X12_isWord : yX12_isWord.cls = RX12 ∧ yX12_isWord.cls ≠ "java/lang/invoke/MethodHandle" ∧ yX12_isWord.cls ≠ "java/lang/invoke/VarHandle" ∧ (parseMethodDescriptor yX12_isWord.desc).map (fun d => d.parameters.length) = some 7 := by decide +kernel
theorem iw_X12_isWord_X12 : ∀ w ∈ u_ws RX12 TX12 22, w ∈ wsX12_isWord := by decide +kernel
theorem lk_X12_isWord_105 : Cond.fieldLink RX12 105 "ClerkChainsModel" "at" "I" ∈ wsX12_isWord := by decide +kernel
theorem lk_X12_isWord_111 : Cond.fieldLink RX12 111 "ClerkChainsModel" "start" "I" ∈ wsX12_isWord := by decide +kernel
set_option maxHeartbeats 4000000 in
set_option maxRecDepth 100000 in
theorem c_X12_isWord (l : Launch) (D : va_G) (cI cZ : ClassId) (h_t : Nat) (h_t_w : Nat) (h_t_isKept : Nat) (h_t_text : Nat) (h_t_statuses : Nat) (h_t_ways : Nat) (h_t_feels : Nat) (h_t_next : Nat) (h_t_came : Nat) (h_t_deep : Nat) (h_t_sizes : Nat) (h_t_tableOf : Nat) (h_t_usedBy : Nat) (h_t_taken : Nat) (h_t_sixOf : Nat) (t_texted : Int32) (t_above : Int64) (t_below : Int64) (t_at : Int32) (t_start : Int32) (t_number : Int32) (t_went : Int32) (t_h : Int64) (t_text : (Nat → Int32)) (v1 : Int32) (v2 : Int32) (v3 : Int32) (v4 : Int32) (v5 : Int32) (v6 : Int32) (v7 : Int32) (res : Int32) (hf : f_X12_isWord t_at t_start t_text v1 v2 v3 v4 v5 v6 v7 = some res) : MetR l yX12_isWord wsX12_isWord rm_X12_isWord D cI cZ none [.ref h_t, .int v1, .int v2, .int v3, .int v4, .int v5, .int v6, .int v7] (wd_X12_isWord cI cZ h_t h_t_w h_t_isKept h_t_text h_t_statuses h_t_ways h_t_feels h_t_next h_t_came h_t_deep h_t_sizes h_t_tableOf h_t_usedBy h_t_taken h_t_sixOf t_texted t_above t_below t_at t_start t_number t_went t_h t_text) (kR res (fun u => some (.int u))) := by
  refine metR_of (cc := cX12_isWord) (maxL := 9) (ret := (some .boolean)) (own := RX12) (lv0 := [(0, .ref h_t), (1, .int v1), (2, .int v2), (3, .int v3), (4, .int v4), (5, .int v5), (6, .int v6), (7, .int v7)]) (by decide) rfl (Nat.le_of_ble_eq_true rfl) rfl rfl (fun G X hR => ?_)
  replace hR := rt_bool hR
  unfold f_X12_isWord at hf
  refine g_aload_n X dX12_isWord_0 rfl 0 rfl ?_
  refine g_get (C := RX12) (T := TX12) (N := 22) (ci := 8) (v := (.int t_at)) X iw_X12_isWord_X12 0 rfl rfl 7 (by decide) lk_X12_isWord_105 rfl dX12_isWord_1 ?_
  refine g_aload_n X dX12_isWord_4 rfl 0 rfl ?_
  refine g_get (C := RX12) (T := TX12) (N := 22) (ci := 8) (v := (.int t_start)) X iw_X12_isWord_X12 0 rfl rfl 8 (by decide) lk_X12_isWord_111 rfl dX12_isWord_5 ?_
  refine g_isub X dX12_isWord_8 ?_
  obtain ⟨v8_1, ev8_1, hf⟩ := bnd_out hf
  refine g_nmI X ev8_1 ?_
  refine g_istore (lv' := [(0, .ref h_t), (1, .int v1), (2, .int v2), (3, .int v3), (4, .int v4), (5, .int v5), (6, .int v6), (7, .int v7), (8, .int v8_1)]) X dX12_isWord_9 (Nat.le_of_ble_eq_true rfl) [1, 2, 3, 4, 5, 6, 7, 8, 0] rfl ?_
  refine g_aload_n X dX12_isWord_11 rfl 0 rfl ?_
  refine g_iconst (v := 0) X dX12_isWord_12 (by decide) ?_
  refine g_iload_n X dX12_isWord_13 rfl 1 rfl ?_
  refine g_iload X dX12_isWord_14 8 rfl ?_
  obtain ⟨r_2, hk_3, hf⟩ := ob1_out hf
  refine g_cVR (st := []) (st1 := [.int r_2]) (C := RX12) (ci := 8) (q0 := 0) X (c_X12_isLetter l D cI cZ h_t h_t_w h_t_isKept h_t_text h_t_statuses h_t_ways h_t_feels h_t_next h_t_came h_t_deep h_t_sizes h_t_tableOf h_t_usedBy h_t_taken h_t_sixOf t_texted t_above t_below t_at t_start t_number t_went t_h t_text 0 v1 v8_1 _ hk_3) (Or.inl rfl) 3 gX12_isWord_X12_isLetter rfl hv_X12_isLetter ⟨Nat.le_of_ble_eq_true rfl, Nat.le_of_ble_eq_true rfl⟩ rfl rfl (Nat.le_of_ble_eq_true rfl) ⟨rfl, rfl⟩ (Nat.zero_le _) (Nat.zero_le _) rfl rfl rfl dX12_isWord_16 [0, 1] rfl rfl rfl ?_
  refine g_if_eq (tgt := 104) X dX12_isWord_19 (by decide) (fun hc_4 => ?_) (fun hc_4 => ?_)
  · replace hf := ite_t hc_4 hf
    refine g_iconst (v := 0) X dX12_isWord_104 (by decide) ?_
    exact hR _ _ _ _ (Or.inl rfl) dX12_isWord_105 (kR_in (u := 0) hf)
  · replace hf := ite_f hc_4 hf
    refine g_aload_n X dX12_isWord_22 rfl 0 rfl ?_
    refine g_iconst (v := 1) X dX12_isWord_23 (by decide) ?_
    refine g_iload_n X dX12_isWord_24 rfl 2 rfl ?_
    refine g_iload X dX12_isWord_25 8 rfl ?_
    obtain ⟨r_5, hk_6, hf⟩ := ob1_out hf
    refine g_cVR (st := []) (st1 := [.int r_5]) (C := RX12) (ci := 8) (q0 := 0) X (c_X12_isLetter l D cI cZ h_t h_t_w h_t_isKept h_t_text h_t_statuses h_t_ways h_t_feels h_t_next h_t_came h_t_deep h_t_sizes h_t_tableOf h_t_usedBy h_t_taken h_t_sixOf t_texted t_above t_below t_at t_start t_number t_went t_h t_text 1 v2 v8_1 _ hk_6) (Or.inl rfl) 3 gX12_isWord_X12_isLetter rfl hv_X12_isLetter ⟨Nat.le_of_ble_eq_true rfl, Nat.le_of_ble_eq_true rfl⟩ rfl rfl (Nat.le_of_ble_eq_true rfl) ⟨rfl, rfl⟩ (Nat.zero_le _) (Nat.zero_le _) rfl rfl rfl dX12_isWord_27 [0, 1] rfl rfl rfl ?_
    refine g_if_eq (tgt := 104) X dX12_isWord_30 (by decide) (fun hc_7 => ?_) (fun hc_7 => ?_)
    · replace hf := ite_t hc_7 hf
      refine g_iconst (v := 0) X dX12_isWord_104 (by decide) ?_
      exact hR _ _ _ _ (Or.inl rfl) dX12_isWord_105 (kR_in (u := 0) hf)
    · replace hf := ite_f hc_7 hf
      refine g_aload_n X dX12_isWord_33 rfl 0 rfl ?_
      refine g_iconst (v := 2) X dX12_isWord_34 (by decide) ?_
      refine g_iload_n X dX12_isWord_35 rfl 3 rfl ?_
      refine g_iload X dX12_isWord_36 8 rfl ?_
      obtain ⟨r_8, hk_9, hf⟩ := ob1_out hf
      refine g_cVR (st := []) (st1 := [.int r_8]) (C := RX12) (ci := 8) (q0 := 0) X (c_X12_isLetter l D cI cZ h_t h_t_w h_t_isKept h_t_text h_t_statuses h_t_ways h_t_feels h_t_next h_t_came h_t_deep h_t_sizes h_t_tableOf h_t_usedBy h_t_taken h_t_sixOf t_texted t_above t_below t_at t_start t_number t_went t_h t_text 2 v3 v8_1 _ hk_9) (Or.inl rfl) 3 gX12_isWord_X12_isLetter rfl hv_X12_isLetter ⟨Nat.le_of_ble_eq_true rfl, Nat.le_of_ble_eq_true rfl⟩ rfl rfl (Nat.le_of_ble_eq_true rfl) ⟨rfl, rfl⟩ (Nat.zero_le _) (Nat.zero_le _) rfl rfl rfl dX12_isWord_38 [0, 1] rfl rfl rfl ?_
      refine g_if_eq (tgt := 104) X dX12_isWord_41 (by decide) (fun hc_10 => ?_) (fun hc_10 => ?_)
      · replace hf := ite_t hc_10 hf
        refine g_iconst (v := 0) X dX12_isWord_104 (by decide) ?_
        exact hR _ _ _ _ (Or.inl rfl) dX12_isWord_105 (kR_in (u := 0) hf)
      · replace hf := ite_f hc_10 hf
        refine g_aload_n X dX12_isWord_44 rfl 0 rfl ?_
        refine g_iconst (v := 3) X dX12_isWord_45 (by decide) ?_
        refine g_iload X dX12_isWord_46 4 rfl ?_
        refine g_iload X dX12_isWord_48 8 rfl ?_
        obtain ⟨r_11, hk_12, hf⟩ := ob1_out hf
        refine g_cVR (st := []) (st1 := [.int r_11]) (C := RX12) (ci := 8) (q0 := 0) X (c_X12_isLetter l D cI cZ h_t h_t_w h_t_isKept h_t_text h_t_statuses h_t_ways h_t_feels h_t_next h_t_came h_t_deep h_t_sizes h_t_tableOf h_t_usedBy h_t_taken h_t_sixOf t_texted t_above t_below t_at t_start t_number t_went t_h t_text 3 v4 v8_1 _ hk_12) (Or.inl rfl) 3 gX12_isWord_X12_isLetter rfl hv_X12_isLetter ⟨Nat.le_of_ble_eq_true rfl, Nat.le_of_ble_eq_true rfl⟩ rfl rfl (Nat.le_of_ble_eq_true rfl) ⟨rfl, rfl⟩ (Nat.zero_le _) (Nat.zero_le _) rfl rfl rfl dX12_isWord_50 [0, 1] rfl rfl rfl ?_
        refine g_if_eq (tgt := 104) X dX12_isWord_53 (by decide) (fun hc_13 => ?_) (fun hc_13 => ?_)
        · replace hf := ite_t hc_13 hf
          refine g_iconst (v := 0) X dX12_isWord_104 (by decide) ?_
          exact hR _ _ _ _ (Or.inl rfl) dX12_isWord_105 (kR_in (u := 0) hf)
        · replace hf := ite_f hc_13 hf
          refine g_aload_n X dX12_isWord_56 rfl 0 rfl ?_
          refine g_iconst (v := 4) X dX12_isWord_57 (by decide) ?_
          refine g_iload X dX12_isWord_58 5 rfl ?_
          refine g_iload X dX12_isWord_60 8 rfl ?_
          obtain ⟨r_14, hk_15, hf⟩ := ob1_out hf
          refine g_cVR (st := []) (st1 := [.int r_14]) (C := RX12) (ci := 8) (q0 := 0) X (c_X12_isLetter l D cI cZ h_t h_t_w h_t_isKept h_t_text h_t_statuses h_t_ways h_t_feels h_t_next h_t_came h_t_deep h_t_sizes h_t_tableOf h_t_usedBy h_t_taken h_t_sixOf t_texted t_above t_below t_at t_start t_number t_went t_h t_text 4 v5 v8_1 _ hk_15) (Or.inl rfl) 3 gX12_isWord_X12_isLetter rfl hv_X12_isLetter ⟨Nat.le_of_ble_eq_true rfl, Nat.le_of_ble_eq_true rfl⟩ rfl rfl (Nat.le_of_ble_eq_true rfl) ⟨rfl, rfl⟩ (Nat.zero_le _) (Nat.zero_le _) rfl rfl rfl dX12_isWord_62 [0, 1] rfl rfl rfl ?_
          refine g_if_eq (tgt := 104) X dX12_isWord_65 (by decide) (fun hc_16 => ?_) (fun hc_16 => ?_)
          · replace hf := ite_t hc_16 hf
            refine g_iconst (v := 0) X dX12_isWord_104 (by decide) ?_
            exact hR _ _ _ _ (Or.inl rfl) dX12_isWord_105 (kR_in (u := 0) hf)
          · replace hf := ite_f hc_16 hf
            refine g_aload_n X dX12_isWord_68 rfl 0 rfl ?_
            refine g_iconst (v := 5) X dX12_isWord_69 (by decide) ?_
            refine g_iload X dX12_isWord_70 6 rfl ?_
            refine g_iload X dX12_isWord_72 8 rfl ?_
            obtain ⟨r_17, hk_18, hf⟩ := ob1_out hf
            refine g_cVR (st := []) (st1 := [.int r_17]) (C := RX12) (ci := 8) (q0 := 0) X (c_X12_isLetter l D cI cZ h_t h_t_w h_t_isKept h_t_text h_t_statuses h_t_ways h_t_feels h_t_next h_t_came h_t_deep h_t_sizes h_t_tableOf h_t_usedBy h_t_taken h_t_sixOf t_texted t_above t_below t_at t_start t_number t_went t_h t_text 5 v6 v8_1 _ hk_18) (Or.inl rfl) 3 gX12_isWord_X12_isLetter rfl hv_X12_isLetter ⟨Nat.le_of_ble_eq_true rfl, Nat.le_of_ble_eq_true rfl⟩ rfl rfl (Nat.le_of_ble_eq_true rfl) ⟨rfl, rfl⟩ (Nat.zero_le _) (Nat.zero_le _) rfl rfl rfl dX12_isWord_74 [0, 1] rfl rfl rfl ?_
            refine g_if_eq (tgt := 104) X dX12_isWord_77 (by decide) (fun hc_19 => ?_) (fun hc_19 => ?_)
            · replace hf := ite_t hc_19 hf
              refine g_iconst (v := 0) X dX12_isWord_104 (by decide) ?_
              exact hR _ _ _ _ (Or.inl rfl) dX12_isWord_105 (kR_in (u := 0) hf)
            · replace hf := ite_f hc_19 hf
              refine g_aload_n X dX12_isWord_80 rfl 0 rfl ?_
              refine g_bipush (v := 6) X dX12_isWord_81 (by decide) ?_
              refine g_iload X dX12_isWord_83 7 rfl ?_
              refine g_iload X dX12_isWord_85 8 rfl ?_
              obtain ⟨r_20, hk_21, hf⟩ := ob1_out hf
              refine g_cVR (st := []) (st1 := [.int r_20]) (C := RX12) (ci := 8) (q0 := 0) X (c_X12_isLetter l D cI cZ h_t h_t_w h_t_isKept h_t_text h_t_statuses h_t_ways h_t_feels h_t_next h_t_came h_t_deep h_t_sizes h_t_tableOf h_t_usedBy h_t_taken h_t_sixOf t_texted t_above t_below t_at t_start t_number t_went t_h t_text 6 v7 v8_1 _ hk_21) (Or.inl rfl) 3 gX12_isWord_X12_isLetter rfl hv_X12_isLetter ⟨Nat.le_of_ble_eq_true rfl, Nat.le_of_ble_eq_true rfl⟩ rfl rfl (Nat.le_of_ble_eq_true rfl) ⟨rfl, rfl⟩ (Nat.zero_le _) (Nat.zero_le _) rfl rfl rfl dX12_isWord_87 [0, 1] rfl rfl rfl ?_
              refine g_if_eq (tgt := 104) X dX12_isWord_90 (by decide) (fun hc_22 => ?_) (fun hc_22 => ?_)
              · replace hf := ite_t hc_22 hf
                refine g_iconst (v := 0) X dX12_isWord_104 (by decide) ?_
                exact hR _ _ _ _ (Or.inl rfl) dX12_isWord_105 (kR_in (u := 0) hf)
              · replace hf := ite_f hc_22 hf
                refine g_iload X dX12_isWord_93 8 rfl ?_
                refine g_bipush (v := 8) X dX12_isWord_95 (by decide) ?_
                refine g_icmp_ge (tgt := 104) X dX12_isWord_97 (by decide) (fun hc_23 => ?_) (fun hc_23 => ?_)
                · replace hf := ite_t hc_23 hf
                  refine g_iconst (v := 0) X dX12_isWord_104 (by decide) ?_
                  exact hR _ _ _ _ (Or.inl rfl) dX12_isWord_105 (kR_in (u := 0) hf)
                · replace hf := ite_f hc_23 hf
                  refine g_iconst (v := 1) X dX12_isWord_100 (by decide) ?_
                  refine g_goto (tgt := 105) X dX12_isWord_101 (by decide) ?_
                  exact hR _ _ _ _ (Or.inr rfl) dX12_isWord_105 (kR_in (u := 1) hf)
def wd_X12_wordOf (cI cZ : ClassId) (h_t : Nat) (h_t_w : Nat) (h_t_isKept : Nat) (h_t_text : Nat) (h_t_statuses : Nat) (h_t_ways : Nat) (h_t_feels : Nat) (h_t_next : Nat) (h_t_came : Nat) (h_t_deep : Nat) (h_t_sizes : Nat) (h_t_tableOf : Nat) (h_t_usedBy : Nat) (h_t_taken : Nat) (h_t_sixOf : Nat) (t_texted : Int32) (t_above : Int64) (t_below : Int64) (t_at : Int32) (t_start : Int32) (t_number : Int32) (t_went : Int32) (t_h : Int64) (t_text : (Nat → Int32)) : va_W := [(h_t, .inr (8, [.ref h_t_w, .ref h_t_isKept, .ref h_t_text, .int t_texted, .long t_above, .long t_below, .ref h_t_statuses, .int t_at, .int t_start, .int t_number, .ref h_t_ways, .int t_went, .ref h_t_feels, .ref h_t_next, .ref h_t_came, .ref h_t_deep, .ref h_t_sizes, .ref h_t_tableOf, .ref h_t_usedBy, .ref h_t_taken, .ref h_t_sixOf, .long t_h])), (h_t_text, .inl (cI, 150, .inl t_text))]
abbrev rm_X12_wordOf : Room := { frames := 2, cells := 0, slots := 0, locals := 51 }
theorem hv_X12_wordOf : yX12_wordOf.cls = RX12 ∧ yX12_wordOf.cls ≠ "java/lang/invoke/MethodHandle" ∧ yX12_wordOf.cls ≠ "java/lang/invoke/VarHandle" ∧ (parseMethodDescriptor yX12_wordOf.desc).map (fun d => d.parameters.length) = some 0 := by decide +kernel
set_option maxHeartbeats 4000000 in
set_option maxRecDepth 100000 in
theorem c_X12_wordOf (l : Launch) (D : va_G) (cI cZ : ClassId) (h_t : Nat) (h_t_w : Nat) (h_t_isKept : Nat) (h_t_text : Nat) (h_t_statuses : Nat) (h_t_ways : Nat) (h_t_feels : Nat) (h_t_next : Nat) (h_t_came : Nat) (h_t_deep : Nat) (h_t_sizes : Nat) (h_t_tableOf : Nat) (h_t_usedBy : Nat) (h_t_taken : Nat) (h_t_sixOf : Nat) (t_texted : Int32) (t_above : Int64) (t_below : Int64) (t_at : Int32) (t_start : Int32) (t_number : Int32) (t_went : Int32) (t_h : Int64) (t_text : (Nat → Int32)) (res : Int32) (hf : f_X12_wordOf t_at t_start t_text = some res) : MetR l yX12_wordOf wsX12_wordOf rm_X12_wordOf D cI cZ none [.ref h_t] (wd_X12_wordOf cI cZ h_t h_t_w h_t_isKept h_t_text h_t_statuses h_t_ways h_t_feels h_t_next h_t_came h_t_deep h_t_sizes h_t_tableOf h_t_usedBy h_t_taken h_t_sixOf t_texted t_above t_below t_at t_start t_number t_went t_h t_text) (kR res (fun u => some (.int u))) := by
  refine metR_of (cc := cX12_wordOf) (maxL := 1) (ret := (some .int)) (own := RX12) (lv0 := [(0, .ref h_t)]) (by decide) rfl (Nat.le_of_ble_eq_true rfl) rfl rfl (fun G X hR => ?_)
  replace hR := rt_int hR
  unfold f_X12_wordOf at hf
  refine g_aload_n X dX12_wordOf_0 rfl 0 rfl ?_
  refine g_bipush (v := 111) X dX12_wordOf_1 (by decide) ?_
  refine g_bipush (v := 102) X dX12_wordOf_3 (by decide) ?_
  refine g_bipush (v := 102) X dX12_wordOf_5 (by decide) ?_
  refine g_bipush (v := 105) X dX12_wordOf_7 (by decide) ?_
  refine g_bipush (v := 99) X dX12_wordOf_9 (by decide) ?_
  refine g_bipush (v := 101) X dX12_wordOf_11 (by decide) ?_
  refine g_iconst (v := 0) X dX12_wordOf_13 (by decide) ?_
  obtain ⟨r_1, hk_2, hf⟩ := ob1_out hf
  refine g_cVR (st := []) (st1 := [.int r_1]) (C := RX12) (ci := 8) (q0 := 0) X (c_X12_isWord l D cI cZ h_t h_t_w h_t_isKept h_t_text h_t_statuses h_t_ways h_t_feels h_t_next h_t_came h_t_deep h_t_sizes h_t_tableOf h_t_usedBy h_t_taken h_t_sixOf t_texted t_above t_below t_at t_start t_number t_went t_h t_text 111 102 102 105 99 101 0 _ hk_2) (Or.inl rfl) 7 gX12_wordOf_X12_isWord rfl hv_X12_isWord ⟨Nat.le_of_ble_eq_true rfl, Nat.le_of_ble_eq_true rfl⟩ rfl rfl (Nat.le_of_ble_eq_true rfl) ⟨rfl, rfl⟩ (Nat.zero_le _) (Nat.zero_le _) rfl rfl rfl dX12_wordOf_14 [0, 1] rfl rfl rfl ?_
  refine g_if_eq (tgt := 24) X dX12_wordOf_17 (by decide) (fun hc_3 => ?_) (fun hc_3 => ?_)
  · replace hf := ite_t hc_3 hf
    refine g_aload_n X dX12_wordOf_24 rfl 0 rfl ?_
    refine g_bipush (v := 99) X dX12_wordOf_25 (by decide) ?_
    refine g_bipush (v := 108) X dX12_wordOf_27 (by decide) ?_
    refine g_bipush (v := 101) X dX12_wordOf_29 (by decide) ?_
    refine g_bipush (v := 114) X dX12_wordOf_31 (by decide) ?_
    refine g_bipush (v := 107) X dX12_wordOf_33 (by decide) ?_
    refine g_iconst (v := 0) X dX12_wordOf_35 (by decide) ?_
    refine g_iconst (v := 0) X dX12_wordOf_36 (by decide) ?_
    obtain ⟨r_4, hk_5, hf⟩ := ob1_out hf
    refine g_cVR (st := []) (st1 := [.int r_4]) (C := RX12) (ci := 8) (q0 := 0) X (c_X12_isWord l D cI cZ h_t h_t_w h_t_isKept h_t_text h_t_statuses h_t_ways h_t_feels h_t_next h_t_came h_t_deep h_t_sizes h_t_tableOf h_t_usedBy h_t_taken h_t_sixOf t_texted t_above t_below t_at t_start t_number t_went t_h t_text 99 108 101 114 107 0 0 _ hk_5) (Or.inl rfl) 7 gX12_wordOf_X12_isWord rfl hv_X12_isWord ⟨Nat.le_of_ble_eq_true rfl, Nat.le_of_ble_eq_true rfl⟩ rfl rfl (Nat.le_of_ble_eq_true rfl) ⟨rfl, rfl⟩ (Nat.zero_le _) (Nat.zero_le _) rfl rfl rfl dX12_wordOf_37 [0, 1] rfl rfl rfl ?_
    refine g_if_eq (tgt := 47) X dX12_wordOf_40 (by decide) (fun hc_6 => ?_) (fun hc_6 => ?_)
    · replace hf := ite_t hc_6 hf
      refine g_aload_n X dX12_wordOf_47 rfl 0 rfl ?_
      refine g_bipush (v := 109) X dX12_wordOf_48 (by decide) ?_
      refine g_bipush (v := 97) X dX12_wordOf_50 (by decide) ?_
      refine g_bipush (v := 103) X dX12_wordOf_52 (by decide) ?_
      refine g_bipush (v := 110) X dX12_wordOf_54 (by decide) ?_
      refine g_bipush (v := 101) X dX12_wordOf_56 (by decide) ?_
      refine g_bipush (v := 116) X dX12_wordOf_58 (by decide) ?_
      refine g_iconst (v := 0) X dX12_wordOf_60 (by decide) ?_
      obtain ⟨r_7, hk_8, hf⟩ := ob1_out hf
      refine g_cVR (st := []) (st1 := [.int r_7]) (C := RX12) (ci := 8) (q0 := 0) X (c_X12_isWord l D cI cZ h_t h_t_w h_t_isKept h_t_text h_t_statuses h_t_ways h_t_feels h_t_next h_t_came h_t_deep h_t_sizes h_t_tableOf h_t_usedBy h_t_taken h_t_sixOf t_texted t_above t_below t_at t_start t_number t_went t_h t_text 109 97 103 110 101 116 0 _ hk_8) (Or.inl rfl) 7 gX12_wordOf_X12_isWord rfl hv_X12_isWord ⟨Nat.le_of_ble_eq_true rfl, Nat.le_of_ble_eq_true rfl⟩ rfl rfl (Nat.le_of_ble_eq_true rfl) ⟨rfl, rfl⟩ (Nat.zero_le _) (Nat.zero_le _) rfl rfl rfl dX12_wordOf_61 [0, 1] rfl rfl rfl ?_
      refine g_if_eq (tgt := 71) X dX12_wordOf_64 (by decide) (fun hc_9 => ?_) (fun hc_9 => ?_)
      · replace hf := ite_t hc_9 hf
        refine g_aload_n X dX12_wordOf_71 rfl 0 rfl ?_
        refine g_bipush (v := 104) X dX12_wordOf_72 (by decide) ?_
        refine g_bipush (v := 111) X dX12_wordOf_74 (by decide) ?_
        refine g_bipush (v := 111) X dX12_wordOf_76 (by decide) ?_
        refine g_bipush (v := 107) X dX12_wordOf_78 (by decide) ?_
        refine g_iconst (v := 0) X dX12_wordOf_80 (by decide) ?_
        refine g_iconst (v := 0) X dX12_wordOf_81 (by decide) ?_
        refine g_iconst (v := 0) X dX12_wordOf_82 (by decide) ?_
        obtain ⟨r_10, hk_11, hf⟩ := ob1_out hf
        refine g_cVR (st := []) (st1 := [.int r_10]) (C := RX12) (ci := 8) (q0 := 0) X (c_X12_isWord l D cI cZ h_t h_t_w h_t_isKept h_t_text h_t_statuses h_t_ways h_t_feels h_t_next h_t_came h_t_deep h_t_sizes h_t_tableOf h_t_usedBy h_t_taken h_t_sixOf t_texted t_above t_below t_at t_start t_number t_went t_h t_text 104 111 111 107 0 0 0 _ hk_11) (Or.inl rfl) 7 gX12_wordOf_X12_isWord rfl hv_X12_isWord ⟨Nat.le_of_ble_eq_true rfl, Nat.le_of_ble_eq_true rfl⟩ rfl rfl (Nat.le_of_ble_eq_true rfl) ⟨rfl, rfl⟩ (Nat.zero_le _) (Nat.zero_le _) rfl rfl rfl dX12_wordOf_83 [0, 1] rfl rfl rfl ?_
        refine g_if_eq (tgt := 93) X dX12_wordOf_86 (by decide) (fun hc_12 => ?_) (fun hc_12 => ?_)
        · replace hf := ite_t hc_12 hf
          refine g_aload_n X dX12_wordOf_93 rfl 0 rfl ?_
          refine g_bipush (v := 100) X dX12_wordOf_94 (by decide) ?_
          refine g_bipush (v := 97) X dX12_wordOf_96 (by decide) ?_
          refine g_bipush (v := 121) X dX12_wordOf_98 (by decide) ?_
          refine g_bipush (v := 115) X dX12_wordOf_100 (by decide) ?_
          refine g_iconst (v := 0) X dX12_wordOf_102 (by decide) ?_
          refine g_iconst (v := 0) X dX12_wordOf_103 (by decide) ?_
          refine g_iconst (v := 0) X dX12_wordOf_104 (by decide) ?_
          obtain ⟨r_13, hk_14, hf⟩ := ob1_out hf
          refine g_cVR (st := []) (st1 := [.int r_13]) (C := RX12) (ci := 8) (q0 := 0) X (c_X12_isWord l D cI cZ h_t h_t_w h_t_isKept h_t_text h_t_statuses h_t_ways h_t_feels h_t_next h_t_came h_t_deep h_t_sizes h_t_tableOf h_t_usedBy h_t_taken h_t_sixOf t_texted t_above t_below t_at t_start t_number t_went t_h t_text 100 97 121 115 0 0 0 _ hk_14) (Or.inl rfl) 7 gX12_wordOf_X12_isWord rfl hv_X12_isWord ⟨Nat.le_of_ble_eq_true rfl, Nat.le_of_ble_eq_true rfl⟩ rfl rfl (Nat.le_of_ble_eq_true rfl) ⟨rfl, rfl⟩ (Nat.zero_le _) (Nat.zero_le _) rfl rfl rfl dX12_wordOf_105 [0, 1] rfl rfl rfl ?_
          refine g_if_eq (tgt := 115) X dX12_wordOf_108 (by decide) (fun hc_15 => ?_) (fun hc_15 => ?_)
          · replace hf := ite_t hc_15 hf
            refine g_iconst (v := 0) X dX12_wordOf_115 (by decide) ?_
            exact hR _ _ _ _ dX12_wordOf_116 (kR_in (u := 0) hf)
          · replace hf := ite_f hc_15 hf
            refine g_iconst (v := 5) X dX12_wordOf_111 (by decide) ?_
            refine g_goto (tgt := 116) X dX12_wordOf_112 (by decide) ?_
            exact hR _ _ _ _ dX12_wordOf_116 (kR_in (u := 5) hf)
        · replace hf := ite_f hc_12 hf
          refine g_iconst (v := 4) X dX12_wordOf_89 (by decide) ?_
          refine g_goto (tgt := 116) X dX12_wordOf_90 (by decide) ?_
          exact hR _ _ _ _ dX12_wordOf_116 (kR_in (u := 4) hf)
      · replace hf := ite_f hc_9 hf
        refine g_iconst (v := 3) X dX12_wordOf_67 (by decide) ?_
        refine g_goto (tgt := 116) X dX12_wordOf_68 (by decide) ?_
        exact hR _ _ _ _ dX12_wordOf_116 (kR_in (u := 3) hf)
    · replace hf := ite_f hc_6 hf
      refine g_iconst (v := 2) X dX12_wordOf_43 (by decide) ?_
      refine g_goto (tgt := 116) X dX12_wordOf_44 (by decide) ?_
      exact hR _ _ _ _ dX12_wordOf_116 (kR_in (u := 2) hf)
  · replace hf := ite_f hc_3 hf
    refine g_iconst (v := 1) X dX12_wordOf_20 (by decide) ?_
    refine g_goto (tgt := 116) X dX12_wordOf_21 (by decide) ?_
    exact hR _ _ _ _ dX12_wordOf_116 (kR_in (u := 1) hf)
def wd_X12_takesNumber (cI cZ : ClassId) (h_t : Nat) (h_t_w : Nat) (h_t_isKept : Nat) (h_t_text : Nat) (h_t_statuses : Nat) (h_t_ways : Nat) (h_t_feels : Nat) (h_t_next : Nat) (h_t_came : Nat) (h_t_deep : Nat) (h_t_sizes : Nat) (h_t_tableOf : Nat) (h_t_usedBy : Nat) (h_t_taken : Nat) (h_t_sixOf : Nat) (t_texted : Int32) (t_above : Int64) (t_below : Int64) (t_at : Int32) (t_start : Int32) (t_number : Int32) (t_went : Int32) (t_h : Int64) (t_text : (Nat → Int32)) : va_W := [(h_t, .inr (8, [.ref h_t_w, .ref h_t_isKept, .ref h_t_text, .int t_texted, .long t_above, .long t_below, .ref h_t_statuses, .int t_at, .int t_start, .int t_number, .ref h_t_ways, .int t_went, .ref h_t_feels, .ref h_t_next, .ref h_t_came, .ref h_t_deep, .ref h_t_sizes, .ref h_t_tableOf, .ref h_t_usedBy, .ref h_t_taken, .ref h_t_sixOf, .long t_h])), (h_t_text, .inl (cI, 150, .inl t_text))]
abbrev rm_X12_takesNumber : Room := { frames := 2, cells := 0, slots := 0, locals := 41 }
theorem hv_X12_takesNumber : yX12_takesNumber.cls = RX12 ∧ yX12_takesNumber.cls ≠ "java/lang/invoke/MethodHandle" ∧ yX12_takesNumber.cls ≠ "java/lang/invoke/VarHandle" ∧ (parseMethodDescriptor yX12_takesNumber.desc).map (fun d => d.parameters.length) = some 2 := by decide +kernel
theorem iw_X12_takesNumber_X12 : ∀ w ∈ u_ws RX12 TX12 22, w ∈ wsX12_takesNumber := by decide +kernel
theorem lk_X12_takesNumber_105 : Cond.fieldLink RX12 105 "ClerkChainsModel" "at" "I" ∈ wsX12_takesNumber := by decide +kernel
theorem lk_X12_takesNumber_132 : Cond.constantLong RX12 132 48 ∈ wsX12_takesNumber := by decide +kernel
theorem lk_X12_takesNumber_134 : Cond.constantLong RX12 134 57 ∈ wsX12_takesNumber := by decide +kernel
theorem lk_X12_takesNumber_111 : Cond.fieldLink RX12 111 "ClerkChainsModel" "start" "I" ∈ wsX12_takesNumber := by decide +kernel
theorem lk_X12_takesNumber_129 : Cond.fieldLink RX12 129 "ClerkChainsModel" "number" "I" ∈ wsX12_takesNumber := by decide +kernel
theorem lk_X12_takesNumber_136 : Cond.constantLong RX12 136 2 ∈ wsX12_takesNumber := by decide +kernel
set_option maxHeartbeats 4000000 in
set_option maxRecDepth 100000 in
theorem c_X12_takesNumber (l : Launch) (D : va_G) (cI cZ : ClassId) (h_t : Nat) (h_t_w : Nat) (h_t_isKept : Nat) (h_t_text : Nat) (h_t_statuses : Nat) (h_t_ways : Nat) (h_t_feels : Nat) (h_t_next : Nat) (h_t_came : Nat) (h_t_deep : Nat) (h_t_sizes : Nat) (h_t_tableOf : Nat) (h_t_usedBy : Nat) (h_t_taken : Nat) (h_t_sixOf : Nat) (t_texted : Int32) (t_above : Int64) (t_below : Int64) (t_at : Int32) (t_start : Int32) (t_number : Int32) (t_went : Int32) (t_h : Int64) (t_text : (Nat → Int32)) (v1 : Int32) (v2 : Int32) (res : Int32 × Int32 × Int32 × Int32) (hf : f_X12_takesNumber t_texted t_at t_start t_number t_text v1 v2 = some res) : MetG l yX12_takesNumber wsX12_takesNumber rm_X12_takesNumber D cI cZ none [.ref h_t, .int v1, .int v2] (wd_X12_takesNumber cI cZ h_t h_t_w h_t_isKept h_t_text h_t_statuses h_t_ways h_t_feels h_t_next h_t_came h_t_deep h_t_sizes h_t_tableOf h_t_usedBy h_t_taken h_t_sixOf t_texted t_above t_below t_at t_start t_number t_went t_h t_text) (kV res (fun u => some (.int u.1)) (fun u => (wd_X12_takesNumber cI cZ h_t h_t_w h_t_isKept h_t_text h_t_statuses h_t_ways h_t_feels h_t_next h_t_came h_t_deep h_t_sizes h_t_tableOf h_t_usedBy h_t_taken h_t_sixOf t_texted t_above t_below (u.2.1) (u.2.2.1) (u.2.2.2) t_went t_h t_text))) := by
  refine metG_of (cc := cX12_takesNumber) (maxL := 3) (ret := (some .boolean)) (own := RX12) (lv0 := [(0, .ref h_t), (1, .int v1), (2, .int v2)]) (ini := false) (by decide) rfl (Nat.le_of_ble_eq_true rfl) rfl rfl (fun h => by cases h) (fun G X hR => ?_)
  replace hR := rt_bool hR
  unfold f_X12_takesNumber at hf
  have J70 : ∀ (k9 : Int32 → Int32 → Int32 → Int32 → Int32 → Option (Int32 × Int32 × Int32 × Int32)) (hk9 : ∀ (t_at : Int32) (t_start : Int32) (t_number : Int32) (v1 : Int32) (v2 : Int32), k9 t_at t_start t_number v1 v2 = some res → G 0 0 (wd_X12_takesNumber cI cZ h_t h_t_w h_t_isKept h_t_text h_t_statuses h_t_ways h_t_feels h_t_next h_t_came h_t_deep h_t_sizes h_t_tableOf h_t_usedBy h_t_taken h_t_sixOf t_texted t_above t_below t_at t_start t_number t_went t_h t_text) [(0, .ref h_t), (1, .int v1), (2, .int v2)] 9 []) (t_at : Int32) (t_start : Int32) (t_number : Int32) (v1 : Int32) (v2 : Int32) (s1 : Int32), f_X12_takesNumber_70 t_texted t_text k9 t_at t_start t_number v1 v2 s1 = some res → G 0 0 (wd_X12_takesNumber cI cZ h_t h_t_w h_t_isKept h_t_text h_t_statuses h_t_ways h_t_feels h_t_next h_t_came h_t_deep h_t_sizes h_t_tableOf h_t_usedBy h_t_taken h_t_sixOf t_texted t_above t_below t_at t_start t_number t_went t_h t_text) [(0, .ref h_t), (1, .int v1), (2, .int v2)] 70 [.int s1, .ref h_t] := by
    intro k9 hk9 t_at t_start t_number v1 v2 s1 hf
    unfold f_X12_takesNumber_70 at hf
    refine g_put (C := RX12) (T := TX12) (N := 22) (ci := 8) (v := .int s1) (ws' := (wd_X12_takesNumber cI cZ h_t h_t_w h_t_isKept h_t_text h_t_statuses h_t_ways h_t_feels h_t_next h_t_came h_t_deep h_t_sizes h_t_tableOf h_t_usedBy h_t_taken h_t_sixOf t_texted t_above t_below t_at t_start s1 t_went t_h t_text)) X iw_X12_takesNumber_X12 tyX12 tyX12_ok nmX12 0 rfl rfl 9 (by decide) lk_X12_takesNumber_129 rfl (tyX12_ok 9 (by decide)) rfl rfl (Nat.le_of_ble_eq_true rfl) dX12_takesNumber_70 rfl ?_
    refine g_aload_n X dX12_takesNumber_73 rfl 0 rfl ?_
    refine g_dup X dX12_takesNumber_74 rfl ?_
    refine g_get (C := RX12) (T := TX12) (N := 22) (ci := 8) (v := (.int t_at)) X iw_X12_takesNumber_X12 0 rfl rfl 7 (by decide) lk_X12_takesNumber_105 rfl dX12_takesNumber_75 ?_
    refine g_iconst (v := 1) X dX12_takesNumber_78 (by decide) ?_
    refine g_iadd X dX12_takesNumber_79 ?_
    obtain ⟨t_at_9, et_at_9, hf⟩ := bnd_out hf
    refine g_nmI X et_at_9 ?_
    refine g_put (C := RX12) (T := TX12) (N := 22) (ci := 8) (v := .int t_at_9) (ws' := (wd_X12_takesNumber cI cZ h_t h_t_w h_t_isKept h_t_text h_t_statuses h_t_ways h_t_feels h_t_next h_t_came h_t_deep h_t_sizes h_t_tableOf h_t_usedBy h_t_taken h_t_sixOf t_texted t_above t_below t_at_9 t_start s1 t_went t_h t_text)) X iw_X12_takesNumber_X12 tyX12 tyX12_ok nmX12 0 rfl rfl 7 (by decide) lk_X12_takesNumber_105 rfl (tyX12_ok 7 (by decide)) rfl rfl (Nat.le_of_ble_eq_true rfl) dX12_takesNumber_80 rfl ?_
    refine g_goto (tgt := 9) X dX12_takesNumber_83 (by decide) ?_
    exact hk9 t_at_9 t_start s1 v1 v2 hf
  have J86 : ∀ (t_at : Int32) (t_start : Int32) (t_number : Int32) (v1 : Int32) (v2 : Int32), f_X12_takesNumber_86 t_texted t_text t_at t_start t_number v1 v2 = some res → G 0 0 (wd_X12_takesNumber cI cZ h_t h_t_w h_t_isKept h_t_text h_t_statuses h_t_ways h_t_feels h_t_next h_t_came h_t_deep h_t_sizes h_t_tableOf h_t_usedBy h_t_taken h_t_sixOf t_texted t_above t_below t_at t_start t_number t_went t_h t_text) [(0, .ref h_t), (1, .int v1), (2, .int v2)] 86 [] := by
    intro t_at t_start t_number v1 v2 hf
    unfold f_X12_takesNumber_86 at hf
    refine g_aload_n X dX12_takesNumber_86 rfl 0 rfl ?_
    refine g_get (C := RX12) (T := TX12) (N := 22) (ci := 8) (v := (.int t_at)) X iw_X12_takesNumber_X12 0 rfl rfl 7 (by decide) lk_X12_takesNumber_105 rfl dX12_takesNumber_87 ?_
    refine g_aload_n X dX12_takesNumber_90 rfl 0 rfl ?_
    refine g_get (C := RX12) (T := TX12) (N := 22) (ci := 8) (v := (.int t_start)) X iw_X12_takesNumber_X12 0 rfl rfl 8 (by decide) lk_X12_takesNumber_111 rfl dX12_takesNumber_91 ?_
    refine g_isub X dX12_takesNumber_94 ?_
    refine g_i2l X dX12_takesNumber_95 ?_
    refine g_lconst (v := 1) X dX12_takesNumber_96 (by decide) ?_
    refine g_ldc2 (v := 2) X dX12_takesNumber_97 lk_X12_takesNumber_136 ?_
    obtain ⟨r_10, hk_11, hf⟩ := ob1_out hf
    refine g_cSR (st := []) (st1 := [.int r_10]) X (c_X12_in l D cI cZ ((t_at - t_start).toInt64) 1 2 _ hk_11) (Or.inl rfl) 3 gX12_takesNumber_X12_in rfl hs_X12_in ⟨Nat.le_of_ble_eq_true rfl, Nat.le_of_ble_eq_true rfl⟩ rfl rfl (Nat.le_of_ble_eq_true rfl) ⟨rfl, rfl⟩ (Nat.zero_le _) (Nat.zero_le _) dX12_takesNumber_100 [] rfl rfl rfl ?_
    refine g_if_eq (tgt := 125) X dX12_takesNumber_103 (by decide) (fun hc_12 => ?_) (fun hc_12 => ?_)
    · replace hf := ite_t hc_12 hf
      refine g_iconst (v := 0) X dX12_takesNumber_125 (by decide) ?_
      exact hR _ _ _ _ (Or.inl rfl) dX12_takesNumber_126 (kV_in (u := (0, t_at, t_start, t_number)) hf)
    · replace hf := ite_f hc_12 hf
      refine g_aload_n X dX12_takesNumber_106 rfl 0 rfl ?_
      refine g_get (C := RX12) (T := TX12) (N := 22) (ci := 8) (v := (.int t_number)) X iw_X12_takesNumber_X12 0 rfl rfl 9 (by decide) lk_X12_takesNumber_129 rfl dX12_takesNumber_107 ?_
      refine g_i2l X dX12_takesNumber_110 ?_
      refine g_iload_n X dX12_takesNumber_111 rfl 1 rfl ?_
      refine g_i2l X dX12_takesNumber_112 ?_
      refine g_iload_n X dX12_takesNumber_113 rfl 2 rfl ?_
      refine g_i2l X dX12_takesNumber_114 ?_
      obtain ⟨r_13, hk_14, hf⟩ := ob1_out hf
      refine g_cSR (st := []) (st1 := [.int r_13]) X (c_X12_in l D cI cZ (t_number.toInt64) (v1.toInt64) (v2.toInt64) _ hk_14) (Or.inl rfl) 3 gX12_takesNumber_X12_in rfl hs_X12_in ⟨Nat.le_of_ble_eq_true rfl, Nat.le_of_ble_eq_true rfl⟩ rfl rfl (Nat.le_of_ble_eq_true rfl) ⟨rfl, rfl⟩ (Nat.zero_le _) (Nat.zero_le _) dX12_takesNumber_115 [] rfl rfl rfl ?_
      refine g_if_eq (tgt := 125) X dX12_takesNumber_118 (by decide) (fun hc_15 => ?_) (fun hc_15 => ?_)
      · replace hf := ite_t hc_15 hf
        refine g_iconst (v := 0) X dX12_takesNumber_125 (by decide) ?_
        exact hR _ _ _ _ (Or.inl rfl) dX12_takesNumber_126 (kV_in (u := (0, t_at, t_start, t_number)) hf)
      · replace hf := ite_f hc_15 hf
        refine g_iconst (v := 1) X dX12_takesNumber_121 (by decide) ?_
        refine g_goto (tgt := 126) X dX12_takesNumber_122 (by decide) ?_
        exact hR _ _ _ _ (Or.inr rfl) dX12_takesNumber_126 (kV_in (u := (1, t_at, t_start, t_number)) hf)
  have J9 : ∀ (n : Nat) (t_at : Int32) (t_start : Int32) (t_number : Int32) (v1 : Int32) (v2 : Int32), f_X12_takesNumber_9 t_texted t_text n t_at t_start t_number v1 v2 = some res → G 0 0 (wd_X12_takesNumber cI cZ h_t h_t_w h_t_isKept h_t_text h_t_statuses h_t_ways h_t_feels h_t_next h_t_came h_t_deep h_t_sizes h_t_tableOf h_t_usedBy h_t_taken h_t_sixOf t_texted t_above t_below t_at t_start t_number t_went t_h t_text) [(0, .ref h_t), (1, .int v1), (2, .int v2)] 9 [] := by
    intro n
    induction n with
    | zero => intro t_at t_start t_number v1 v2 hf; rw [f_X12_takesNumber_9] at hf; cases hf
    | succ n ih =>
      intro t_at t_start t_number v1 v2 hf
      rw [f_X12_takesNumber_9] at hf
      refine g_aload_n X dX12_takesNumber_9 rfl 0 rfl ?_
      refine g_aload_n X dX12_takesNumber_10 rfl 0 rfl ?_
      refine g_get (C := RX12) (T := TX12) (N := 22) (ci := 8) (v := (.int t_at)) X iw_X12_takesNumber_X12 0 rfl rfl 7 (by decide) lk_X12_takesNumber_105 rfl dX12_takesNumber_11 ?_
      obtain ⟨r_1, hk_2, hf⟩ := ob1_out hf
      refine g_cVR (st := []) (st1 := [.int r_1]) (C := RX12) (ci := 8) (q0 := 0) X (c_X12_byteAt l D cI cZ h_t h_t_w h_t_isKept h_t_text h_t_statuses h_t_ways h_t_feels h_t_next h_t_came h_t_deep h_t_sizes h_t_tableOf h_t_usedBy h_t_taken h_t_sixOf t_texted t_above t_below t_at t_start t_number t_went t_h t_text t_at _ hk_2) (Or.inl rfl) 1 gX12_takesNumber_X12_byteAt rfl hv_X12_byteAt ⟨Nat.le_of_ble_eq_true rfl, Nat.le_of_ble_eq_true rfl⟩ rfl rfl (Nat.le_of_ble_eq_true rfl) ⟨rfl, rfl⟩ (Nat.zero_le _) (Nat.zero_le _) rfl rfl rfl dX12_takesNumber_14 [0, 1] rfl rfl rfl ?_
      refine g_i2l X dX12_takesNumber_17 ?_
      refine g_ldc2 (v := 48) X dX12_takesNumber_18 lk_X12_takesNumber_132 ?_
      refine g_ldc2 (v := 57) X dX12_takesNumber_21 lk_X12_takesNumber_134 ?_
      obtain ⟨r_3, hk_4, hf⟩ := ob1_out hf
      refine g_cSR (st := []) (st1 := [.int r_3]) X (c_X12_in l D cI cZ (r_1.toInt64) 48 57 _ hk_4) (Or.inl rfl) 3 gX12_takesNumber_X12_in rfl hs_X12_in ⟨Nat.le_of_ble_eq_true rfl, Nat.le_of_ble_eq_true rfl⟩ rfl rfl (Nat.le_of_ble_eq_true rfl) ⟨rfl, rfl⟩ (Nat.zero_le _) (Nat.zero_le _) dX12_takesNumber_24 [] rfl rfl rfl ?_
      refine g_if_eq (tgt := 86) X dX12_takesNumber_27 (by decide) (fun hc_5 => ?_) (fun hc_5 => ?_)
      · replace hf := ite_t hc_5 hf
        exact J86 t_at t_start t_number v1 v2 hf
      · replace hf := ite_f hc_5 hf
        refine g_aload_n X dX12_takesNumber_30 rfl 0 rfl ?_
        refine g_aload_n X dX12_takesNumber_31 rfl 0 rfl ?_
        refine g_get (C := RX12) (T := TX12) (N := 22) (ci := 8) (v := (.int t_at)) X iw_X12_takesNumber_X12 0 rfl rfl 7 (by decide) lk_X12_takesNumber_105 rfl dX12_takesNumber_32 ?_
        refine g_aload_n X dX12_takesNumber_35 rfl 0 rfl ?_
        refine g_get (C := RX12) (T := TX12) (N := 22) (ci := 8) (v := (.int t_start)) X iw_X12_takesNumber_X12 0 rfl rfl 8 (by decide) lk_X12_takesNumber_111 rfl dX12_takesNumber_36 ?_
        refine g_isub X dX12_takesNumber_39 ?_
        refine g_iconst (v := 2) X dX12_takesNumber_40 (by decide) ?_
        refine g_icmp_ge (tgt := 66) X dX12_takesNumber_41 (by decide) (fun hc_6 => ?_) (fun hc_6 => ?_)
        · replace hf := ite_t hc_6 hf
          refine g_aload_n X dX12_takesNumber_66 rfl 0 rfl ?_
          refine g_get (C := RX12) (T := TX12) (N := 22) (ci := 8) (v := (.int t_number)) X iw_X12_takesNumber_X12 0 rfl rfl 9 (by decide) lk_X12_takesNumber_129 rfl dX12_takesNumber_67 ?_
          exact J70 (f_X12_takesNumber_9 t_texted t_text n) ih t_at t_start t_number v1 v2 t_number hf
        · replace hf := ite_f hc_6 hf
          refine g_bipush (v := 10) X dX12_takesNumber_44 (by decide) ?_
          refine g_aload_n X dX12_takesNumber_46 rfl 0 rfl ?_
          refine g_get (C := RX12) (T := TX12) (N := 22) (ci := 8) (v := (.int t_number)) X iw_X12_takesNumber_X12 0 rfl rfl 9 (by decide) lk_X12_takesNumber_129 rfl dX12_takesNumber_47 ?_
          refine g_imul X dX12_takesNumber_50 ?_
          refine g_aload_n X dX12_takesNumber_51 rfl 0 rfl ?_
          refine g_aload_n X dX12_takesNumber_52 rfl 0 rfl ?_
          refine g_get (C := RX12) (T := TX12) (N := 22) (ci := 8) (v := (.int t_at)) X iw_X12_takesNumber_X12 0 rfl rfl 7 (by decide) lk_X12_takesNumber_105 rfl dX12_takesNumber_53 ?_
          obtain ⟨r_7, hk_8, hf⟩ := ob1_out hf
          refine g_cVR (st := [.int (10 * t_number), .ref h_t]) (st1 := [.int r_7, .int (10 * t_number), .ref h_t]) (C := RX12) (ci := 8) (q0 := 0) X (c_X12_byteAt l D cI cZ h_t h_t_w h_t_isKept h_t_text h_t_statuses h_t_ways h_t_feels h_t_next h_t_came h_t_deep h_t_sizes h_t_tableOf h_t_usedBy h_t_taken h_t_sixOf t_texted t_above t_below t_at t_start t_number t_went t_h t_text t_at _ hk_8) (Or.inl rfl) 1 gX12_takesNumber_X12_byteAt rfl hv_X12_byteAt ⟨Nat.le_of_ble_eq_true rfl, Nat.le_of_ble_eq_true rfl⟩ rfl rfl (Nat.le_of_ble_eq_true rfl) ⟨rfl, rfl⟩ (Nat.zero_le _) (Nat.zero_le _) rfl rfl rfl dX12_takesNumber_56 [0, 1] rfl rfl rfl ?_
          refine g_iadd X dX12_takesNumber_59 ?_
          refine g_bipush (v := 48) X dX12_takesNumber_60 (by decide) ?_
          refine g_isub X dX12_takesNumber_62 ?_
          refine g_goto (tgt := 70) X dX12_takesNumber_63 (by decide) ?_
          exact J70 (f_X12_takesNumber_9 t_texted t_text n) ih t_at t_start t_number v1 v2 (((10 * t_number) + r_7) - 48) hf
  refine g_aload_n X dX12_takesNumber_0 rfl 0 rfl ?_
  obtain ⟨t_at_16, t_start_17, hk_18, hf⟩ := ob2_out hf
  refine g_cVW (st := []) (st1 := []) (C := RX12) (ci := 8) (q0 := 0) (ws' := (wd_X12_takesNumber cI cZ h_t h_t_w h_t_isKept h_t_text h_t_statuses h_t_ways h_t_feels h_t_next h_t_came h_t_deep h_t_sizes h_t_tableOf h_t_usedBy h_t_taken h_t_sixOf t_texted t_above t_below t_at_16 t_start_17 t_number t_went t_h t_text)) X (c_X12_blanks l D cI cZ h_t h_t_w h_t_isKept h_t_text h_t_statuses h_t_ways h_t_feels h_t_next h_t_came h_t_deep h_t_sizes h_t_tableOf h_t_usedBy h_t_taken h_t_sixOf t_texted t_above t_below t_at t_start t_number t_went t_h t_text _ hk_18) (Or.inl rfl) 0 gX12_takesNumber_X12_blanks rfl hv_X12_blanks ⟨Nat.le_of_ble_eq_true rfl, Nat.le_of_ble_eq_true rfl⟩ rfl rfl (Nat.le_of_ble_eq_true rfl) ⟨rfl, rfl⟩ (Nat.zero_le _) (Nat.zero_le _) rfl rfl rfl dX12_takesNumber_1 [0, 1] rfl rfl [] rfl rfl (by decide) [0, 1] rfl rfl rfl ?_
  refine g_aload_n X dX12_takesNumber_4 rfl 0 rfl ?_
  refine g_iconst (v := 0) X dX12_takesNumber_5 (by decide) ?_
  refine g_put (C := RX12) (T := TX12) (N := 22) (ci := 8) (v := .int 0) (ws' := (wd_X12_takesNumber cI cZ h_t h_t_w h_t_isKept h_t_text h_t_statuses h_t_ways h_t_feels h_t_next h_t_came h_t_deep h_t_sizes h_t_tableOf h_t_usedBy h_t_taken h_t_sixOf t_texted t_above t_below t_at_16 t_start_17 0 t_went t_h t_text)) X iw_X12_takesNumber_X12 tyX12 tyX12_ok nmX12 0 rfl rfl 9 (by decide) lk_X12_takesNumber_129 rfl (tyX12_ok 9 (by decide)) rfl rfl (Nat.le_of_ble_eq_true rfl) dX12_takesNumber_6 rfl ?_
  exact J9 FU t_at_16 t_start_17 0 v1 v2 hf
def wd_X12_takesEnd (cI cZ : ClassId) (h_t : Nat) (h_t_w : Nat) (h_t_isKept : Nat) (h_t_text : Nat) (h_t_statuses : Nat) (h_t_ways : Nat) (h_t_feels : Nat) (h_t_next : Nat) (h_t_came : Nat) (h_t_deep : Nat) (h_t_sizes : Nat) (h_t_tableOf : Nat) (h_t_usedBy : Nat) (h_t_taken : Nat) (h_t_sixOf : Nat) (t_texted : Int32) (t_above : Int64) (t_below : Int64) (t_at : Int32) (t_start : Int32) (t_number : Int32) (t_went : Int32) (t_h : Int64) (t_text : (Nat → Int32)) : va_W := [(h_t, .inr (8, [.ref h_t_w, .ref h_t_isKept, .ref h_t_text, .int t_texted, .long t_above, .long t_below, .ref h_t_statuses, .int t_at, .int t_start, .int t_number, .ref h_t_ways, .int t_went, .ref h_t_feels, .ref h_t_next, .ref h_t_came, .ref h_t_deep, .ref h_t_sizes, .ref h_t_tableOf, .ref h_t_usedBy, .ref h_t_taken, .ref h_t_sixOf, .long t_h])), (h_t_text, .inl (cI, 150, .inl t_text))]
abbrev rm_X12_takesEnd : Room := { frames := 2, cells := 0, slots := 0, locals := 41 }
theorem hv_X12_takesEnd : yX12_takesEnd.cls = RX12 ∧ yX12_takesEnd.cls ≠ "java/lang/invoke/MethodHandle" ∧ yX12_takesEnd.cls ≠ "java/lang/invoke/VarHandle" ∧ (parseMethodDescriptor yX12_takesEnd.desc).map (fun d => d.parameters.length) = some 0 := by decide +kernel
theorem iw_X12_takesEnd_X12 : ∀ w ∈ u_ws RX12 TX12 22, w ∈ wsX12_takesEnd := by decide +kernel
theorem lk_X12_takesEnd_105 : Cond.fieldLink RX12 105 "ClerkChainsModel" "at" "I" ∈ wsX12_takesEnd := by decide +kernel
theorem lk_X12_takesEnd_111 : Cond.fieldLink RX12 111 "ClerkChainsModel" "start" "I" ∈ wsX12_takesEnd := by decide +kernel
set_option maxHeartbeats 4000000 in
set_option maxRecDepth 100000 in
theorem c_X12_takesEnd (l : Launch) (D : va_G) (cI cZ : ClassId) (h_t : Nat) (h_t_w : Nat) (h_t_isKept : Nat) (h_t_text : Nat) (h_t_statuses : Nat) (h_t_ways : Nat) (h_t_feels : Nat) (h_t_next : Nat) (h_t_came : Nat) (h_t_deep : Nat) (h_t_sizes : Nat) (h_t_tableOf : Nat) (h_t_usedBy : Nat) (h_t_taken : Nat) (h_t_sixOf : Nat) (t_texted : Int32) (t_above : Int64) (t_below : Int64) (t_at : Int32) (t_start : Int32) (t_number : Int32) (t_went : Int32) (t_h : Int64) (t_text : (Nat → Int32)) (res : Int32 × Int32 × Int32) (hf : f_X12_takesEnd t_texted t_at t_start t_text = some res) : MetG l yX12_takesEnd wsX12_takesEnd rm_X12_takesEnd D cI cZ none [.ref h_t] (wd_X12_takesEnd cI cZ h_t h_t_w h_t_isKept h_t_text h_t_statuses h_t_ways h_t_feels h_t_next h_t_came h_t_deep h_t_sizes h_t_tableOf h_t_usedBy h_t_taken h_t_sixOf t_texted t_above t_below t_at t_start t_number t_went t_h t_text) (kV res (fun u => some (.int u.1)) (fun u => (wd_X12_takesEnd cI cZ h_t h_t_w h_t_isKept h_t_text h_t_statuses h_t_ways h_t_feels h_t_next h_t_came h_t_deep h_t_sizes h_t_tableOf h_t_usedBy h_t_taken h_t_sixOf t_texted t_above t_below (u.2.1) (u.2.2) t_number t_went t_h t_text))) := by
  refine metG_of (cc := cX12_takesEnd) (maxL := 1) (ret := (some .boolean)) (own := RX12) (lv0 := [(0, .ref h_t)]) (ini := false) (by decide) rfl (Nat.le_of_ble_eq_true rfl) rfl rfl (fun h => by cases h) (fun G X hR => ?_)
  replace hR := rt_bool hR
  unfold f_X12_takesEnd at hf
  refine g_aload_n X dX12_takesEnd_0 rfl 0 rfl ?_
  obtain ⟨t_at_1, t_start_2, hk_3, hf⟩ := ob2_out hf
  refine g_cVW (st := []) (st1 := []) (C := RX12) (ci := 8) (q0 := 0) (ws' := (wd_X12_takesEnd cI cZ h_t h_t_w h_t_isKept h_t_text h_t_statuses h_t_ways h_t_feels h_t_next h_t_came h_t_deep h_t_sizes h_t_tableOf h_t_usedBy h_t_taken h_t_sixOf t_texted t_above t_below t_at_1 t_start_2 t_number t_went t_h t_text)) X (c_X12_blanks l D cI cZ h_t h_t_w h_t_isKept h_t_text h_t_statuses h_t_ways h_t_feels h_t_next h_t_came h_t_deep h_t_sizes h_t_tableOf h_t_usedBy h_t_taken h_t_sixOf t_texted t_above t_below t_at t_start t_number t_went t_h t_text _ hk_3) (Or.inl rfl) 0 gX12_takesEnd_X12_blanks rfl hv_X12_blanks ⟨Nat.le_of_ble_eq_true rfl, Nat.le_of_ble_eq_true rfl⟩ rfl rfl (Nat.le_of_ble_eq_true rfl) ⟨rfl, rfl⟩ (Nat.zero_le _) (Nat.zero_le _) rfl rfl rfl dX12_takesEnd_1 [0, 1] rfl rfl [] rfl rfl (by decide) [0, 1] rfl rfl rfl ?_
  refine g_aload_n X dX12_takesEnd_4 rfl 0 rfl ?_
  refine g_dup X dX12_takesEnd_5 rfl ?_
  refine g_get (C := RX12) (T := TX12) (N := 22) (ci := 8) (v := (.int t_at_1)) X iw_X12_takesEnd_X12 0 rfl rfl 7 (by decide) lk_X12_takesEnd_105 rfl dX12_takesEnd_6 ?_
  refine g_iconst (v := 1) X dX12_takesEnd_9 (by decide) ?_
  refine g_iadd X dX12_takesEnd_10 ?_
  obtain ⟨t_at_4, et_at_4, hf⟩ := bnd_out hf
  refine g_nmI X et_at_4 ?_
  refine g_put (C := RX12) (T := TX12) (N := 22) (ci := 8) (v := .int t_at_4) (ws' := (wd_X12_takesEnd cI cZ h_t h_t_w h_t_isKept h_t_text h_t_statuses h_t_ways h_t_feels h_t_next h_t_came h_t_deep h_t_sizes h_t_tableOf h_t_usedBy h_t_taken h_t_sixOf t_texted t_above t_below t_at_4 t_start_2 t_number t_went t_h t_text)) X iw_X12_takesEnd_X12 tyX12 tyX12_ok nmX12 0 rfl rfl 7 (by decide) lk_X12_takesEnd_105 rfl (tyX12_ok 7 (by decide)) rfl rfl (Nat.le_of_ble_eq_true rfl) dX12_takesEnd_11 rfl ?_
  refine g_aload_n X dX12_takesEnd_14 rfl 0 rfl ?_
  refine g_aload_n X dX12_takesEnd_15 rfl 0 rfl ?_
  refine g_get (C := RX12) (T := TX12) (N := 22) (ci := 8) (v := (.int t_start_2)) X iw_X12_takesEnd_X12 0 rfl rfl 8 (by decide) lk_X12_takesEnd_111 rfl dX12_takesEnd_16 ?_
  obtain ⟨r_5, hk_6, hf⟩ := ob1_out hf
  refine g_cVR (st := []) (st1 := [.int r_5]) (C := RX12) (ci := 8) (q0 := 0) X (c_X12_byteAt l D cI cZ h_t h_t_w h_t_isKept h_t_text h_t_statuses h_t_ways h_t_feels h_t_next h_t_came h_t_deep h_t_sizes h_t_tableOf h_t_usedBy h_t_taken h_t_sixOf t_texted t_above t_below t_at_4 t_start_2 t_number t_went t_h t_text t_start_2 _ hk_6) (Or.inl rfl) 1 gX12_takesEnd_X12_byteAt rfl hv_X12_byteAt ⟨Nat.le_of_ble_eq_true rfl, Nat.le_of_ble_eq_true rfl⟩ rfl rfl (Nat.le_of_ble_eq_true rfl) ⟨rfl, rfl⟩ (Nat.zero_le _) (Nat.zero_le _) rfl rfl rfl dX12_takesEnd_19 [0, 1] rfl rfl rfl ?_
  refine g_bipush (v := 59) X dX12_takesEnd_22 (by decide) ?_
  refine g_icmp_ne (tgt := 31) X dX12_takesEnd_24 (by decide) (fun hc_7 => ?_) (fun hc_7 => ?_)
  · replace hf := ite_f hc_7 hf
    refine g_iconst (v := 0) X dX12_takesEnd_31 (by decide) ?_
    exact hR _ _ _ _ (Or.inl rfl) dX12_takesEnd_32 (kV_in (u := (0, t_at_4, t_start_2)) hf)
  · replace hf := ite_t hc_7 hf
    refine g_iconst (v := 1) X dX12_takesEnd_27 (by decide) ?_
    refine g_goto (tgt := 32) X dX12_takesEnd_28 (by decide) ?_
    exact hR _ _ _ _ (Or.inr rfl) dX12_takesEnd_32 (kV_in (u := (1, t_at_4, t_start_2)) hf)
def wd_X12_readsClerk (cI cZ : ClassId) (h_t : Nat) (h_t_w : Nat) (h_t_isKept : Nat) (h_t_text : Nat) (h_t_statuses : Nat) (h_t_ways : Nat) (h_t_feels : Nat) (h_t_next : Nat) (h_t_came : Nat) (h_t_deep : Nat) (h_t_sizes : Nat) (h_t_tableOf : Nat) (h_t_usedBy : Nat) (h_t_taken : Nat) (h_t_sixOf : Nat) (t_texted : Int32) (t_above : Int64) (t_below : Int64) (t_at : Int32) (t_start : Int32) (t_number : Int32) (t_went : Int32) (t_h : Int64) (t_w : (Nat → Int32)) (t_text : (Nat → Int32)) : va_W := [(h_t, .inr (8, [.ref h_t_w, .ref h_t_isKept, .ref h_t_text, .int t_texted, .long t_above, .long t_below, .ref h_t_statuses, .int t_at, .int t_start, .int t_number, .ref h_t_ways, .int t_went, .ref h_t_feels, .ref h_t_next, .ref h_t_came, .ref h_t_deep, .ref h_t_sizes, .ref h_t_tableOf, .ref h_t_usedBy, .ref h_t_taken, .ref h_t_sixOf, .long t_h])), (h_t_w, .inl (cI, 1251, .inl t_w)), (h_t_text, .inl (cI, 150, .inl t_text))]
abbrev rm_X12_readsClerk : Room := { frames := 3, cells := 0, slots := 0, locals := 63 }
theorem hv_X12_readsClerk : yX12_readsClerk.cls = RX12 ∧ yX12_readsClerk.cls ≠ "java/lang/invoke/MethodHandle" ∧ yX12_readsClerk.cls ≠ "java/lang/invoke/VarHandle" ∧ (parseMethodDescriptor yX12_readsClerk.desc).map (fun d => d.parameters.length) = some 0 := by decide +kernel
theorem iw_X12_readsClerk_X12 : ∀ w ∈ u_ws RX12 TX12 22, w ∈ wsX12_readsClerk := by decide +kernel
theorem lk_X12_readsClerk_7 : Cond.fieldLink RX12 7 "ClerkChainsModel" "w" "[I" ∈ wsX12_readsClerk := by decide +kernel
theorem lk_X12_readsClerk_129 : Cond.fieldLink RX12 129 "ClerkChainsModel" "number" "I" ∈ wsX12_readsClerk := by decide +kernel
set_option maxHeartbeats 4000000 in
set_option maxRecDepth 100000 in
theorem c_X12_readsClerk (l : Launch) (D : va_G) (cI cZ : ClassId) (h_t : Nat) (h_t_w : Nat) (h_t_isKept : Nat) (h_t_text : Nat) (h_t_statuses : Nat) (h_t_ways : Nat) (h_t_feels : Nat) (h_t_next : Nat) (h_t_came : Nat) (h_t_deep : Nat) (h_t_sizes : Nat) (h_t_tableOf : Nat) (h_t_usedBy : Nat) (h_t_taken : Nat) (h_t_sixOf : Nat) (t_texted : Int32) (t_above : Int64) (t_below : Int64) (t_at : Int32) (t_start : Int32) (t_number : Int32) (t_went : Int32) (t_h : Int64) (t_w : (Nat → Int32)) (t_text : (Nat → Int32)) (res : Int32 × Int32 × Int32 × Int32 × (Nat → Int32)) (hf : f_X12_readsClerk t_texted t_at t_start t_number t_w t_text = some res) : MetG l yX12_readsClerk wsX12_readsClerk rm_X12_readsClerk D cI cZ none [.ref h_t] (wd_X12_readsClerk cI cZ h_t h_t_w h_t_isKept h_t_text h_t_statuses h_t_ways h_t_feels h_t_next h_t_came h_t_deep h_t_sizes h_t_tableOf h_t_usedBy h_t_taken h_t_sixOf t_texted t_above t_below t_at t_start t_number t_went t_h t_w t_text) (kV res (fun u => some (.int u.1)) (fun u => (wd_X12_readsClerk cI cZ h_t h_t_w h_t_isKept h_t_text h_t_statuses h_t_ways h_t_feels h_t_next h_t_came h_t_deep h_t_sizes h_t_tableOf h_t_usedBy h_t_taken h_t_sixOf t_texted t_above t_below (u.2.1) (u.2.2.1) (u.2.2.2.1) t_went t_h (u.2.2.2.2) t_text))) := by
  refine metG_of (cc := cX12_readsClerk) (maxL := 3) (ret := (some .boolean)) (own := RX12) (lv0 := [(0, .ref h_t)]) (ini := false) (by decide) rfl (Nat.le_of_ble_eq_true rfl) rfl rfl (fun h => by cases h) (fun G X hR => ?_)
  replace hR := rt_bool hR
  unfold f_X12_readsClerk at hf
  refine g_aload_n X dX12_readsClerk_0 rfl 0 rfl ?_
  refine g_get (C := RX12) (T := TX12) (N := 22) (ci := 8) (v := (.ref h_t_w)) X iw_X12_readsClerk_X12 0 rfl rfl 0 (by decide) lk_X12_readsClerk_7 rfl dX12_readsClerk_1 ?_
  refine g_sipush (v := 903) X dX12_readsClerk_4 (by decide) ?_
  obtain ⟨hb_1, hf⟩ := chk_out hf
  refine g_iald X 1 rfl hb_1 dX12_readsClerk_7 ?_
  refine g_bipush (v := 7) X dX12_readsClerk_8 (by decide) ?_
  refine g_icmp_eq (tgt := 22) X dX12_readsClerk_10 (by decide) (fun hc_2 => ?_) (fun hc_2 => ?_)
  · replace hf := ite_t hc_2 hf
    refine g_iconst (v := 0) X dX12_readsClerk_22 (by decide) ?_
    exact hR _ _ _ _ (Or.inl rfl) dX12_readsClerk_23 (kV_in (u := (0, t_at, t_start, t_number, t_w)) hf)
  · replace hf := ite_f hc_2 hf
    refine g_aload_n X dX12_readsClerk_13 rfl 0 rfl ?_
    refine g_iconst (v := 0) X dX12_readsClerk_14 (by decide) ?_
    refine g_iconst (v := 5) X dX12_readsClerk_15 (by decide) ?_
    obtain ⟨r_3, t_at_4, t_start_5, t_number_6, hk_7, hf⟩ := ob4_out hf
    refine g_cVW (st := []) (st1 := [.int r_3]) (C := RX12) (ci := 8) (q0 := 0) (ws' := (wd_X12_readsClerk cI cZ h_t h_t_w h_t_isKept h_t_text h_t_statuses h_t_ways h_t_feels h_t_next h_t_came h_t_deep h_t_sizes h_t_tableOf h_t_usedBy h_t_taken h_t_sixOf t_texted t_above t_below t_at_4 t_start_5 t_number_6 t_went t_h t_w t_text)) X (c_X12_takesNumber l D cI cZ h_t h_t_w h_t_isKept h_t_text h_t_statuses h_t_ways h_t_feels h_t_next h_t_came h_t_deep h_t_sizes h_t_tableOf h_t_usedBy h_t_taken h_t_sixOf t_texted t_above t_below t_at t_start t_number t_went t_h t_text 0 5 _ hk_7) (Or.inl rfl) 2 gX12_readsClerk_X12_takesNumber rfl hv_X12_takesNumber ⟨Nat.le_of_ble_eq_true rfl, Nat.le_of_ble_eq_true rfl⟩ rfl rfl (Nat.le_of_ble_eq_true rfl) ⟨rfl, rfl⟩ (Nat.zero_le _) (Nat.zero_le _) rfl rfl rfl dX12_readsClerk_16 [0, 2] rfl rfl [1] rfl rfl (by decide) [1, 0, 2] rfl rfl rfl ?_
    refine g_if_ne (tgt := 24) X dX12_readsClerk_19 (by decide) (fun hc_8 => ?_) (fun hc_8 => ?_)
    · replace hf := ite_f hc_8 hf
      refine g_aload_n X dX12_readsClerk_24 rfl 0 rfl ?_
      refine g_get (C := RX12) (T := TX12) (N := 22) (ci := 8) (v := (.int t_number_6)) X iw_X12_readsClerk_X12 0 rfl rfl 9 (by decide) lk_X12_readsClerk_129 rfl dX12_readsClerk_25 ?_
      refine g_istore_n (lv' := [(0, .ref h_t), (1, .int t_number_6)]) X dX12_readsClerk_28 rfl (Nat.le_of_ble_eq_true rfl) [1, 0] rfl ?_
      refine g_aload_n X dX12_readsClerk_29 rfl 0 rfl ?_
      refine g_iconst (v := 0) X dX12_readsClerk_30 (by decide) ?_
      refine g_bipush (v := 11) X dX12_readsClerk_31 (by decide) ?_
      obtain ⟨r_9, t_at_10, t_start_11, t_number_12, hk_13, hf⟩ := ob4_out hf
      refine g_cVW (st := []) (st1 := [.int r_9]) (C := RX12) (ci := 8) (q0 := 0) (ws' := (wd_X12_readsClerk cI cZ h_t h_t_w h_t_isKept h_t_text h_t_statuses h_t_ways h_t_feels h_t_next h_t_came h_t_deep h_t_sizes h_t_tableOf h_t_usedBy h_t_taken h_t_sixOf t_texted t_above t_below t_at_10 t_start_11 t_number_12 t_went t_h t_w t_text)) X (c_X12_takesNumber l D cI cZ h_t h_t_w h_t_isKept h_t_text h_t_statuses h_t_ways h_t_feels h_t_next h_t_came h_t_deep h_t_sizes h_t_tableOf h_t_usedBy h_t_taken h_t_sixOf t_texted t_above t_below t_at_4 t_start_5 t_number_6 t_went t_h t_text 0 11 _ hk_13) (Or.inl rfl) 2 gX12_readsClerk_X12_takesNumber rfl hv_X12_takesNumber ⟨Nat.le_of_ble_eq_true rfl, Nat.le_of_ble_eq_true rfl⟩ rfl rfl (Nat.le_of_ble_eq_true rfl) ⟨rfl, rfl⟩ (Nat.zero_le _) (Nat.zero_le _) rfl rfl rfl dX12_readsClerk_33 [0, 2] rfl rfl [1] rfl rfl (by decide) [1, 0, 2] rfl rfl rfl ?_
      refine g_if_ne (tgt := 41) X dX12_readsClerk_36 (by decide) (fun hc_14 => ?_) (fun hc_14 => ?_)
      · replace hf := ite_f hc_14 hf
        refine g_aload_n X dX12_readsClerk_41 rfl 0 rfl ?_
        refine g_get (C := RX12) (T := TX12) (N := 22) (ci := 8) (v := (.int t_number_12)) X iw_X12_readsClerk_X12 0 rfl rfl 9 (by decide) lk_X12_readsClerk_129 rfl dX12_readsClerk_42 ?_
        refine g_istore_n (lv' := [(0, .ref h_t), (1, .int t_number_6), (2, .int t_number_12)]) X dX12_readsClerk_45 rfl (Nat.le_of_ble_eq_true rfl) [1, 2, 0] rfl ?_
        refine g_aload_n X dX12_readsClerk_46 rfl 0 rfl ?_
        refine g_iconst (v := 1) X dX12_readsClerk_47 (by decide) ?_
        refine g_bipush (v := 9) X dX12_readsClerk_48 (by decide) ?_
        obtain ⟨r_15, t_at_16, t_start_17, t_number_18, hk_19, hf⟩ := ob4_out hf
        refine g_cVW (st := []) (st1 := [.int r_15]) (C := RX12) (ci := 8) (q0 := 0) (ws' := (wd_X12_readsClerk cI cZ h_t h_t_w h_t_isKept h_t_text h_t_statuses h_t_ways h_t_feels h_t_next h_t_came h_t_deep h_t_sizes h_t_tableOf h_t_usedBy h_t_taken h_t_sixOf t_texted t_above t_below t_at_16 t_start_17 t_number_18 t_went t_h t_w t_text)) X (c_X12_takesNumber l D cI cZ h_t h_t_w h_t_isKept h_t_text h_t_statuses h_t_ways h_t_feels h_t_next h_t_came h_t_deep h_t_sizes h_t_tableOf h_t_usedBy h_t_taken h_t_sixOf t_texted t_above t_below t_at_10 t_start_11 t_number_12 t_went t_h t_text 1 9 _ hk_19) (Or.inl rfl) 2 gX12_readsClerk_X12_takesNumber rfl hv_X12_takesNumber ⟨Nat.le_of_ble_eq_true rfl, Nat.le_of_ble_eq_true rfl⟩ rfl rfl (Nat.le_of_ble_eq_true rfl) ⟨rfl, rfl⟩ (Nat.zero_le _) (Nat.zero_le _) rfl rfl rfl dX12_readsClerk_50 [0, 2] rfl rfl [1] rfl rfl (by decide) [1, 0, 2] rfl rfl rfl ?_
        refine g_if_ne (tgt := 58) X dX12_readsClerk_53 (by decide) (fun hc_20 => ?_) (fun hc_20 => ?_)
        · replace hf := ite_f hc_20 hf
          refine g_aload_n X dX12_readsClerk_58 rfl 0 rfl ?_
          refine g_sipush (v := 903) X dX12_readsClerk_59 (by decide) ?_
          refine g_iload_n X dX12_readsClerk_62 rfl 1 rfl ?_
          refine g_iload_n X dX12_readsClerk_63 rfl 2 rfl ?_
          refine g_aload_n X dX12_readsClerk_64 rfl 0 rfl ?_
          refine g_get (C := RX12) (T := TX12) (N := 22) (ci := 8) (v := (.int t_number_18)) X iw_X12_readsClerk_X12 0 rfl rfl 9 (by decide) lk_X12_readsClerk_129 rfl dX12_readsClerk_65 ?_
          obtain ⟨t_w_21, hk_22, hf⟩ := ob1_out hf
          refine g_cVW (st := []) (st1 := []) (C := RX12) (ci := 8) (q0 := 0) (ws' := (wd_X12_readsClerk cI cZ h_t h_t_w h_t_isKept h_t_text h_t_statuses h_t_ways h_t_feels h_t_next h_t_came h_t_deep h_t_sizes h_t_tableOf h_t_usedBy h_t_taken h_t_sixOf t_texted t_above t_below t_at_16 t_start_17 t_number_18 t_went t_h t_w_21 t_text)) X (c_X12_adds l D cI cZ h_t h_t_w h_t_isKept h_t_text h_t_statuses h_t_ways h_t_feels h_t_next h_t_came h_t_deep h_t_sizes h_t_tableOf h_t_usedBy h_t_taken h_t_sixOf t_texted t_above t_below t_at_16 t_start_17 t_number_18 t_went t_h t_w 903 t_number_6 t_number_12 t_number_18 _ hk_22) (Or.inl rfl) 4 gX12_readsClerk_X12_adds rfl hv_X12_adds ⟨Nat.le_of_ble_eq_true rfl, Nat.le_of_ble_eq_true rfl⟩ rfl rfl (Nat.le_of_ble_eq_true rfl) ⟨rfl, rfl⟩ (Nat.zero_le _) (Nat.zero_le _) rfl rfl rfl dX12_readsClerk_68 [0, 1] rfl rfl [2] rfl rfl (by decide) [1, 2, 0] rfl rfl rfl ?_
          refine g_iconst (v := 1) X dX12_readsClerk_71 (by decide) ?_
          exact hR _ _ _ _ (Or.inr rfl) dX12_readsClerk_72 (kV_in (u := (1, t_at_16, t_start_17, t_number_18, t_w_21)) hf)
        · replace hf := ite_t hc_20 hf
          refine g_iconst (v := 0) X dX12_readsClerk_56 (by decide) ?_
          exact hR _ _ _ _ (Or.inl rfl) dX12_readsClerk_57 (kV_in (u := (0, t_at_16, t_start_17, t_number_18, t_w)) hf)
      · replace hf := ite_t hc_14 hf
        refine g_iconst (v := 0) X dX12_readsClerk_39 (by decide) ?_
        exact hR _ _ _ _ (Or.inl rfl) dX12_readsClerk_40 (kV_in (u := (0, t_at_10, t_start_11, t_number_12, t_w)) hf)
    · replace hf := ite_t hc_8 hf
      refine g_iconst (v := 0) X dX12_readsClerk_22 (by decide) ?_
      exact hR _ _ _ _ (Or.inl rfl) dX12_readsClerk_23 (kV_in (u := (0, t_at_4, t_start_5, t_number_6, t_w)) hf)
def wd_X12_readsMagnet (cI cZ : ClassId) (h_t : Nat) (h_t_w : Nat) (h_t_isKept : Nat) (h_t_text : Nat) (h_t_statuses : Nat) (h_t_ways : Nat) (h_t_feels : Nat) (h_t_next : Nat) (h_t_came : Nat) (h_t_deep : Nat) (h_t_sizes : Nat) (h_t_tableOf : Nat) (h_t_usedBy : Nat) (h_t_taken : Nat) (h_t_sixOf : Nat) (t_texted : Int32) (t_above : Int64) (t_below : Int64) (t_at : Int32) (t_start : Int32) (t_number : Int32) (t_went : Int32) (t_h : Int64) (t_w : (Nat → Int32)) (t_text : (Nat → Int32)) : va_W := [(h_t, .inr (8, [.ref h_t_w, .ref h_t_isKept, .ref h_t_text, .int t_texted, .long t_above, .long t_below, .ref h_t_statuses, .int t_at, .int t_start, .int t_number, .ref h_t_ways, .int t_went, .ref h_t_feels, .ref h_t_next, .ref h_t_came, .ref h_t_deep, .ref h_t_sizes, .ref h_t_tableOf, .ref h_t_usedBy, .ref h_t_taken, .ref h_t_sixOf, .long t_h])), (h_t_w, .inl (cI, 1251, .inl t_w)), (h_t_text, .inl (cI, 150, .inl t_text))]
abbrev rm_X12_readsMagnet : Room := { frames := 3, cells := 0, slots := 0, locals := 63 }
theorem hv_X12_readsMagnet : yX12_readsMagnet.cls = RX12 ∧ yX12_readsMagnet.cls ≠ "java/lang/invoke/MethodHandle" ∧ yX12_readsMagnet.cls ≠ "java/lang/invoke/VarHandle" ∧ (parseMethodDescriptor yX12_readsMagnet.desc).map (fun d => d.parameters.length) = some 0 := by decide +kernel
theorem iw_X12_readsMagnet_X12 : ∀ w ∈ u_ws RX12 TX12 22, w ∈ wsX12_readsMagnet := by decide +kernel
theorem lk_X12_readsMagnet_7 : Cond.fieldLink RX12 7 "ClerkChainsModel" "w" "[I" ∈ wsX12_readsMagnet := by decide +kernel
theorem lk_X12_readsMagnet_129 : Cond.fieldLink RX12 129 "ClerkChainsModel" "number" "I" ∈ wsX12_readsMagnet := by decide +kernel
set_option maxHeartbeats 4000000 in
set_option maxRecDepth 100000 in
theorem c_X12_readsMagnet (l : Launch) (D : va_G) (cI cZ : ClassId) (h_t : Nat) (h_t_w : Nat) (h_t_isKept : Nat) (h_t_text : Nat) (h_t_statuses : Nat) (h_t_ways : Nat) (h_t_feels : Nat) (h_t_next : Nat) (h_t_came : Nat) (h_t_deep : Nat) (h_t_sizes : Nat) (h_t_tableOf : Nat) (h_t_usedBy : Nat) (h_t_taken : Nat) (h_t_sixOf : Nat) (t_texted : Int32) (t_above : Int64) (t_below : Int64) (t_at : Int32) (t_start : Int32) (t_number : Int32) (t_went : Int32) (t_h : Int64) (t_w : (Nat → Int32)) (t_text : (Nat → Int32)) (res : Int32 × Int32 × Int32 × Int32 × (Nat → Int32)) (hf : f_X12_readsMagnet t_texted t_at t_start t_number t_w t_text = some res) : MetG l yX12_readsMagnet wsX12_readsMagnet rm_X12_readsMagnet D cI cZ none [.ref h_t] (wd_X12_readsMagnet cI cZ h_t h_t_w h_t_isKept h_t_text h_t_statuses h_t_ways h_t_feels h_t_next h_t_came h_t_deep h_t_sizes h_t_tableOf h_t_usedBy h_t_taken h_t_sixOf t_texted t_above t_below t_at t_start t_number t_went t_h t_w t_text) (kV res (fun u => some (.int u.1)) (fun u => (wd_X12_readsMagnet cI cZ h_t h_t_w h_t_isKept h_t_text h_t_statuses h_t_ways h_t_feels h_t_next h_t_came h_t_deep h_t_sizes h_t_tableOf h_t_usedBy h_t_taken h_t_sixOf t_texted t_above t_below (u.2.1) (u.2.2.1) (u.2.2.2.1) t_went t_h (u.2.2.2.2) t_text))) := by
  refine metG_of (cc := cX12_readsMagnet) (maxL := 3) (ret := (some .boolean)) (own := RX12) (lv0 := [(0, .ref h_t)]) (ini := false) (by decide) rfl (Nat.le_of_ble_eq_true rfl) rfl rfl (fun h => by cases h) (fun G X hR => ?_)
  replace hR := rt_bool hR
  unfold f_X12_readsMagnet at hf
  refine g_aload_n X dX12_readsMagnet_0 rfl 0 rfl ?_
  refine g_get (C := RX12) (T := TX12) (N := 22) (ci := 8) (v := (.ref h_t_w)) X iw_X12_readsMagnet_X12 0 rfl rfl 0 (by decide) lk_X12_readsMagnet_7 rfl dX12_readsMagnet_1 ?_
  refine g_sipush (v := 904) X dX12_readsMagnet_4 (by decide) ?_
  obtain ⟨hb_1, hf⟩ := chk_out hf
  refine g_iald X 1 rfl hb_1 dX12_readsMagnet_7 ?_
  refine g_iconst (v := 3) X dX12_readsMagnet_8 (by decide) ?_
  refine g_icmp_eq (tgt := 21) X dX12_readsMagnet_9 (by decide) (fun hc_2 => ?_) (fun hc_2 => ?_)
  · replace hf := ite_t hc_2 hf
    refine g_iconst (v := 0) X dX12_readsMagnet_21 (by decide) ?_
    exact hR _ _ _ _ (Or.inl rfl) dX12_readsMagnet_22 (kV_in (u := (0, t_at, t_start, t_number, t_w)) hf)
  · replace hf := ite_f hc_2 hf
    refine g_aload_n X dX12_readsMagnet_12 rfl 0 rfl ?_
    refine g_iconst (v := 0) X dX12_readsMagnet_13 (by decide) ?_
    refine g_iconst (v := 5) X dX12_readsMagnet_14 (by decide) ?_
    obtain ⟨r_3, t_at_4, t_start_5, t_number_6, hk_7, hf⟩ := ob4_out hf
    refine g_cVW (st := []) (st1 := [.int r_3]) (C := RX12) (ci := 8) (q0 := 0) (ws' := (wd_X12_readsMagnet cI cZ h_t h_t_w h_t_isKept h_t_text h_t_statuses h_t_ways h_t_feels h_t_next h_t_came h_t_deep h_t_sizes h_t_tableOf h_t_usedBy h_t_taken h_t_sixOf t_texted t_above t_below t_at_4 t_start_5 t_number_6 t_went t_h t_w t_text)) X (c_X12_takesNumber l D cI cZ h_t h_t_w h_t_isKept h_t_text h_t_statuses h_t_ways h_t_feels h_t_next h_t_came h_t_deep h_t_sizes h_t_tableOf h_t_usedBy h_t_taken h_t_sixOf t_texted t_above t_below t_at t_start t_number t_went t_h t_text 0 5 _ hk_7) (Or.inl rfl) 2 gX12_readsMagnet_X12_takesNumber rfl hv_X12_takesNumber ⟨Nat.le_of_ble_eq_true rfl, Nat.le_of_ble_eq_true rfl⟩ rfl rfl (Nat.le_of_ble_eq_true rfl) ⟨rfl, rfl⟩ (Nat.zero_le _) (Nat.zero_le _) rfl rfl rfl dX12_readsMagnet_15 [0, 2] rfl rfl [1] rfl rfl (by decide) [1, 0, 2] rfl rfl rfl ?_
    refine g_if_ne (tgt := 23) X dX12_readsMagnet_18 (by decide) (fun hc_8 => ?_) (fun hc_8 => ?_)
    · replace hf := ite_f hc_8 hf
      refine g_aload_n X dX12_readsMagnet_23 rfl 0 rfl ?_
      refine g_get (C := RX12) (T := TX12) (N := 22) (ci := 8) (v := (.int t_number_6)) X iw_X12_readsMagnet_X12 0 rfl rfl 9 (by decide) lk_X12_readsMagnet_129 rfl dX12_readsMagnet_24 ?_
      refine g_istore_n (lv' := [(0, .ref h_t), (1, .int t_number_6)]) X dX12_readsMagnet_27 rfl (Nat.le_of_ble_eq_true rfl) [1, 0] rfl ?_
      refine g_aload_n X dX12_readsMagnet_28 rfl 0 rfl ?_
      refine g_iconst (v := 0) X dX12_readsMagnet_29 (by decide) ?_
      refine g_bipush (v := 11) X dX12_readsMagnet_30 (by decide) ?_
      obtain ⟨r_9, t_at_10, t_start_11, t_number_12, hk_13, hf⟩ := ob4_out hf
      refine g_cVW (st := []) (st1 := [.int r_9]) (C := RX12) (ci := 8) (q0 := 0) (ws' := (wd_X12_readsMagnet cI cZ h_t h_t_w h_t_isKept h_t_text h_t_statuses h_t_ways h_t_feels h_t_next h_t_came h_t_deep h_t_sizes h_t_tableOf h_t_usedBy h_t_taken h_t_sixOf t_texted t_above t_below t_at_10 t_start_11 t_number_12 t_went t_h t_w t_text)) X (c_X12_takesNumber l D cI cZ h_t h_t_w h_t_isKept h_t_text h_t_statuses h_t_ways h_t_feels h_t_next h_t_came h_t_deep h_t_sizes h_t_tableOf h_t_usedBy h_t_taken h_t_sixOf t_texted t_above t_below t_at_4 t_start_5 t_number_6 t_went t_h t_text 0 11 _ hk_13) (Or.inl rfl) 2 gX12_readsMagnet_X12_takesNumber rfl hv_X12_takesNumber ⟨Nat.le_of_ble_eq_true rfl, Nat.le_of_ble_eq_true rfl⟩ rfl rfl (Nat.le_of_ble_eq_true rfl) ⟨rfl, rfl⟩ (Nat.zero_le _) (Nat.zero_le _) rfl rfl rfl dX12_readsMagnet_32 [0, 2] rfl rfl [1] rfl rfl (by decide) [1, 0, 2] rfl rfl rfl ?_
      refine g_if_ne (tgt := 40) X dX12_readsMagnet_35 (by decide) (fun hc_14 => ?_) (fun hc_14 => ?_)
      · replace hf := ite_f hc_14 hf
        refine g_aload_n X dX12_readsMagnet_40 rfl 0 rfl ?_
        refine g_get (C := RX12) (T := TX12) (N := 22) (ci := 8) (v := (.int t_number_12)) X iw_X12_readsMagnet_X12 0 rfl rfl 9 (by decide) lk_X12_readsMagnet_129 rfl dX12_readsMagnet_41 ?_
        refine g_istore_n (lv' := [(0, .ref h_t), (1, .int t_number_6), (2, .int t_number_12)]) X dX12_readsMagnet_44 rfl (Nat.le_of_ble_eq_true rfl) [1, 2, 0] rfl ?_
        refine g_aload_n X dX12_readsMagnet_45 rfl 0 rfl ?_
        refine g_iconst (v := 1) X dX12_readsMagnet_46 (by decide) ?_
        refine g_bipush (v := 9) X dX12_readsMagnet_47 (by decide) ?_
        obtain ⟨r_15, t_at_16, t_start_17, t_number_18, hk_19, hf⟩ := ob4_out hf
        refine g_cVW (st := []) (st1 := [.int r_15]) (C := RX12) (ci := 8) (q0 := 0) (ws' := (wd_X12_readsMagnet cI cZ h_t h_t_w h_t_isKept h_t_text h_t_statuses h_t_ways h_t_feels h_t_next h_t_came h_t_deep h_t_sizes h_t_tableOf h_t_usedBy h_t_taken h_t_sixOf t_texted t_above t_below t_at_16 t_start_17 t_number_18 t_went t_h t_w t_text)) X (c_X12_takesNumber l D cI cZ h_t h_t_w h_t_isKept h_t_text h_t_statuses h_t_ways h_t_feels h_t_next h_t_came h_t_deep h_t_sizes h_t_tableOf h_t_usedBy h_t_taken h_t_sixOf t_texted t_above t_below t_at_10 t_start_11 t_number_12 t_went t_h t_text 1 9 _ hk_19) (Or.inl rfl) 2 gX12_readsMagnet_X12_takesNumber rfl hv_X12_takesNumber ⟨Nat.le_of_ble_eq_true rfl, Nat.le_of_ble_eq_true rfl⟩ rfl rfl (Nat.le_of_ble_eq_true rfl) ⟨rfl, rfl⟩ (Nat.zero_le _) (Nat.zero_le _) rfl rfl rfl dX12_readsMagnet_49 [0, 2] rfl rfl [1] rfl rfl (by decide) [1, 0, 2] rfl rfl rfl ?_
        refine g_if_ne (tgt := 57) X dX12_readsMagnet_52 (by decide) (fun hc_20 => ?_) (fun hc_20 => ?_)
        · replace hf := ite_f hc_20 hf
          refine g_aload_n X dX12_readsMagnet_57 rfl 0 rfl ?_
          refine g_sipush (v := 903) X dX12_readsMagnet_58 (by decide) ?_
          refine g_iload_n X dX12_readsMagnet_61 rfl 1 rfl ?_
          refine g_iload_n X dX12_readsMagnet_62 rfl 2 rfl ?_
          refine g_aload_n X dX12_readsMagnet_63 rfl 0 rfl ?_
          refine g_get (C := RX12) (T := TX12) (N := 22) (ci := 8) (v := (.int t_number_18)) X iw_X12_readsMagnet_X12 0 rfl rfl 9 (by decide) lk_X12_readsMagnet_129 rfl dX12_readsMagnet_64 ?_
          obtain ⟨t_w_21, hk_22, hf⟩ := ob1_out hf
          refine g_cVW (st := []) (st1 := []) (C := RX12) (ci := 8) (q0 := 0) (ws' := (wd_X12_readsMagnet cI cZ h_t h_t_w h_t_isKept h_t_text h_t_statuses h_t_ways h_t_feels h_t_next h_t_came h_t_deep h_t_sizes h_t_tableOf h_t_usedBy h_t_taken h_t_sixOf t_texted t_above t_below t_at_16 t_start_17 t_number_18 t_went t_h t_w_21 t_text)) X (c_X12_addsMagnet l D cI cZ h_t h_t_w h_t_isKept h_t_text h_t_statuses h_t_ways h_t_feels h_t_next h_t_came h_t_deep h_t_sizes h_t_tableOf h_t_usedBy h_t_taken h_t_sixOf t_texted t_above t_below t_at_16 t_start_17 t_number_18 t_went t_h t_w 903 t_number_6 t_number_12 t_number_18 _ hk_22) (Or.inl rfl) 4 gX12_readsMagnet_X12_addsMagnet rfl hv_X12_addsMagnet ⟨Nat.le_of_ble_eq_true rfl, Nat.le_of_ble_eq_true rfl⟩ rfl rfl (Nat.le_of_ble_eq_true rfl) ⟨rfl, rfl⟩ (Nat.zero_le _) (Nat.zero_le _) rfl rfl rfl dX12_readsMagnet_67 [0, 1] rfl rfl [2] rfl rfl (by decide) [1, 2, 0] rfl rfl rfl ?_
          refine g_iconst (v := 1) X dX12_readsMagnet_70 (by decide) ?_
          exact hR _ _ _ _ (Or.inr rfl) dX12_readsMagnet_71 (kV_in (u := (1, t_at_16, t_start_17, t_number_18, t_w_21)) hf)
        · replace hf := ite_t hc_20 hf
          refine g_iconst (v := 0) X dX12_readsMagnet_55 (by decide) ?_
          exact hR _ _ _ _ (Or.inl rfl) dX12_readsMagnet_56 (kV_in (u := (0, t_at_16, t_start_17, t_number_18, t_w)) hf)
      · replace hf := ite_t hc_14 hf
        refine g_iconst (v := 0) X dX12_readsMagnet_38 (by decide) ?_
        exact hR _ _ _ _ (Or.inl rfl) dX12_readsMagnet_39 (kV_in (u := (0, t_at_10, t_start_11, t_number_12, t_w)) hf)
    · replace hf := ite_t hc_8 hf
      refine g_iconst (v := 0) X dX12_readsMagnet_21 (by decide) ?_
      exact hR _ _ _ _ (Or.inl rfl) dX12_readsMagnet_22 (kV_in (u := (0, t_at_4, t_start_5, t_number_6, t_w)) hf)
def wd_X12_isOver (cI cZ : ClassId) (h_t : Nat) (h_t_w : Nat) (h_t_isKept : Nat) (h_t_text : Nat) (h_t_statuses : Nat) (h_t_ways : Nat) (h_t_feels : Nat) (h_t_next : Nat) (h_t_came : Nat) (h_t_deep : Nat) (h_t_sizes : Nat) (h_t_tableOf : Nat) (h_t_usedBy : Nat) (h_t_taken : Nat) (h_t_sixOf : Nat) (t_texted : Int32) (t_above : Int64) (t_below : Int64) (t_at : Int32) (t_start : Int32) (t_number : Int32) (t_went : Int32) (t_h : Int64) (t_w : (Nat → Int32)) : va_W := [(h_t, .inr (8, [.ref h_t_w, .ref h_t_isKept, .ref h_t_text, .int t_texted, .long t_above, .long t_below, .ref h_t_statuses, .int t_at, .int t_start, .int t_number, .ref h_t_ways, .int t_went, .ref h_t_feels, .ref h_t_next, .ref h_t_came, .ref h_t_deep, .ref h_t_sizes, .ref h_t_tableOf, .ref h_t_usedBy, .ref h_t_taken, .ref h_t_sixOf, .long t_h])), (h_t_w, .inl (cI, 1251, .inl t_w))]
abbrev rm_X12_isOver : Room := { frames := 0, cells := 0, slots := 0, locals := 0 }
theorem hv_X12_isOver : yX12_isOver.cls = RX12 ∧ yX12_isOver.cls ≠ "java/lang/invoke/MethodHandle" ∧ yX12_isOver.cls ≠ "java/lang/invoke/VarHandle" ∧ (parseMethodDescriptor yX12_isOver.desc).map (fun d => d.parameters.length) = some 3 := by decide +kernel
theorem iw_X12_isOver_X12 : ∀ w ∈ u_ws RX12 TX12 22, w ∈ wsX12_isOver := by decide +kernel
theorem lk_X12_isOver_7 : Cond.fieldLink RX12 7 "ClerkChainsModel" "w" "[I" ∈ wsX12_isOver := by decide +kernel
set_option maxHeartbeats 4000000 in
set_option maxRecDepth 100000 in
theorem c_X12_isOver (l : Launch) (D : va_G) (cI cZ : ClassId) (h_t : Nat) (h_t_w : Nat) (h_t_isKept : Nat) (h_t_text : Nat) (h_t_statuses : Nat) (h_t_ways : Nat) (h_t_feels : Nat) (h_t_next : Nat) (h_t_came : Nat) (h_t_deep : Nat) (h_t_sizes : Nat) (h_t_tableOf : Nat) (h_t_usedBy : Nat) (h_t_taken : Nat) (h_t_sixOf : Nat) (t_texted : Int32) (t_above : Int64) (t_below : Int64) (t_at : Int32) (t_start : Int32) (t_number : Int32) (t_went : Int32) (t_h : Int64) (t_w : (Nat → Int32)) (v1 : Int32) (v2 : Int32) (v3 : Int32) (res : Int32) (hf : f_X12_isOver t_w v1 v2 v3 = some res) : MetR l yX12_isOver wsX12_isOver rm_X12_isOver D cI cZ none [.ref h_t, .int v1, .int v2, .int v3] (wd_X12_isOver cI cZ h_t h_t_w h_t_isKept h_t_text h_t_statuses h_t_ways h_t_feels h_t_next h_t_came h_t_deep h_t_sizes h_t_tableOf h_t_usedBy h_t_taken h_t_sixOf t_texted t_above t_below t_at t_start t_number t_went t_h t_w) (kR res (fun u => some (.int u))) := by
  refine metR_of (cc := cX12_isOver) (maxL := 5) (ret := (some .boolean)) (own := RX12) (lv0 := [(0, .ref h_t), (1, .int v1), (2, .int v2), (3, .int v3)]) (by decide) rfl (Nat.le_of_ble_eq_true rfl) rfl rfl (fun G X hR => ?_)
  replace hR := rt_bool hR
  unfold f_X12_isOver at hf
  have J32 : ∀ (v2 : Int32) (v4 : Int32), f_X12_isOver_32 t_w v2 v4 = some res → G 0 0 (wd_X12_isOver cI cZ h_t h_t_w h_t_isKept h_t_text h_t_statuses h_t_ways h_t_feels h_t_next h_t_came h_t_deep h_t_sizes h_t_tableOf h_t_usedBy h_t_taken h_t_sixOf t_texted t_above t_below t_at t_start t_number t_went t_h t_w) [(2, .int v2), (4, .int v4)] 32 [] := by
    intro v2 v4 hf
    unfold f_X12_isOver_32 at hf
    refine g_iload X dX12_isOver_32 1 rfl ?_
    refine g_iload_n X dX12_isOver_34 rfl 0 rfl ?_
    refine g_icmp_ne (tgt := 42) X dX12_isOver_35 (by decide) (fun hc_5 => ?_) (fun hc_5 => ?_)
    · replace hf := ite_f hc_5 hf
      refine g_iconst (v := 0) X dX12_isOver_42 (by decide) ?_
      exact hR _ _ _ _ (Or.inl rfl) dX12_isOver_43 (kR_in (u := 0) hf)
    · replace hf := ite_t hc_5 hf
      refine g_iconst (v := 1) X dX12_isOver_38 (by decide) ?_
      refine g_goto (tgt := 43) X dX12_isOver_39 (by decide) ?_
      exact hR _ _ _ _ (Or.inr rfl) dX12_isOver_43 (kR_in (u := 1) hf)
  have J3 : ∀ (n : Nat) (v1 : Int32) (v2 : Int32) (v4 : Int32), f_X12_isOver_3 t_w n v1 v2 v4 = some res → G 0 0 (wd_X12_isOver cI cZ h_t h_t_w h_t_isKept h_t_text h_t_statuses h_t_ways h_t_feels h_t_next h_t_came h_t_deep h_t_sizes h_t_tableOf h_t_usedBy h_t_taken h_t_sixOf t_texted t_above t_below t_at t_start t_number t_went t_h t_w) [(0, .ref h_t), (1, .int v1), (2, .int v2), (4, .int v4)] 3 [] := by
    intro n
    induction n with
    | zero => intro v1 v2 v4 hf; rw [f_X12_isOver_3] at hf; cases hf
    | succ n ih =>
      intro v1 v2 v4 hf
      rw [f_X12_isOver_3] at hf
      refine g_iload X dX12_isOver_3 3 rfl ?_
      refine g_iconst (v := (-1)) X dX12_isOver_5 (by decide) ?_
      refine g_icmp_eq (tgt := 32) X dX12_isOver_6 (by decide) (fun hc_1 => ?_) (fun hc_1 => ?_)
      · replace hf := ite_t hc_1 hf
        refine g_lv X (lv' := [(2, .int v2), (4, .int v4)]) [2, 3] rfl ?_
        exact J32 v2 v4 hf
      · replace hf := ite_f hc_1 hf
        refine g_iload X dX12_isOver_9 3 rfl ?_
        refine g_iload_n X dX12_isOver_11 rfl 2 rfl ?_
        refine g_icmp_eq (tgt := 32) X dX12_isOver_12 (by decide) (fun hc_2 => ?_) (fun hc_2 => ?_)
        · replace hf := ite_t hc_2 hf
          refine g_lv X (lv' := [(2, .int v2), (4, .int v4)]) [2, 3] rfl ?_
          exact J32 v2 v4 hf
        · replace hf := ite_f hc_2 hf
          refine g_aload_n X dX12_isOver_15 rfl 0 rfl ?_
          refine g_get (C := RX12) (T := TX12) (N := 22) (ci := 8) (v := (.ref h_t_w)) X iw_X12_isOver_X12 0 rfl rfl 0 (by decide) lk_X12_isOver_7 rfl dX12_isOver_16 ?_
          refine g_iload_n X dX12_isOver_19 rfl 1 rfl ?_
          refine g_bipush (v := 31) X dX12_isOver_20 (by decide) ?_
          refine g_iadd X dX12_isOver_22 ?_
          refine g_iload X dX12_isOver_23 3 rfl ?_
          refine g_iadd X dX12_isOver_25 ?_
          obtain ⟨hb_3, hf⟩ := chk_out hf
          refine g_iald X 1 rfl hb_3 dX12_isOver_26 ?_
          obtain ⟨v4_4, ev4_4, hf⟩ := bnd_out hf
          refine g_nmI X ev4_4 ?_
          refine g_istore (lv' := [(0, .ref h_t), (1, .int v1), (2, .int v2), (4, .int v4_4)]) X dX12_isOver_27 (Nat.le_of_ble_eq_true rfl) [1, 2, 3, 0] rfl ?_
          refine g_goto (tgt := 3) X dX12_isOver_29 (by decide) ?_
          exact ih v1 v2 v4_4 hf
  refine g_iload_n X dX12_isOver_0 rfl 3 rfl ?_
  refine g_istore (lv' := [(0, .ref h_t), (1, .int v1), (2, .int v2), (3, .int v3), (4, .int v3)]) X dX12_isOver_1 (Nat.le_of_ble_eq_true rfl) [1, 2, 3, 4, 0] rfl ?_
  refine g_lv X (lv' := [(0, .ref h_t), (1, .int v1), (2, .int v2), (4, .int v3)]) [0, 1, 2, 4] rfl ?_
  exact J3 FU v1 v2 v3 hf
def wd_X12_onIt (cI cZ : ClassId) (h_t : Nat) (h_t_w : Nat) (h_t_isKept : Nat) (h_t_text : Nat) (h_t_statuses : Nat) (h_t_ways : Nat) (h_t_feels : Nat) (h_t_next : Nat) (h_t_came : Nat) (h_t_deep : Nat) (h_t_sizes : Nat) (h_t_tableOf : Nat) (h_t_usedBy : Nat) (h_t_taken : Nat) (h_t_sixOf : Nat) (t_texted : Int32) (t_above : Int64) (t_below : Int64) (t_at : Int32) (t_start : Int32) (t_number : Int32) (t_went : Int32) (t_h : Int64) (t_w : (Nat → Int32)) : va_W := [(h_t, .inr (8, [.ref h_t_w, .ref h_t_isKept, .ref h_t_text, .int t_texted, .long t_above, .long t_below, .ref h_t_statuses, .int t_at, .int t_start, .int t_number, .ref h_t_ways, .int t_went, .ref h_t_feels, .ref h_t_next, .ref h_t_came, .ref h_t_deep, .ref h_t_sizes, .ref h_t_tableOf, .ref h_t_usedBy, .ref h_t_taken, .ref h_t_sixOf, .long t_h])), (h_t_w, .inl (cI, 1251, .inl t_w))]
abbrev rm_X12_onIt : Room := { frames := 0, cells := 0, slots := 0, locals := 0 }
theorem hv_X12_onIt : yX12_onIt.cls = RX12 ∧ yX12_onIt.cls ≠ "java/lang/invoke/MethodHandle" ∧ yX12_onIt.cls ≠ "java/lang/invoke/VarHandle" ∧ (parseMethodDescriptor yX12_onIt.desc).map (fun d => d.parameters.length) = some 2 := by decide +kernel
theorem iw_X12_onIt_X12 : ∀ w ∈ u_ws RX12 TX12 22, w ∈ wsX12_onIt := by decide +kernel
theorem lk_X12_onIt_7 : Cond.fieldLink RX12 7 "ClerkChainsModel" "w" "[I" ∈ wsX12_onIt := by decide +kernel
set_option maxHeartbeats 4000000 in
set_option maxRecDepth 100000 in
theorem c_X12_onIt (l : Launch) (D : va_G) (cI cZ : ClassId) (h_t : Nat) (h_t_w : Nat) (h_t_isKept : Nat) (h_t_text : Nat) (h_t_statuses : Nat) (h_t_ways : Nat) (h_t_feels : Nat) (h_t_next : Nat) (h_t_came : Nat) (h_t_deep : Nat) (h_t_sizes : Nat) (h_t_tableOf : Nat) (h_t_usedBy : Nat) (h_t_taken : Nat) (h_t_sixOf : Nat) (t_texted : Int32) (t_above : Int64) (t_below : Int64) (t_at : Int32) (t_start : Int32) (t_number : Int32) (t_went : Int32) (t_h : Int64) (t_w : (Nat → Int32)) (v1 : Int32) (v2 : Int32) (res : Int32) (hf : f_X12_onIt t_w v1 v2 = some res) : MetR l yX12_onIt wsX12_onIt rm_X12_onIt D cI cZ none [.ref h_t, .int v1, .int v2] (wd_X12_onIt cI cZ h_t h_t_w h_t_isKept h_t_text h_t_statuses h_t_ways h_t_feels h_t_next h_t_came h_t_deep h_t_sizes h_t_tableOf h_t_usedBy h_t_taken h_t_sixOf t_texted t_above t_below t_at t_start t_number t_went t_h t_w) (kR res (fun u => some (.int u))) := by
  refine metR_of (cc := cX12_onIt) (maxL := 5) (ret := (some .int)) (own := RX12) (lv0 := [(0, .ref h_t), (1, .int v1), (2, .int v2)]) (by decide) rfl (Nat.le_of_ble_eq_true rfl) rfl rfl (fun G X hR => ?_)
  replace hR := rt_int hR
  unfold f_X12_onIt at hf
  have J40 : ∀ (k5 : Int32 → Int32 → Int32 → Int32 → Option (Int32)) (hk5 : ∀ (v1 : Int32) (v2 : Int32) (v3 : Int32) (v4 : Int32), k5 v1 v2 v3 v4 = some res → G 0 0 (wd_X12_onIt cI cZ h_t h_t_w h_t_isKept h_t_text h_t_statuses h_t_ways h_t_feels h_t_next h_t_came h_t_deep h_t_sizes h_t_tableOf h_t_usedBy h_t_taken h_t_sixOf t_texted t_above t_below t_at t_start t_number t_went t_h t_w) [(0, .ref h_t), (1, .int v1), (2, .int v2), (3, .int v3), (4, .int v4)] 5 []) (v1 : Int32) (v2 : Int32) (v4 : Int32) (s0 : Int32) (s1 : Int32), f_X12_onIt_40 t_w k5 v1 v2 v4 s0 s1 = some res → G 0 0 (wd_X12_onIt cI cZ h_t h_t_w h_t_isKept h_t_text h_t_statuses h_t_ways h_t_feels h_t_next h_t_came h_t_deep h_t_sizes h_t_tableOf h_t_usedBy h_t_taken h_t_sixOf t_texted t_above t_below t_at t_start t_number t_went t_h t_w) [(0, .ref h_t), (1, .int v1), (2, .int v2), (4, .int v4)] 40 [.int s1, .int s0] := by
    intro k5 hk5 v1 v2 v4 s0 s1 hf
    unfold f_X12_onIt_40 at hf
    refine g_iadd X dX12_onIt_40 ?_
    obtain ⟨v3_5, ev3_5, hf⟩ := bnd_out hf
    refine g_nmI X ev3_5 ?_
    refine g_istore_n (lv' := [(0, .ref h_t), (1, .int v1), (2, .int v2), (3, .int v3_5), (4, .int v4)]) X dX12_onIt_41 rfl (Nat.le_of_ble_eq_true rfl) [1, 2, 3, 0, 4] rfl ?_
    obtain ⟨v4_6, ev4_6, hf⟩ := bnd_out hf
    refine g_iinc (v := v4_6) (lv' := [(0, .ref h_t), (1, .int v1), (2, .int v2), (3, .int v3_5), (4, .int v4_6)]) X dX12_onIt_42 4 rfl (by rw [ev4_6]; rfl) (Nat.le_of_ble_eq_true rfl) [1, 2, 3, 4, 0] rfl ?_
    refine g_goto (tgt := 5) X dX12_onIt_45 (by decide) ?_
    exact hk5 v1 v2 v3_5 v4_6 hf
  have J5 : ∀ (n : Nat) (v1 : Int32) (v2 : Int32) (v3 : Int32) (v4 : Int32), f_X12_onIt_5 t_w n v1 v2 v3 v4 = some res → G 0 0 (wd_X12_onIt cI cZ h_t h_t_w h_t_isKept h_t_text h_t_statuses h_t_ways h_t_feels h_t_next h_t_came h_t_deep h_t_sizes h_t_tableOf h_t_usedBy h_t_taken h_t_sixOf t_texted t_above t_below t_at t_start t_number t_went t_h t_w) [(0, .ref h_t), (1, .int v1), (2, .int v2), (3, .int v3), (4, .int v4)] 5 [] := by
    intro n
    induction n with
    | zero => intro v1 v2 v3 v4 hf; rw [f_X12_onIt_5] at hf; cases hf
    | succ n ih =>
      intro v1 v2 v3 v4 hf
      rw [f_X12_onIt_5] at hf
      refine g_iload X dX12_onIt_5 4 rfl ?_
      refine g_aload_n X dX12_onIt_7 rfl 0 rfl ?_
      refine g_get (C := RX12) (T := TX12) (N := 22) (ci := 8) (v := (.ref h_t_w)) X iw_X12_onIt_X12 0 rfl rfl 0 (by decide) lk_X12_onIt_7 rfl dX12_onIt_8 ?_
      refine g_iload_n X dX12_onIt_11 rfl 1 rfl ?_
      refine g_iconst (v := 0) X dX12_onIt_12 (by decide) ?_
      refine g_iadd X dX12_onIt_13 ?_
      obtain ⟨hb_1, hf⟩ := chk_out hf
      refine g_iald X 1 rfl hb_1 dX12_onIt_14 ?_
      refine g_icmp_ge (tgt := 48) X dX12_onIt_15 (by decide) (fun hc_2 => ?_) (fun hc_2 => ?_)
      · replace hf := ite_t hc_2 hf
        refine g_iload_n X dX12_onIt_48 rfl 3 rfl ?_
        exact hR _ _ _ _ dX12_onIt_49 (kR_in (u := v3) hf)
      · replace hf := ite_f hc_2 hf
        refine g_iload_n X dX12_onIt_18 rfl 3 rfl ?_
        refine g_aload_n X dX12_onIt_19 rfl 0 rfl ?_
        refine g_get (C := RX12) (T := TX12) (N := 22) (ci := 8) (v := (.ref h_t_w)) X iw_X12_onIt_X12 0 rfl rfl 0 (by decide) lk_X12_onIt_7 rfl dX12_onIt_20 ?_
        refine g_iload_n X dX12_onIt_23 rfl 1 rfl ?_
        refine g_bipush (v := 31) X dX12_onIt_24 (by decide) ?_
        refine g_iadd X dX12_onIt_26 ?_
        refine g_iload X dX12_onIt_27 4 rfl ?_
        refine g_iadd X dX12_onIt_29 ?_
        obtain ⟨hb_3, hf⟩ := chk_out hf
        refine g_iald X 1 rfl hb_3 dX12_onIt_30 ?_
        refine g_iload_n X dX12_onIt_31 rfl 2 rfl ?_
        refine g_icmp_ne (tgt := 39) X dX12_onIt_32 (by decide) (fun hc_4 => ?_) (fun hc_4 => ?_)
        · replace hf := ite_f hc_4 hf
          refine g_iconst (v := 0) X dX12_onIt_39 (by decide) ?_
          refine g_lv X (lv' := [(0, .ref h_t), (1, .int v1), (2, .int v2), (4, .int v4)]) [0, 1, 2, 4] rfl ?_
          exact J40 (f_X12_onIt_5 t_w n) ih v1 v2 v4 v3 0 hf
        · replace hf := ite_t hc_4 hf
          refine g_iconst (v := 1) X dX12_onIt_35 (by decide) ?_
          refine g_goto (tgt := 40) X dX12_onIt_36 (by decide) ?_
          refine g_lv X (lv' := [(0, .ref h_t), (1, .int v1), (2, .int v2), (4, .int v4)]) [0, 1, 2, 4] rfl ?_
          exact J40 (f_X12_onIt_5 t_w n) ih v1 v2 v4 v3 1 hf
  refine g_iconst (v := 0) X dX12_onIt_0 (by decide) ?_
  refine g_istore_n (lv' := [(0, .ref h_t), (1, .int v1), (2, .int v2), (3, .int 0)]) X dX12_onIt_1 rfl (Nat.le_of_ble_eq_true rfl) [1, 2, 3, 0] rfl ?_
  refine g_iconst (v := 0) X dX12_onIt_2 (by decide) ?_
  refine g_istore (lv' := [(0, .ref h_t), (1, .int v1), (2, .int v2), (3, .int 0), (4, .int 0)]) X dX12_onIt_3 (Nat.le_of_ble_eq_true rfl) [1, 2, 3, 4, 0] rfl ?_
  exact J5 FU v1 v2 0 0 hf
def wd_X12_readsHook (cI cZ : ClassId) (h_t : Nat) (h_t_w : Nat) (h_t_isKept : Nat) (h_t_text : Nat) (h_t_statuses : Nat) (h_t_ways : Nat) (h_t_feels : Nat) (h_t_next : Nat) (h_t_came : Nat) (h_t_deep : Nat) (h_t_sizes : Nat) (h_t_tableOf : Nat) (h_t_usedBy : Nat) (h_t_taken : Nat) (h_t_sixOf : Nat) (t_texted : Int32) (t_above : Int64) (t_below : Int64) (t_at : Int32) (t_start : Int32) (t_number : Int32) (t_went : Int32) (t_h : Int64) (t_w : (Nat → Int32)) (t_text : (Nat → Int32)) : va_W := [(h_t, .inr (8, [.ref h_t_w, .ref h_t_isKept, .ref h_t_text, .int t_texted, .long t_above, .long t_below, .ref h_t_statuses, .int t_at, .int t_start, .int t_number, .ref h_t_ways, .int t_went, .ref h_t_feels, .ref h_t_next, .ref h_t_came, .ref h_t_deep, .ref h_t_sizes, .ref h_t_tableOf, .ref h_t_usedBy, .ref h_t_taken, .ref h_t_sixOf, .long t_h])), (h_t_w, .inl (cI, 1251, .inl t_w)), (h_t_text, .inl (cI, 150, .inl t_text))]
abbrev rm_X12_readsHook : Room := { frames := 3, cells := 0, slots := 0, locals := 63 }
theorem hv_X12_readsHook : yX12_readsHook.cls = RX12 ∧ yX12_readsHook.cls ≠ "java/lang/invoke/MethodHandle" ∧ yX12_readsHook.cls ≠ "java/lang/invoke/VarHandle" ∧ (parseMethodDescriptor yX12_readsHook.desc).map (fun d => d.parameters.length) = some 0 := by decide +kernel
theorem iw_X12_readsHook_X12 : ∀ w ∈ u_ws RX12 TX12 22, w ∈ wsX12_readsHook := by decide +kernel
theorem lk_X12_readsHook_7 : Cond.fieldLink RX12 7 "ClerkChainsModel" "w" "[I" ∈ wsX12_readsHook := by decide +kernel
theorem lk_X12_readsHook_129 : Cond.fieldLink RX12 129 "ClerkChainsModel" "number" "I" ∈ wsX12_readsHook := by decide +kernel
set_option maxHeartbeats 4000000 in
set_option maxRecDepth 100000 in
theorem c_X12_readsHook (l : Launch) (D : va_G) (cI cZ : ClassId) (h_t : Nat) (h_t_w : Nat) (h_t_isKept : Nat) (h_t_text : Nat) (h_t_statuses : Nat) (h_t_ways : Nat) (h_t_feels : Nat) (h_t_next : Nat) (h_t_came : Nat) (h_t_deep : Nat) (h_t_sizes : Nat) (h_t_tableOf : Nat) (h_t_usedBy : Nat) (h_t_taken : Nat) (h_t_sixOf : Nat) (t_texted : Int32) (t_above : Int64) (t_below : Int64) (t_at : Int32) (t_start : Int32) (t_number : Int32) (t_went : Int32) (t_h : Int64) (t_w : (Nat → Int32)) (t_text : (Nat → Int32)) (res : Int32 × Int32 × Int32 × Int32 × (Nat → Int32)) (hf : f_X12_readsHook t_texted t_at t_start t_number t_w t_text = some res) : MetG l yX12_readsHook wsX12_readsHook rm_X12_readsHook D cI cZ none [.ref h_t] (wd_X12_readsHook cI cZ h_t h_t_w h_t_isKept h_t_text h_t_statuses h_t_ways h_t_feels h_t_next h_t_came h_t_deep h_t_sizes h_t_tableOf h_t_usedBy h_t_taken h_t_sixOf t_texted t_above t_below t_at t_start t_number t_went t_h t_w t_text) (kV res (fun u => some (.int u.1)) (fun u => (wd_X12_readsHook cI cZ h_t h_t_w h_t_isKept h_t_text h_t_statuses h_t_ways h_t_feels h_t_next h_t_came h_t_deep h_t_sizes h_t_tableOf h_t_usedBy h_t_taken h_t_sixOf t_texted t_above t_below (u.2.1) (u.2.2.1) (u.2.2.2.1) t_went t_h (u.2.2.2.2) t_text))) := by
  refine metG_of (cc := cX12_readsHook) (maxL := 2) (ret := (some .boolean)) (own := RX12) (lv0 := [(0, .ref h_t)]) (ini := false) (by decide) rfl (Nat.le_of_ble_eq_true rfl) rfl rfl (fun h => by cases h) (fun G X hR => ?_)
  replace hR := rt_bool hR
  unfold f_X12_readsHook at hf
  refine g_aload_n X dX12_readsHook_0 rfl 0 rfl ?_
  refine g_iconst (v := 0) X dX12_readsHook_1 (by decide) ?_
  refine g_aload_n X dX12_readsHook_2 rfl 0 rfl ?_
  refine g_get (C := RX12) (T := TX12) (N := 22) (ci := 8) (v := (.ref h_t_w)) X iw_X12_readsHook_X12 0 rfl rfl 0 (by decide) lk_X12_readsHook_7 rfl dX12_readsHook_3 ?_
  refine g_sipush (v := 903) X dX12_readsHook_6 (by decide) ?_
  obtain ⟨hb_1, hf⟩ := chk_out hf
  refine g_iald X 1 rfl hb_1 dX12_readsHook_9 ?_
  refine g_iconst (v := 1) X dX12_readsHook_10 (by decide) ?_
  refine g_isub X dX12_readsHook_11 ?_
  obtain ⟨r_2, t_at_3, t_start_4, t_number_5, hk_6, hf⟩ := ob4_out hf
  refine g_cVW (st := []) (st1 := [.int r_2]) (C := RX12) (ci := 8) (q0 := 0) (ws' := (wd_X12_readsHook cI cZ h_t h_t_w h_t_isKept h_t_text h_t_statuses h_t_ways h_t_feels h_t_next h_t_came h_t_deep h_t_sizes h_t_tableOf h_t_usedBy h_t_taken h_t_sixOf t_texted t_above t_below t_at_3 t_start_4 t_number_5 t_went t_h t_w t_text)) X (c_X12_takesNumber l D cI cZ h_t h_t_w h_t_isKept h_t_text h_t_statuses h_t_ways h_t_feels h_t_next h_t_came h_t_deep h_t_sizes h_t_tableOf h_t_usedBy h_t_taken h_t_sixOf t_texted t_above t_below t_at t_start t_number t_went t_h t_text 0 ((t_w (903 : Int32).toNatClampNeg) - 1) _ hk_6) (Or.inl rfl) 2 gX12_readsHook_X12_takesNumber rfl hv_X12_takesNumber ⟨Nat.le_of_ble_eq_true rfl, Nat.le_of_ble_eq_true rfl⟩ rfl rfl (Nat.le_of_ble_eq_true rfl) ⟨rfl, rfl⟩ (Nat.zero_le _) (Nat.zero_le _) rfl rfl rfl dX12_readsHook_12 [0, 2] rfl rfl [1] rfl rfl (by decide) [1, 0, 2] rfl rfl rfl ?_
  refine g_if_eq (tgt := 35) X dX12_readsHook_15 (by decide) (fun hc_7 => ?_) (fun hc_7 => ?_)
  · replace hf := ite_t hc_7 hf
    refine g_iconst (v := 0) X dX12_readsHook_35 (by decide) ?_
    exact hR _ _ _ _ (Or.inl rfl) dX12_readsHook_36 (kV_in (u := (0, t_at_3, t_start_4, t_number_5, t_w)) hf)
  · replace hf := ite_f hc_7 hf
    refine g_aload_n X dX12_readsHook_18 rfl 0 rfl ?_
    refine g_get (C := RX12) (T := TX12) (N := 22) (ci := 8) (v := (.ref h_t_w)) X iw_X12_readsHook_X12 0 rfl rfl 0 (by decide) lk_X12_readsHook_7 rfl dX12_readsHook_19 ?_
    refine g_sipush (v := 934) X dX12_readsHook_22 (by decide) ?_
    refine g_aload_n X dX12_readsHook_25 rfl 0 rfl ?_
    refine g_get (C := RX12) (T := TX12) (N := 22) (ci := 8) (v := (.int t_number_5)) X iw_X12_readsHook_X12 0 rfl rfl 9 (by decide) lk_X12_readsHook_129 rfl dX12_readsHook_26 ?_
    refine g_iadd X dX12_readsHook_29 ?_
    obtain ⟨hb_8, hf⟩ := chk_out hf
    refine g_iald X 1 rfl hb_8 dX12_readsHook_30 ?_
    refine g_iconst (v := (-1)) X dX12_readsHook_31 (by decide) ?_
    refine g_icmp_eq (tgt := 37) X dX12_readsHook_32 (by decide) (fun hc_9 => ?_) (fun hc_9 => ?_)
    · replace hf := ite_t hc_9 hf
      refine g_aload_n X dX12_readsHook_37 rfl 0 rfl ?_
      refine g_get (C := RX12) (T := TX12) (N := 22) (ci := 8) (v := (.int t_number_5)) X iw_X12_readsHook_X12 0 rfl rfl 9 (by decide) lk_X12_readsHook_129 rfl dX12_readsHook_38 ?_
      refine g_istore_n (lv' := [(0, .ref h_t), (1, .int t_number_5)]) X dX12_readsHook_41 rfl (Nat.le_of_ble_eq_true rfl) [1, 0] rfl ?_
      refine g_aload_n X dX12_readsHook_42 rfl 0 rfl ?_
      refine g_iconst (v := 0) X dX12_readsHook_43 (by decide) ?_
      refine g_aload_n X dX12_readsHook_44 rfl 0 rfl ?_
      refine g_get (C := RX12) (T := TX12) (N := 22) (ci := 8) (v := (.ref h_t_w)) X iw_X12_readsHook_X12 0 rfl rfl 0 (by decide) lk_X12_readsHook_7 rfl dX12_readsHook_45 ?_
      refine g_sipush (v := 903) X dX12_readsHook_48 (by decide) ?_
      obtain ⟨hb_10, hf⟩ := chk_out hf
      refine g_iald X 1 rfl hb_10 dX12_readsHook_51 ?_
      refine g_iconst (v := 1) X dX12_readsHook_52 (by decide) ?_
      refine g_isub X dX12_readsHook_53 ?_
      obtain ⟨r_11, t_at_12, t_start_13, t_number_14, hk_15, hf⟩ := ob4_out hf
      refine g_cVW (st := []) (st1 := [.int r_11]) (C := RX12) (ci := 8) (q0 := 0) (ws' := (wd_X12_readsHook cI cZ h_t h_t_w h_t_isKept h_t_text h_t_statuses h_t_ways h_t_feels h_t_next h_t_came h_t_deep h_t_sizes h_t_tableOf h_t_usedBy h_t_taken h_t_sixOf t_texted t_above t_below t_at_12 t_start_13 t_number_14 t_went t_h t_w t_text)) X (c_X12_takesNumber l D cI cZ h_t h_t_w h_t_isKept h_t_text h_t_statuses h_t_ways h_t_feels h_t_next h_t_came h_t_deep h_t_sizes h_t_tableOf h_t_usedBy h_t_taken h_t_sixOf t_texted t_above t_below t_at_3 t_start_4 t_number_5 t_went t_h t_text 0 ((t_w (903 : Int32).toNatClampNeg) - 1) _ hk_15) (Or.inl rfl) 2 gX12_readsHook_X12_takesNumber rfl hv_X12_takesNumber ⟨Nat.le_of_ble_eq_true rfl, Nat.le_of_ble_eq_true rfl⟩ rfl rfl (Nat.le_of_ble_eq_true rfl) ⟨rfl, rfl⟩ (Nat.zero_le _) (Nat.zero_le _) rfl rfl rfl dX12_readsHook_54 [0, 2] rfl rfl [1] rfl rfl (by decide) [1, 0, 2] rfl rfl rfl ?_
      refine g_if_eq (tgt := 90) X dX12_readsHook_57 (by decide) (fun hc_16 => ?_) (fun hc_16 => ?_)
      · replace hf := ite_t hc_16 hf
        refine g_iconst (v := 0) X dX12_readsHook_90 (by decide) ?_
        exact hR _ _ _ _ (Or.inl rfl) dX12_readsHook_91 (kV_in (u := (0, t_at_12, t_start_13, t_number_14, t_w)) hf)
      · replace hf := ite_f hc_16 hf
        refine g_aload_n X dX12_readsHook_60 rfl 0 rfl ?_
        refine g_sipush (v := 903) X dX12_readsHook_61 (by decide) ?_
        refine g_iload_n X dX12_readsHook_64 rfl 1 rfl ?_
        refine g_aload_n X dX12_readsHook_65 rfl 0 rfl ?_
        refine g_get (C := RX12) (T := TX12) (N := 22) (ci := 8) (v := (.int t_number_14)) X iw_X12_readsHook_X12 0 rfl rfl 9 (by decide) lk_X12_readsHook_129 rfl dX12_readsHook_66 ?_
        obtain ⟨r_17, hk_18, hf⟩ := ob1_out hf
        refine g_cVR (st := []) (st1 := [.int r_17]) (C := RX12) (ci := 8) (q0 := 0) X (c_X12_isOver l D cI cZ h_t h_t_w h_t_isKept h_t_text h_t_statuses h_t_ways h_t_feels h_t_next h_t_came h_t_deep h_t_sizes h_t_tableOf h_t_usedBy h_t_taken h_t_sixOf t_texted t_above t_below t_at_12 t_start_13 t_number_14 t_went t_h t_w 903 t_number_5 t_number_14 _ hk_18) (Or.inl rfl) 3 gX12_readsHook_X12_isOver rfl hv_X12_isOver ⟨Nat.le_of_ble_eq_true rfl, Nat.le_of_ble_eq_true rfl⟩ rfl rfl (Nat.le_of_ble_eq_true rfl) ⟨rfl, rfl⟩ (Nat.zero_le _) (Nat.zero_le _) rfl rfl rfl dX12_readsHook_69 [0, 1] rfl rfl rfl ?_
        refine g_if_ne (tgt := 90) X dX12_readsHook_72 (by decide) (fun hc_19 => ?_) (fun hc_19 => ?_)
        · replace hf := ite_f hc_19 hf
          refine g_iconst (v := 0) X dX12_readsHook_90 (by decide) ?_
          exact hR _ _ _ _ (Or.inl rfl) dX12_readsHook_91 (kV_in (u := (0, t_at_12, t_start_13, t_number_14, t_w)) hf)
        · replace hf := ite_t hc_19 hf
          refine g_aload_n X dX12_readsHook_75 rfl 0 rfl ?_
          refine g_sipush (v := 903) X dX12_readsHook_76 (by decide) ?_
          refine g_aload_n X dX12_readsHook_79 rfl 0 rfl ?_
          refine g_get (C := RX12) (T := TX12) (N := 22) (ci := 8) (v := (.int t_number_14)) X iw_X12_readsHook_X12 0 rfl rfl 9 (by decide) lk_X12_readsHook_129 rfl dX12_readsHook_80 ?_
          obtain ⟨r_20, hk_21, hf⟩ := ob1_out hf
          refine g_cVR (st := []) (st1 := [.int r_20]) (C := RX12) (ci := 8) (q0 := 0) X (c_X12_onIt l D cI cZ h_t h_t_w h_t_isKept h_t_text h_t_statuses h_t_ways h_t_feels h_t_next h_t_came h_t_deep h_t_sizes h_t_tableOf h_t_usedBy h_t_taken h_t_sixOf t_texted t_above t_below t_at_12 t_start_13 t_number_14 t_went t_h t_w 903 t_number_14 _ hk_21) (Or.inl rfl) 2 gX12_readsHook_X12_onIt rfl hv_X12_onIt ⟨Nat.le_of_ble_eq_true rfl, Nat.le_of_ble_eq_true rfl⟩ rfl rfl (Nat.le_of_ble_eq_true rfl) ⟨rfl, rfl⟩ (Nat.zero_le _) (Nat.zero_le _) rfl rfl rfl dX12_readsHook_83 [0, 1] rfl rfl rfl ?_
          refine g_iconst (v := 2) X dX12_readsHook_86 (by decide) ?_
          refine g_icmp_ne (tgt := 92) X dX12_readsHook_87 (by decide) (fun hc_22 => ?_) (fun hc_22 => ?_)
          · replace hf := ite_f hc_22 hf
            refine g_aload_n X dX12_readsHook_92 rfl 0 rfl ?_
            refine g_get (C := RX12) (T := TX12) (N := 22) (ci := 8) (v := (.ref h_t_w)) X iw_X12_readsHook_X12 0 rfl rfl 0 (by decide) lk_X12_readsHook_7 rfl dX12_readsHook_93 ?_
            refine g_sipush (v := 934) X dX12_readsHook_96 (by decide) ?_
            refine g_iload_n X dX12_readsHook_99 rfl 1 rfl ?_
            refine g_iadd X dX12_readsHook_100 ?_
            refine g_aload_n X dX12_readsHook_101 rfl 0 rfl ?_
            refine g_get (C := RX12) (T := TX12) (N := 22) (ci := 8) (v := (.int t_number_14)) X iw_X12_readsHook_X12 0 rfl rfl 9 (by decide) lk_X12_readsHook_129 rfl dX12_readsHook_102 ?_
            obtain ⟨hb_23, hf⟩ := chk_out hf
            obtain ⟨t_w_24, et_w_24, hf⟩ := bnd_out hf
            refine g_iast (ws' := (wd_X12_readsHook cI cZ h_t h_t_w h_t_isKept h_t_text h_t_statuses h_t_ways h_t_feels h_t_next h_t_came h_t_deep h_t_sizes h_t_tableOf h_t_usedBy h_t_taken h_t_sixOf t_texted t_above t_below t_at_12 t_start_13 t_number_14 t_went t_h t_w_24 t_text)) X 1 rfl hb_23 et_w_24 dX12_readsHook_105 rfl ?_
            refine g_iconst (v := 1) X dX12_readsHook_106 (by decide) ?_
            exact hR _ _ _ _ (Or.inr rfl) dX12_readsHook_107 (kV_in (u := (1, t_at_12, t_start_13, t_number_14, t_w_24)) hf)
          · replace hf := ite_t hc_22 hf
            refine g_iconst (v := 0) X dX12_readsHook_90 (by decide) ?_
            exact hR _ _ _ _ (Or.inl rfl) dX12_readsHook_91 (kV_in (u := (0, t_at_12, t_start_13, t_number_14, t_w)) hf)
    · replace hf := ite_f hc_9 hf
      refine g_iconst (v := 0) X dX12_readsHook_35 (by decide) ?_
      exact hR _ _ _ _ (Or.inl rfl) dX12_readsHook_36 (kV_in (u := (0, t_at_3, t_start_4, t_number_5, t_w)) hf)
def wd_X12_topOf (cI cZ : ClassId) (h_t : Nat) (h_t_w : Nat) (h_t_isKept : Nat) (h_t_text : Nat) (h_t_statuses : Nat) (h_t_ways : Nat) (h_t_feels : Nat) (h_t_next : Nat) (h_t_came : Nat) (h_t_deep : Nat) (h_t_sizes : Nat) (h_t_tableOf : Nat) (h_t_usedBy : Nat) (h_t_taken : Nat) (h_t_sixOf : Nat) (t_texted : Int32) (t_above : Int64) (t_below : Int64) (t_at : Int32) (t_start : Int32) (t_number : Int32) (t_went : Int32) (t_h : Int64) (t_w : (Nat → Int32)) : va_W := [(h_t, .inr (8, [.ref h_t_w, .ref h_t_isKept, .ref h_t_text, .int t_texted, .long t_above, .long t_below, .ref h_t_statuses, .int t_at, .int t_start, .int t_number, .ref h_t_ways, .int t_went, .ref h_t_feels, .ref h_t_next, .ref h_t_came, .ref h_t_deep, .ref h_t_sizes, .ref h_t_tableOf, .ref h_t_usedBy, .ref h_t_taken, .ref h_t_sixOf, .long t_h])), (h_t_w, .inl (cI, 1251, .inl t_w))]
abbrev rm_X12_topOf : Room := { frames := 0, cells := 0, slots := 0, locals := 0 }
theorem hv_X12_topOf : yX12_topOf.cls = RX12 ∧ yX12_topOf.cls ≠ "java/lang/invoke/MethodHandle" ∧ yX12_topOf.cls ≠ "java/lang/invoke/VarHandle" ∧ (parseMethodDescriptor yX12_topOf.desc).map (fun d => d.parameters.length) = some 2 := by decide +kernel
theorem iw_X12_topOf_X12 : ∀ w ∈ u_ws RX12 TX12 22, w ∈ wsX12_topOf := by decide +kernel
theorem lk_X12_topOf_7 : Cond.fieldLink RX12 7 "ClerkChainsModel" "w" "[I" ∈ wsX12_topOf := by decide +kernel
set_option maxHeartbeats 4000000 in
set_option maxRecDepth 100000 in
theorem c_X12_topOf (l : Launch) (D : va_G) (cI cZ : ClassId) (h_t : Nat) (h_t_w : Nat) (h_t_isKept : Nat) (h_t_text : Nat) (h_t_statuses : Nat) (h_t_ways : Nat) (h_t_feels : Nat) (h_t_next : Nat) (h_t_came : Nat) (h_t_deep : Nat) (h_t_sizes : Nat) (h_t_tableOf : Nat) (h_t_usedBy : Nat) (h_t_taken : Nat) (h_t_sixOf : Nat) (t_texted : Int32) (t_above : Int64) (t_below : Int64) (t_at : Int32) (t_start : Int32) (t_number : Int32) (t_went : Int32) (t_h : Int64) (t_w : (Nat → Int32)) (v1 : Int32) (v2 : Int32) (res : Int32) (hf : f_X12_topOf t_w v1 v2 = some res) : MetR l yX12_topOf wsX12_topOf rm_X12_topOf D cI cZ none [.ref h_t, .int v1, .int v2] (wd_X12_topOf cI cZ h_t h_t_w h_t_isKept h_t_text h_t_statuses h_t_ways h_t_feels h_t_next h_t_came h_t_deep h_t_sizes h_t_tableOf h_t_usedBy h_t_taken h_t_sixOf t_texted t_above t_below t_at t_start t_number t_went t_h t_w) (kR res (fun u => some (.int u))) := by
  refine metR_of (cc := cX12_topOf) (maxL := 4) (ret := (some .int)) (own := RX12) (lv0 := [(0, .ref h_t), (1, .int v1), (2, .int v2)]) (by decide) rfl (Nat.le_of_ble_eq_true rfl) rfl rfl (fun G X hR => ?_)
  replace hR := rt_int hR
  unfold f_X12_topOf at hf
  have J2 : ∀ (n : Nat) (v1 : Int32) (v3 : Int32), f_X12_topOf_2 t_w n v1 v3 = some res → G 0 0 (wd_X12_topOf cI cZ h_t h_t_w h_t_isKept h_t_text h_t_statuses h_t_ways h_t_feels h_t_next h_t_came h_t_deep h_t_sizes h_t_tableOf h_t_usedBy h_t_taken h_t_sixOf t_texted t_above t_below t_at t_start t_number t_went t_h t_w) [(0, .ref h_t), (1, .int v1), (3, .int v3)] 2 [] := by
    intro n
    induction n with
    | zero => intro v1 v3 hf; rw [f_X12_topOf_2] at hf; cases hf
    | succ n ih =>
      intro v1 v3 hf
      rw [f_X12_topOf_2] at hf
      refine g_aload_n X dX12_topOf_2 rfl 0 rfl ?_
      refine g_get (C := RX12) (T := TX12) (N := 22) (ci := 8) (v := (.ref h_t_w)) X iw_X12_topOf_X12 0 rfl rfl 0 (by decide) lk_X12_topOf_7 rfl dX12_topOf_3 ?_
      refine g_iload_n X dX12_topOf_6 rfl 1 rfl ?_
      refine g_bipush (v := 31) X dX12_topOf_7 (by decide) ?_
      refine g_iadd X dX12_topOf_9 ?_
      refine g_iload_n X dX12_topOf_10 rfl 2 rfl ?_
      refine g_iadd X dX12_topOf_11 ?_
      obtain ⟨hb_1, hf⟩ := chk_out hf
      refine g_iald X 1 rfl hb_1 dX12_topOf_12 ?_
      refine g_iconst (v := (-1)) X dX12_topOf_13 (by decide) ?_
      refine g_icmp_eq (tgt := 32) X dX12_topOf_14 (by decide) (fun hc_2 => ?_) (fun hc_2 => ?_)
      · replace hf := ite_t hc_2 hf
        refine g_iload_n X dX12_topOf_32 rfl 2 rfl ?_
        exact hR _ _ _ _ dX12_topOf_33 (kR_in (u := v3) hf)
      · replace hf := ite_f hc_2 hf
        refine g_aload_n X dX12_topOf_17 rfl 0 rfl ?_
        refine g_get (C := RX12) (T := TX12) (N := 22) (ci := 8) (v := (.ref h_t_w)) X iw_X12_topOf_X12 0 rfl rfl 0 (by decide) lk_X12_topOf_7 rfl dX12_topOf_18 ?_
        refine g_iload_n X dX12_topOf_21 rfl 1 rfl ?_
        refine g_bipush (v := 31) X dX12_topOf_22 (by decide) ?_
        refine g_iadd X dX12_topOf_24 ?_
        refine g_iload_n X dX12_topOf_25 rfl 2 rfl ?_
        refine g_iadd X dX12_topOf_26 ?_
        obtain ⟨hb_3, hf⟩ := chk_out hf
        refine g_iald X 1 rfl hb_3 dX12_topOf_27 ?_
        obtain ⟨v3_4, ev3_4, hf⟩ := bnd_out hf
        refine g_nmI X ev3_4 ?_
        refine g_istore_n (lv' := [(0, .ref h_t), (1, .int v1), (3, .int v3_4)]) X dX12_topOf_28 rfl (Nat.le_of_ble_eq_true rfl) [1, 2, 0] rfl ?_
        refine g_goto (tgt := 2) X dX12_topOf_29 (by decide) ?_
        exact ih v1 v3_4 hf
  refine g_iload_n X dX12_topOf_0 rfl 2 rfl ?_
  refine g_istore_n (lv' := [(0, .ref h_t), (1, .int v1), (2, .int v2), (3, .int v2)]) X dX12_topOf_1 rfl (Nat.le_of_ble_eq_true rfl) [1, 2, 3, 0] rfl ?_
  refine g_lv X (lv' := [(0, .ref h_t), (1, .int v1), (3, .int v2)]) [0, 1, 3] rfl ?_
  exact J2 FU v1 v2 hf
def wd_X12_stringOf (cI cZ : ClassId) (h_t : Nat) (h_t_w : Nat) (h_t_isKept : Nat) (h_t_text : Nat) (h_t_statuses : Nat) (h_t_ways : Nat) (h_t_feels : Nat) (h_t_next : Nat) (h_t_came : Nat) (h_t_deep : Nat) (h_t_sizes : Nat) (h_t_tableOf : Nat) (h_t_usedBy : Nat) (h_t_taken : Nat) (h_t_sixOf : Nat) (t_texted : Int32) (t_above : Int64) (t_below : Int64) (t_at : Int32) (t_start : Int32) (t_number : Int32) (t_went : Int32) (t_h : Int64) (t_w : (Nat → Int32)) : va_W := [(h_t, .inr (8, [.ref h_t_w, .ref h_t_isKept, .ref h_t_text, .int t_texted, .long t_above, .long t_below, .ref h_t_statuses, .int t_at, .int t_start, .int t_number, .ref h_t_ways, .int t_went, .ref h_t_feels, .ref h_t_next, .ref h_t_came, .ref h_t_deep, .ref h_t_sizes, .ref h_t_tableOf, .ref h_t_usedBy, .ref h_t_taken, .ref h_t_sixOf, .long t_h])), (h_t_w, .inl (cI, 1251, .inl t_w))]
abbrev rm_X12_stringOf : Room := { frames := 1, cells := 0, slots := 0, locals := 23 }
theorem hv_X12_stringOf : yX12_stringOf.cls = RX12 ∧ yX12_stringOf.cls ≠ "java/lang/invoke/MethodHandle" ∧ yX12_stringOf.cls ≠ "java/lang/invoke/VarHandle" ∧ (parseMethodDescriptor yX12_stringOf.desc).map (fun d => d.parameters.length) = some 2 := by decide +kernel
theorem iw_X12_stringOf_X12 : ∀ w ∈ u_ws RX12 TX12 22, w ∈ wsX12_stringOf := by decide +kernel
theorem lk_X12_stringOf_7 : Cond.fieldLink RX12 7 "ClerkChainsModel" "w" "[I" ∈ wsX12_stringOf := by decide +kernel
set_option maxHeartbeats 4000000 in
set_option maxRecDepth 100000 in
theorem c_X12_stringOf (l : Launch) (D : va_G) (cI cZ : ClassId) (h_t : Nat) (h_t_w : Nat) (h_t_isKept : Nat) (h_t_text : Nat) (h_t_statuses : Nat) (h_t_ways : Nat) (h_t_feels : Nat) (h_t_next : Nat) (h_t_came : Nat) (h_t_deep : Nat) (h_t_sizes : Nat) (h_t_tableOf : Nat) (h_t_usedBy : Nat) (h_t_taken : Nat) (h_t_sixOf : Nat) (t_texted : Int32) (t_above : Int64) (t_below : Int64) (t_at : Int32) (t_start : Int32) (t_number : Int32) (t_went : Int32) (t_h : Int64) (t_w : (Nat → Int32)) (v1 : Int32) (v2 : Int32) (res : Int32) (hf : f_X12_stringOf t_w v1 v2 = some res) : MetR l yX12_stringOf wsX12_stringOf rm_X12_stringOf D cI cZ none [.ref h_t, .int v1, .int v2] (wd_X12_stringOf cI cZ h_t h_t_w h_t_isKept h_t_text h_t_statuses h_t_ways h_t_feels h_t_next h_t_came h_t_deep h_t_sizes h_t_tableOf h_t_usedBy h_t_taken h_t_sixOf t_texted t_above t_below t_at t_start t_number t_went t_h t_w) (kR res (fun u => some (.int u))) := by
  refine metR_of (cc := cX12_stringOf) (maxL := 5) (ret := (some .int)) (own := RX12) (lv0 := [(0, .ref h_t), (1, .int v1), (2, .int v2)]) (by decide) rfl (Nat.le_of_ble_eq_true rfl) rfl rfl (fun G X hR => ?_)
  replace hR := rt_int hR
  unfold f_X12_stringOf at hf
  have J43 : ∀ (k5 : Int32 → Int32 → Int32 → Int32 → Option (Int32)) (hk5 : ∀ (v1 : Int32) (v2 : Int32) (v3 : Int32) (v4 : Int32), k5 v1 v2 v3 v4 = some res → G 0 0 (wd_X12_stringOf cI cZ h_t h_t_w h_t_isKept h_t_text h_t_statuses h_t_ways h_t_feels h_t_next h_t_came h_t_deep h_t_sizes h_t_tableOf h_t_usedBy h_t_taken h_t_sixOf t_texted t_above t_below t_at t_start t_number t_went t_h t_w) [(0, .ref h_t), (1, .int v1), (2, .int v2), (3, .int v3), (4, .int v4)] 5 []) (v1 : Int32) (v2 : Int32) (v4 : Int32) (s0 : Int32) (s1 : Int32), f_X12_stringOf_43 t_w k5 v1 v2 v4 s0 s1 = some res → G 0 0 (wd_X12_stringOf cI cZ h_t h_t_w h_t_isKept h_t_text h_t_statuses h_t_ways h_t_feels h_t_next h_t_came h_t_deep h_t_sizes h_t_tableOf h_t_usedBy h_t_taken h_t_sixOf t_texted t_above t_below t_at t_start t_number t_went t_h t_w) [(0, .ref h_t), (1, .int v1), (2, .int v2), (4, .int v4)] 43 [.int s1, .int s0] := by
    intro k5 hk5 v1 v2 v4 s0 s1 hf
    unfold f_X12_stringOf_43 at hf
    refine g_ior X dX12_stringOf_43 ?_
    obtain ⟨v3_8, ev3_8, hf⟩ := bnd_out hf
    refine g_nmI X ev3_8 ?_
    refine g_istore_n (lv' := [(0, .ref h_t), (1, .int v1), (2, .int v2), (3, .int v3_8), (4, .int v4)]) X dX12_stringOf_44 rfl (Nat.le_of_ble_eq_true rfl) [1, 2, 3, 0, 4] rfl ?_
    obtain ⟨v4_9, ev4_9, hf⟩ := bnd_out hf
    refine g_iinc (v := v4_9) (lv' := [(0, .ref h_t), (1, .int v1), (2, .int v2), (3, .int v3_8), (4, .int v4_9)]) X dX12_stringOf_45 4 rfl (by rw [ev4_9]; rfl) (Nat.le_of_ble_eq_true rfl) [1, 2, 3, 4, 0] rfl ?_
    refine g_goto (tgt := 5) X dX12_stringOf_48 (by decide) ?_
    exact hk5 v1 v2 v3_8 v4_9 hf
  have J5 : ∀ (n : Nat) (v1 : Int32) (v2 : Int32) (v3 : Int32) (v4 : Int32), f_X12_stringOf_5 t_w n v1 v2 v3 v4 = some res → G 0 0 (wd_X12_stringOf cI cZ h_t h_t_w h_t_isKept h_t_text h_t_statuses h_t_ways h_t_feels h_t_next h_t_came h_t_deep h_t_sizes h_t_tableOf h_t_usedBy h_t_taken h_t_sixOf t_texted t_above t_below t_at t_start t_number t_went t_h t_w) [(0, .ref h_t), (1, .int v1), (2, .int v2), (3, .int v3), (4, .int v4)] 5 [] := by
    intro n
    induction n with
    | zero => intro v1 v2 v3 v4 hf; rw [f_X12_stringOf_5] at hf; cases hf
    | succ n ih =>
      intro v1 v2 v3 v4 hf
      rw [f_X12_stringOf_5] at hf
      refine g_iload X dX12_stringOf_5 4 rfl ?_
      refine g_aload_n X dX12_stringOf_7 rfl 0 rfl ?_
      refine g_get (C := RX12) (T := TX12) (N := 22) (ci := 8) (v := (.ref h_t_w)) X iw_X12_stringOf_X12 0 rfl rfl 0 (by decide) lk_X12_stringOf_7 rfl dX12_stringOf_8 ?_
      refine g_iload_n X dX12_stringOf_11 rfl 1 rfl ?_
      refine g_iconst (v := 0) X dX12_stringOf_12 (by decide) ?_
      refine g_iadd X dX12_stringOf_13 ?_
      obtain ⟨hb_1, hf⟩ := chk_out hf
      refine g_iald X 1 rfl hb_1 dX12_stringOf_14 ?_
      refine g_icmp_ge (tgt := 51) X dX12_stringOf_15 (by decide) (fun hc_2 => ?_) (fun hc_2 => ?_)
      · replace hf := ite_t hc_2 hf
        refine g_iload_n X dX12_stringOf_51 rfl 3 rfl ?_
        exact hR _ _ _ _ dX12_stringOf_52 (kR_in (u := v3) hf)
      · replace hf := ite_f hc_2 hf
        refine g_iload_n X dX12_stringOf_18 rfl 3 rfl ?_
        refine g_aload_n X dX12_stringOf_19 rfl 0 rfl ?_
        refine g_iload_n X dX12_stringOf_20 rfl 1 rfl ?_
        refine g_iload X dX12_stringOf_21 4 rfl ?_
        obtain ⟨r_3, hk_4, hf⟩ := ob1_out hf
        refine g_cVR (st := [.int v3]) (st1 := [.int r_3, .int v3]) (C := RX12) (ci := 8) (q0 := 0) X (c_X12_topOf l D cI cZ h_t h_t_w h_t_isKept h_t_text h_t_statuses h_t_ways h_t_feels h_t_next h_t_came h_t_deep h_t_sizes h_t_tableOf h_t_usedBy h_t_taken h_t_sixOf t_texted t_above t_below t_at t_start t_number t_went t_h t_w v1 v4 _ hk_4) (Or.inl rfl) 2 gX12_stringOf_X12_topOf rfl hv_X12_topOf ⟨Nat.le_of_ble_eq_true rfl, Nat.le_of_ble_eq_true rfl⟩ rfl rfl (Nat.le_of_ble_eq_true rfl) ⟨rfl, rfl⟩ (Nat.zero_le _) (Nat.zero_le _) rfl rfl rfl dX12_stringOf_23 [0, 1] rfl rfl rfl ?_
        refine g_aload_n X dX12_stringOf_26 rfl 0 rfl ?_
        refine g_iload_n X dX12_stringOf_27 rfl 1 rfl ?_
        refine g_iload_n X dX12_stringOf_28 rfl 2 rfl ?_
        obtain ⟨r_5, hk_6, hf⟩ := ob1_out hf
        refine g_cVR (st := [.int r_3, .int v3]) (st1 := [.int r_5, .int r_3, .int v3]) (C := RX12) (ci := 8) (q0 := 0) X (c_X12_topOf l D cI cZ h_t h_t_w h_t_isKept h_t_text h_t_statuses h_t_ways h_t_feels h_t_next h_t_came h_t_deep h_t_sizes h_t_tableOf h_t_usedBy h_t_taken h_t_sixOf t_texted t_above t_below t_at t_start t_number t_went t_h t_w v1 v2 _ hk_6) (Or.inl rfl) 2 gX12_stringOf_X12_topOf rfl hv_X12_topOf ⟨Nat.le_of_ble_eq_true rfl, Nat.le_of_ble_eq_true rfl⟩ rfl rfl (Nat.le_of_ble_eq_true rfl) ⟨rfl, rfl⟩ (Nat.zero_le _) (Nat.zero_le _) rfl rfl rfl dX12_stringOf_29 [0, 1] rfl rfl rfl ?_
        refine g_icmp_ne (tgt := 42) X dX12_stringOf_32 (by decide) (fun hc_7 => ?_) (fun hc_7 => ?_)
        · replace hf := ite_f hc_7 hf
          refine g_iconst (v := 0) X dX12_stringOf_42 (by decide) ?_
          refine g_lv X (lv' := [(0, .ref h_t), (1, .int v1), (2, .int v2), (4, .int v4)]) [0, 1, 2, 4] rfl ?_
          exact J43 (f_X12_stringOf_5 t_w n) ih v1 v2 v4 v3 0 hf
        · replace hf := ite_t hc_7 hf
          refine g_iconst (v := 1) X dX12_stringOf_35 (by decide) ?_
          refine g_iload X dX12_stringOf_36 4 rfl ?_
          refine g_ishl X dX12_stringOf_38 ?_
          refine g_goto (tgt := 43) X dX12_stringOf_39 (by decide) ?_
          refine g_lv X (lv' := [(0, .ref h_t), (1, .int v1), (2, .int v2), (4, .int v4)]) [0, 1, 2, 4] rfl ?_
          exact J43 (f_X12_stringOf_5 t_w n) ih v1 v2 v4 v3 (1 <<< (v4 &&& 31)) hf
  refine g_iconst (v := 0) X dX12_stringOf_0 (by decide) ?_
  refine g_istore_n (lv' := [(0, .ref h_t), (1, .int v1), (2, .int v2), (3, .int 0)]) X dX12_stringOf_1 rfl (Nat.le_of_ble_eq_true rfl) [1, 2, 3, 0] rfl ?_
  refine g_iconst (v := 0) X dX12_stringOf_2 (by decide) ?_
  refine g_istore (lv' := [(0, .ref h_t), (1, .int v1), (2, .int v2), (3, .int 0), (4, .int 0)]) X dX12_stringOf_3 (Nat.le_of_ble_eq_true rfl) [1, 2, 3, 4, 0] rfl ?_
  exact J5 FU v1 v2 0 0 hf
def wd_X12_drawnBy (cI cZ : ClassId) (h_t : Nat) (h_t_w : Nat) (h_t_isKept : Nat) (h_t_text : Nat) (h_t_statuses : Nat) (h_t_ways : Nat) (h_t_feels : Nat) (h_t_next : Nat) (h_t_came : Nat) (h_t_deep : Nat) (h_t_sizes : Nat) (h_t_tableOf : Nat) (h_t_usedBy : Nat) (h_t_taken : Nat) (h_t_sixOf : Nat) (t_texted : Int32) (t_above : Int64) (t_below : Int64) (t_at : Int32) (t_start : Int32) (t_number : Int32) (t_went : Int32) (t_h : Int64) (t_w : (Nat → Int32)) : va_W := [(h_t, .inr (8, [.ref h_t_w, .ref h_t_isKept, .ref h_t_text, .int t_texted, .long t_above, .long t_below, .ref h_t_statuses, .int t_at, .int t_start, .int t_number, .ref h_t_ways, .int t_went, .ref h_t_feels, .ref h_t_next, .ref h_t_came, .ref h_t_deep, .ref h_t_sizes, .ref h_t_tableOf, .ref h_t_usedBy, .ref h_t_taken, .ref h_t_sixOf, .long t_h])), (h_t_w, .inl (cI, 1251, .inl t_w))]
abbrev rm_X12_drawnBy : Room := { frames := 3, cells := 0, slots := 0, locals := 65 }
theorem hv_X12_drawnBy : yX12_drawnBy.cls = RX12 ∧ yX12_drawnBy.cls ≠ "java/lang/invoke/MethodHandle" ∧ yX12_drawnBy.cls ≠ "java/lang/invoke/VarHandle" ∧ (parseMethodDescriptor yX12_drawnBy.desc).map (fun d => d.parameters.length) = some 2 := by decide +kernel
theorem iw_X12_drawnBy_X12 : ∀ w ∈ u_ws RX12 TX12 22, w ∈ wsX12_drawnBy := by decide +kernel
theorem lk_X12_drawnBy_7 : Cond.fieldLink RX12 7 "ClerkChainsModel" "w" "[I" ∈ wsX12_drawnBy := by decide +kernel
set_option maxHeartbeats 4000000 in
set_option maxRecDepth 100000 in
theorem c_X12_drawnBy (l : Launch) (D : va_G) (cI cZ : ClassId) (h_t : Nat) (h_t_w : Nat) (h_t_isKept : Nat) (h_t_text : Nat) (h_t_statuses : Nat) (h_t_ways : Nat) (h_t_feels : Nat) (h_t_next : Nat) (h_t_came : Nat) (h_t_deep : Nat) (h_t_sizes : Nat) (h_t_tableOf : Nat) (h_t_usedBy : Nat) (h_t_taken : Nat) (h_t_sixOf : Nat) (t_texted : Int32) (t_above : Int64) (t_below : Int64) (t_at : Int32) (t_start : Int32) (t_number : Int32) (t_went : Int32) (t_h : Int64) (t_w : (Nat → Int32)) (v1 : Int32) (v2 : Int32) (res : Int32) (hf : f_X12_drawnBy t_w v1 v2 = some res) : MetR l yX12_drawnBy wsX12_drawnBy rm_X12_drawnBy D cI cZ none [.ref h_t, .int v1, .int v2] (wd_X12_drawnBy cI cZ h_t h_t_w h_t_isKept h_t_text h_t_statuses h_t_ways h_t_feels h_t_next h_t_came h_t_deep h_t_sizes h_t_tableOf h_t_usedBy h_t_taken h_t_sixOf t_texted t_above t_below t_at t_start t_number t_went t_h t_w) (kR res (fun u => some (.int u))) := by
  refine metR_of (cc := cX12_drawnBy) (maxL := 8) (ret := (some .int)) (own := RX12) (lv0 := [(0, .ref h_t), (1, .int v1), (2, .int v2)]) (by decide) rfl (Nat.le_of_ble_eq_true rfl) rfl rfl (fun G X hR => ?_)
  replace hR := rt_int hR
  unfold f_X12_drawnBy at hf
  have J143 : ∀ (k5 : Int32 → Int32 → Int32 → Int32 → Option (Int32)) (hk5 : ∀ (v1 : Int32) (v2 : Int32) (v3 : Int32) (v4 : Int32), k5 v1 v2 v3 v4 = some res → G 0 0 (wd_X12_drawnBy cI cZ h_t h_t_w h_t_isKept h_t_text h_t_statuses h_t_ways h_t_feels h_t_next h_t_came h_t_deep h_t_sizes h_t_tableOf h_t_usedBy h_t_taken h_t_sixOf t_texted t_above t_below t_at t_start t_number t_went t_h t_w) [(0, .ref h_t), (1, .int v1), (2, .int v2), (3, .int v3), (4, .int v4)] 5 []) (k21 : Int32 → Int32 → Int32 → Int32 → Int32 → Option (Int32)) (hk21 : ∀ (v1 : Int32) (v2 : Int32) (v3 : Int32) (v4 : Int32) (v5 : Int32), k21 v1 v2 v3 v4 v5 = some res → G 0 0 (wd_X12_drawnBy cI cZ h_t h_t_w h_t_isKept h_t_text h_t_statuses h_t_ways h_t_feels h_t_next h_t_came h_t_deep h_t_sizes h_t_tableOf h_t_usedBy h_t_taken h_t_sixOf t_texted t_above t_below t_at t_start t_number t_went t_h t_w) [(0, .ref h_t), (1, .int v1), (2, .int v2), (3, .int v3), (4, .int v4), (5, .int v5)] 21 []) (v1 : Int32) (v2 : Int32) (v4 : Int32) (v5 : Int32) (s0 : Int32) (s1 : Int32), f_X12_drawnBy_143 t_w k5 k21 v1 v2 v4 v5 s0 s1 = some res → G 0 0 (wd_X12_drawnBy cI cZ h_t h_t_w h_t_isKept h_t_text h_t_statuses h_t_ways h_t_feels h_t_next h_t_came h_t_deep h_t_sizes h_t_tableOf h_t_usedBy h_t_taken h_t_sixOf t_texted t_above t_below t_at t_start t_number t_went t_h t_w) [(0, .ref h_t), (1, .int v1), (2, .int v2), (4, .int v4), (5, .int v5)] 143 [.int s1, .int s0] := by
    intro k5 hk5 k21 hk21 v1 v2 v4 v5 s0 s1 hf
    unfold f_X12_drawnBy_143 at hf
    refine g_iadd X dX12_drawnBy_143 ?_
    obtain ⟨v3_19, ev3_19, hf⟩ := bnd_out hf
    refine g_nmI X ev3_19 ?_
    refine g_istore_n (lv' := [(0, .ref h_t), (1, .int v1), (2, .int v2), (3, .int v3_19), (4, .int v4), (5, .int v5)]) X dX12_drawnBy_144 rfl (Nat.le_of_ble_eq_true rfl) [1, 2, 3, 0, 4, 5] rfl ?_
    obtain ⟨v5_20, ev5_20, hf⟩ := bnd_out hf
    refine g_iinc (v := v5_20) (lv' := [(0, .ref h_t), (1, .int v1), (2, .int v2), (3, .int v3_19), (4, .int v4), (5, .int v5_20)]) X dX12_drawnBy_145 5 rfl (by rw [ev5_20]; rfl) (Nat.le_of_ble_eq_true rfl) [1, 2, 3, 4, 5, 0] rfl ?_
    refine g_goto (tgt := 21) X dX12_drawnBy_148 (by decide) ?_
    exact hk21 v1 v2 v3_19 v4 v5_20 hf
  have J127 : ∀ (k5 : Int32 → Int32 → Int32 → Int32 → Option (Int32)) (hk5 : ∀ (v1 : Int32) (v2 : Int32) (v3 : Int32) (v4 : Int32), k5 v1 v2 v3 v4 = some res → G 0 0 (wd_X12_drawnBy cI cZ h_t h_t_w h_t_isKept h_t_text h_t_statuses h_t_ways h_t_feels h_t_next h_t_came h_t_deep h_t_sizes h_t_tableOf h_t_usedBy h_t_taken h_t_sixOf t_texted t_above t_below t_at t_start t_number t_went t_h t_w) [(0, .ref h_t), (1, .int v1), (2, .int v2), (3, .int v3), (4, .int v4)] 5 []) (k21 : Int32 → Int32 → Int32 → Int32 → Int32 → Option (Int32)) (hk21 : ∀ (v1 : Int32) (v2 : Int32) (v3 : Int32) (v4 : Int32) (v5 : Int32), k21 v1 v2 v3 v4 v5 = some res → G 0 0 (wd_X12_drawnBy cI cZ h_t h_t_w h_t_isKept h_t_text h_t_statuses h_t_ways h_t_feels h_t_next h_t_came h_t_deep h_t_sizes h_t_tableOf h_t_usedBy h_t_taken h_t_sixOf t_texted t_above t_below t_at t_start t_number t_went t_h t_w) [(0, .ref h_t), (1, .int v1), (2, .int v2), (3, .int v3), (4, .int v4), (5, .int v5)] 21 []) (v1 : Int32) (v2 : Int32) (v3 : Int32) (v4 : Int32) (v5 : Int32) (v6 : Int32) (s0 : Int32), f_X12_drawnBy_127 t_w k5 k21 v1 v2 v3 v4 v5 v6 s0 = some res → G 0 0 (wd_X12_drawnBy cI cZ h_t h_t_w h_t_isKept h_t_text h_t_statuses h_t_ways h_t_feels h_t_next h_t_came h_t_deep h_t_sizes h_t_tableOf h_t_usedBy h_t_taken h_t_sixOf t_texted t_above t_below t_at t_start t_number t_went t_h t_w) [(0, .ref h_t), (1, .int v1), (2, .int v2), (3, .int v3), (4, .int v4), (5, .int v5), (6, .int v6)] 127 [.int s0] := by
    intro k5 hk5 k21 hk21 v1 v2 v3 v4 v5 v6 s0 hf
    unfold f_X12_drawnBy_127 at hf
    refine g_istore (lv' := [(0, .ref h_t), (1, .int v1), (2, .int v2), (3, .int v3), (4, .int v4), (5, .int v5), (6, .int v6), (7, .int s0)]) X dX12_drawnBy_127 (Nat.le_of_ble_eq_true rfl) [1, 2, 3, 4, 5, 6, 7, 0] rfl ?_
    refine g_iload_n X dX12_drawnBy_129 rfl 3 rfl ?_
    refine g_iload X dX12_drawnBy_130 6 rfl ?_
    refine g_if_ge (tgt := 141) X dX12_drawnBy_132 (by decide) (fun hc_18 => ?_) (fun hc_18 => ?_)
    · replace hf := ite_t hc_18 hf
      refine g_iload X dX12_drawnBy_141 7 rfl ?_
      refine g_lv X (lv' := [(0, .ref h_t), (1, .int v1), (2, .int v2), (4, .int v4), (5, .int v5)]) [0, 1, 2, 4, 5] rfl ?_
      exact J143 k5 hk5 k21 hk21 v1 v2 v4 v5 v3 s0 hf
    · replace hf := ite_f hc_18 hf
      refine g_iload X dX12_drawnBy_135 7 rfl ?_
      refine g_ineg X dX12_drawnBy_137 ?_
      refine g_goto (tgt := 143) X dX12_drawnBy_138 (by decide) ?_
      refine g_lv X (lv' := [(0, .ref h_t), (1, .int v1), (2, .int v2), (4, .int v4), (5, .int v5)]) [0, 1, 2, 4, 5] rfl ?_
      exact J143 k5 hk5 k21 hk21 v1 v2 v4 v5 v3 (-s0) hf
  have J116 : ∀ (k5 : Int32 → Int32 → Int32 → Int32 → Option (Int32)) (hk5 : ∀ (v1 : Int32) (v2 : Int32) (v3 : Int32) (v4 : Int32), k5 v1 v2 v3 v4 = some res → G 0 0 (wd_X12_drawnBy cI cZ h_t h_t_w h_t_isKept h_t_text h_t_statuses h_t_ways h_t_feels h_t_next h_t_came h_t_deep h_t_sizes h_t_tableOf h_t_usedBy h_t_taken h_t_sixOf t_texted t_above t_below t_at t_start t_number t_went t_h t_w) [(0, .ref h_t), (1, .int v1), (2, .int v2), (3, .int v3), (4, .int v4)] 5 []) (k21 : Int32 → Int32 → Int32 → Int32 → Int32 → Option (Int32)) (hk21 : ∀ (v1 : Int32) (v2 : Int32) (v3 : Int32) (v4 : Int32) (v5 : Int32), k21 v1 v2 v3 v4 v5 = some res → G 0 0 (wd_X12_drawnBy cI cZ h_t h_t_w h_t_isKept h_t_text h_t_statuses h_t_ways h_t_feels h_t_next h_t_came h_t_deep h_t_sizes h_t_tableOf h_t_usedBy h_t_taken h_t_sixOf t_texted t_above t_below t_at t_start t_number t_went t_h t_w) [(0, .ref h_t), (1, .int v1), (2, .int v2), (3, .int v3), (4, .int v4), (5, .int v5)] 21 []) (v1 : Int32) (v2 : Int32) (v3 : Int32) (v4 : Int32) (v5 : Int32) (v6 : Int32) (s0 : Int32) (s1 : Int32) (s2 : Int32), f_X12_drawnBy_116 t_w k5 k21 v1 v2 v3 v4 v5 v6 s0 s1 s2 = some res → G 0 0 (wd_X12_drawnBy cI cZ h_t h_t_w h_t_isKept h_t_text h_t_statuses h_t_ways h_t_feels h_t_next h_t_came h_t_deep h_t_sizes h_t_tableOf h_t_usedBy h_t_taken h_t_sixOf t_texted t_above t_below t_at t_start t_number t_went t_h t_w) [(0, .ref h_t), (1, .int v1), (2, .int v2), (3, .int v3), (4, .int v4), (5, .int v5), (6, .int v6)] 116 [.int s2, .int s1, .int s0] := by
    intro k5 hk5 k21 hk21 v1 v2 v3 v4 v5 v6 s0 s1 s2 hf
    unfold f_X12_drawnBy_116 at hf
    refine g_aload_n X dX12_drawnBy_116 rfl 0 rfl ?_
    refine g_get (C := RX12) (T := TX12) (N := 22) (ci := 8) (v := (.ref h_t_w)) X iw_X12_drawnBy_X12 0 rfl rfl 0 (by decide) lk_X12_drawnBy_7 rfl dX12_drawnBy_117 ?_
    refine g_iload_n X dX12_drawnBy_120 rfl 1 rfl ?_
    refine g_iconst (v := 2) X dX12_drawnBy_121 (by decide) ?_
    refine g_iadd X dX12_drawnBy_122 ?_
    obtain ⟨hb_15, hf⟩ := chk_out hf
    refine g_iald X 1 rfl hb_15 dX12_drawnBy_123 ?_
    obtain ⟨r_16, hk_17, hf⟩ := ob1_out hf
    refine g_cSR (st := []) (st1 := [.int r_16]) X (c_X12_pullOf l D cI cZ s0 s1 s2 (t_w (v1 + 2).toNatClampNeg) _ hk_17) (Or.inl rfl) 4 gX12_drawnBy_X12_pullOf rfl hs_X12_pullOf ⟨Nat.le_of_ble_eq_true rfl, Nat.le_of_ble_eq_true rfl⟩ rfl rfl (Nat.le_of_ble_eq_true rfl) ⟨rfl, rfl⟩ (Nat.zero_le _) (Nat.zero_le _) dX12_drawnBy_124 [] rfl rfl rfl ?_
    exact J127 k5 hk5 k21 hk21 v1 v2 v3 v4 v5 v6 r_16 hf
  have J151 : ∀ (k5 : Int32 → Int32 → Int32 → Int32 → Option (Int32)) (hk5 : ∀ (v1 : Int32) (v2 : Int32) (v3 : Int32) (v4 : Int32), k5 v1 v2 v3 v4 = some res → G 0 0 (wd_X12_drawnBy cI cZ h_t h_t_w h_t_isKept h_t_text h_t_statuses h_t_ways h_t_feels h_t_next h_t_came h_t_deep h_t_sizes h_t_tableOf h_t_usedBy h_t_taken h_t_sixOf t_texted t_above t_below t_at t_start t_number t_went t_h t_w) [(0, .ref h_t), (1, .int v1), (2, .int v2), (3, .int v3), (4, .int v4)] 5 []) (v1 : Int32) (v2 : Int32) (v3 : Int32) (v4 : Int32), f_X12_drawnBy_151 t_w k5 v1 v2 v3 v4 = some res → G 0 0 (wd_X12_drawnBy cI cZ h_t h_t_w h_t_isKept h_t_text h_t_statuses h_t_ways h_t_feels h_t_next h_t_came h_t_deep h_t_sizes h_t_tableOf h_t_usedBy h_t_taken h_t_sixOf t_texted t_above t_below t_at t_start t_number t_went t_h t_w) [(0, .ref h_t), (1, .int v1), (2, .int v2), (3, .int v3), (4, .int v4)] 151 [] := by
    intro k5 hk5 v1 v2 v3 v4 hf
    unfold f_X12_drawnBy_151 at hf
    obtain ⟨v4_21, ev4_21, hf⟩ := bnd_out hf
    refine g_iinc (v := v4_21) (lv' := [(0, .ref h_t), (1, .int v1), (2, .int v2), (3, .int v3), (4, .int v4_21)]) X dX12_drawnBy_151 4 rfl (by rw [ev4_21]; rfl) (Nat.le_of_ble_eq_true rfl) [1, 2, 3, 4, 0] rfl ?_
    refine g_goto (tgt := 5) X dX12_drawnBy_154 (by decide) ?_
    exact hk5 v1 v2 v3 v4_21 hf
  have J21 : ∀ (k5 : Int32 → Int32 → Int32 → Int32 → Option (Int32)) (hk5 : ∀ (v1 : Int32) (v2 : Int32) (v3 : Int32) (v4 : Int32), k5 v1 v2 v3 v4 = some res → G 0 0 (wd_X12_drawnBy cI cZ h_t h_t_w h_t_isKept h_t_text h_t_statuses h_t_ways h_t_feels h_t_next h_t_came h_t_deep h_t_sizes h_t_tableOf h_t_usedBy h_t_taken h_t_sixOf t_texted t_above t_below t_at t_start t_number t_went t_h t_w) [(0, .ref h_t), (1, .int v1), (2, .int v2), (3, .int v3), (4, .int v4)] 5 []) (n : Nat) (v1 : Int32) (v2 : Int32) (v3 : Int32) (v4 : Int32) (v5 : Int32), f_X12_drawnBy_21 t_w k5 n v1 v2 v3 v4 v5 = some res → G 0 0 (wd_X12_drawnBy cI cZ h_t h_t_w h_t_isKept h_t_text h_t_statuses h_t_ways h_t_feels h_t_next h_t_came h_t_deep h_t_sizes h_t_tableOf h_t_usedBy h_t_taken h_t_sixOf t_texted t_above t_below t_at t_start t_number t_went t_h t_w) [(0, .ref h_t), (1, .int v1), (2, .int v2), (3, .int v3), (4, .int v4), (5, .int v5)] 21 [] := by
    intro k5 hk5 n
    induction n with
    | zero => intro v1 v2 v3 v4 v5 hf; rw [f_X12_drawnBy_21] at hf; cases hf
    | succ n ih =>
      intro v1 v2 v3 v4 v5 hf
      rw [f_X12_drawnBy_21] at hf
      refine g_iload X dX12_drawnBy_21 5 rfl ?_
      refine g_aload_n X dX12_drawnBy_23 rfl 0 rfl ?_
      refine g_get (C := RX12) (T := TX12) (N := 22) (ci := 8) (v := (.ref h_t_w)) X iw_X12_drawnBy_X12 0 rfl rfl 0 (by decide) lk_X12_drawnBy_7 rfl dX12_drawnBy_24 ?_
      refine g_iload_n X dX12_drawnBy_27 rfl 1 rfl ?_
      refine g_iconst (v := 1) X dX12_drawnBy_28 (by decide) ?_
      refine g_iadd X dX12_drawnBy_29 ?_
      obtain ⟨hb_3, hf⟩ := chk_out hf
      refine g_iald X 1 rfl hb_3 dX12_drawnBy_30 ?_
      refine g_icmp_ge (tgt := 151) X dX12_drawnBy_31 (by decide) (fun hc_4 => ?_) (fun hc_4 => ?_)
      · replace hf := ite_t hc_4 hf
        refine g_lv X (lv' := [(0, .ref h_t), (1, .int v1), (2, .int v2), (3, .int v3), (4, .int v4)]) [0, 1, 2, 3, 4] rfl ?_
        exact J151 k5 hk5 v1 v2 v3 v4 hf
      · replace hf := ite_f hc_4 hf
        refine g_iload_n X dX12_drawnBy_34 rfl 2 rfl ?_
        refine g_iload X dX12_drawnBy_35 4 rfl ?_
        obtain ⟨r_5, hk_6, hf⟩ := ob1_out hf
        refine g_cSR (st := []) (st1 := [.int r_5]) X (c_X12_has l D cI cZ v2 v4 _ hk_6) (Or.inl rfl) 2 gX12_drawnBy_X12_has rfl hs_X12_has ⟨Nat.le_of_ble_eq_true rfl, Nat.le_of_ble_eq_true rfl⟩ rfl rfl (Nat.le_of_ble_eq_true rfl) ⟨rfl, rfl⟩ (Nat.zero_le _) (Nat.zero_le _) dX12_drawnBy_37 [] rfl rfl rfl ?_
        refine g_if_eq (tgt := 151) X dX12_drawnBy_40 (by decide) (fun hc_7 => ?_) (fun hc_7 => ?_)
        · replace hf := ite_t hc_7 hf
          refine g_lv X (lv' := [(0, .ref h_t), (1, .int v1), (2, .int v2), (3, .int v3), (4, .int v4)]) [0, 1, 2, 3, 4] rfl ?_
          exact J151 k5 hk5 v1 v2 v3 v4 hf
        · replace hf := ite_f hc_7 hf
          refine g_aload_n X dX12_drawnBy_43 rfl 0 rfl ?_
          refine g_get (C := RX12) (T := TX12) (N := 22) (ci := 8) (v := (.ref h_t_w)) X iw_X12_drawnBy_X12 0 rfl rfl 0 (by decide) lk_X12_drawnBy_7 rfl dX12_drawnBy_44 ?_
          refine g_iload_n X dX12_drawnBy_47 rfl 1 rfl ?_
          refine g_bipush (v := 41) X dX12_drawnBy_48 (by decide) ?_
          refine g_iadd X dX12_drawnBy_50 ?_
          refine g_iload X dX12_drawnBy_51 5 rfl ?_
          refine g_iadd X dX12_drawnBy_53 ?_
          obtain ⟨hb_8, hf⟩ := chk_out hf
          refine g_iald X 1 rfl hb_8 dX12_drawnBy_54 ?_
          refine g_aload_n X dX12_drawnBy_55 rfl 0 rfl ?_
          refine g_get (C := RX12) (T := TX12) (N := 22) (ci := 8) (v := (.ref h_t_w)) X iw_X12_drawnBy_X12 0 rfl rfl 0 (by decide) lk_X12_drawnBy_7 rfl dX12_drawnBy_56 ?_
          refine g_iload_n X dX12_drawnBy_59 rfl 1 rfl ?_
          refine g_bipush (v := 17) X dX12_drawnBy_60 (by decide) ?_
          refine g_iadd X dX12_drawnBy_62 ?_
          refine g_iload X dX12_drawnBy_63 4 rfl ?_
          refine g_iadd X dX12_drawnBy_65 ?_
          obtain ⟨hb_9, hf⟩ := chk_out hf
          refine g_iald X 1 rfl hb_9 dX12_drawnBy_66 ?_
          refine g_isub X dX12_drawnBy_67 ?_
          obtain ⟨v6_10, ev6_10, hf⟩ := bnd_out hf
          refine g_nmI X ev6_10 ?_
          refine g_istore (lv' := [(0, .ref h_t), (1, .int v1), (2, .int v2), (3, .int v3), (4, .int v4), (5, .int v5), (6, .int v6_10)]) X dX12_drawnBy_68 (Nat.le_of_ble_eq_true rfl) [1, 2, 3, 4, 5, 6, 0] rfl ?_
          refine g_iload X dX12_drawnBy_70 6 rfl ?_
          refine g_if_ne (tgt := 79) X dX12_drawnBy_72 (by decide) (fun hc_11 => ?_) (fun hc_11 => ?_)
          · replace hf := ite_f hc_11 hf
            refine g_aload_n X dX12_drawnBy_79 rfl 0 rfl ?_
            refine g_get (C := RX12) (T := TX12) (N := 22) (ci := 8) (v := (.ref h_t_w)) X iw_X12_drawnBy_X12 0 rfl rfl 0 (by decide) lk_X12_drawnBy_7 rfl dX12_drawnBy_80 ?_
            refine g_iload_n X dX12_drawnBy_83 rfl 1 rfl ?_
            refine g_bipush (v := 38) X dX12_drawnBy_84 (by decide) ?_
            refine g_iadd X dX12_drawnBy_86 ?_
            refine g_iload X dX12_drawnBy_87 5 rfl ?_
            refine g_iadd X dX12_drawnBy_89 ?_
            obtain ⟨hb_12, hf⟩ := chk_out hf
            refine g_iald X 1 rfl hb_12 dX12_drawnBy_90 ?_
            refine g_aload_n X dX12_drawnBy_91 rfl 0 rfl ?_
            refine g_get (C := RX12) (T := TX12) (N := 22) (ci := 8) (v := (.ref h_t_w)) X iw_X12_drawnBy_X12 0 rfl rfl 0 (by decide) lk_X12_drawnBy_7 rfl dX12_drawnBy_92 ?_
            refine g_iload_n X dX12_drawnBy_95 rfl 1 rfl ?_
            refine g_bipush (v := 44) X dX12_drawnBy_96 (by decide) ?_
            refine g_iadd X dX12_drawnBy_98 ?_
            refine g_iload X dX12_drawnBy_99 5 rfl ?_
            refine g_iadd X dX12_drawnBy_101 ?_
            obtain ⟨hb_13, hf⟩ := chk_out hf
            refine g_iald X 1 rfl hb_13 dX12_drawnBy_102 ?_
            refine g_iload X dX12_drawnBy_103 6 rfl ?_
            refine g_if_ge (tgt := 114) X dX12_drawnBy_105 (by decide) (fun hc_14 => ?_) (fun hc_14 => ?_)
            · replace hf := ite_t hc_14 hf
              refine g_iload X dX12_drawnBy_114 6 rfl ?_
              exact J116 k5 hk5 (f_X12_drawnBy_21 t_w k5 n) ih v1 v2 v3 v4 v5 v6_10 (t_w ((v1 + 38) + v5).toNatClampNeg) (t_w ((v1 + 44) + v5).toNatClampNeg) v6_10 hf
            · replace hf := ite_f hc_14 hf
              refine g_iload X dX12_drawnBy_108 6 rfl ?_
              refine g_ineg X dX12_drawnBy_110 ?_
              refine g_goto (tgt := 116) X dX12_drawnBy_111 (by decide) ?_
              exact J116 k5 hk5 (f_X12_drawnBy_21 t_w k5 n) ih v1 v2 v3 v4 v5 v6_10 (t_w ((v1 + 38) + v5).toNatClampNeg) (t_w ((v1 + 44) + v5).toNatClampNeg) (-v6_10) hf
          · replace hf := ite_t hc_11 hf
            refine g_iconst (v := 0) X dX12_drawnBy_75 (by decide) ?_
            refine g_goto (tgt := 127) X dX12_drawnBy_76 (by decide) ?_
            exact J127 k5 hk5 (f_X12_drawnBy_21 t_w k5 n) ih v1 v2 v3 v4 v5 v6_10 0 hf
  have J5 : ∀ (n : Nat) (v1 : Int32) (v2 : Int32) (v3 : Int32) (v4 : Int32), f_X12_drawnBy_5 t_w n v1 v2 v3 v4 = some res → G 0 0 (wd_X12_drawnBy cI cZ h_t h_t_w h_t_isKept h_t_text h_t_statuses h_t_ways h_t_feels h_t_next h_t_came h_t_deep h_t_sizes h_t_tableOf h_t_usedBy h_t_taken h_t_sixOf t_texted t_above t_below t_at t_start t_number t_went t_h t_w) [(0, .ref h_t), (1, .int v1), (2, .int v2), (3, .int v3), (4, .int v4)] 5 [] := by
    intro n
    induction n with
    | zero => intro v1 v2 v3 v4 hf; rw [f_X12_drawnBy_5] at hf; cases hf
    | succ n ih =>
      intro v1 v2 v3 v4 hf
      rw [f_X12_drawnBy_5] at hf
      refine g_iload X dX12_drawnBy_5 4 rfl ?_
      refine g_aload_n X dX12_drawnBy_7 rfl 0 rfl ?_
      refine g_get (C := RX12) (T := TX12) (N := 22) (ci := 8) (v := (.ref h_t_w)) X iw_X12_drawnBy_X12 0 rfl rfl 0 (by decide) lk_X12_drawnBy_7 rfl dX12_drawnBy_8 ?_
      refine g_iload_n X dX12_drawnBy_11 rfl 1 rfl ?_
      refine g_iconst (v := 0) X dX12_drawnBy_12 (by decide) ?_
      refine g_iadd X dX12_drawnBy_13 ?_
      obtain ⟨hb_1, hf⟩ := chk_out hf
      refine g_iald X 1 rfl hb_1 dX12_drawnBy_14 ?_
      refine g_icmp_ge (tgt := 157) X dX12_drawnBy_15 (by decide) (fun hc_2 => ?_) (fun hc_2 => ?_)
      · replace hf := ite_t hc_2 hf
        refine g_iload_n X dX12_drawnBy_157 rfl 3 rfl ?_
        exact hR _ _ _ _ dX12_drawnBy_158 (kR_in (u := v3) hf)
      · replace hf := ite_f hc_2 hf
        refine g_iconst (v := 0) X dX12_drawnBy_18 (by decide) ?_
        refine g_istore (lv' := [(0, .ref h_t), (1, .int v1), (2, .int v2), (3, .int v3), (4, .int v4), (5, .int 0)]) X dX12_drawnBy_19 (Nat.le_of_ble_eq_true rfl) [1, 2, 3, 4, 5, 0] rfl ?_
        exact J21 (f_X12_drawnBy_5 t_w n) ih FU v1 v2 v3 v4 0 hf
  refine g_iconst (v := 0) X dX12_drawnBy_0 (by decide) ?_
  refine g_istore_n (lv' := [(0, .ref h_t), (1, .int v1), (2, .int v2), (3, .int 0)]) X dX12_drawnBy_1 rfl (Nat.le_of_ble_eq_true rfl) [1, 2, 3, 0] rfl ?_
  refine g_iconst (v := 0) X dX12_drawnBy_2 (by decide) ?_
  refine g_istore (lv' := [(0, .ref h_t), (1, .int v1), (2, .int v2), (3, .int 0), (4, .int 0)]) X dX12_drawnBy_3 (Nat.le_of_ble_eq_true rfl) [1, 2, 3, 4, 0] rfl ?_
  exact J5 FU v1 v2 0 0 hf
def wd_X12_weighs (cI cZ : ClassId) (h_t : Nat) (h_t_w : Nat) (h_t_isKept : Nat) (h_t_text : Nat) (h_t_statuses : Nat) (h_t_ways : Nat) (h_t_feels : Nat) (h_t_next : Nat) (h_t_came : Nat) (h_t_deep : Nat) (h_t_sizes : Nat) (h_t_tableOf : Nat) (h_t_usedBy : Nat) (h_t_taken : Nat) (h_t_sixOf : Nat) (t_texted : Int32) (t_above : Int64) (t_below : Int64) (t_at : Int32) (t_start : Int32) (t_number : Int32) (t_went : Int32) (t_h : Int64) (t_w : (Nat → Int32)) : va_W := [(h_t, .inr (8, [.ref h_t_w, .ref h_t_isKept, .ref h_t_text, .int t_texted, .long t_above, .long t_below, .ref h_t_statuses, .int t_at, .int t_start, .int t_number, .ref h_t_ways, .int t_went, .ref h_t_feels, .ref h_t_next, .ref h_t_came, .ref h_t_deep, .ref h_t_sizes, .ref h_t_tableOf, .ref h_t_usedBy, .ref h_t_taken, .ref h_t_sixOf, .long t_h])), (h_t_w, .inl (cI, 1251, .inl t_w))]
abbrev rm_X12_weighs : Room := { frames := 1, cells := 0, slots := 0, locals := 21 }
theorem hv_X12_weighs : yX12_weighs.cls = RX12 ∧ yX12_weighs.cls ≠ "java/lang/invoke/MethodHandle" ∧ yX12_weighs.cls ≠ "java/lang/invoke/VarHandle" ∧ (parseMethodDescriptor yX12_weighs.desc).map (fun d => d.parameters.length) = some 2 := by decide +kernel
theorem iw_X12_weighs_X12 : ∀ w ∈ u_ws RX12 TX12 22, w ∈ wsX12_weighs := by decide +kernel
theorem lk_X12_weighs_7 : Cond.fieldLink RX12 7 "ClerkChainsModel" "w" "[I" ∈ wsX12_weighs := by decide +kernel
set_option maxHeartbeats 4000000 in
set_option maxRecDepth 100000 in
theorem c_X12_weighs (l : Launch) (D : va_G) (cI cZ : ClassId) (h_t : Nat) (h_t_w : Nat) (h_t_isKept : Nat) (h_t_text : Nat) (h_t_statuses : Nat) (h_t_ways : Nat) (h_t_feels : Nat) (h_t_next : Nat) (h_t_came : Nat) (h_t_deep : Nat) (h_t_sizes : Nat) (h_t_tableOf : Nat) (h_t_usedBy : Nat) (h_t_taken : Nat) (h_t_sixOf : Nat) (t_texted : Int32) (t_above : Int64) (t_below : Int64) (t_at : Int32) (t_start : Int32) (t_number : Int32) (t_went : Int32) (t_h : Int64) (t_w : (Nat → Int32)) (v1 : Int32) (v2 : Int32) (res : Int32) (hf : f_X12_weighs t_w v1 v2 = some res) : MetR l yX12_weighs wsX12_weighs rm_X12_weighs D cI cZ none [.ref h_t, .int v1, .int v2] (wd_X12_weighs cI cZ h_t h_t_w h_t_isKept h_t_text h_t_statuses h_t_ways h_t_feels h_t_next h_t_came h_t_deep h_t_sizes h_t_tableOf h_t_usedBy h_t_taken h_t_sixOf t_texted t_above t_below t_at t_start t_number t_went t_h t_w) (kR res (fun u => some (.int u))) := by
  refine metR_of (cc := cX12_weighs) (maxL := 5) (ret := (some .int)) (own := RX12) (lv0 := [(0, .ref h_t), (1, .int v1), (2, .int v2)]) (by decide) rfl (Nat.le_of_ble_eq_true rfl) rfl rfl (fun G X hR => ?_)
  replace hR := rt_int hR
  unfold f_X12_weighs at hf
  have J44 : ∀ (k5 : Int32 → Int32 → Int32 → Int32 → Option (Int32)) (hk5 : ∀ (v1 : Int32) (v2 : Int32) (v3 : Int32) (v4 : Int32), k5 v1 v2 v3 v4 = some res → G 0 0 (wd_X12_weighs cI cZ h_t h_t_w h_t_isKept h_t_text h_t_statuses h_t_ways h_t_feels h_t_next h_t_came h_t_deep h_t_sizes h_t_tableOf h_t_usedBy h_t_taken h_t_sixOf t_texted t_above t_below t_at t_start t_number t_went t_h t_w) [(0, .ref h_t), (1, .int v1), (2, .int v2), (3, .int v3), (4, .int v4)] 5 []) (v1 : Int32) (v2 : Int32) (v4 : Int32) (s0 : Int32) (s1 : Int32), f_X12_weighs_44 t_w k5 v1 v2 v4 s0 s1 = some res → G 0 0 (wd_X12_weighs cI cZ h_t h_t_w h_t_isKept h_t_text h_t_statuses h_t_ways h_t_feels h_t_next h_t_came h_t_deep h_t_sizes h_t_tableOf h_t_usedBy h_t_taken h_t_sixOf t_texted t_above t_below t_at t_start t_number t_went t_h t_w) [(0, .ref h_t), (1, .int v1), (2, .int v2), (4, .int v4)] 44 [.int s1, .int s0] := by
    intro k5 hk5 v1 v2 v4 s0 s1 hf
    unfold f_X12_weighs_44 at hf
    refine g_iadd X dX12_weighs_44 ?_
    obtain ⟨v3_7, ev3_7, hf⟩ := bnd_out hf
    refine g_nmI X ev3_7 ?_
    refine g_istore_n (lv' := [(0, .ref h_t), (1, .int v1), (2, .int v2), (3, .int v3_7), (4, .int v4)]) X dX12_weighs_45 rfl (Nat.le_of_ble_eq_true rfl) [1, 2, 3, 0, 4] rfl ?_
    obtain ⟨v4_8, ev4_8, hf⟩ := bnd_out hf
    refine g_iinc (v := v4_8) (lv' := [(0, .ref h_t), (1, .int v1), (2, .int v2), (3, .int v3_7), (4, .int v4_8)]) X dX12_weighs_46 4 rfl (by rw [ev4_8]; rfl) (Nat.le_of_ble_eq_true rfl) [1, 2, 3, 4, 0] rfl ?_
    refine g_goto (tgt := 5) X dX12_weighs_49 (by decide) ?_
    exact hk5 v1 v2 v3_7 v4_8 hf
  have J5 : ∀ (n : Nat) (v1 : Int32) (v2 : Int32) (v3 : Int32) (v4 : Int32), f_X12_weighs_5 t_w n v1 v2 v3 v4 = some res → G 0 0 (wd_X12_weighs cI cZ h_t h_t_w h_t_isKept h_t_text h_t_statuses h_t_ways h_t_feels h_t_next h_t_came h_t_deep h_t_sizes h_t_tableOf h_t_usedBy h_t_taken h_t_sixOf t_texted t_above t_below t_at t_start t_number t_went t_h t_w) [(0, .ref h_t), (1, .int v1), (2, .int v2), (3, .int v3), (4, .int v4)] 5 [] := by
    intro n
    induction n with
    | zero => intro v1 v2 v3 v4 hf; rw [f_X12_weighs_5] at hf; cases hf
    | succ n ih =>
      intro v1 v2 v3 v4 hf
      rw [f_X12_weighs_5] at hf
      refine g_iload X dX12_weighs_5 4 rfl ?_
      refine g_aload_n X dX12_weighs_7 rfl 0 rfl ?_
      refine g_get (C := RX12) (T := TX12) (N := 22) (ci := 8) (v := (.ref h_t_w)) X iw_X12_weighs_X12 0 rfl rfl 0 (by decide) lk_X12_weighs_7 rfl dX12_weighs_8 ?_
      refine g_iload_n X dX12_weighs_11 rfl 1 rfl ?_
      refine g_iconst (v := 0) X dX12_weighs_12 (by decide) ?_
      refine g_iadd X dX12_weighs_13 ?_
      obtain ⟨hb_1, hf⟩ := chk_out hf
      refine g_iald X 1 rfl hb_1 dX12_weighs_14 ?_
      refine g_icmp_ge (tgt := 52) X dX12_weighs_15 (by decide) (fun hc_2 => ?_) (fun hc_2 => ?_)
      · replace hf := ite_t hc_2 hf
        refine g_iload_n X dX12_weighs_52 rfl 3 rfl ?_
        exact hR _ _ _ _ dX12_weighs_53 (kR_in (u := v3) hf)
      · replace hf := ite_f hc_2 hf
        refine g_iload_n X dX12_weighs_18 rfl 3 rfl ?_
        refine g_iload_n X dX12_weighs_19 rfl 2 rfl ?_
        refine g_iload X dX12_weighs_20 4 rfl ?_
        obtain ⟨r_3, hk_4, hf⟩ := ob1_out hf
        refine g_cSR (st := [.int v3]) (st1 := [.int r_3, .int v3]) X (c_X12_has l D cI cZ v2 v4 _ hk_4) (Or.inl rfl) 2 gX12_weighs_X12_has rfl hs_X12_has ⟨Nat.le_of_ble_eq_true rfl, Nat.le_of_ble_eq_true rfl⟩ rfl rfl (Nat.le_of_ble_eq_true rfl) ⟨rfl, rfl⟩ (Nat.zero_le _) (Nat.zero_le _) dX12_weighs_22 [] rfl rfl rfl ?_
        refine g_if_eq (tgt := 43) X dX12_weighs_25 (by decide) (fun hc_5 => ?_) (fun hc_5 => ?_)
        · replace hf := ite_t hc_5 hf
          refine g_iconst (v := 0) X dX12_weighs_43 (by decide) ?_
          refine g_lv X (lv' := [(0, .ref h_t), (1, .int v1), (2, .int v2), (4, .int v4)]) [0, 1, 2, 4] rfl ?_
          exact J44 (f_X12_weighs_5 t_w n) ih v1 v2 v4 v3 0 hf
        · replace hf := ite_f hc_5 hf
          refine g_aload_n X dX12_weighs_28 rfl 0 rfl ?_
          refine g_get (C := RX12) (T := TX12) (N := 22) (ci := 8) (v := (.ref h_t_w)) X iw_X12_weighs_X12 0 rfl rfl 0 (by decide) lk_X12_weighs_7 rfl dX12_weighs_29 ?_
          refine g_iload_n X dX12_weighs_32 rfl 1 rfl ?_
          refine g_bipush (v := 10) X dX12_weighs_33 (by decide) ?_
          refine g_iadd X dX12_weighs_35 ?_
          refine g_iload X dX12_weighs_36 4 rfl ?_
          refine g_iadd X dX12_weighs_38 ?_
          obtain ⟨hb_6, hf⟩ := chk_out hf
          refine g_iald X 1 rfl hb_6 dX12_weighs_39 ?_
          refine g_goto (tgt := 44) X dX12_weighs_40 (by decide) ?_
          refine g_lv X (lv' := [(0, .ref h_t), (1, .int v1), (2, .int v2), (4, .int v4)]) [0, 1, 2, 4] rfl ?_
          exact J44 (f_X12_weighs_5 t_w n) ih v1 v2 v4 v3 (t_w ((v1 + 10) + v4).toNatClampNeg) hf
  refine g_iconst (v := 0) X dX12_weighs_0 (by decide) ?_
  refine g_istore_n (lv' := [(0, .ref h_t), (1, .int v1), (2, .int v2), (3, .int 0)]) X dX12_weighs_1 rfl (Nat.le_of_ble_eq_true rfl) [1, 2, 3, 0] rfl ?_
  refine g_iconst (v := 0) X dX12_weighs_2 (by decide) ?_
  refine g_istore (lv' := [(0, .ref h_t), (1, .int v1), (2, .int v2), (3, .int 0), (4, .int 0)]) X dX12_weighs_3 (Nat.le_of_ble_eq_true rfl) [1, 2, 3, 4, 0] rfl ?_
  exact J5 FU v1 v2 0 0 hf
def wd_X12_wayOf (cI cZ : ClassId) (h_t : Nat) (h_t_w : Nat) (h_t_isKept : Nat) (h_t_text : Nat) (h_t_statuses : Nat) (h_t_ways : Nat) (h_t_feels : Nat) (h_t_next : Nat) (h_t_came : Nat) (h_t_deep : Nat) (h_t_sizes : Nat) (h_t_tableOf : Nat) (h_t_usedBy : Nat) (h_t_taken : Nat) (h_t_sixOf : Nat) (t_texted : Int32) (t_above : Int64) (t_below : Int64) (t_at : Int32) (t_start : Int32) (t_number : Int32) (t_went : Int32) (t_h : Int64) (t_w : (Nat → Int32)) : va_W := [(h_t, .inr (8, [.ref h_t_w, .ref h_t_isKept, .ref h_t_text, .int t_texted, .long t_above, .long t_below, .ref h_t_statuses, .int t_at, .int t_start, .int t_number, .ref h_t_ways, .int t_went, .ref h_t_feels, .ref h_t_next, .ref h_t_came, .ref h_t_deep, .ref h_t_sizes, .ref h_t_tableOf, .ref h_t_usedBy, .ref h_t_taken, .ref h_t_sixOf, .long t_h])), (h_t_w, .inl (cI, 1251, .inl t_w))]
abbrev rm_X12_wayOf : Room := { frames := 4, cells := 0, slots := 0, locals := 92 }
theorem hv_X12_wayOf : yX12_wayOf.cls = RX12 ∧ yX12_wayOf.cls ≠ "java/lang/invoke/MethodHandle" ∧ yX12_wayOf.cls ≠ "java/lang/invoke/VarHandle" ∧ (parseMethodDescriptor yX12_wayOf.desc).map (fun d => d.parameters.length) = some 2 := by decide +kernel
theorem iw_X12_wayOf_X12 : ∀ w ∈ u_ws RX12 TX12 22, w ∈ wsX12_wayOf := by decide +kernel
theorem lk_X12_wayOf_7 : Cond.fieldLink RX12 7 "ClerkChainsModel" "w" "[I" ∈ wsX12_wayOf := by decide +kernel
theorem lk_X12_wayOf_84 : Cond.constantLong RX12 84 11 ∈ wsX12_wayOf := by decide +kernel
set_option maxHeartbeats 4000000 in
set_option maxRecDepth 100000 in
theorem c_X12_wayOf (l : Launch) (D : va_G) (cI cZ : ClassId) (h_t : Nat) (h_t_w : Nat) (h_t_isKept : Nat) (h_t_text : Nat) (h_t_statuses : Nat) (h_t_ways : Nat) (h_t_feels : Nat) (h_t_next : Nat) (h_t_came : Nat) (h_t_deep : Nat) (h_t_sizes : Nat) (h_t_tableOf : Nat) (h_t_usedBy : Nat) (h_t_taken : Nat) (h_t_sixOf : Nat) (t_texted : Int32) (t_above : Int64) (t_below : Int64) (t_at : Int32) (t_start : Int32) (t_number : Int32) (t_went : Int32) (t_h : Int64) (t_w : (Nat → Int32)) (v1 : Int32) (v2 : Int32) (res : Int32) (hf : f_X12_wayOf t_w v1 v2 = some res) : MetR l yX12_wayOf wsX12_wayOf rm_X12_wayOf D cI cZ none [.ref h_t, .int v1, .int v2] (wd_X12_wayOf cI cZ h_t h_t_w h_t_isKept h_t_text h_t_statuses h_t_ways h_t_feels h_t_next h_t_came h_t_deep h_t_sizes h_t_tableOf h_t_usedBy h_t_taken h_t_sixOf t_texted t_above t_below t_at t_start t_number t_went t_h t_w) (kR res (fun u => some (.int u))) := by
  refine metR_of (cc := cX12_wayOf) (maxL := 8) (ret := (some .int)) (own := RX12) (lv0 := [(0, .ref h_t), (1, .int v1), (2, .int v2)]) (by decide) rfl (Nat.le_of_ble_eq_true rfl) rfl rfl (fun G X hR => ?_)
  replace hR := rt_int hR
  unfold f_X12_wayOf at hf
  have J103 : ∀ (k45 : Int32 → Int32 → Int32 → Int32 → Int32 → Option (Int32)) (hk45 : ∀ (v1 : Int32) (v2 : Int32) (v5 : Int32) (v6 : Int32) (v7 : Int32), k45 v1 v2 v5 v6 v7 = some res → G 0 0 (wd_X12_wayOf cI cZ h_t h_t_w h_t_isKept h_t_text h_t_statuses h_t_ways h_t_feels h_t_next h_t_came h_t_deep h_t_sizes h_t_tableOf h_t_usedBy h_t_taken h_t_sixOf t_texted t_above t_below t_at t_start t_number t_went t_h t_w) [(0, .ref h_t), (1, .int v1), (2, .int v2), (5, .int v5), (6, .int v6), (7, .int v7)] 45 []) (v1 : Int32) (v2 : Int32) (v5 : Int32) (v7 : Int32) (s0 : Int32), f_X12_wayOf_103 t_w k45 v1 v2 v5 v7 s0 = some res → G 0 0 (wd_X12_wayOf cI cZ h_t h_t_w h_t_isKept h_t_text h_t_statuses h_t_ways h_t_feels h_t_next h_t_came h_t_deep h_t_sizes h_t_tableOf h_t_usedBy h_t_taken h_t_sixOf t_texted t_above t_below t_at t_start t_number t_went t_h t_w) [(0, .ref h_t), (1, .int v1), (2, .int v2), (5, .int v5), (7, .int v7)] 103 [.int s0] := by
    intro k45 hk45 v1 v2 v5 v7 s0 hf
    unfold f_X12_wayOf_103 at hf
    refine g_istore (lv' := [(0, .ref h_t), (1, .int v1), (2, .int v2), (5, .int v5), (6, .int s0), (7, .int v7)]) X dX12_wayOf_103 (Nat.le_of_ble_eq_true rfl) [1, 2, 3, 4, 0, 5] rfl ?_
    obtain ⟨v7_11, ev7_11, hf⟩ := bnd_out hf
    refine g_iinc (v := v7_11) (lv' := [(0, .ref h_t), (1, .int v1), (2, .int v2), (5, .int v5), (6, .int s0), (7, .int v7_11)]) X dX12_wayOf_105 5 rfl (by rw [ev7_11]; rfl) (Nat.le_of_ble_eq_true rfl) [1, 2, 3, 4, 5, 0] rfl ?_
    refine g_goto (tgt := 45) X dX12_wayOf_108 (by decide) ?_
    exact hk45 v1 v2 v5 s0 v7_11 hf
  have J98 : ∀ (k45 : Int32 → Int32 → Int32 → Int32 → Int32 → Option (Int32)) (hk45 : ∀ (v1 : Int32) (v2 : Int32) (v5 : Int32) (v6 : Int32) (v7 : Int32), k45 v1 v2 v5 v6 v7 = some res → G 0 0 (wd_X12_wayOf cI cZ h_t h_t_w h_t_isKept h_t_text h_t_statuses h_t_ways h_t_feels h_t_next h_t_came h_t_deep h_t_sizes h_t_tableOf h_t_usedBy h_t_taken h_t_sixOf t_texted t_above t_below t_at t_start t_number t_went t_h t_w) [(0, .ref h_t), (1, .int v1), (2, .int v2), (5, .int v5), (6, .int v6), (7, .int v7)] 45 []) (v1 : Int32) (v2 : Int32) (v5 : Int32) (v7 : Int32), f_X12_wayOf_98 t_w k45 v1 v2 v5 v7 = some res → G 0 0 (wd_X12_wayOf cI cZ h_t h_t_w h_t_isKept h_t_text h_t_statuses h_t_ways h_t_feels h_t_next h_t_came h_t_deep h_t_sizes h_t_tableOf h_t_usedBy h_t_taken h_t_sixOf t_texted t_above t_below t_at t_start t_number t_went t_h t_w) [(0, .ref h_t), (1, .int v1), (2, .int v2), (5, .int v5), (7, .int v7)] 98 [] := by
    intro k45 hk45 v1 v2 v5 v7 hf
    unfold f_X12_wayOf_98 at hf
    refine g_iconst (v := 1) X dX12_wayOf_98 (by decide) ?_
    refine g_goto (tgt := 103) X dX12_wayOf_99 (by decide) ?_
    exact J103 k45 hk45 v1 v2 v5 v7 1 hf
  have J102 : ∀ (k45 : Int32 → Int32 → Int32 → Int32 → Int32 → Option (Int32)) (hk45 : ∀ (v1 : Int32) (v2 : Int32) (v5 : Int32) (v6 : Int32) (v7 : Int32), k45 v1 v2 v5 v6 v7 = some res → G 0 0 (wd_X12_wayOf cI cZ h_t h_t_w h_t_isKept h_t_text h_t_statuses h_t_ways h_t_feels h_t_next h_t_came h_t_deep h_t_sizes h_t_tableOf h_t_usedBy h_t_taken h_t_sixOf t_texted t_above t_below t_at t_start t_number t_went t_h t_w) [(0, .ref h_t), (1, .int v1), (2, .int v2), (5, .int v5), (6, .int v6), (7, .int v7)] 45 []) (v1 : Int32) (v2 : Int32) (v5 : Int32) (v7 : Int32), f_X12_wayOf_102 t_w k45 v1 v2 v5 v7 = some res → G 0 0 (wd_X12_wayOf cI cZ h_t h_t_w h_t_isKept h_t_text h_t_statuses h_t_ways h_t_feels h_t_next h_t_came h_t_deep h_t_sizes h_t_tableOf h_t_usedBy h_t_taken h_t_sixOf t_texted t_above t_below t_at t_start t_number t_went t_h t_w) [(0, .ref h_t), (1, .int v1), (2, .int v2), (5, .int v5), (7, .int v7)] 102 [] := by
    intro k45 hk45 v1 v2 v5 v7 hf
    unfold f_X12_wayOf_102 at hf
    refine g_iconst (v := 0) X dX12_wayOf_102 (by decide) ?_
    exact J103 k45 hk45 v1 v2 v5 v7 0 hf
  have J111 : ∀ (v5 : Int32) (v6 : Int32), f_X12_wayOf_111 t_w v5 v6 = some res → G 0 0 (wd_X12_wayOf cI cZ h_t h_t_w h_t_isKept h_t_text h_t_statuses h_t_ways h_t_feels h_t_next h_t_came h_t_deep h_t_sizes h_t_tableOf h_t_usedBy h_t_taken h_t_sixOf t_texted t_above t_below t_at t_start t_number t_went t_h t_w) [(5, .int v5), (6, .int v6)] 111 [] := by
    intro v5 v6 hf
    unfold f_X12_wayOf_111 at hf
    refine g_iload X dX12_wayOf_111 1 rfl ?_
    refine g_if_eq (tgt := 121) X dX12_wayOf_113 (by decide) (fun hc_12 => ?_) (fun hc_12 => ?_)
    · replace hf := ite_t hc_12 hf
      refine g_iconst (v := 0) X dX12_wayOf_121 (by decide) ?_
      exact hR _ _ _ _ dX12_wayOf_122 (kR_in (u := 0) hf)
    · replace hf := ite_f hc_12 hf
      refine g_iload X dX12_wayOf_116 0 rfl ?_
      refine g_goto (tgt := 122) X dX12_wayOf_118 (by decide) ?_
      exact hR _ _ _ _ dX12_wayOf_122 (kR_in (u := v5) hf)
  have J45 : ∀ (n : Nat) (v1 : Int32) (v2 : Int32) (v5 : Int32) (v6 : Int32) (v7 : Int32), f_X12_wayOf_45 t_w n v1 v2 v5 v6 v7 = some res → G 0 0 (wd_X12_wayOf cI cZ h_t h_t_w h_t_isKept h_t_text h_t_statuses h_t_ways h_t_feels h_t_next h_t_came h_t_deep h_t_sizes h_t_tableOf h_t_usedBy h_t_taken h_t_sixOf t_texted t_above t_below t_at t_start t_number t_went t_h t_w) [(0, .ref h_t), (1, .int v1), (2, .int v2), (5, .int v5), (6, .int v6), (7, .int v7)] 45 [] := by
    intro n
    induction n with
    | zero => intro v1 v2 v5 v6 v7 hf; rw [f_X12_wayOf_45] at hf; cases hf
    | succ n ih =>
      intro v1 v2 v5 v6 v7 hf
      rw [f_X12_wayOf_45] at hf
      refine g_iload X dX12_wayOf_45 5 rfl ?_
      refine g_aload_n X dX12_wayOf_47 rfl 0 rfl ?_
      refine g_get (C := RX12) (T := TX12) (N := 22) (ci := 8) (v := (.ref h_t_w)) X iw_X12_wayOf_X12 0 rfl rfl 0 (by decide) lk_X12_wayOf_7 rfl dX12_wayOf_48 ?_
      refine g_iload_n X dX12_wayOf_51 rfl 1 rfl ?_
      refine g_iconst (v := 0) X dX12_wayOf_52 (by decide) ?_
      refine g_iadd X dX12_wayOf_53 ?_
      obtain ⟨hb_1, hf⟩ := chk_out hf
      refine g_iald X 1 rfl hb_1 dX12_wayOf_54 ?_
      refine g_icmp_ge (tgt := 111) X dX12_wayOf_55 (by decide) (fun hc_2 => ?_) (fun hc_2 => ?_)
      · replace hf := ite_t hc_2 hf
        refine g_lv X (lv' := [(5, .int v5), (6, .int v6)]) [3, 4] rfl ?_
        exact J111 v5 v6 hf
      · replace hf := ite_f hc_2 hf
        refine g_iload X dX12_wayOf_58 4 rfl ?_
        refine g_if_eq (tgt := 102) X dX12_wayOf_60 (by decide) (fun hc_3 => ?_) (fun hc_3 => ?_)
        · replace hf := ite_t hc_3 hf
          refine g_lv X (lv' := [(0, .ref h_t), (1, .int v1), (2, .int v2), (5, .int v5), (7, .int v7)]) [0, 1, 2, 3, 5] rfl ?_
          exact J102 (f_X12_wayOf_45 t_w n) ih v1 v2 v5 v7 hf
        · replace hf := ite_f hc_3 hf
          refine g_iload_n X dX12_wayOf_63 rfl 2 rfl ?_
          refine g_iload X dX12_wayOf_64 5 rfl ?_
          obtain ⟨r_4, hk_5, hf⟩ := ob1_out hf
          refine g_cSR (st := []) (st1 := [.int r_4]) X (c_X12_has l D cI cZ v2 v7 _ hk_5) (Or.inl rfl) 2 gX12_wayOf_X12_has rfl hs_X12_has ⟨Nat.le_of_ble_eq_true rfl, Nat.le_of_ble_eq_true rfl⟩ rfl rfl (Nat.le_of_ble_eq_true rfl) ⟨rfl, rfl⟩ (Nat.zero_le _) (Nat.zero_le _) dX12_wayOf_66 [] rfl rfl rfl ?_
          refine g_if_eq (tgt := 98) X dX12_wayOf_69 (by decide) (fun hc_6 => ?_) (fun hc_6 => ?_)
          · replace hf := ite_t hc_6 hf
            refine g_lv X (lv' := [(0, .ref h_t), (1, .int v1), (2, .int v2), (5, .int v5), (7, .int v7)]) [0, 1, 2, 3, 5] rfl ?_
            exact J98 (f_X12_wayOf_45 t_w n) ih v1 v2 v5 v7 hf
          · replace hf := ite_f hc_6 hf
            refine g_aload_n X dX12_wayOf_72 rfl 0 rfl ?_
            refine g_get (C := RX12) (T := TX12) (N := 22) (ci := 8) (v := (.ref h_t_w)) X iw_X12_wayOf_X12 0 rfl rfl 0 (by decide) lk_X12_wayOf_7 rfl dX12_wayOf_73 ?_
            refine g_iload_n X dX12_wayOf_76 rfl 1 rfl ?_
            refine g_bipush (v := 17) X dX12_wayOf_77 (by decide) ?_
            refine g_iadd X dX12_wayOf_79 ?_
            refine g_iload X dX12_wayOf_80 5 rfl ?_
            refine g_iadd X dX12_wayOf_82 ?_
            obtain ⟨hb_7, hf⟩ := chk_out hf
            refine g_iald X 1 rfl hb_7 dX12_wayOf_83 ?_
            refine g_iload X dX12_wayOf_84 3 rfl ?_
            refine g_iadd X dX12_wayOf_86 ?_
            refine g_i2l X dX12_wayOf_87 ?_
            refine g_lconst (v := 0) X dX12_wayOf_88 (by decide) ?_
            refine g_ldc2 (v := 11) X dX12_wayOf_89 lk_X12_wayOf_84 ?_
            obtain ⟨r_8, hk_9, hf⟩ := ob1_out hf
            refine g_cSR (st := []) (st1 := [.int r_8]) X (c_X12_in l D cI cZ (((t_w ((v1 + 17) + v7).toNatClampNeg) + v5).toInt64) 0 11 _ hk_9) (Or.inl rfl) 3 gX12_wayOf_X12_in rfl hs_X12_in ⟨Nat.le_of_ble_eq_true rfl, Nat.le_of_ble_eq_true rfl⟩ rfl rfl (Nat.le_of_ble_eq_true rfl) ⟨rfl, rfl⟩ (Nat.zero_le _) (Nat.zero_le _) dX12_wayOf_92 [] rfl rfl rfl ?_
            refine g_if_eq (tgt := 102) X dX12_wayOf_95 (by decide) (fun hc_10 => ?_) (fun hc_10 => ?_)
            · replace hf := ite_t hc_10 hf
              refine g_lv X (lv' := [(0, .ref h_t), (1, .int v1), (2, .int v2), (5, .int v5), (7, .int v7)]) [0, 1, 2, 3, 5] rfl ?_
              exact J102 (f_X12_wayOf_45 t_w n) ih v1 v2 v5 v7 hf
            · replace hf := ite_f hc_10 hf
              refine g_lv X (lv' := [(0, .ref h_t), (1, .int v1), (2, .int v2), (5, .int v5), (7, .int v7)]) [0, 1, 2, 3, 5] rfl ?_
              exact J98 (f_X12_wayOf_45 t_w n) ih v1 v2 v5 v7 hf
  have J37 : ∀ (v1 : Int32) (v2 : Int32) (s0 : Int32), f_X12_wayOf_37 t_w v1 v2 s0 = some res → G 0 0 (wd_X12_wayOf cI cZ h_t h_t_w h_t_isKept h_t_text h_t_statuses h_t_ways h_t_feels h_t_next h_t_came h_t_deep h_t_sizes h_t_tableOf h_t_usedBy h_t_taken h_t_sixOf t_texted t_above t_below t_at t_start t_number t_went t_h t_w) [(0, .ref h_t), (1, .int v1), (2, .int v2)] 37 [.int s0] := by
    intro v1 v2 s0 hf
    unfold f_X12_wayOf_37 at hf
    refine g_istore (lv' := [(0, .ref h_t), (1, .int v1), (2, .int v2), (5, .int s0)]) X dX12_wayOf_37 (Nat.le_of_ble_eq_true rfl) [1, 2, 3, 0] rfl ?_
    refine g_iconst (v := 1) X dX12_wayOf_39 (by decide) ?_
    refine g_istore (lv' := [(0, .ref h_t), (1, .int v1), (2, .int v2), (5, .int s0), (6, .int 1)]) X dX12_wayOf_40 (Nat.le_of_ble_eq_true rfl) [1, 2, 3, 4, 0] rfl ?_
    refine g_iconst (v := 0) X dX12_wayOf_42 (by decide) ?_
    refine g_istore (lv' := [(0, .ref h_t), (1, .int v1), (2, .int v2), (5, .int s0), (6, .int 1), (7, .int 0)]) X dX12_wayOf_43 (Nat.le_of_ble_eq_true rfl) [1, 2, 3, 4, 5, 0] rfl ?_
    exact J45 FU v1 v2 s0 1 0 hf
  refine g_aload_n X dX12_wayOf_0 rfl 0 rfl ?_
  refine g_iload_n X dX12_wayOf_1 rfl 1 rfl ?_
  refine g_iload_n X dX12_wayOf_2 rfl 2 rfl ?_
  obtain ⟨r_13, hk_14, hf⟩ := ob1_out hf
  refine g_cVR (st := []) (st1 := [.int r_13]) (C := RX12) (ci := 8) (q0 := 0) X (c_X12_drawnBy l D cI cZ h_t h_t_w h_t_isKept h_t_text h_t_statuses h_t_ways h_t_feels h_t_next h_t_came h_t_deep h_t_sizes h_t_tableOf h_t_usedBy h_t_taken h_t_sixOf t_texted t_above t_below t_at t_start t_number t_went t_h t_w v1 v2 _ hk_14) (Or.inl rfl) 2 gX12_wayOf_X12_drawnBy rfl hv_X12_drawnBy ⟨Nat.le_of_ble_eq_true rfl, Nat.le_of_ble_eq_true rfl⟩ rfl rfl (Nat.le_of_ble_eq_true rfl) ⟨rfl, rfl⟩ (Nat.zero_le _) (Nat.zero_le _) rfl rfl rfl dX12_wayOf_3 [0, 1] rfl rfl rfl ?_
  refine g_istore_n (lv' := [(0, .ref h_t), (1, .int v1), (2, .int v2), (3, .int r_13)]) X dX12_wayOf_6 rfl (Nat.le_of_ble_eq_true rfl) [1, 2, 3, 0] rfl ?_
  refine g_aload_n X dX12_wayOf_7 rfl 0 rfl ?_
  refine g_iload_n X dX12_wayOf_8 rfl 1 rfl ?_
  refine g_iload_n X dX12_wayOf_9 rfl 2 rfl ?_
  obtain ⟨r_15, hk_16, hf⟩ := ob1_out hf
  refine g_cVR (st := []) (st1 := [.int r_15]) (C := RX12) (ci := 8) (q0 := 0) X (c_X12_weighs l D cI cZ h_t h_t_w h_t_isKept h_t_text h_t_statuses h_t_ways h_t_feels h_t_next h_t_came h_t_deep h_t_sizes h_t_tableOf h_t_usedBy h_t_taken h_t_sixOf t_texted t_above t_below t_at t_start t_number t_went t_h t_w v1 v2 _ hk_16) (Or.inl rfl) 2 gX12_wayOf_X12_weighs rfl hv_X12_weighs ⟨Nat.le_of_ble_eq_true rfl, Nat.le_of_ble_eq_true rfl⟩ rfl rfl (Nat.le_of_ble_eq_true rfl) ⟨rfl, rfl⟩ (Nat.zero_le _) (Nat.zero_le _) rfl rfl rfl dX12_wayOf_10 [0, 1] rfl rfl rfl ?_
  refine g_istore (lv' := [(0, .ref h_t), (1, .int v1), (2, .int v2), (3, .int r_13), (4, .int r_15)]) X dX12_wayOf_13 (Nat.le_of_ble_eq_true rfl) [1, 2, 3, 4, 0] rfl ?_
  refine g_iload_n X dX12_wayOf_15 rfl 3 rfl ?_
  refine g_iload X dX12_wayOf_16 4 rfl ?_
  refine g_icmp_lt (tgt := 25) X dX12_wayOf_18 (by decide) (fun hc_17 => ?_) (fun hc_17 => ?_)
  · replace hf := ite_t hc_17 hf
    refine g_iload_n X dX12_wayOf_25 rfl 3 rfl ?_
    refine g_iload X dX12_wayOf_26 4 rfl ?_
    refine g_ineg X dX12_wayOf_28 ?_
    refine g_icmp_gt (tgt := 36) X dX12_wayOf_29 (by decide) (fun hc_18 => ?_) (fun hc_18 => ?_)
    · replace hf := ite_t hc_18 hf
      refine g_iconst (v := 0) X dX12_wayOf_36 (by decide) ?_
      refine g_lv X (lv' := [(0, .ref h_t), (1, .int v1), (2, .int v2)]) [0, 1, 2] rfl ?_
      exact J37 v1 v2 0 hf
    · replace hf := ite_f hc_18 hf
      refine g_iconst (v := (-1)) X dX12_wayOf_32 (by decide) ?_
      refine g_goto (tgt := 37) X dX12_wayOf_33 (by decide) ?_
      refine g_lv X (lv' := [(0, .ref h_t), (1, .int v1), (2, .int v2)]) [0, 1, 2] rfl ?_
      exact J37 v1 v2 (-1) hf
  · replace hf := ite_f hc_17 hf
    refine g_iconst (v := 1) X dX12_wayOf_21 (by decide) ?_
    refine g_goto (tgt := 37) X dX12_wayOf_22 (by decide) ?_
    refine g_lv X (lv' := [(0, .ref h_t), (1, .int v1), (2, .int v2)]) [0, 1, 2] rfl ?_
    exact J37 v1 v2 1 hf
def wd_X12_passes (cI cZ : ClassId) (h_t : Nat) (h_t_w : Nat) (h_t_isKept : Nat) (h_t_text : Nat) (h_t_statuses : Nat) (h_t_ways : Nat) (h_t_feels : Nat) (h_t_next : Nat) (h_t_came : Nat) (h_t_deep : Nat) (h_t_sizes : Nat) (h_t_tableOf : Nat) (h_t_usedBy : Nat) (h_t_taken : Nat) (h_t_sixOf : Nat) (t_texted : Int32) (t_above : Int64) (t_below : Int64) (t_at : Int32) (t_start : Int32) (t_number : Int32) (t_went : Int32) (t_h : Int64) (t_w : (Nat → Int32)) (t_ways : (Nat → Int32)) : va_W := [(h_t, .inr (8, [.ref h_t_w, .ref h_t_isKept, .ref h_t_text, .int t_texted, .long t_above, .long t_below, .ref h_t_statuses, .int t_at, .int t_start, .int t_number, .ref h_t_ways, .int t_went, .ref h_t_feels, .ref h_t_next, .ref h_t_came, .ref h_t_deep, .ref h_t_sizes, .ref h_t_tableOf, .ref h_t_usedBy, .ref h_t_taken, .ref h_t_sixOf, .long t_h])), (h_t_w, .inl (cI, 1251, .inl t_w)), (h_t_ways, .inl (cI, 7, .inl t_ways))]
abbrev rm_X12_passes : Room := { frames := 5, cells := 0, slots := 0, locals := 119 }
theorem hv_X12_passes : yX12_passes.cls = RX12 ∧ yX12_passes.cls ≠ "java/lang/invoke/MethodHandle" ∧ yX12_passes.cls ≠ "java/lang/invoke/VarHandle" ∧ (parseMethodDescriptor yX12_passes.desc).map (fun d => d.parameters.length) = some 1 := by decide +kernel
theorem iw_X12_passes_X12 : ∀ w ∈ u_ws RX12 TX12 22, w ∈ wsX12_passes := by decide +kernel
theorem lk_X12_passes_7 : Cond.fieldLink RX12 7 "ClerkChainsModel" "w" "[I" ∈ wsX12_passes := by decide +kernel
theorem lk_X12_passes_30 : Cond.fieldLink RX12 30 "ClerkChainsModel" "ways" "[I" ∈ wsX12_passes := by decide +kernel
theorem lk_X12_passes_197 : Cond.fieldLink RX12 197 "ClerkChainsModel" "went" "I" ∈ wsX12_passes := by decide +kernel
set_option maxHeartbeats 4000000 in
set_option maxRecDepth 100000 in
theorem c_X12_passes (l : Launch) (D : va_G) (cI cZ : ClassId) (h_t : Nat) (h_t_w : Nat) (h_t_isKept : Nat) (h_t_text : Nat) (h_t_statuses : Nat) (h_t_ways : Nat) (h_t_feels : Nat) (h_t_next : Nat) (h_t_came : Nat) (h_t_deep : Nat) (h_t_sizes : Nat) (h_t_tableOf : Nat) (h_t_usedBy : Nat) (h_t_taken : Nat) (h_t_sixOf : Nat) (t_texted : Int32) (t_above : Int64) (t_below : Int64) (t_at : Int32) (t_start : Int32) (t_number : Int32) (t_went : Int32) (t_h : Int64) (t_w : (Nat → Int32)) (t_ways : (Nat → Int32)) (v1 : Int32) (res : Int32 × (Nat → Int32) × (Nat → Int32)) (hf : f_X12_passes t_went t_w t_ways v1 = some res) : MetG l yX12_passes wsX12_passes rm_X12_passes D cI cZ none [.ref h_t, .int v1] (wd_X12_passes cI cZ h_t h_t_w h_t_isKept h_t_text h_t_statuses h_t_ways h_t_feels h_t_next h_t_came h_t_deep h_t_sizes h_t_tableOf h_t_usedBy h_t_taken h_t_sixOf t_texted t_above t_below t_at t_start t_number t_went t_h t_w t_ways) (kV res (fun _ => none) (fun u => (wd_X12_passes cI cZ h_t h_t_w h_t_isKept h_t_text h_t_statuses h_t_ways h_t_feels h_t_next h_t_came h_t_deep h_t_sizes h_t_tableOf h_t_usedBy h_t_taken h_t_sixOf t_texted t_above t_below t_at t_start t_number (u.1) t_h (u.2.1) (u.2.2)))) := by
  refine metG_of (cc := cX12_passes) (maxL := 3) (ret := none) (own := RX12) (lv0 := [(0, .ref h_t), (1, .int v1)]) (ini := false) (by decide) rfl (Nat.le_of_ble_eq_true rfl) rfl rfl (fun h => by cases h) (fun G X hR => ?_)
  replace hR := rt_void hR
  unfold f_X12_passes at hf
  have J65 : ∀ (k7 : Int32 → (Nat → Int32) → (Nat → Int32) → Int32 → Int32 → Option (Int32 × (Nat → Int32) × (Nat → Int32))) (hk7 : ∀ (t_went : Int32) (t_w : (Nat → Int32)) (t_ways : (Nat → Int32)) (v1 : Int32) (v2 : Int32), k7 t_went t_w t_ways v1 v2 = some res → G 0 0 (wd_X12_passes cI cZ h_t h_t_w h_t_isKept h_t_text h_t_statuses h_t_ways h_t_feels h_t_next h_t_came h_t_deep h_t_sizes h_t_tableOf h_t_usedBy h_t_taken h_t_sixOf t_texted t_above t_below t_at t_start t_number t_went t_h t_w t_ways) [(0, .ref h_t), (1, .int v1), (2, .int v2)] 7 []) (t_went : Int32) (t_w : (Nat → Int32)) (t_ways : (Nat → Int32)) (v1 : Int32) (v2 : Int32) (s1 : Int32) (s2 : Int32), f_X12_passes_65 k7 t_went t_w t_ways v1 v2 s1 s2 = some res → G 0 0 (wd_X12_passes cI cZ h_t h_t_w h_t_isKept h_t_text h_t_statuses h_t_ways h_t_feels h_t_next h_t_came h_t_deep h_t_sizes h_t_tableOf h_t_usedBy h_t_taken h_t_sixOf t_texted t_above t_below t_at t_start t_number t_went t_h t_w t_ways) [(0, .ref h_t), (1, .int v1), (2, .int v2)] 65 [.int s2, .int s1, .ref h_t] := by
    intro k7 hk7 t_went t_w t_ways v1 v2 s1 s2 hf
    unfold f_X12_passes_65 at hf
    refine g_iadd X dX12_passes_65 ?_
    obtain ⟨t_went_14, et_went_14, hf⟩ := bnd_out hf
    refine g_nmI X et_went_14 ?_
    refine g_put (C := RX12) (T := TX12) (N := 22) (ci := 8) (v := .int t_went_14) (ws' := (wd_X12_passes cI cZ h_t h_t_w h_t_isKept h_t_text h_t_statuses h_t_ways h_t_feels h_t_next h_t_came h_t_deep h_t_sizes h_t_tableOf h_t_usedBy h_t_taken h_t_sixOf t_texted t_above t_below t_at t_start t_number t_went_14 t_h t_w t_ways)) X iw_X12_passes_X12 tyX12 tyX12_ok nmX12 0 rfl rfl 11 (by decide) lk_X12_passes_197 rfl (tyX12_ok 11 (by decide)) rfl rfl (Nat.le_of_ble_eq_true rfl) dX12_passes_66 rfl ?_
    obtain ⟨v2_15, ev2_15, hf⟩ := bnd_out hf
    refine g_iinc (v := v2_15) (lv' := [(0, .ref h_t), (1, .int v1), (2, .int v2_15)]) X dX12_passes_69 2 rfl (by rw [ev2_15]; rfl) (Nat.le_of_ble_eq_true rfl) [1, 2, 0] rfl ?_
    refine g_goto (tgt := 7) X dX12_passes_72 (by decide) ?_
    exact hk7 t_went_14 t_w t_ways v1 v2_15 hf
  have J64 : ∀ (k7 : Int32 → (Nat → Int32) → (Nat → Int32) → Int32 → Int32 → Option (Int32 × (Nat → Int32) × (Nat → Int32))) (hk7 : ∀ (t_went : Int32) (t_w : (Nat → Int32)) (t_ways : (Nat → Int32)) (v1 : Int32) (v2 : Int32), k7 t_went t_w t_ways v1 v2 = some res → G 0 0 (wd_X12_passes cI cZ h_t h_t_w h_t_isKept h_t_text h_t_statuses h_t_ways h_t_feels h_t_next h_t_came h_t_deep h_t_sizes h_t_tableOf h_t_usedBy h_t_taken h_t_sixOf t_texted t_above t_below t_at t_start t_number t_went t_h t_w t_ways) [(0, .ref h_t), (1, .int v1), (2, .int v2)] 7 []) (t_went : Int32) (t_w : (Nat → Int32)) (t_ways : (Nat → Int32)) (v1 : Int32) (v2 : Int32) (s1 : Int32), f_X12_passes_64 k7 t_went t_w t_ways v1 v2 s1 = some res → G 0 0 (wd_X12_passes cI cZ h_t h_t_w h_t_isKept h_t_text h_t_statuses h_t_ways h_t_feels h_t_next h_t_came h_t_deep h_t_sizes h_t_tableOf h_t_usedBy h_t_taken h_t_sixOf t_texted t_above t_below t_at t_start t_number t_went t_h t_w t_ways) [(0, .ref h_t), (1, .int v1), (2, .int v2)] 64 [.int s1, .ref h_t] := by
    intro k7 hk7 t_went t_w t_ways v1 v2 s1 hf
    unfold f_X12_passes_64 at hf
    refine g_iconst (v := 0) X dX12_passes_64 (by decide) ?_
    exact J65 k7 hk7 t_went t_w t_ways v1 v2 s1 0 hf
  have J166 : ∀ (k77 : Int32 → (Nat → Int32) → (Nat → Int32) → Int32 → Int32 → Option (Int32 × (Nat → Int32) × (Nat → Int32))) (hk77 : ∀ (t_went : Int32) (t_w : (Nat → Int32)) (t_ways : (Nat → Int32)) (v1 : Int32) (v2 : Int32), k77 t_went t_w t_ways v1 v2 = some res → G 0 0 (wd_X12_passes cI cZ h_t h_t_w h_t_isKept h_t_text h_t_statuses h_t_ways h_t_feels h_t_next h_t_came h_t_deep h_t_sizes h_t_tableOf h_t_usedBy h_t_taken h_t_sixOf t_texted t_above t_below t_at t_start t_number t_went t_h t_w t_ways) [(0, .ref h_t), (1, .int v1), (2, .int v2)] 77 []) (t_went : Int32) (t_w : (Nat → Int32)) (t_ways : (Nat → Int32)) (v1 : Int32) (v2 : Int32) (s1 : Int32) (s2 : Int32), f_X12_passes_166 k77 t_went t_w t_ways v1 v2 s1 s2 = some res → G 0 0 (wd_X12_passes cI cZ h_t h_t_w h_t_isKept h_t_text h_t_statuses h_t_ways h_t_feels h_t_next h_t_came h_t_deep h_t_sizes h_t_tableOf h_t_usedBy h_t_taken h_t_sixOf t_texted t_above t_below t_at t_start t_number t_went t_h t_w t_ways) [(0, .ref h_t), (1, .int v1), (2, .int v2)] 166 [.int s2, .int s1, .ref h_t_w] := by
    intro k77 hk77 t_went t_w t_ways v1 v2 s1 s2 hf
    unfold f_X12_passes_166 at hf
    obtain ⟨hb_27, hf⟩ := chk_out hf
    obtain ⟨t_w_28, et_w_28, hf⟩ := bnd_out hf
    refine g_iast (ws' := (wd_X12_passes cI cZ h_t h_t_w h_t_isKept h_t_text h_t_statuses h_t_ways h_t_feels h_t_next h_t_came h_t_deep h_t_sizes h_t_tableOf h_t_usedBy h_t_taken h_t_sixOf t_texted t_above t_below t_at t_start t_number t_went t_h t_w_28 t_ways)) X 1 rfl hb_27 et_w_28 dX12_passes_166 rfl ?_
    obtain ⟨v2_29, ev2_29, hf⟩ := bnd_out hf
    refine g_iinc (v := v2_29) (lv' := [(0, .ref h_t), (1, .int v1), (2, .int v2_29)]) X dX12_passes_167 2 rfl (by rw [ev2_29]; rfl) (Nat.le_of_ble_eq_true rfl) [1, 2, 0] rfl ?_
    refine g_goto (tgt := 77) X dX12_passes_170 (by decide) ?_
    exact hk77 t_went t_w_28 t_ways v1 v2_29 hf
  have J173 : ∀ (t_went : Int32) (t_w : (Nat → Int32)) (t_ways : (Nat → Int32)) (v1 : Int32), f_X12_passes_173 t_went t_w t_ways v1 = some res → G 0 0 (wd_X12_passes cI cZ h_t h_t_w h_t_isKept h_t_text h_t_statuses h_t_ways h_t_feels h_t_next h_t_came h_t_deep h_t_sizes h_t_tableOf h_t_usedBy h_t_taken h_t_sixOf t_texted t_above t_below t_at t_start t_number t_went t_h t_w t_ways) [(0, .ref h_t), (1, .int v1)] 173 [] := by
    intro t_went t_w t_ways v1 hf
    unfold f_X12_passes_173 at hf
    refine g_aload_n X dX12_passes_173 rfl 0 rfl ?_
    refine g_get (C := RX12) (T := TX12) (N := 22) (ci := 8) (v := (.ref h_t_w)) X iw_X12_passes_X12 0 rfl rfl 0 (by decide) lk_X12_passes_7 rfl dX12_passes_174 ?_
    refine g_iload_n X dX12_passes_177 rfl 1 rfl ?_
    refine g_iconst (v := 2) X dX12_passes_178 (by decide) ?_
    refine g_iadd X dX12_passes_179 ?_
    refine g_dup2_11 X dX12_passes_180 rfl rfl ?_
    obtain ⟨hb_30, hf⟩ := chk_out hf
    refine g_iald X 1 rfl hb_30 dX12_passes_181 ?_
    refine g_iconst (v := 1) X dX12_passes_182 (by decide) ?_
    refine g_iadd X dX12_passes_183 ?_
    obtain ⟨hb_31, hf⟩ := chk_out hf
    obtain ⟨t_w_32, et_w_32, hf⟩ := bnd_out hf
    refine g_iast (ws' := (wd_X12_passes cI cZ h_t h_t_w h_t_isKept h_t_text h_t_statuses h_t_ways h_t_feels h_t_next h_t_came h_t_deep h_t_sizes h_t_tableOf h_t_usedBy h_t_taken h_t_sixOf t_texted t_above t_below t_at t_start t_number t_went t_h t_w_32 t_ways)) X 1 rfl hb_31 et_w_32 dX12_passes_184 rfl ?_
    exact hR _ _ _ dX12_passes_185 (kV_in (u := (t_went, t_w_32, t_ways)) hf)
  have J77 : ∀ (n : Nat) (t_went : Int32) (t_w : (Nat → Int32)) (t_ways : (Nat → Int32)) (v1 : Int32) (v2 : Int32), f_X12_passes_77 n t_went t_w t_ways v1 v2 = some res → G 0 0 (wd_X12_passes cI cZ h_t h_t_w h_t_isKept h_t_text h_t_statuses h_t_ways h_t_feels h_t_next h_t_came h_t_deep h_t_sizes h_t_tableOf h_t_usedBy h_t_taken h_t_sixOf t_texted t_above t_below t_at t_start t_number t_went t_h t_w t_ways) [(0, .ref h_t), (1, .int v1), (2, .int v2)] 77 [] := by
    intro n
    induction n with
    | zero => intro t_went t_w t_ways v1 v2 hf; rw [f_X12_passes_77] at hf; cases hf
    | succ n ih =>
      intro t_went t_w t_ways v1 v2 hf
      rw [f_X12_passes_77] at hf
      refine g_iload_n X dX12_passes_77 rfl 2 rfl ?_
      refine g_aload_n X dX12_passes_78 rfl 0 rfl ?_
      refine g_get (C := RX12) (T := TX12) (N := 22) (ci := 8) (v := (.ref h_t_w)) X iw_X12_passes_X12 0 rfl rfl 0 (by decide) lk_X12_passes_7 rfl dX12_passes_79 ?_
      refine g_iload_n X dX12_passes_82 rfl 1 rfl ?_
      refine g_iconst (v := 0) X dX12_passes_83 (by decide) ?_
      refine g_iadd X dX12_passes_84 ?_
      obtain ⟨hb_16, hf⟩ := chk_out hf
      refine g_iald X 1 rfl hb_16 dX12_passes_85 ?_
      refine g_icmp_ge (tgt := 173) X dX12_passes_86 (by decide) (fun hc_17 => ?_) (fun hc_17 => ?_)
      · replace hf := ite_t hc_17 hf
        refine g_lv X (lv' := [(0, .ref h_t), (1, .int v1)]) [0, 1] rfl ?_
        exact J173 t_went t_w t_ways v1 hf
      · replace hf := ite_f hc_17 hf
        refine g_aload_n X dX12_passes_89 rfl 0 rfl ?_
        refine g_get (C := RX12) (T := TX12) (N := 22) (ci := 8) (v := (.ref h_t_w)) X iw_X12_passes_X12 0 rfl rfl 0 (by decide) lk_X12_passes_7 rfl dX12_passes_90 ?_
        refine g_iload_n X dX12_passes_93 rfl 1 rfl ?_
        refine g_bipush (v := 17) X dX12_passes_94 (by decide) ?_
        refine g_iadd X dX12_passes_96 ?_
        refine g_iload_n X dX12_passes_97 rfl 2 rfl ?_
        refine g_iadd X dX12_passes_98 ?_
        refine g_dup2_11 X dX12_passes_99 rfl rfl ?_
        obtain ⟨hb_18, hf⟩ := chk_out hf
        refine g_iald X 1 rfl hb_18 dX12_passes_100 ?_
        refine g_aload_n X dX12_passes_101 rfl 0 rfl ?_
        refine g_get (C := RX12) (T := TX12) (N := 22) (ci := 8) (v := (.ref h_t_ways)) X iw_X12_passes_X12 0 rfl rfl 10 (by decide) lk_X12_passes_30 rfl dX12_passes_102 ?_
        refine g_iload_n X dX12_passes_105 rfl 2 rfl ?_
        obtain ⟨hb_19, hf⟩ := chk_out hf
        refine g_iald X 2 rfl hb_19 dX12_passes_106 ?_
        refine g_iadd X dX12_passes_107 ?_
        obtain ⟨hb_20, hf⟩ := chk_out hf
        obtain ⟨t_w_21, et_w_21, hf⟩ := bnd_out hf
        refine g_iast (ws' := (wd_X12_passes cI cZ h_t h_t_w h_t_isKept h_t_text h_t_statuses h_t_ways h_t_feels h_t_next h_t_came h_t_deep h_t_sizes h_t_tableOf h_t_usedBy h_t_taken h_t_sixOf t_texted t_above t_below t_at t_start t_number t_went t_h t_w_21 t_ways)) X 1 rfl hb_20 et_w_21 dX12_passes_108 rfl ?_
        refine g_aload_n X dX12_passes_109 rfl 0 rfl ?_
        refine g_get (C := RX12) (T := TX12) (N := 22) (ci := 8) (v := (.ref h_t_w)) X iw_X12_passes_X12 0 rfl rfl 0 (by decide) lk_X12_passes_7 rfl dX12_passes_110 ?_
        refine g_iload_n X dX12_passes_113 rfl 1 rfl ?_
        refine g_bipush (v := 24) X dX12_passes_114 (by decide) ?_
        refine g_iadd X dX12_passes_116 ?_
        refine g_iload_n X dX12_passes_117 rfl 2 rfl ?_
        refine g_iadd X dX12_passes_118 ?_
        refine g_aload_n X dX12_passes_119 rfl 0 rfl ?_
        refine g_get (C := RX12) (T := TX12) (N := 22) (ci := 8) (v := (.ref h_t_ways)) X iw_X12_passes_X12 0 rfl rfl 10 (by decide) lk_X12_passes_30 rfl dX12_passes_120 ?_
        refine g_iload_n X dX12_passes_123 rfl 2 rfl ?_
        obtain ⟨hb_22, hf⟩ := chk_out hf
        refine g_iald X 2 rfl hb_22 dX12_passes_124 ?_
        refine g_if_eq (tgt := 132) X dX12_passes_125 (by decide) (fun hc_23 => ?_) (fun hc_23 => ?_)
        · replace hf := ite_t hc_23 hf
          refine g_aload_n X dX12_passes_132 rfl 0 rfl ?_
          refine g_get (C := RX12) (T := TX12) (N := 22) (ci := 8) (v := (.ref h_t_w)) X iw_X12_passes_X12 0 rfl rfl 0 (by decide) lk_X12_passes_7 rfl dX12_passes_133 ?_
          refine g_iload_n X dX12_passes_136 rfl 1 rfl ?_
          refine g_bipush (v := 24) X dX12_passes_137 (by decide) ?_
          refine g_iadd X dX12_passes_139 ?_
          refine g_iload_n X dX12_passes_140 rfl 2 rfl ?_
          refine g_iadd X dX12_passes_141 ?_
          obtain ⟨hb_24, hf⟩ := chk_out hf
          refine g_iald X 1 rfl hb_24 dX12_passes_142 ?_
          refine g_bipush (v := 99) X dX12_passes_143 (by decide) ?_
          refine g_icmp_ge (tgt := 164) X dX12_passes_145 (by decide) (fun hc_25 => ?_) (fun hc_25 => ?_)
          · replace hf := ite_t hc_25 hf
            refine g_bipush (v := 99) X dX12_passes_164 (by decide) ?_
            exact J166 (f_X12_passes_77 n) ih t_went t_w_21 t_ways v1 v2 ((v1 + 24) + v2) 99 hf
          · replace hf := ite_f hc_25 hf
            refine g_aload_n X dX12_passes_148 rfl 0 rfl ?_
            refine g_get (C := RX12) (T := TX12) (N := 22) (ci := 8) (v := (.ref h_t_w)) X iw_X12_passes_X12 0 rfl rfl 0 (by decide) lk_X12_passes_7 rfl dX12_passes_149 ?_
            refine g_iload_n X dX12_passes_152 rfl 1 rfl ?_
            refine g_bipush (v := 24) X dX12_passes_153 (by decide) ?_
            refine g_iadd X dX12_passes_155 ?_
            refine g_iload_n X dX12_passes_156 rfl 2 rfl ?_
            refine g_iadd X dX12_passes_157 ?_
            obtain ⟨hb_26, hf⟩ := chk_out hf
            refine g_iald X 1 rfl hb_26 dX12_passes_158 ?_
            refine g_iconst (v := 1) X dX12_passes_159 (by decide) ?_
            refine g_iadd X dX12_passes_160 ?_
            refine g_goto (tgt := 166) X dX12_passes_161 (by decide) ?_
            exact J166 (f_X12_passes_77 n) ih t_went t_w_21 t_ways v1 v2 ((v1 + 24) + v2) ((t_w_21 ((v1 + 24) + v2).toNatClampNeg) + 1) hf
        · replace hf := ite_f hc_23 hf
          refine g_iconst (v := 0) X dX12_passes_128 (by decide) ?_
          refine g_goto (tgt := 166) X dX12_passes_129 (by decide) ?_
          exact J166 (f_X12_passes_77 n) ih t_went t_w_21 t_ways v1 v2 ((v1 + 24) + v2) 0 hf
  have J75 : ∀ (t_went : Int32) (t_w : (Nat → Int32)) (t_ways : (Nat → Int32)) (v1 : Int32), f_X12_passes_75 t_went t_w t_ways v1 = some res → G 0 0 (wd_X12_passes cI cZ h_t h_t_w h_t_isKept h_t_text h_t_statuses h_t_ways h_t_feels h_t_next h_t_came h_t_deep h_t_sizes h_t_tableOf h_t_usedBy h_t_taken h_t_sixOf t_texted t_above t_below t_at t_start t_number t_went t_h t_w t_ways) [(0, .ref h_t), (1, .int v1)] 75 [] := by
    intro t_went t_w t_ways v1 hf
    unfold f_X12_passes_75 at hf
    refine g_iconst (v := 0) X dX12_passes_75 (by decide) ?_
    refine g_istore_n (lv' := [(0, .ref h_t), (1, .int v1), (2, .int 0)]) X dX12_passes_76 rfl (Nat.le_of_ble_eq_true rfl) [1, 2, 0] rfl ?_
    exact J77 FU t_went t_w t_ways v1 0 hf
  have J7 : ∀ (n : Nat) (t_went : Int32) (t_w : (Nat → Int32)) (t_ways : (Nat → Int32)) (v1 : Int32) (v2 : Int32), f_X12_passes_7 n t_went t_w t_ways v1 v2 = some res → G 0 0 (wd_X12_passes cI cZ h_t h_t_w h_t_isKept h_t_text h_t_statuses h_t_ways h_t_feels h_t_next h_t_came h_t_deep h_t_sizes h_t_tableOf h_t_usedBy h_t_taken h_t_sixOf t_texted t_above t_below t_at t_start t_number t_went t_h t_w t_ways) [(0, .ref h_t), (1, .int v1), (2, .int v2)] 7 [] := by
    intro n
    induction n with
    | zero => intro t_went t_w t_ways v1 v2 hf; rw [f_X12_passes_7] at hf; cases hf
    | succ n ih =>
      intro t_went t_w t_ways v1 v2 hf
      rw [f_X12_passes_7] at hf
      refine g_iload_n X dX12_passes_7 rfl 2 rfl ?_
      refine g_aload_n X dX12_passes_8 rfl 0 rfl ?_
      refine g_get (C := RX12) (T := TX12) (N := 22) (ci := 8) (v := (.ref h_t_w)) X iw_X12_passes_X12 0 rfl rfl 0 (by decide) lk_X12_passes_7 rfl dX12_passes_9 ?_
      refine g_iload_n X dX12_passes_12 rfl 1 rfl ?_
      refine g_iconst (v := 0) X dX12_passes_13 (by decide) ?_
      refine g_iadd X dX12_passes_14 ?_
      obtain ⟨hb_1, hf⟩ := chk_out hf
      refine g_iald X 1 rfl hb_1 dX12_passes_15 ?_
      refine g_icmp_ge (tgt := 75) X dX12_passes_16 (by decide) (fun hc_2 => ?_) (fun hc_2 => ?_)
      · replace hf := ite_t hc_2 hf
        refine g_lv X (lv' := [(0, .ref h_t), (1, .int v1)]) [0, 1] rfl ?_
        exact J75 t_went t_w t_ways v1 hf
      · replace hf := ite_f hc_2 hf
        refine g_aload_n X dX12_passes_19 rfl 0 rfl ?_
        refine g_get (C := RX12) (T := TX12) (N := 22) (ci := 8) (v := (.ref h_t_ways)) X iw_X12_passes_X12 0 rfl rfl 10 (by decide) lk_X12_passes_30 rfl dX12_passes_20 ?_
        refine g_iload_n X dX12_passes_23 rfl 2 rfl ?_
        refine g_aload_n X dX12_passes_24 rfl 0 rfl ?_
        refine g_iload_n X dX12_passes_25 rfl 1 rfl ?_
        refine g_aload_n X dX12_passes_26 rfl 0 rfl ?_
        refine g_iload_n X dX12_passes_27 rfl 1 rfl ?_
        refine g_iload_n X dX12_passes_28 rfl 2 rfl ?_
        obtain ⟨r_3, hk_4, hf⟩ := ob1_out hf
        refine g_cVR (st := [.int v1, .ref h_t, .int v2, .ref h_t_ways]) (st1 := [.int r_3, .int v1, .ref h_t, .int v2, .ref h_t_ways]) (C := RX12) (ci := 8) (q0 := 0) X (c_X12_stringOf l D cI cZ h_t h_t_w h_t_isKept h_t_text h_t_statuses h_t_ways h_t_feels h_t_next h_t_came h_t_deep h_t_sizes h_t_tableOf h_t_usedBy h_t_taken h_t_sixOf t_texted t_above t_below t_at t_start t_number t_went t_h t_w v1 v2 _ hk_4) (Or.inl rfl) 2 gX12_passes_X12_stringOf rfl hv_X12_stringOf ⟨Nat.le_of_ble_eq_true rfl, Nat.le_of_ble_eq_true rfl⟩ rfl rfl (Nat.le_of_ble_eq_true rfl) ⟨rfl, rfl⟩ (Nat.zero_le _) (Nat.zero_le _) rfl rfl rfl dX12_passes_29 [0, 1] rfl rfl rfl ?_
        obtain ⟨r_5, hk_6, hf⟩ := ob1_out hf
        refine g_cVR (st := [.int v2, .ref h_t_ways]) (st1 := [.int r_5, .int v2, .ref h_t_ways]) (C := RX12) (ci := 8) (q0 := 0) X (c_X12_wayOf l D cI cZ h_t h_t_w h_t_isKept h_t_text h_t_statuses h_t_ways h_t_feels h_t_next h_t_came h_t_deep h_t_sizes h_t_tableOf h_t_usedBy h_t_taken h_t_sixOf t_texted t_above t_below t_at t_start t_number t_went t_h t_w v1 r_3 _ hk_6) (Or.inl rfl) 2 gX12_passes_X12_wayOf rfl hv_X12_wayOf ⟨Nat.le_of_ble_eq_true rfl, Nat.le_of_ble_eq_true rfl⟩ rfl rfl (Nat.le_of_ble_eq_true rfl) ⟨rfl, rfl⟩ (Nat.zero_le _) (Nat.zero_le _) rfl rfl rfl dX12_passes_32 [0, 1] rfl rfl rfl ?_
        obtain ⟨hb_7, hf⟩ := chk_out hf
        obtain ⟨t_ways_8, et_ways_8, hf⟩ := bnd_out hf
        refine g_iast (ws' := (wd_X12_passes cI cZ h_t h_t_w h_t_isKept h_t_text h_t_statuses h_t_ways h_t_feels h_t_next h_t_came h_t_deep h_t_sizes h_t_tableOf h_t_usedBy h_t_taken h_t_sixOf t_texted t_above t_below t_at t_start t_number t_went t_h t_w t_ways_8)) X 2 rfl hb_7 et_ways_8 dX12_passes_35 rfl ?_
        refine g_aload_n X dX12_passes_36 rfl 0 rfl ?_
        refine g_dup X dX12_passes_37 rfl ?_
        refine g_get (C := RX12) (T := TX12) (N := 22) (ci := 8) (v := (.int t_went)) X iw_X12_passes_X12 0 rfl rfl 11 (by decide) lk_X12_passes_197 rfl dX12_passes_38 ?_
        refine g_aload_n X dX12_passes_41 rfl 0 rfl ?_
        refine g_get (C := RX12) (T := TX12) (N := 22) (ci := 8) (v := (.ref h_t_ways)) X iw_X12_passes_X12 0 rfl rfl 10 (by decide) lk_X12_passes_30 rfl dX12_passes_42 ?_
        refine g_iload_n X dX12_passes_45 rfl 2 rfl ?_
        obtain ⟨hb_9, hf⟩ := chk_out hf
        refine g_iald X 2 rfl hb_9 dX12_passes_46 ?_
        refine g_if_eq (tgt := 64) X dX12_passes_47 (by decide) (fun hc_10 => ?_) (fun hc_10 => ?_)
        · replace hf := ite_t hc_10 hf
          exact J64 (f_X12_passes_7 n) ih t_went t_w t_ways_8 v1 v2 t_went hf
        · replace hf := ite_f hc_10 hf
          refine g_aload_n X dX12_passes_50 rfl 0 rfl ?_
          refine g_iload_n X dX12_passes_51 rfl 1 rfl ?_
          refine g_iload_n X dX12_passes_52 rfl 2 rfl ?_
          obtain ⟨r_11, hk_12, hf⟩ := ob1_out hf
          refine g_cVR (st := [.int t_went, .ref h_t]) (st1 := [.int r_11, .int t_went, .ref h_t]) (C := RX12) (ci := 8) (q0 := 0) X (c_X12_topOf l D cI cZ h_t h_t_w h_t_isKept h_t_text h_t_statuses h_t_ways h_t_feels h_t_next h_t_came h_t_deep h_t_sizes h_t_tableOf h_t_usedBy h_t_taken h_t_sixOf t_texted t_above t_below t_at t_start t_number t_went t_h t_w v1 v2 _ hk_12) (Or.inl rfl) 2 gX12_passes_X12_topOf rfl hv_X12_topOf ⟨Nat.le_of_ble_eq_true rfl, Nat.le_of_ble_eq_true rfl⟩ rfl rfl (Nat.le_of_ble_eq_true rfl) ⟨rfl, rfl⟩ (Nat.zero_le _) (Nat.zero_le _) rfl rfl rfl dX12_passes_53 [0, 1] rfl rfl rfl ?_
          refine g_iload_n X dX12_passes_56 rfl 2 rfl ?_
          refine g_icmp_ne (tgt := 64) X dX12_passes_57 (by decide) (fun hc_13 => ?_) (fun hc_13 => ?_)
          · replace hf := ite_f hc_13 hf
            exact J64 (f_X12_passes_7 n) ih t_went t_w t_ways_8 v1 v2 t_went hf
          · replace hf := ite_t hc_13 hf
            refine g_iconst (v := 1) X dX12_passes_60 (by decide) ?_
            refine g_goto (tgt := 65) X dX12_passes_61 (by decide) ?_
            exact J65 (f_X12_passes_7 n) ih t_went t_w t_ways_8 v1 v2 t_went 1 hf
  refine g_aload_n X dX12_passes_0 rfl 0 rfl ?_
  refine g_iconst (v := 0) X dX12_passes_1 (by decide) ?_
  refine g_put (C := RX12) (T := TX12) (N := 22) (ci := 8) (v := .int 0) (ws' := (wd_X12_passes cI cZ h_t h_t_w h_t_isKept h_t_text h_t_statuses h_t_ways h_t_feels h_t_next h_t_came h_t_deep h_t_sizes h_t_tableOf h_t_usedBy h_t_taken h_t_sixOf t_texted t_above t_below t_at t_start t_number 0 t_h t_w t_ways)) X iw_X12_passes_X12 tyX12 tyX12_ok nmX12 0 rfl rfl 11 (by decide) lk_X12_passes_197 rfl (tyX12_ok 11 (by decide)) rfl rfl (Nat.le_of_ble_eq_true rfl) dX12_passes_2 rfl ?_
  refine g_iconst (v := 0) X dX12_passes_5 (by decide) ?_
  refine g_istore_n (lv' := [(0, .ref h_t), (1, .int v1), (2, .int 0)]) X dX12_passes_6 rfl (Nat.le_of_ble_eq_true rfl) [1, 2, 0] rfl ?_
  exact J7 FU 0 t_w t_ways v1 0 hf
def wd_X12_readsDays (cI cZ : ClassId) (h_t : Nat) (h_t_w : Nat) (h_t_isKept : Nat) (h_t_text : Nat) (h_t_statuses : Nat) (h_t_ways : Nat) (h_t_feels : Nat) (h_t_next : Nat) (h_t_came : Nat) (h_t_deep : Nat) (h_t_sizes : Nat) (h_t_tableOf : Nat) (h_t_usedBy : Nat) (h_t_taken : Nat) (h_t_sixOf : Nat) (t_texted : Int32) (t_above : Int64) (t_below : Int64) (t_at : Int32) (t_start : Int32) (t_number : Int32) (t_went : Int32) (t_h : Int64) (t_w : (Nat → Int32)) (t_text : (Nat → Int32)) (t_ways : (Nat → Int32)) : va_W := [(h_t, .inr (8, [.ref h_t_w, .ref h_t_isKept, .ref h_t_text, .int t_texted, .long t_above, .long t_below, .ref h_t_statuses, .int t_at, .int t_start, .int t_number, .ref h_t_ways, .int t_went, .ref h_t_feels, .ref h_t_next, .ref h_t_came, .ref h_t_deep, .ref h_t_sizes, .ref h_t_tableOf, .ref h_t_usedBy, .ref h_t_taken, .ref h_t_sixOf, .long t_h])), (h_t_w, .inl (cI, 1251, .inl t_w)), (h_t_text, .inl (cI, 150, .inl t_text)), (h_t_ways, .inl (cI, 7, .inl t_ways))]
abbrev rm_X12_readsDays : Room := { frames := 6, cells := 0, slots := 0, locals := 141 }
theorem hv_X12_readsDays : yX12_readsDays.cls = RX12 ∧ yX12_readsDays.cls ≠ "java/lang/invoke/MethodHandle" ∧ yX12_readsDays.cls ≠ "java/lang/invoke/VarHandle" ∧ (parseMethodDescriptor yX12_readsDays.desc).map (fun d => d.parameters.length) = some 0 := by decide +kernel
theorem iw_X12_readsDays_X12 : ∀ w ∈ u_ws RX12 TX12 22, w ∈ wsX12_readsDays := by decide +kernel
theorem lk_X12_readsDays_129 : Cond.fieldLink RX12 129 "ClerkChainsModel" "number" "I" ∈ wsX12_readsDays := by decide +kernel
theorem lk_X12_readsDays_7 : Cond.fieldLink RX12 7 "ClerkChainsModel" "w" "[I" ∈ wsX12_readsDays := by decide +kernel
set_option maxHeartbeats 4000000 in
set_option maxRecDepth 100000 in
theorem c_X12_readsDays (l : Launch) (D : va_G) (cI cZ : ClassId) (h_t : Nat) (h_t_w : Nat) (h_t_isKept : Nat) (h_t_text : Nat) (h_t_statuses : Nat) (h_t_ways : Nat) (h_t_feels : Nat) (h_t_next : Nat) (h_t_came : Nat) (h_t_deep : Nat) (h_t_sizes : Nat) (h_t_tableOf : Nat) (h_t_usedBy : Nat) (h_t_taken : Nat) (h_t_sixOf : Nat) (t_texted : Int32) (t_above : Int64) (t_below : Int64) (t_at : Int32) (t_start : Int32) (t_number : Int32) (t_went : Int32) (t_h : Int64) (t_w : (Nat → Int32)) (t_text : (Nat → Int32)) (t_ways : (Nat → Int32)) (res : Int32 × Int32 × Int32 × Int32 × Int32 × (Nat → Int32) × (Nat → Int32)) (hf : f_X12_readsDays t_texted t_at t_start t_number t_went t_w t_text t_ways = some res) : MetG l yX12_readsDays wsX12_readsDays rm_X12_readsDays D cI cZ none [.ref h_t] (wd_X12_readsDays cI cZ h_t h_t_w h_t_isKept h_t_text h_t_statuses h_t_ways h_t_feels h_t_next h_t_came h_t_deep h_t_sizes h_t_tableOf h_t_usedBy h_t_taken h_t_sixOf t_texted t_above t_below t_at t_start t_number t_went t_h t_w t_text t_ways) (kV res (fun u => some (.int u.1)) (fun u => (wd_X12_readsDays cI cZ h_t h_t_w h_t_isKept h_t_text h_t_statuses h_t_ways h_t_feels h_t_next h_t_came h_t_deep h_t_sizes h_t_tableOf h_t_usedBy h_t_taken h_t_sixOf t_texted t_above t_below (u.2.1) (u.2.2.1) (u.2.2.2.1) (u.2.2.2.2.1) t_h (u.2.2.2.2.2.1) t_text (u.2.2.2.2.2.2)))) := by
  refine metG_of (cc := cX12_readsDays) (maxL := 2) (ret := (some .boolean)) (own := RX12) (lv0 := [(0, .ref h_t)]) (ini := false) (by decide) rfl (Nat.le_of_ble_eq_true rfl) rfl rfl (fun h => by cases h) (fun G X hR => ?_)
  replace hR := rt_bool hR
  unfold f_X12_readsDays at hf
  have J43 : ∀ (k14 : Int32 → Int32 → Int32 → Int32 → (Nat → Int32) → (Nat → Int32) → Int32 → Option (Int32 × Int32 × Int32 × Int32 × Int32 × (Nat → Int32) × (Nat → Int32))) (hk14 : ∀ (t_at : Int32) (t_start : Int32) (t_number : Int32) (t_went : Int32) (t_w : (Nat → Int32)) (t_ways : (Nat → Int32)) (v1 : Int32), k14 t_at t_start t_number t_went t_w t_ways v1 = some res → G 0 0 (wd_X12_readsDays cI cZ h_t h_t_w h_t_isKept h_t_text h_t_statuses h_t_ways h_t_feels h_t_next h_t_came h_t_deep h_t_sizes h_t_tableOf h_t_usedBy h_t_taken h_t_sixOf t_texted t_above t_below t_at t_start t_number t_went t_h t_w t_text t_ways) [(0, .ref h_t), (1, .int v1)] 14 []) (t_at : Int32) (t_start : Int32) (t_number : Int32) (t_went : Int32) (t_w : (Nat → Int32)) (t_ways : (Nat → Int32)) (v1 : Int32), f_X12_readsDays_43 t_texted t_text k14 t_at t_start t_number t_went t_w t_ways v1 = some res → G 0 0 (wd_X12_readsDays cI cZ h_t h_t_w h_t_isKept h_t_text h_t_statuses h_t_ways h_t_feels h_t_next h_t_came h_t_deep h_t_sizes h_t_tableOf h_t_usedBy h_t_taken h_t_sixOf t_texted t_above t_below t_at t_start t_number t_went t_h t_w t_text t_ways) [(0, .ref h_t), (1, .int v1)] 43 [] := by
    intro k14 hk14 t_at t_start t_number t_went t_w t_ways v1 hf
    unfold f_X12_readsDays_43 at hf
    obtain ⟨v1_8, ev1_8, hf⟩ := bnd_out hf
    refine g_iinc (v := v1_8) (lv' := [(0, .ref h_t), (1, .int v1_8)]) X dX12_readsDays_43 1 rfl (by rw [ev1_8]; rfl) (Nat.le_of_ble_eq_true rfl) [1, 0] rfl ?_
    refine g_goto (tgt := 14) X dX12_readsDays_46 (by decide) ?_
    exact hk14 t_at t_start t_number t_went t_w t_ways v1_8 hf
  have J14 : ∀ (n : Nat) (t_at : Int32) (t_start : Int32) (t_number : Int32) (t_went : Int32) (t_w : (Nat → Int32)) (t_ways : (Nat → Int32)) (v1 : Int32), f_X12_readsDays_14 t_texted t_text n t_at t_start t_number t_went t_w t_ways v1 = some res → G 0 0 (wd_X12_readsDays cI cZ h_t h_t_w h_t_isKept h_t_text h_t_statuses h_t_ways h_t_feels h_t_next h_t_came h_t_deep h_t_sizes h_t_tableOf h_t_usedBy h_t_taken h_t_sixOf t_texted t_above t_below t_at t_start t_number t_went t_h t_w t_text t_ways) [(0, .ref h_t), (1, .int v1)] 14 [] := by
    intro n
    induction n with
    | zero => intro t_at t_start t_number t_went t_w t_ways v1 hf; rw [f_X12_readsDays_14] at hf; cases hf
    | succ n ih =>
      intro t_at t_start t_number t_went t_w t_ways v1 hf
      rw [f_X12_readsDays_14] at hf
      refine g_iload_n X dX12_readsDays_14 rfl 1 rfl ?_
      refine g_aload_n X dX12_readsDays_15 rfl 0 rfl ?_
      refine g_get (C := RX12) (T := TX12) (N := 22) (ci := 8) (v := (.int t_number)) X iw_X12_readsDays_X12 0 rfl rfl 9 (by decide) lk_X12_readsDays_129 rfl dX12_readsDays_16 ?_
      refine g_icmp_ge (tgt := 49) X dX12_readsDays_19 (by decide) (fun hc_1 => ?_) (fun hc_1 => ?_)
      · replace hf := ite_t hc_1 hf
        refine g_iconst (v := 1) X dX12_readsDays_49 (by decide) ?_
        exact hR _ _ _ _ (Or.inr rfl) dX12_readsDays_50 (kV_in (u := (1, t_at, t_start, t_number, t_went, t_w, t_ways)) hf)
      · replace hf := ite_f hc_1 hf
        refine g_aload_n X dX12_readsDays_22 rfl 0 rfl ?_
        refine g_get (C := RX12) (T := TX12) (N := 22) (ci := 8) (v := (.ref h_t_w)) X iw_X12_readsDays_X12 0 rfl rfl 0 (by decide) lk_X12_readsDays_7 rfl dX12_readsDays_23 ?_
        refine g_sipush (v := 905) X dX12_readsDays_26 (by decide) ?_
        obtain ⟨hb_2, hf⟩ := chk_out hf
        refine g_iald X 1 rfl hb_2 dX12_readsDays_29 ?_
        refine g_sipush (v := 999) X dX12_readsDays_30 (by decide) ?_
        refine g_icmp_ge (tgt := 43) X dX12_readsDays_33 (by decide) (fun hc_3 => ?_) (fun hc_3 => ?_)
        · replace hf := ite_t hc_3 hf
          exact J43 (f_X12_readsDays_14 t_texted t_text n) ih t_at t_start t_number t_went t_w t_ways v1 hf
        · replace hf := ite_f hc_3 hf
          refine g_aload_n X dX12_readsDays_36 rfl 0 rfl ?_
          refine g_sipush (v := 903) X dX12_readsDays_37 (by decide) ?_
          obtain ⟨t_went_4, t_w_5, t_ways_6, hk_7, hf⟩ := ob3_out hf
          refine g_cVW (st := []) (st1 := []) (C := RX12) (ci := 8) (q0 := 0) (ws' := (wd_X12_readsDays cI cZ h_t h_t_w h_t_isKept h_t_text h_t_statuses h_t_ways h_t_feels h_t_next h_t_came h_t_deep h_t_sizes h_t_tableOf h_t_usedBy h_t_taken h_t_sixOf t_texted t_above t_below t_at t_start t_number t_went_4 t_h t_w_5 t_text t_ways_6)) X (c_X12_passes l D cI cZ h_t h_t_w h_t_isKept h_t_text h_t_statuses h_t_ways h_t_feels h_t_next h_t_came h_t_deep h_t_sizes h_t_tableOf h_t_usedBy h_t_taken h_t_sixOf t_texted t_above t_below t_at t_start t_number t_went t_h t_w t_ways 903 _ hk_7) (Or.inl rfl) 1 gX12_readsDays_X12_passes rfl hv_X12_passes ⟨Nat.le_of_ble_eq_true rfl, Nat.le_of_ble_eq_true rfl⟩ rfl rfl (Nat.le_of_ble_eq_true rfl) ⟨rfl, rfl⟩ (Nat.zero_le _) (Nat.zero_le _) rfl rfl rfl dX12_readsDays_40 [0, 1, 3] rfl rfl [2] rfl rfl (by decide) [1, 2, 0, 3] rfl rfl rfl ?_
          exact J43 (f_X12_readsDays_14 t_texted t_text n) ih t_at t_start t_number t_went_4 t_w_5 t_ways_6 v1 hf
  refine g_aload_n X dX12_readsDays_0 rfl 0 rfl ?_
  refine g_iconst (v := 1) X dX12_readsDays_1 (by decide) ?_
  refine g_bipush (v := 99) X dX12_readsDays_2 (by decide) ?_
  obtain ⟨r_9, t_at_10, t_start_11, t_number_12, hk_13, hf⟩ := ob4_out hf
  refine g_cVW (st := []) (st1 := [.int r_9]) (C := RX12) (ci := 8) (q0 := 0) (ws' := (wd_X12_readsDays cI cZ h_t h_t_w h_t_isKept h_t_text h_t_statuses h_t_ways h_t_feels h_t_next h_t_came h_t_deep h_t_sizes h_t_tableOf h_t_usedBy h_t_taken h_t_sixOf t_texted t_above t_below t_at_10 t_start_11 t_number_12 t_went t_h t_w t_text t_ways)) X (c_X12_takesNumber l D cI cZ h_t h_t_w h_t_isKept h_t_text h_t_statuses h_t_ways h_t_feels h_t_next h_t_came h_t_deep h_t_sizes h_t_tableOf h_t_usedBy h_t_taken h_t_sixOf t_texted t_above t_below t_at t_start t_number t_went t_h t_text 1 99 _ hk_13) (Or.inl rfl) 2 gX12_readsDays_X12_takesNumber rfl hv_X12_takesNumber ⟨Nat.le_of_ble_eq_true rfl, Nat.le_of_ble_eq_true rfl⟩ rfl rfl (Nat.le_of_ble_eq_true rfl) ⟨rfl, rfl⟩ (Nat.zero_le _) (Nat.zero_le _) rfl rfl rfl dX12_readsDays_4 [0, 2] rfl rfl [1, 3] rfl rfl (by decide) [2, 0, 3, 1] rfl rfl rfl ?_
  refine g_if_ne (tgt := 12) X dX12_readsDays_7 (by decide) (fun hc_14 => ?_) (fun hc_14 => ?_)
  · replace hf := ite_f hc_14 hf
    refine g_iconst (v := 0) X dX12_readsDays_12 (by decide) ?_
    refine g_istore_n (lv' := [(0, .ref h_t), (1, .int 0)]) X dX12_readsDays_13 rfl (Nat.le_of_ble_eq_true rfl) [1, 0] rfl ?_
    exact J14 FU t_at_10 t_start_11 t_number_12 t_went t_w t_ways 0 hf
  · replace hf := ite_t hc_14 hf
    refine g_iconst (v := 0) X dX12_readsDays_10 (by decide) ?_
    exact hR _ _ _ _ (Or.inl rfl) dX12_readsDays_11 (kV_in (u := (0, t_at_10, t_start_11, t_number_12, t_went, t_w, t_ways)) hf)
def wd_X12_readsItem (cI cZ : ClassId) (h_t : Nat) (h_t_w : Nat) (h_t_isKept : Nat) (h_t_text : Nat) (h_t_statuses : Nat) (h_t_ways : Nat) (h_t_feels : Nat) (h_t_next : Nat) (h_t_came : Nat) (h_t_deep : Nat) (h_t_sizes : Nat) (h_t_tableOf : Nat) (h_t_usedBy : Nat) (h_t_taken : Nat) (h_t_sixOf : Nat) (t_texted : Int32) (t_above : Int64) (t_below : Int64) (t_at : Int32) (t_start : Int32) (t_number : Int32) (t_went : Int32) (t_h : Int64) (t_w : (Nat → Int32)) (t_text : (Nat → Int32)) (t_ways : (Nat → Int32)) : va_W := [(h_t, .inr (8, [.ref h_t_w, .ref h_t_isKept, .ref h_t_text, .int t_texted, .long t_above, .long t_below, .ref h_t_statuses, .int t_at, .int t_start, .int t_number, .ref h_t_ways, .int t_went, .ref h_t_feels, .ref h_t_next, .ref h_t_came, .ref h_t_deep, .ref h_t_sizes, .ref h_t_tableOf, .ref h_t_usedBy, .ref h_t_taken, .ref h_t_sixOf, .long t_h])), (h_t_w, .inl (cI, 1251, .inl t_w)), (h_t_text, .inl (cI, 150, .inl t_text)), (h_t_ways, .inl (cI, 7, .inl t_ways))]
abbrev rm_X12_readsItem : Room := { frames := 7, cells := 0, slots := 0, locals := 162 }
theorem hv_X12_readsItem : yX12_readsItem.cls = RX12 ∧ yX12_readsItem.cls ≠ "java/lang/invoke/MethodHandle" ∧ yX12_readsItem.cls ≠ "java/lang/invoke/VarHandle" ∧ (parseMethodDescriptor yX12_readsItem.desc).map (fun d => d.parameters.length) = some 1 := by decide +kernel
set_option maxHeartbeats 4000000 in
set_option maxRecDepth 100000 in
theorem c_X12_readsItem (l : Launch) (D : va_G) (cI cZ : ClassId) (h_t : Nat) (h_t_w : Nat) (h_t_isKept : Nat) (h_t_text : Nat) (h_t_statuses : Nat) (h_t_ways : Nat) (h_t_feels : Nat) (h_t_next : Nat) (h_t_came : Nat) (h_t_deep : Nat) (h_t_sizes : Nat) (h_t_tableOf : Nat) (h_t_usedBy : Nat) (h_t_taken : Nat) (h_t_sixOf : Nat) (t_texted : Int32) (t_above : Int64) (t_below : Int64) (t_at : Int32) (t_start : Int32) (t_number : Int32) (t_went : Int32) (t_h : Int64) (t_w : (Nat → Int32)) (t_text : (Nat → Int32)) (t_ways : (Nat → Int32)) (v1 : Int32) (res : Int32 × Int32 × Int32 × Int32 × Int32 × (Nat → Int32) × (Nat → Int32)) (hf : f_X12_readsItem t_texted t_at t_start t_number t_went t_w t_text t_ways v1 = some res) : MetG l yX12_readsItem wsX12_readsItem rm_X12_readsItem D cI cZ none [.ref h_t, .int v1] (wd_X12_readsItem cI cZ h_t h_t_w h_t_isKept h_t_text h_t_statuses h_t_ways h_t_feels h_t_next h_t_came h_t_deep h_t_sizes h_t_tableOf h_t_usedBy h_t_taken h_t_sixOf t_texted t_above t_below t_at t_start t_number t_went t_h t_w t_text t_ways) (kV res (fun u => some (.int u.1)) (fun u => (wd_X12_readsItem cI cZ h_t h_t_w h_t_isKept h_t_text h_t_statuses h_t_ways h_t_feels h_t_next h_t_came h_t_deep h_t_sizes h_t_tableOf h_t_usedBy h_t_taken h_t_sixOf t_texted t_above t_below (u.2.1) (u.2.2.1) (u.2.2.2.1) (u.2.2.2.2.1) t_h (u.2.2.2.2.2.1) t_text (u.2.2.2.2.2.2)))) := by
  refine metG_of (cc := cX12_readsItem) (maxL := 4) (ret := (some .boolean)) (own := RX12) (lv0 := [(0, .ref h_t), (1, .int v1)]) (ini := false) (by decide) rfl (Nat.le_of_ble_eq_true rfl) rfl rfl (fun h => by cases h) (fun G X hR => ?_)
  replace hR := rt_bool hR
  unfold f_X12_readsItem at hf
  have J92 : ∀ (t_at : Int32) (t_start : Int32) (t_number : Int32) (t_went : Int32) (t_w : (Nat → Int32)) (t_ways : (Nat → Int32)) (s0 : Int32), f_X12_readsItem_92 t_texted t_text t_at t_start t_number t_went t_w t_ways s0 = some res → G 0 0 (wd_X12_readsItem cI cZ h_t h_t_w h_t_isKept h_t_text h_t_statuses h_t_ways h_t_feels h_t_next h_t_came h_t_deep h_t_sizes h_t_tableOf h_t_usedBy h_t_taken h_t_sixOf t_texted t_above t_below t_at t_start t_number t_went t_h t_w t_text t_ways) [(0, .ref h_t)] 92 [.int s0] := by
    intro t_at t_start t_number t_went t_w t_ways s0 hf
    unfold f_X12_readsItem_92 at hf
    refine g_istore_n (lv' := [(0, .ref h_t), (3, .int s0)]) X dX12_readsItem_92 rfl (Nat.le_of_ble_eq_true rfl) [1, 0] rfl ?_
    refine g_iload_n X dX12_readsItem_93 rfl 1 rfl ?_
    refine g_if_eq (tgt := 108) X dX12_readsItem_94 (by decide) (fun hc_37 => ?_) (fun hc_37 => ?_)
    · replace hf := ite_t hc_37 hf
      refine g_iconst (v := 0) X dX12_readsItem_108 (by decide) ?_
      exact hR _ _ _ _ (Or.inl rfl) dX12_readsItem_109 (kV_in (u := (0, t_at, t_start, t_number, t_went, t_w, t_ways)) hf)
    · replace hf := ite_f hc_37 hf
      refine g_aload_n X dX12_readsItem_97 rfl 0 rfl ?_
      obtain ⟨r_38, t_at_39, t_start_40, hk_41, hf⟩ := ob3_out hf
      refine g_cVW (st := []) (st1 := [.int r_38]) (C := RX12) (ci := 8) (q0 := 0) (ws' := (wd_X12_readsItem cI cZ h_t h_t_w h_t_isKept h_t_text h_t_statuses h_t_ways h_t_feels h_t_next h_t_came h_t_deep h_t_sizes h_t_tableOf h_t_usedBy h_t_taken h_t_sixOf t_texted t_above t_below t_at_39 t_start_40 t_number t_went t_h t_w t_text t_ways)) X (c_X12_takesEnd l D cI cZ h_t h_t_w h_t_isKept h_t_text h_t_statuses h_t_ways h_t_feels h_t_next h_t_came h_t_deep h_t_sizes h_t_tableOf h_t_usedBy h_t_taken h_t_sixOf t_texted t_above t_below t_at t_start t_number t_went t_h t_text _ hk_41) (Or.inl rfl) 0 gX12_readsItem_X12_takesEnd rfl hv_X12_takesEnd ⟨Nat.le_of_ble_eq_true rfl, Nat.le_of_ble_eq_true rfl⟩ rfl rfl (Nat.le_of_ble_eq_true rfl) ⟨rfl, rfl⟩ (Nat.zero_le _) (Nat.zero_le _) rfl rfl rfl dX12_readsItem_98 [0, 2] rfl rfl [1, 3] rfl rfl (by decide) [2, 0, 3, 1] rfl rfl rfl ?_
      refine g_if_eq (tgt := 108) X dX12_readsItem_101 (by decide) (fun hc_42 => ?_) (fun hc_42 => ?_)
      · replace hf := ite_t hc_42 hf
        refine g_iconst (v := 0) X dX12_readsItem_108 (by decide) ?_
        exact hR _ _ _ _ (Or.inl rfl) dX12_readsItem_109 (kV_in (u := (0, t_at_39, t_start_40, t_number, t_went, t_w, t_ways)) hf)
      · replace hf := ite_f hc_42 hf
        refine g_iconst (v := 1) X dX12_readsItem_104 (by decide) ?_
        refine g_goto (tgt := 109) X dX12_readsItem_105 (by decide) ?_
        exact hR _ _ _ _ (Or.inr rfl) dX12_readsItem_109 (kV_in (u := (1, t_at_39, t_start_40, t_number, t_went, t_w, t_ways)) hf)
  have J87 : ∀ (t_at : Int32) (t_start : Int32) (t_number : Int32) (t_went : Int32) (t_w : (Nat → Int32)) (t_ways : (Nat → Int32)), f_X12_readsItem_87 t_texted t_text t_at t_start t_number t_went t_w t_ways = some res → G 0 0 (wd_X12_readsItem cI cZ h_t h_t_w h_t_isKept h_t_text h_t_statuses h_t_ways h_t_feels h_t_next h_t_came h_t_deep h_t_sizes h_t_tableOf h_t_usedBy h_t_taken h_t_sixOf t_texted t_above t_below t_at t_start t_number t_went t_h t_w t_text t_ways) [(0, .ref h_t)] 87 [] := by
    intro t_at t_start t_number t_went t_w t_ways hf
    unfold f_X12_readsItem_87 at hf
    refine g_iconst (v := 1) X dX12_readsItem_87 (by decide) ?_
    refine g_goto (tgt := 92) X dX12_readsItem_88 (by decide) ?_
    exact J92 t_at t_start t_number t_went t_w t_ways 1 hf
  have J91 : ∀ (t_at : Int32) (t_start : Int32) (t_number : Int32) (t_went : Int32) (t_w : (Nat → Int32)) (t_ways : (Nat → Int32)), f_X12_readsItem_91 t_texted t_text t_at t_start t_number t_went t_w t_ways = some res → G 0 0 (wd_X12_readsItem cI cZ h_t h_t_w h_t_isKept h_t_text h_t_statuses h_t_ways h_t_feels h_t_next h_t_came h_t_deep h_t_sizes h_t_tableOf h_t_usedBy h_t_taken h_t_sixOf t_texted t_above t_below t_at t_start t_number t_went t_h t_w t_text t_ways) [(0, .ref h_t)] 91 [] := by
    intro t_at t_start t_number t_went t_w t_ways hf
    unfold f_X12_readsItem_91 at hf
    refine g_iconst (v := 0) X dX12_readsItem_91 (by decide) ?_
    exact J92 t_at t_start t_number t_went t_w t_ways 0 hf
  have J20 : ∀ (t_at : Int32) (t_start : Int32) (t_number : Int32) (t_went : Int32) (t_w : (Nat → Int32)) (t_ways : (Nat → Int32)) (v2 : Int32) (s0 : Int32) (s1 : Int32), f_X12_readsItem_20 t_texted t_text t_at t_start t_number t_went t_w t_ways v2 s0 s1 = some res → G 0 0 (wd_X12_readsItem cI cZ h_t h_t_w h_t_isKept h_t_text h_t_statuses h_t_ways h_t_feels h_t_next h_t_came h_t_deep h_t_sizes h_t_tableOf h_t_usedBy h_t_taken h_t_sixOf t_texted t_above t_below t_at t_start t_number t_went t_h t_w t_text t_ways) [(0, .ref h_t), (2, .int v2)] 20 [.int s1, .int s0] := by
    intro t_at t_start t_number t_went t_w t_ways v2 s0 s1 hf
    unfold f_X12_readsItem_20 at hf
    refine g_icmp_eq (tgt := 25) X dX12_readsItem_20 (by decide) (fun hc_1 => ?_) (fun hc_1 => ?_)
    · replace hf := ite_t hc_1 hf
      refine g_iload_n X dX12_readsItem_25 rfl 1 rfl ?_
      refine g_iconst (v := 1) X dX12_readsItem_26 (by decide) ?_
      refine g_icmp_eq (tgt := 87) X dX12_readsItem_27 (by decide) (fun hc_2 => ?_) (fun hc_2 => ?_)
      · replace hf := ite_t hc_2 hf
        refine g_lv X (lv' := [(0, .ref h_t)]) [0] rfl ?_
        exact J87 t_at t_start t_number t_went t_w t_ways hf
      · replace hf := ite_f hc_2 hf
        refine g_iload_n X dX12_readsItem_30 rfl 1 rfl ?_
        refine g_iconst (v := 2) X dX12_readsItem_31 (by decide) ?_
        refine g_icmp_ne (tgt := 45) X dX12_readsItem_32 (by decide) (fun hc_3 => ?_) (fun hc_3 => ?_)
        · replace hf := ite_f hc_3 hf
          refine g_iload_n X dX12_readsItem_45 rfl 1 rfl ?_
          refine g_iconst (v := 3) X dX12_readsItem_46 (by decide) ?_
          refine g_icmp_ne (tgt := 60) X dX12_readsItem_47 (by decide) (fun hc_4 => ?_) (fun hc_4 => ?_)
          · replace hf := ite_f hc_4 hf
            refine g_iload_n X dX12_readsItem_60 rfl 1 rfl ?_
            refine g_iconst (v := 4) X dX12_readsItem_61 (by decide) ?_
            refine g_icmp_ne (tgt := 75) X dX12_readsItem_62 (by decide) (fun hc_5 => ?_) (fun hc_5 => ?_)
            · replace hf := ite_f hc_5 hf
              refine g_iload_n X dX12_readsItem_75 rfl 1 rfl ?_
              refine g_iconst (v := 5) X dX12_readsItem_76 (by decide) ?_
              refine g_icmp_ne (tgt := 91) X dX12_readsItem_77 (by decide) (fun hc_6 => ?_) (fun hc_6 => ?_)
              · replace hf := ite_f hc_6 hf
                refine g_lv X (lv' := [(0, .ref h_t)]) [0] rfl ?_
                exact J91 t_at t_start t_number t_went t_w t_ways hf
              · replace hf := ite_t hc_6 hf
                refine g_aload_n X dX12_readsItem_80 rfl 0 rfl ?_
                obtain ⟨r_7, t_at_8, t_start_9, t_number_10, t_went_11, t_w_12, t_ways_13, hk_14, hf⟩ := ob7_out hf
                refine g_cVW (st := []) (st1 := [.int r_7]) (C := RX12) (ci := 8) (q0 := 0) (ws' := (wd_X12_readsItem cI cZ h_t h_t_w h_t_isKept h_t_text h_t_statuses h_t_ways h_t_feels h_t_next h_t_came h_t_deep h_t_sizes h_t_tableOf h_t_usedBy h_t_taken h_t_sixOf t_texted t_above t_below t_at_8 t_start_9 t_number_10 t_went_11 t_h t_w_12 t_text t_ways_13)) X (c_X12_readsDays l D cI cZ h_t h_t_w h_t_isKept h_t_text h_t_statuses h_t_ways h_t_feels h_t_next h_t_came h_t_deep h_t_sizes h_t_tableOf h_t_usedBy h_t_taken h_t_sixOf t_texted t_above t_below t_at t_start t_number t_went t_h t_w t_text t_ways _ hk_14) (Or.inl rfl) 0 gX12_readsItem_X12_readsDays rfl hv_X12_readsDays ⟨Nat.le_of_ble_eq_true rfl, Nat.le_of_ble_eq_true rfl⟩ rfl rfl (Nat.le_of_ble_eq_true rfl) ⟨rfl, rfl⟩ (Nat.zero_le _) (Nat.zero_le _) rfl rfl rfl dX12_readsItem_81 [0, 1, 2, 3] rfl rfl [] rfl rfl (by decide) [0, 1, 2, 3] rfl rfl rfl ?_
                refine g_if_eq (tgt := 91) X dX12_readsItem_84 (by decide) (fun hc_15 => ?_) (fun hc_15 => ?_)
                · replace hf := ite_t hc_15 hf
                  refine g_lv X (lv' := [(0, .ref h_t)]) [0] rfl ?_
                  exact J91 t_at_8 t_start_9 t_number_10 t_went_11 t_w_12 t_ways_13 hf
                · replace hf := ite_f hc_15 hf
                  refine g_lv X (lv' := [(0, .ref h_t)]) [0] rfl ?_
                  exact J87 t_at_8 t_start_9 t_number_10 t_went_11 t_w_12 t_ways_13 hf
            · replace hf := ite_t hc_5 hf
              refine g_aload_n X dX12_readsItem_65 rfl 0 rfl ?_
              obtain ⟨r_16, t_at_17, t_start_18, t_number_19, t_w_20, hk_21, hf⟩ := ob5_out hf
              refine g_cVW (st := []) (st1 := [.int r_16]) (C := RX12) (ci := 8) (q0 := 0) (ws' := (wd_X12_readsItem cI cZ h_t h_t_w h_t_isKept h_t_text h_t_statuses h_t_ways h_t_feels h_t_next h_t_came h_t_deep h_t_sizes h_t_tableOf h_t_usedBy h_t_taken h_t_sixOf t_texted t_above t_below t_at_17 t_start_18 t_number_19 t_went t_h t_w_20 t_text t_ways)) X (c_X12_readsHook l D cI cZ h_t h_t_w h_t_isKept h_t_text h_t_statuses h_t_ways h_t_feels h_t_next h_t_came h_t_deep h_t_sizes h_t_tableOf h_t_usedBy h_t_taken h_t_sixOf t_texted t_above t_below t_at t_start t_number t_went t_h t_w t_text _ hk_21) (Or.inl rfl) 0 gX12_readsItem_X12_readsHook rfl hv_X12_readsHook ⟨Nat.le_of_ble_eq_true rfl, Nat.le_of_ble_eq_true rfl⟩ rfl rfl (Nat.le_of_ble_eq_true rfl) ⟨rfl, rfl⟩ (Nat.zero_le _) (Nat.zero_le _) rfl rfl rfl dX12_readsItem_66 [0, 1, 2] rfl rfl [3] rfl rfl (by decide) [1, 2, 3, 0] rfl rfl rfl ?_
              refine g_if_eq (tgt := 91) X dX12_readsItem_69 (by decide) (fun hc_22 => ?_) (fun hc_22 => ?_)
              · replace hf := ite_t hc_22 hf
                refine g_lv X (lv' := [(0, .ref h_t)]) [0] rfl ?_
                exact J91 t_at_17 t_start_18 t_number_19 t_went t_w_20 t_ways hf
              · replace hf := ite_f hc_22 hf
                refine g_goto (tgt := 87) X dX12_readsItem_72 (by decide) ?_
                refine g_lv X (lv' := [(0, .ref h_t)]) [0] rfl ?_
                exact J87 t_at_17 t_start_18 t_number_19 t_went t_w_20 t_ways hf
          · replace hf := ite_t hc_4 hf
            refine g_aload_n X dX12_readsItem_50 rfl 0 rfl ?_
            obtain ⟨r_23, t_at_24, t_start_25, t_number_26, t_w_27, hk_28, hf⟩ := ob5_out hf
            refine g_cVW (st := []) (st1 := [.int r_23]) (C := RX12) (ci := 8) (q0 := 0) (ws' := (wd_X12_readsItem cI cZ h_t h_t_w h_t_isKept h_t_text h_t_statuses h_t_ways h_t_feels h_t_next h_t_came h_t_deep h_t_sizes h_t_tableOf h_t_usedBy h_t_taken h_t_sixOf t_texted t_above t_below t_at_24 t_start_25 t_number_26 t_went t_h t_w_27 t_text t_ways)) X (c_X12_readsMagnet l D cI cZ h_t h_t_w h_t_isKept h_t_text h_t_statuses h_t_ways h_t_feels h_t_next h_t_came h_t_deep h_t_sizes h_t_tableOf h_t_usedBy h_t_taken h_t_sixOf t_texted t_above t_below t_at t_start t_number t_went t_h t_w t_text _ hk_28) (Or.inl rfl) 0 gX12_readsItem_X12_readsMagnet rfl hv_X12_readsMagnet ⟨Nat.le_of_ble_eq_true rfl, Nat.le_of_ble_eq_true rfl⟩ rfl rfl (Nat.le_of_ble_eq_true rfl) ⟨rfl, rfl⟩ (Nat.zero_le _) (Nat.zero_le _) rfl rfl rfl dX12_readsItem_51 [0, 1, 2] rfl rfl [3] rfl rfl (by decide) [1, 2, 3, 0] rfl rfl rfl ?_
            refine g_if_eq (tgt := 91) X dX12_readsItem_54 (by decide) (fun hc_29 => ?_) (fun hc_29 => ?_)
            · replace hf := ite_t hc_29 hf
              refine g_lv X (lv' := [(0, .ref h_t)]) [0] rfl ?_
              exact J91 t_at_24 t_start_25 t_number_26 t_went t_w_27 t_ways hf
            · replace hf := ite_f hc_29 hf
              refine g_goto (tgt := 87) X dX12_readsItem_57 (by decide) ?_
              refine g_lv X (lv' := [(0, .ref h_t)]) [0] rfl ?_
              exact J87 t_at_24 t_start_25 t_number_26 t_went t_w_27 t_ways hf
        · replace hf := ite_t hc_3 hf
          refine g_aload_n X dX12_readsItem_35 rfl 0 rfl ?_
          obtain ⟨r_30, t_at_31, t_start_32, t_number_33, t_w_34, hk_35, hf⟩ := ob5_out hf
          refine g_cVW (st := []) (st1 := [.int r_30]) (C := RX12) (ci := 8) (q0 := 0) (ws' := (wd_X12_readsItem cI cZ h_t h_t_w h_t_isKept h_t_text h_t_statuses h_t_ways h_t_feels h_t_next h_t_came h_t_deep h_t_sizes h_t_tableOf h_t_usedBy h_t_taken h_t_sixOf t_texted t_above t_below t_at_31 t_start_32 t_number_33 t_went t_h t_w_34 t_text t_ways)) X (c_X12_readsClerk l D cI cZ h_t h_t_w h_t_isKept h_t_text h_t_statuses h_t_ways h_t_feels h_t_next h_t_came h_t_deep h_t_sizes h_t_tableOf h_t_usedBy h_t_taken h_t_sixOf t_texted t_above t_below t_at t_start t_number t_went t_h t_w t_text _ hk_35) (Or.inl rfl) 0 gX12_readsItem_X12_readsClerk rfl hv_X12_readsClerk ⟨Nat.le_of_ble_eq_true rfl, Nat.le_of_ble_eq_true rfl⟩ rfl rfl (Nat.le_of_ble_eq_true rfl) ⟨rfl, rfl⟩ (Nat.zero_le _) (Nat.zero_le _) rfl rfl rfl dX12_readsItem_36 [0, 1, 2] rfl rfl [3] rfl rfl (by decide) [1, 2, 3, 0] rfl rfl rfl ?_
          refine g_if_eq (tgt := 91) X dX12_readsItem_39 (by decide) (fun hc_36 => ?_) (fun hc_36 => ?_)
          · replace hf := ite_t hc_36 hf
            refine g_lv X (lv' := [(0, .ref h_t)]) [0] rfl ?_
            exact J91 t_at_31 t_start_32 t_number_33 t_went t_w_34 t_ways hf
          · replace hf := ite_f hc_36 hf
            refine g_goto (tgt := 87) X dX12_readsItem_42 (by decide) ?_
            refine g_lv X (lv' := [(0, .ref h_t)]) [0] rfl ?_
            exact J87 t_at_31 t_start_32 t_number_33 t_went t_w_34 t_ways hf
    · replace hf := ite_f hc_1 hf
      refine g_iconst (v := 0) X dX12_readsItem_23 (by decide) ?_
      exact hR _ _ _ _ (Or.inl rfl) dX12_readsItem_24 (kV_in (u := (0, t_at, t_start, t_number, t_went, t_w, t_ways)) hf)
  refine g_aload_n X dX12_readsItem_0 rfl 0 rfl ?_
  obtain ⟨t_at_43, t_start_44, hk_45, hf⟩ := ob2_out hf
  refine g_cVW (st := []) (st1 := []) (C := RX12) (ci := 8) (q0 := 0) (ws' := (wd_X12_readsItem cI cZ h_t h_t_w h_t_isKept h_t_text h_t_statuses h_t_ways h_t_feels h_t_next h_t_came h_t_deep h_t_sizes h_t_tableOf h_t_usedBy h_t_taken h_t_sixOf t_texted t_above t_below t_at_43 t_start_44 t_number t_went t_h t_w t_text t_ways)) X (c_X12_takesWord l D cI cZ h_t h_t_w h_t_isKept h_t_text h_t_statuses h_t_ways h_t_feels h_t_next h_t_came h_t_deep h_t_sizes h_t_tableOf h_t_usedBy h_t_taken h_t_sixOf t_texted t_above t_below t_at t_start t_number t_went t_h t_text _ hk_45) (Or.inl rfl) 0 gX12_readsItem_X12_takesWord rfl hv_X12_takesWord ⟨Nat.le_of_ble_eq_true rfl, Nat.le_of_ble_eq_true rfl⟩ rfl rfl (Nat.le_of_ble_eq_true rfl) ⟨rfl, rfl⟩ (Nat.zero_le _) (Nat.zero_le _) rfl rfl rfl dX12_readsItem_1 [0, 2] rfl rfl [1, 3] rfl rfl (by decide) [2, 0, 3, 1] rfl rfl rfl ?_
  refine g_aload_n X dX12_readsItem_4 rfl 0 rfl ?_
  obtain ⟨r_46, hk_47, hf⟩ := ob1_out hf
  refine g_cVR (st := []) (st1 := [.int r_46]) (C := RX12) (ci := 8) (q0 := 0) X (c_X12_wordOf l D cI cZ h_t h_t_w h_t_isKept h_t_text h_t_statuses h_t_ways h_t_feels h_t_next h_t_came h_t_deep h_t_sizes h_t_tableOf h_t_usedBy h_t_taken h_t_sixOf t_texted t_above t_below t_at_43 t_start_44 t_number t_went t_h t_text _ hk_47) (Or.inl rfl) 0 gX12_readsItem_X12_wordOf rfl hv_X12_wordOf ⟨Nat.le_of_ble_eq_true rfl, Nat.le_of_ble_eq_true rfl⟩ rfl rfl (Nat.le_of_ble_eq_true rfl) ⟨rfl, rfl⟩ (Nat.zero_le _) (Nat.zero_le _) rfl rfl rfl dX12_readsItem_5 [0, 2] rfl rfl rfl ?_
  refine g_istore_n (lv' := [(0, .ref h_t), (1, .int v1), (2, .int r_46)]) X dX12_readsItem_8 rfl (Nat.le_of_ble_eq_true rfl) [1, 2, 0] rfl ?_
  refine g_iload_n X dX12_readsItem_9 rfl 1 rfl ?_
  refine g_iload_n X dX12_readsItem_10 rfl 2 rfl ?_
  refine g_iconst (v := 1) X dX12_readsItem_11 (by decide) ?_
  refine g_icmp_ne (tgt := 19) X dX12_readsItem_12 (by decide) (fun hc_48 => ?_) (fun hc_48 => ?_)
  · replace hf := ite_f hc_48 hf
    refine g_iconst (v := 0) X dX12_readsItem_19 (by decide) ?_
    refine g_lv X (lv' := [(0, .ref h_t), (2, .int r_46)]) [0, 2] rfl ?_
    exact J20 t_at_43 t_start_44 t_number t_went t_w t_ways r_46 v1 0 hf
  · replace hf := ite_t hc_48 hf
    refine g_iconst (v := 1) X dX12_readsItem_15 (by decide) ?_
    refine g_goto (tgt := 20) X dX12_readsItem_16 (by decide) ?_
    refine g_lv X (lv' := [(0, .ref h_t), (2, .int r_46)]) [0, 2] rfl ?_
    exact J20 t_at_43 t_start_44 t_number t_went t_w t_ways r_46 v1 1 hf
def wd_X12_read (cI cZ : ClassId) (h_t : Nat) (h_t_w : Nat) (h_t_isKept : Nat) (h_t_text : Nat) (h_t_statuses : Nat) (h_t_ways : Nat) (h_t_feels : Nat) (h_t_next : Nat) (h_t_came : Nat) (h_t_deep : Nat) (h_t_sizes : Nat) (h_t_tableOf : Nat) (h_t_usedBy : Nat) (h_t_taken : Nat) (h_t_sixOf : Nat) (t_texted : Int32) (t_above : Int64) (t_below : Int64) (t_at : Int32) (t_start : Int32) (t_number : Int32) (t_went : Int32) (t_h : Int64) (t_w : (Nat → Int32)) (t_text : (Nat → Int32)) (t_ways : (Nat → Int32)) : va_W := [(h_t, .inr (8, [.ref h_t_w, .ref h_t_isKept, .ref h_t_text, .int t_texted, .long t_above, .long t_below, .ref h_t_statuses, .int t_at, .int t_start, .int t_number, .ref h_t_ways, .int t_went, .ref h_t_feels, .ref h_t_next, .ref h_t_came, .ref h_t_deep, .ref h_t_sizes, .ref h_t_tableOf, .ref h_t_usedBy, .ref h_t_taken, .ref h_t_sixOf, .long t_h])), (h_t_w, .inl (cI, 1251, .inl t_w)), (h_t_text, .inl (cI, 150, .inl t_text)), (h_t_ways, .inl (cI, 7, .inl t_ways))]
abbrev rm_X12_read : Room := { frames := 8, cells := 0, slots := 0, locals := 185 }
theorem hv_X12_read : yX12_read.cls = RX12 ∧ yX12_read.cls ≠ "java/lang/invoke/MethodHandle" ∧ yX12_read.cls ≠ "java/lang/invoke/VarHandle" ∧ (parseMethodDescriptor yX12_read.desc).map (fun d => d.parameters.length) = some 0 := by decide +kernel
theorem iw_X12_read_X12 : ∀ w ∈ u_ws RX12 TX12 22, w ∈ wsX12_read := by decide +kernel
theorem lk_X12_read_111 : Cond.fieldLink RX12 111 "ClerkChainsModel" "start" "I" ∈ wsX12_read := by decide +kernel
theorem lk_X12_read_60 : Cond.fieldLink RX12 60 "ClerkChainsModel" "texted" "I" ∈ wsX12_read := by decide +kernel
theorem lk_X12_read_105 : Cond.fieldLink RX12 105 "ClerkChainsModel" "at" "I" ∈ wsX12_read := by decide +kernel
set_option maxHeartbeats 4000000 in
set_option maxRecDepth 100000 in
theorem c_X12_read (l : Launch) (D : va_G) (cI cZ : ClassId) (h_t : Nat) (h_t_w : Nat) (h_t_isKept : Nat) (h_t_text : Nat) (h_t_statuses : Nat) (h_t_ways : Nat) (h_t_feels : Nat) (h_t_next : Nat) (h_t_came : Nat) (h_t_deep : Nat) (h_t_sizes : Nat) (h_t_tableOf : Nat) (h_t_usedBy : Nat) (h_t_taken : Nat) (h_t_sixOf : Nat) (t_texted : Int32) (t_above : Int64) (t_below : Int64) (t_at : Int32) (t_start : Int32) (t_number : Int32) (t_went : Int32) (t_h : Int64) (t_w : (Nat → Int32)) (t_text : (Nat → Int32)) (t_ways : (Nat → Int32)) (res : Int32 × Int32 × Int32 × Int32 × Int32 × (Nat → Int32) × (Nat → Int32)) (hf : f_X12_read t_texted t_at t_start t_number t_went t_w t_text t_ways = some res) : MetG l yX12_read wsX12_read rm_X12_read D cI cZ none [.ref h_t] (wd_X12_read cI cZ h_t h_t_w h_t_isKept h_t_text h_t_statuses h_t_ways h_t_feels h_t_next h_t_came h_t_deep h_t_sizes h_t_tableOf h_t_usedBy h_t_taken h_t_sixOf t_texted t_above t_below t_at t_start t_number t_went t_h t_w t_text t_ways) (kV res (fun u => some (.int u.1)) (fun u => (wd_X12_read cI cZ h_t h_t_w h_t_isKept h_t_text h_t_statuses h_t_ways h_t_feels h_t_next h_t_came h_t_deep h_t_sizes h_t_tableOf h_t_usedBy h_t_taken h_t_sixOf t_texted t_above t_below (u.2.1) (u.2.2.1) (u.2.2.2.1) (u.2.2.2.2.1) t_h (u.2.2.2.2.2.1) t_text (u.2.2.2.2.2.2)))) := by
  refine metG_of (cc := cX12_read) (maxL := 3) (ret := (some .int)) (own := RX12) (lv0 := [(0, .ref h_t)]) (ini := false) (by decide) rfl (Nat.le_of_ble_eq_true rfl) rfl rfl (fun h => by cases h) (fun G X hR => ?_)
  replace hR := rt_int hR
  unfold f_X12_read at hf
  have J49 : ∀ (k20 : Int32 → Int32 → Int32 → Int32 → (Nat → Int32) → (Nat → Int32) → Int32 → Int32 → Option (Int32 × Int32 × Int32 × Int32 × Int32 × (Nat → Int32) × (Nat → Int32))) (hk20 : ∀ (t_at : Int32) (t_start : Int32) (t_number : Int32) (t_went : Int32) (t_w : (Nat → Int32)) (t_ways : (Nat → Int32)) (v1 : Int32) (v2 : Int32), k20 t_at t_start t_number t_went t_w t_ways v1 v2 = some res → G 0 0 (wd_X12_read cI cZ h_t h_t_w h_t_isKept h_t_text h_t_statuses h_t_ways h_t_feels h_t_next h_t_came h_t_deep h_t_sizes h_t_tableOf h_t_usedBy h_t_taken h_t_sixOf t_texted t_above t_below t_at t_start t_number t_went t_h t_w t_text t_ways) [(0, .ref h_t), (1, .int v1), (2, .int v2)] 20 []) (t_at : Int32) (t_start : Int32) (t_number : Int32) (t_went : Int32) (t_w : (Nat → Int32)) (t_ways : (Nat → Int32)) (v1 : Int32) (s1 : Int32), f_X12_read_49 t_texted t_text k20 t_at t_start t_number t_went t_w t_ways v1 s1 = some res → G 0 0 (wd_X12_read cI cZ h_t h_t_w h_t_isKept h_t_text h_t_statuses h_t_ways h_t_feels h_t_next h_t_came h_t_deep h_t_sizes h_t_tableOf h_t_usedBy h_t_taken h_t_sixOf t_texted t_above t_below t_at t_start t_number t_went t_h t_w t_text t_ways) [(0, .ref h_t), (1, .int v1)] 49 [.int s1, .ref h_t] := by
    intro k20 hk20 t_at t_start t_number t_went t_w t_ways v1 s1 hf
    unfold f_X12_read_49 at hf
    obtain ⟨r_5, t_at_6, t_start_7, t_number_8, t_went_9, t_w_10, t_ways_11, hk_12, hf⟩ := ob7_out hf
    refine g_cVW (st := []) (st1 := [.int r_5]) (C := RX12) (ci := 8) (q0 := 0) (ws' := (wd_X12_read cI cZ h_t h_t_w h_t_isKept h_t_text h_t_statuses h_t_ways h_t_feels h_t_next h_t_came h_t_deep h_t_sizes h_t_tableOf h_t_usedBy h_t_taken h_t_sixOf t_texted t_above t_below t_at_6 t_start_7 t_number_8 t_went_9 t_h t_w_10 t_text t_ways_11)) X (c_X12_readsItem l D cI cZ h_t h_t_w h_t_isKept h_t_text h_t_statuses h_t_ways h_t_feels h_t_next h_t_came h_t_deep h_t_sizes h_t_tableOf h_t_usedBy h_t_taken h_t_sixOf t_texted t_above t_below t_at t_start t_number t_went t_h t_w t_text t_ways s1 _ hk_12) (Or.inl rfl) 1 gX12_read_X12_readsItem rfl hv_X12_readsItem ⟨Nat.le_of_ble_eq_true rfl, Nat.le_of_ble_eq_true rfl⟩ rfl rfl (Nat.le_of_ble_eq_true rfl) ⟨rfl, rfl⟩ (Nat.zero_le _) (Nat.zero_le _) rfl rfl rfl dX12_read_49 [0, 1, 2, 3] rfl rfl [] rfl rfl (by decide) [0, 1, 2, 3] rfl rfl rfl ?_
    refine g_istore_n (lv' := [(0, .ref h_t), (1, .int v1), (2, .int r_5)]) X dX12_read_52 rfl (Nat.le_of_ble_eq_true rfl) [1, 2, 0] rfl ?_
    obtain ⟨v1_13, ev1_13, hf⟩ := bnd_out hf
    refine g_iinc (v := v1_13) (lv' := [(0, .ref h_t), (1, .int v1_13), (2, .int r_5)]) X dX12_read_53 1 rfl (by rw [ev1_13]; rfl) (Nat.le_of_ble_eq_true rfl) [1, 0, 2] rfl ?_
    refine g_iload_n X dX12_read_56 rfl 2 rfl ?_
    refine g_if_eq (tgt := 20) X dX12_read_57 (by decide) (fun hc_14 => ?_) (fun hc_14 => ?_)
    · replace hf := ite_t hc_14 hf
      exact hk20 t_at_6 t_start_7 t_number_8 t_went_9 t_w_10 t_ways_11 v1_13 r_5 hf
    · replace hf := ite_f hc_14 hf
      refine g_aload_n X dX12_read_60 rfl 0 rfl ?_
      obtain ⟨t_at_15, t_start_16, hk_17, hf⟩ := ob2_out hf
      refine g_cVW (st := []) (st1 := []) (C := RX12) (ci := 8) (q0 := 0) (ws' := (wd_X12_read cI cZ h_t h_t_w h_t_isKept h_t_text h_t_statuses h_t_ways h_t_feels h_t_next h_t_came h_t_deep h_t_sizes h_t_tableOf h_t_usedBy h_t_taken h_t_sixOf t_texted t_above t_below t_at_15 t_start_16 t_number_8 t_went_9 t_h t_w_10 t_text t_ways_11)) X (c_X12_blanks l D cI cZ h_t h_t_w h_t_isKept h_t_text h_t_statuses h_t_ways h_t_feels h_t_next h_t_came h_t_deep h_t_sizes h_t_tableOf h_t_usedBy h_t_taken h_t_sixOf t_texted t_above t_below t_at_6 t_start_7 t_number_8 t_went_9 t_h t_text _ hk_17) (Or.inl rfl) 0 gX12_read_X12_blanks rfl hv_X12_blanks ⟨Nat.le_of_ble_eq_true rfl, Nat.le_of_ble_eq_true rfl⟩ rfl rfl (Nat.le_of_ble_eq_true rfl) ⟨rfl, rfl⟩ (Nat.zero_le _) (Nat.zero_le _) rfl rfl rfl dX12_read_61 [0, 2] rfl rfl [1, 3] rfl rfl (by decide) [2, 0, 3, 1] rfl rfl rfl ?_
      refine g_goto (tgt := 20) X dX12_read_64 (by decide) ?_
      exact hk20 t_at_15 t_start_16 t_number_8 t_went_9 t_w_10 t_ways_11 v1_13 r_5 hf
  have J39 : ∀ (k20 : Int32 → Int32 → Int32 → Int32 → (Nat → Int32) → (Nat → Int32) → Int32 → Int32 → Option (Int32 × Int32 × Int32 × Int32 × Int32 × (Nat → Int32) × (Nat → Int32))) (hk20 : ∀ (t_at : Int32) (t_start : Int32) (t_number : Int32) (t_went : Int32) (t_w : (Nat → Int32)) (t_ways : (Nat → Int32)) (v1 : Int32) (v2 : Int32), k20 t_at t_start t_number t_went t_w t_ways v1 v2 = some res → G 0 0 (wd_X12_read cI cZ h_t h_t_w h_t_isKept h_t_text h_t_statuses h_t_ways h_t_feels h_t_next h_t_came h_t_deep h_t_sizes h_t_tableOf h_t_usedBy h_t_taken h_t_sixOf t_texted t_above t_below t_at t_start t_number t_went t_h t_w t_text t_ways) [(0, .ref h_t), (1, .int v1), (2, .int v2)] 20 []) (t_at : Int32) (t_start : Int32) (t_number : Int32) (t_went : Int32) (t_w : (Nat → Int32)) (t_ways : (Nat → Int32)) (v1 : Int32), f_X12_read_39 t_texted t_text k20 t_at t_start t_number t_went t_w t_ways v1 = some res → G 0 0 (wd_X12_read cI cZ h_t h_t_w h_t_isKept h_t_text h_t_statuses h_t_ways h_t_feels h_t_next h_t_came h_t_deep h_t_sizes h_t_tableOf h_t_usedBy h_t_taken h_t_sixOf t_texted t_above t_below t_at t_start t_number t_went t_h t_w t_text t_ways) [(0, .ref h_t), (1, .int v1)] 39 [] := by
    intro k20 hk20 t_at t_start t_number t_went t_w t_ways v1 hf
    unfold f_X12_read_39 at hf
    refine g_aload_n X dX12_read_39 rfl 0 rfl ?_
    refine g_iload_n X dX12_read_40 rfl 1 rfl ?_
    refine g_if_ne (tgt := 48) X dX12_read_41 (by decide) (fun hc_4 => ?_) (fun hc_4 => ?_)
    · replace hf := ite_f hc_4 hf
      refine g_iconst (v := 0) X dX12_read_48 (by decide) ?_
      exact J49 k20 hk20 t_at t_start t_number t_went t_w t_ways v1 0 hf
    · replace hf := ite_t hc_4 hf
      refine g_iconst (v := 1) X dX12_read_44 (by decide) ?_
      refine g_goto (tgt := 49) X dX12_read_45 (by decide) ?_
      exact J49 k20 hk20 t_at t_start t_number t_went t_w t_ways v1 1 hf
  have J67 : ∀ (t_at : Int32) (t_start : Int32) (t_number : Int32) (t_went : Int32) (t_w : (Nat → Int32)) (t_ways : (Nat → Int32)) (v1 : Int32) (v2 : Int32), f_X12_read_67 t_texted t_text t_at t_start t_number t_went t_w t_ways v1 v2 = some res → G 0 0 (wd_X12_read cI cZ h_t h_t_w h_t_isKept h_t_text h_t_statuses h_t_ways h_t_feels h_t_next h_t_came h_t_deep h_t_sizes h_t_tableOf h_t_usedBy h_t_taken h_t_sixOf t_texted t_above t_below t_at t_start t_number t_went t_h t_w t_text t_ways) [(0, .ref h_t), (1, .int v1), (2, .int v2)] 67 [] := by
    intro t_at t_start t_number t_went t_w t_ways v1 v2 hf
    unfold f_X12_read_67 at hf
    refine g_iload_n X dX12_read_67 rfl 2 rfl ?_
    refine g_if_ne (tgt := 79) X dX12_read_68 (by decide) (fun hc_18 => ?_) (fun hc_18 => ?_)
    · replace hf := ite_f hc_18 hf
      refine g_aload_n X dX12_read_79 rfl 0 rfl ?_
      refine g_sipush (v := 903) X dX12_read_80 (by decide) ?_
      refine g_iconst (v := 0) X dX12_read_83 (by decide) ?_
      obtain ⟨t_w_19, hk_20, hf⟩ := ob1_out hf
      refine g_cVW (st := []) (st1 := []) (C := RX12) (ci := 8) (q0 := 0) (ws' := (wd_X12_read cI cZ h_t h_t_w h_t_isKept h_t_text h_t_statuses h_t_ways h_t_feels h_t_next h_t_came h_t_deep h_t_sizes h_t_tableOf h_t_usedBy h_t_taken h_t_sixOf t_texted t_above t_below t_at t_start t_number t_went t_h t_w_19 t_text t_ways)) X (c_X12_copy l D cI cZ h_t h_t_w h_t_isKept h_t_text h_t_statuses h_t_ways h_t_feels h_t_next h_t_came h_t_deep h_t_sizes h_t_tableOf h_t_usedBy h_t_taken h_t_sixOf t_texted t_above t_below t_at t_start t_number t_went t_h t_w 903 0 _ hk_20) (Or.inl rfl) 2 gX12_read_X12_copy rfl hv_X12_copy ⟨Nat.le_of_ble_eq_true rfl, Nat.le_of_ble_eq_true rfl⟩ rfl rfl (Nat.le_of_ble_eq_true rfl) ⟨rfl, rfl⟩ (Nat.zero_le _) (Nat.zero_le _) rfl rfl rfl dX12_read_84 [0, 1] rfl rfl [2, 3] rfl rfl (by decide) [2, 3, 0, 1] rfl rfl rfl ?_
      refine g_iload_n X dX12_read_87 rfl 1 rfl ?_
      exact hR _ _ _ _ dX12_read_88 (kV_in (u := (v1, t_at, t_start, t_number, t_went, t_w_19, t_ways)) hf)
    · replace hf := ite_t hc_18 hf
      refine g_bipush (v := (-10)) X dX12_read_71 (by decide) ?_
      refine g_aload_n X dX12_read_73 rfl 0 rfl ?_
      refine g_get (C := RX12) (T := TX12) (N := 22) (ci := 8) (v := (.int t_start)) X iw_X12_read_X12 0 rfl rfl 8 (by decide) lk_X12_read_111 rfl dX12_read_74 ?_
      refine g_isub X dX12_read_77 ?_
      exact hR _ _ _ _ dX12_read_78 (kV_in (u := ((-10) - t_start, t_at, t_start, t_number, t_went, t_w, t_ways)) hf)
  have J20 : ∀ (n : Nat) (t_at : Int32) (t_start : Int32) (t_number : Int32) (t_went : Int32) (t_w : (Nat → Int32)) (t_ways : (Nat → Int32)) (v1 : Int32) (v2 : Int32), f_X12_read_20 t_texted t_text n t_at t_start t_number t_went t_w t_ways v1 v2 = some res → G 0 0 (wd_X12_read cI cZ h_t h_t_w h_t_isKept h_t_text h_t_statuses h_t_ways h_t_feels h_t_next h_t_came h_t_deep h_t_sizes h_t_tableOf h_t_usedBy h_t_taken h_t_sixOf t_texted t_above t_below t_at t_start t_number t_went t_h t_w t_text t_ways) [(0, .ref h_t), (1, .int v1), (2, .int v2)] 20 [] := by
    intro n
    induction n with
    | zero => intro t_at t_start t_number t_went t_w t_ways v1 v2 hf; rw [f_X12_read_20] at hf; cases hf
    | succ n ih =>
      intro t_at t_start t_number t_went t_w t_ways v1 v2 hf
      rw [f_X12_read_20] at hf
      refine g_iload_n X dX12_read_20 rfl 2 rfl ?_
      refine g_if_eq (tgt := 67) X dX12_read_21 (by decide) (fun hc_1 => ?_) (fun hc_1 => ?_)
      · replace hf := ite_t hc_1 hf
        exact J67 t_at t_start t_number t_went t_w t_ways v1 v2 hf
      · replace hf := ite_f hc_1 hf
        refine g_aload_n X dX12_read_24 rfl 0 rfl ?_
        refine g_get (C := RX12) (T := TX12) (N := 22) (ci := 8) (v := (.int t_start)) X iw_X12_read_X12 0 rfl rfl 8 (by decide) lk_X12_read_111 rfl dX12_read_25 ?_
        refine g_aload_n X dX12_read_28 rfl 0 rfl ?_
        refine g_get (C := RX12) (T := TX12) (N := 22) (ci := 8) (v := (.int t_texted)) X iw_X12_read_X12 0 rfl rfl 3 (by decide) lk_X12_read_60 rfl dX12_read_29 ?_
        refine g_icmp_lt (tgt := 39) X dX12_read_32 (by decide) (fun hc_2 => ?_) (fun hc_2 => ?_)
        · replace hf := ite_t hc_2 hf
          refine g_lv X (lv' := [(0, .ref h_t), (1, .int v1)]) [0, 1] rfl ?_
          exact J39 (f_X12_read_20 t_texted t_text n) ih t_at t_start t_number t_went t_w t_ways v1 hf
        · replace hf := ite_f hc_2 hf
          refine g_iload_n X dX12_read_35 rfl 1 rfl ?_
          refine g_if_ne (tgt := 67) X dX12_read_36 (by decide) (fun hc_3 => ?_) (fun hc_3 => ?_)
          · replace hf := ite_f hc_3 hf
            exact J67 t_at t_start t_number t_went t_w t_ways v1 v2 hf
          · replace hf := ite_t hc_3 hf
            refine g_lv X (lv' := [(0, .ref h_t), (1, .int v1)]) [0, 1] rfl ?_
            exact J39 (f_X12_read_20 t_texted t_text n) ih t_at t_start t_number t_went t_w t_ways v1 hf
  refine g_aload_n X dX12_read_0 rfl 0 rfl ?_
  refine g_sipush (v := 903) X dX12_read_1 (by decide) ?_
  obtain ⟨t_w_21, hk_22, hf⟩ := ob1_out hf
  refine g_cVW (st := []) (st1 := []) (C := RX12) (ci := 8) (q0 := 0) (ws' := (wd_X12_read cI cZ h_t h_t_w h_t_isKept h_t_text h_t_statuses h_t_ways h_t_feels h_t_next h_t_came h_t_deep h_t_sizes h_t_tableOf h_t_usedBy h_t_taken h_t_sixOf t_texted t_above t_below t_at t_start t_number t_went t_h t_w_21 t_text t_ways)) X (c_X12_empties l D cI cZ h_t h_t_w h_t_isKept h_t_text h_t_statuses h_t_ways h_t_feels h_t_next h_t_came h_t_deep h_t_sizes h_t_tableOf h_t_usedBy h_t_taken h_t_sixOf t_texted t_above t_below t_at t_start t_number t_went t_h t_w 903 _ hk_22) (Or.inl rfl) 1 gX12_read_X12_empties rfl hv_X12_empties ⟨Nat.le_of_ble_eq_true rfl, Nat.le_of_ble_eq_true rfl⟩ rfl rfl (Nat.le_of_ble_eq_true rfl) ⟨rfl, rfl⟩ (Nat.zero_le _) (Nat.zero_le _) rfl rfl rfl dX12_read_4 [0, 1] rfl rfl [2, 3] rfl rfl (by decide) [2, 3, 0, 1] rfl rfl rfl ?_
  refine g_aload_n X dX12_read_7 rfl 0 rfl ?_
  refine g_iconst (v := 0) X dX12_read_8 (by decide) ?_
  refine g_put (C := RX12) (T := TX12) (N := 22) (ci := 8) (v := .int 0) (ws' := (wd_X12_read cI cZ h_t h_t_w h_t_isKept h_t_text h_t_statuses h_t_ways h_t_feels h_t_next h_t_came h_t_deep h_t_sizes h_t_tableOf h_t_usedBy h_t_taken h_t_sixOf t_texted t_above t_below 0 t_start t_number t_went t_h t_w_21 t_text t_ways)) X iw_X12_read_X12 tyX12 tyX12_ok nmX12 0 rfl rfl 7 (by decide) lk_X12_read_105 rfl (tyX12_ok 7 (by decide)) rfl rfl (Nat.le_of_ble_eq_true rfl) dX12_read_9 rfl ?_
  refine g_iconst (v := 0) X dX12_read_12 (by decide) ?_
  refine g_istore_n (lv' := [(0, .ref h_t), (1, .int 0)]) X dX12_read_13 rfl (Nat.le_of_ble_eq_true rfl) [1, 0] rfl ?_
  refine g_aload_n X dX12_read_14 rfl 0 rfl ?_
  obtain ⟨t_at_23, t_start_24, hk_25, hf⟩ := ob2_out hf
  refine g_cVW (st := []) (st1 := []) (C := RX12) (ci := 8) (q0 := 0) (ws' := (wd_X12_read cI cZ h_t h_t_w h_t_isKept h_t_text h_t_statuses h_t_ways h_t_feels h_t_next h_t_came h_t_deep h_t_sizes h_t_tableOf h_t_usedBy h_t_taken h_t_sixOf t_texted t_above t_below t_at_23 t_start_24 t_number t_went t_h t_w_21 t_text t_ways)) X (c_X12_blanks l D cI cZ h_t h_t_w h_t_isKept h_t_text h_t_statuses h_t_ways h_t_feels h_t_next h_t_came h_t_deep h_t_sizes h_t_tableOf h_t_usedBy h_t_taken h_t_sixOf t_texted t_above t_below 0 t_start t_number t_went t_h t_text _ hk_25) (Or.inl rfl) 0 gX12_read_X12_blanks rfl hv_X12_blanks ⟨Nat.le_of_ble_eq_true rfl, Nat.le_of_ble_eq_true rfl⟩ rfl rfl (Nat.le_of_ble_eq_true rfl) ⟨rfl, rfl⟩ (Nat.zero_le _) (Nat.zero_le _) rfl rfl rfl dX12_read_15 [0, 2] rfl rfl [1, 3] rfl rfl (by decide) [2, 0, 3, 1] rfl rfl rfl ?_
  refine g_iconst (v := 1) X dX12_read_18 (by decide) ?_
  refine g_istore_n (lv' := [(0, .ref h_t), (1, .int 0), (2, .int 1)]) X dX12_read_19 rfl (Nat.le_of_ble_eq_true rfl) [1, 2, 0] rfl ?_
  exact J20 FU t_at_23 t_start_24 t_number t_went t_w_21 t_ways 0 1 hf
def wd_X12_minds (cI cZ : ClassId) (h_t : Nat) (h_t_w : Nat) (h_t_isKept : Nat) (h_t_text : Nat) (h_t_statuses : Nat) (h_t_ways : Nat) (h_t_feels : Nat) (h_t_next : Nat) (h_t_came : Nat) (h_t_deep : Nat) (h_t_sizes : Nat) (h_t_tableOf : Nat) (h_t_usedBy : Nat) (h_t_taken : Nat) (h_t_sixOf : Nat) (t_texted : Int32) (t_above : Int64) (t_below : Int64) (t_at : Int32) (t_start : Int32) (t_number : Int32) (t_went : Int32) (t_h : Int64) (t_w : (Nat → Int32)) : va_W := [(h_t, .inr (8, [.ref h_t_w, .ref h_t_isKept, .ref h_t_text, .int t_texted, .long t_above, .long t_below, .ref h_t_statuses, .int t_at, .int t_start, .int t_number, .ref h_t_ways, .int t_went, .ref h_t_feels, .ref h_t_next, .ref h_t_came, .ref h_t_deep, .ref h_t_sizes, .ref h_t_tableOf, .ref h_t_usedBy, .ref h_t_taken, .ref h_t_sixOf, .long t_h])), (h_t_w, .inl (cI, 1251, .inl t_w))]
abbrev rm_X12_minds : Room := { frames := 0, cells := 0, slots := 0, locals := 0 }
theorem hv_X12_minds : yX12_minds.cls = RX12 ∧ yX12_minds.cls ≠ "java/lang/invoke/MethodHandle" ∧ yX12_minds.cls ≠ "java/lang/invoke/VarHandle" ∧ (parseMethodDescriptor yX12_minds.desc).map (fun d => d.parameters.length) = some 0 := by decide +kernel
theorem iw_X12_minds_X12 : ∀ w ∈ u_ws RX12 TX12 22, w ∈ wsX12_minds := by decide +kernel
theorem lk_X12_minds_7 : Cond.fieldLink RX12 7 "ClerkChainsModel" "w" "[I" ∈ wsX12_minds := by decide +kernel
set_option maxHeartbeats 4000000 in
set_option maxRecDepth 100000 in
theorem c_X12_minds (l : Launch) (D : va_G) (cI cZ : ClassId) (h_t : Nat) (h_t_w : Nat) (h_t_isKept : Nat) (h_t_text : Nat) (h_t_statuses : Nat) (h_t_ways : Nat) (h_t_feels : Nat) (h_t_next : Nat) (h_t_came : Nat) (h_t_deep : Nat) (h_t_sizes : Nat) (h_t_tableOf : Nat) (h_t_usedBy : Nat) (h_t_taken : Nat) (h_t_sixOf : Nat) (t_texted : Int32) (t_above : Int64) (t_below : Int64) (t_at : Int32) (t_start : Int32) (t_number : Int32) (t_went : Int32) (t_h : Int64) (t_w : (Nat → Int32)) (res : (Nat → Int32)) (hf : f_X12_minds t_w = some res) : MetG l yX12_minds wsX12_minds rm_X12_minds D cI cZ none [.ref h_t] (wd_X12_minds cI cZ h_t h_t_w h_t_isKept h_t_text h_t_statuses h_t_ways h_t_feels h_t_next h_t_came h_t_deep h_t_sizes h_t_tableOf h_t_usedBy h_t_taken h_t_sixOf t_texted t_above t_below t_at t_start t_number t_went t_h t_w) (kV res (fun _ => none) (fun u => (wd_X12_minds cI cZ h_t h_t_w h_t_isKept h_t_text h_t_statuses h_t_ways h_t_feels h_t_next h_t_came h_t_deep h_t_sizes h_t_tableOf h_t_usedBy h_t_taken h_t_sixOf t_texted t_above t_below t_at t_start t_number t_went t_h u))) := by
  refine metG_of (cc := cX12_minds) (maxL := 3) (ret := none) (own := RX12) (lv0 := [(0, .ref h_t)]) (ini := false) (by decide) rfl (Nat.le_of_ble_eq_true rfl) rfl rfl (fun h => by cases h) (fun G X hR => ?_)
  replace hR := rt_void hR
  unfold f_X12_minds at hf
  have J118 : ∀ (t_w : (Nat → Int32)), f_X12_minds_118 t_w = some res → G 0 0 (wd_X12_minds cI cZ h_t h_t_w h_t_isKept h_t_text h_t_statuses h_t_ways h_t_feels h_t_next h_t_came h_t_deep h_t_sizes h_t_tableOf h_t_usedBy h_t_taken h_t_sixOf t_texted t_above t_below t_at t_start t_number t_went t_h t_w) [(0, .ref h_t)] 118 [] := by
    intro t_w hf
    unfold f_X12_minds_118 at hf
    refine g_aload_n X dX12_minds_118 rfl 0 rfl ?_
    refine g_get (C := RX12) (T := TX12) (N := 22) (ci := 8) (v := (.ref h_t_w)) X iw_X12_minds_X12 0 rfl rfl 0 (by decide) lk_X12_minds_7 rfl dX12_minds_119 ?_
    refine g_bipush (v := 124) X dX12_minds_122 (by decide) ?_
    refine g_dup2_11 X dX12_minds_124 rfl rfl ?_
    obtain ⟨hb_19, hf⟩ := chk_out hf
    refine g_iald X 1 rfl hb_19 dX12_minds_125 ?_
    refine g_iconst (v := 1) X dX12_minds_126 (by decide) ?_
    refine g_iadd X dX12_minds_127 ?_
    obtain ⟨hb_20, hf⟩ := chk_out hf
    obtain ⟨t_w_21, et_w_21, hf⟩ := bnd_out hf
    refine g_iast (ws' := (wd_X12_minds cI cZ h_t h_t_w h_t_isKept h_t_text h_t_statuses h_t_ways h_t_feels h_t_next h_t_came h_t_deep h_t_sizes h_t_tableOf h_t_usedBy h_t_taken h_t_sixOf t_texted t_above t_below t_at t_start t_number t_went t_h t_w_21)) X 1 rfl hb_20 et_w_21 dX12_minds_128 rfl ?_
    exact hR _ _ _ dX12_minds_129 (kV_in (u := t_w_21) hf)
  have J87 : ∀ (n : Nat) (t_w : (Nat → Int32)) (v1 : Int32) (v2 : Int32), f_X12_minds_87 n t_w v1 v2 = some res → G 0 0 (wd_X12_minds cI cZ h_t h_t_w h_t_isKept h_t_text h_t_statuses h_t_ways h_t_feels h_t_next h_t_came h_t_deep h_t_sizes h_t_tableOf h_t_usedBy h_t_taken h_t_sixOf t_texted t_above t_below t_at t_start t_number t_went t_h t_w) [(0, .ref h_t), (1, .int v1), (2, .int v2)] 87 [] := by
    intro n
    induction n with
    | zero => intro t_w v1 v2 hf; rw [f_X12_minds_87] at hf; cases hf
    | succ n ih =>
      intro t_w v1 v2 hf
      rw [f_X12_minds_87] at hf
      refine g_iload_n X dX12_minds_87 rfl 2 rfl ?_
      refine g_bipush (v := 21) X dX12_minds_88 (by decide) ?_
      refine g_icmp_ge (tgt := 118) X dX12_minds_90 (by decide) (fun hc_14 => ?_) (fun hc_14 => ?_)
      · replace hf := ite_t hc_14 hf
        refine g_lv X (lv' := [(0, .ref h_t)]) [0] rfl ?_
        exact J118 t_w hf
      · replace hf := ite_f hc_14 hf
        refine g_aload_n X dX12_minds_93 rfl 0 rfl ?_
        refine g_get (C := RX12) (T := TX12) (N := 22) (ci := 8) (v := (.ref h_t_w)) X iw_X12_minds_X12 0 rfl rfl 0 (by decide) lk_X12_minds_7 rfl dX12_minds_94 ?_
        refine g_iload_n X dX12_minds_97 rfl 1 rfl ?_
        refine g_iconst (v := 1) X dX12_minds_98 (by decide) ?_
        refine g_iadd X dX12_minds_99 ?_
        refine g_iload_n X dX12_minds_100 rfl 2 rfl ?_
        refine g_iadd X dX12_minds_101 ?_
        refine g_aload_n X dX12_minds_102 rfl 0 rfl ?_
        refine g_get (C := RX12) (T := TX12) (N := 22) (ci := 8) (v := (.ref h_t_w)) X iw_X12_minds_X12 0 rfl rfl 0 (by decide) lk_X12_minds_7 rfl dX12_minds_103 ?_
        refine g_bipush (v := 17) X dX12_minds_106 (by decide) ?_
        refine g_iload_n X dX12_minds_108 rfl 2 rfl ?_
        refine g_iadd X dX12_minds_109 ?_
        obtain ⟨hb_15, hf⟩ := chk_out hf
        refine g_iald X 1 rfl hb_15 dX12_minds_110 ?_
        obtain ⟨hb_16, hf⟩ := chk_out hf
        obtain ⟨t_w_17, et_w_17, hf⟩ := bnd_out hf
        refine g_iast (ws' := (wd_X12_minds cI cZ h_t h_t_w h_t_isKept h_t_text h_t_statuses h_t_ways h_t_feels h_t_next h_t_came h_t_deep h_t_sizes h_t_tableOf h_t_usedBy h_t_taken h_t_sixOf t_texted t_above t_below t_at t_start t_number t_went t_h t_w_17)) X 1 rfl hb_16 et_w_17 dX12_minds_111 rfl ?_
        obtain ⟨v2_18, ev2_18, hf⟩ := bnd_out hf
        refine g_iinc (v := v2_18) (lv' := [(0, .ref h_t), (1, .int v1), (2, .int v2_18)]) X dX12_minds_112 2 rfl (by rw [ev2_18]; rfl) (Nat.le_of_ble_eq_true rfl) [1, 2, 0] rfl ?_
        refine g_goto (tgt := 87) X dX12_minds_115 (by decide) ?_
        exact ih t_w_17 v1 v2_18 hf
  have J59 : ∀ (t_w : (Nat → Int32)), f_X12_minds_59 t_w = some res → G 0 0 (wd_X12_minds cI cZ h_t h_t_w h_t_isKept h_t_text h_t_statuses h_t_ways h_t_feels h_t_next h_t_came h_t_deep h_t_sizes h_t_tableOf h_t_usedBy h_t_taken h_t_sixOf t_texted t_above t_below t_at t_start t_number t_went t_h t_w) [(0, .ref h_t)] 59 [] := by
    intro t_w hf
    unfold f_X12_minds_59 at hf
    refine g_bipush (v := 125) X dX12_minds_59 (by decide) ?_
    refine g_bipush (v := 22) X dX12_minds_61 (by decide) ?_
    refine g_aload_n X dX12_minds_63 rfl 0 rfl ?_
    refine g_get (C := RX12) (T := TX12) (N := 22) (ci := 8) (v := (.ref h_t_w)) X iw_X12_minds_X12 0 rfl rfl 0 (by decide) lk_X12_minds_7 rfl dX12_minds_64 ?_
    refine g_bipush (v := 124) X dX12_minds_67 (by decide) ?_
    obtain ⟨hb_9, hf⟩ := chk_out hf
    refine g_iald X 1 rfl hb_9 dX12_minds_69 ?_
    refine g_imul X dX12_minds_70 ?_
    refine g_iadd X dX12_minds_71 ?_
    obtain ⟨v1_10, ev1_10, hf⟩ := bnd_out hf
    refine g_nmI X ev1_10 ?_
    refine g_istore_n (lv' := [(0, .ref h_t), (1, .int v1_10)]) X dX12_minds_72 rfl (Nat.le_of_ble_eq_true rfl) [1, 0] rfl ?_
    refine g_aload_n X dX12_minds_73 rfl 0 rfl ?_
    refine g_get (C := RX12) (T := TX12) (N := 22) (ci := 8) (v := (.ref h_t_w)) X iw_X12_minds_X12 0 rfl rfl 0 (by decide) lk_X12_minds_7 rfl dX12_minds_74 ?_
    refine g_iload_n X dX12_minds_77 rfl 1 rfl ?_
    refine g_aload_n X dX12_minds_78 rfl 0 rfl ?_
    refine g_get (C := RX12) (T := TX12) (N := 22) (ci := 8) (v := (.ref h_t_w)) X iw_X12_minds_X12 0 rfl rfl 0 (by decide) lk_X12_minds_7 rfl dX12_minds_79 ?_
    refine g_iconst (v := 2) X dX12_minds_82 (by decide) ?_
    obtain ⟨hb_11, hf⟩ := chk_out hf
    refine g_iald X 1 rfl hb_11 dX12_minds_83 ?_
    obtain ⟨hb_12, hf⟩ := chk_out hf
    obtain ⟨t_w_13, et_w_13, hf⟩ := bnd_out hf
    refine g_iast (ws' := (wd_X12_minds cI cZ h_t h_t_w h_t_isKept h_t_text h_t_statuses h_t_ways h_t_feels h_t_next h_t_came h_t_deep h_t_sizes h_t_tableOf h_t_usedBy h_t_taken h_t_sixOf t_texted t_above t_below t_at t_start t_number t_went t_h t_w_13)) X 1 rfl hb_12 et_w_13 dX12_minds_84 rfl ?_
    refine g_iconst (v := 0) X dX12_minds_85 (by decide) ?_
    refine g_istore_n (lv' := [(0, .ref h_t), (1, .int v1_10), (2, .int 0)]) X dX12_minds_86 rfl (Nat.le_of_ble_eq_true rfl) [1, 2, 0] rfl ?_
    exact J87 FU t_w_13 v1_10 0 hf
  have J48 : ∀ (t_w : (Nat → Int32)), f_X12_minds_48 t_w = some res → G 0 0 (wd_X12_minds cI cZ h_t h_t_w h_t_isKept h_t_text h_t_statuses h_t_ways h_t_feels h_t_next h_t_came h_t_deep h_t_sizes h_t_tableOf h_t_usedBy h_t_taken h_t_sixOf t_texted t_above t_below t_at t_start t_number t_went t_h t_w) [(0, .ref h_t)] 48 [] := by
    intro t_w hf
    unfold f_X12_minds_48 at hf
    refine g_aload_n X dX12_minds_48 rfl 0 rfl ?_
    refine g_get (C := RX12) (T := TX12) (N := 22) (ci := 8) (v := (.ref h_t_w)) X iw_X12_minds_X12 0 rfl rfl 0 (by decide) lk_X12_minds_7 rfl dX12_minds_49 ?_
    refine g_bipush (v := 124) X dX12_minds_52 (by decide) ?_
    refine g_dup2_11 X dX12_minds_54 rfl rfl ?_
    obtain ⟨hb_6, hf⟩ := chk_out hf
    refine g_iald X 1 rfl hb_6 dX12_minds_55 ?_
    refine g_iconst (v := 1) X dX12_minds_56 (by decide) ?_
    refine g_isub X dX12_minds_57 ?_
    obtain ⟨hb_7, hf⟩ := chk_out hf
    obtain ⟨t_w_8, et_w_8, hf⟩ := bnd_out hf
    refine g_iast (ws' := (wd_X12_minds cI cZ h_t h_t_w h_t_isKept h_t_text h_t_statuses h_t_ways h_t_feels h_t_next h_t_came h_t_deep h_t_sizes h_t_tableOf h_t_usedBy h_t_taken h_t_sixOf t_texted t_above t_below t_at t_start t_number t_went t_h t_w_8)) X 1 rfl hb_7 et_w_8 dX12_minds_58 rfl ?_
    exact J59 t_w_8 hf
  have J14 : ∀ (n : Nat) (t_w : (Nat → Int32)) (v1 : Int32), f_X12_minds_14 n t_w v1 = some res → G 0 0 (wd_X12_minds cI cZ h_t h_t_w h_t_isKept h_t_text h_t_statuses h_t_ways h_t_feels h_t_next h_t_came h_t_deep h_t_sizes h_t_tableOf h_t_usedBy h_t_taken h_t_sixOf t_texted t_above t_below t_at t_start t_number t_went t_h t_w) [(0, .ref h_t), (1, .int v1)] 14 [] := by
    intro n
    induction n with
    | zero => intro t_w v1 hf; rw [f_X12_minds_14] at hf; cases hf
    | succ n ih =>
      intro t_w v1 hf
      rw [f_X12_minds_14] at hf
      refine g_iload_n X dX12_minds_14 rfl 1 rfl ?_
      refine g_sipush (v := 154) X dX12_minds_15 (by decide) ?_
      refine g_icmp_ge (tgt := 48) X dX12_minds_18 (by decide) (fun hc_1 => ?_) (fun hc_1 => ?_)
      · replace hf := ite_t hc_1 hf
        refine g_lv X (lv' := [(0, .ref h_t)]) [0] rfl ?_
        exact J48 t_w hf
      · replace hf := ite_f hc_1 hf
        refine g_aload_n X dX12_minds_21 rfl 0 rfl ?_
        refine g_get (C := RX12) (T := TX12) (N := 22) (ci := 8) (v := (.ref h_t_w)) X iw_X12_minds_X12 0 rfl rfl 0 (by decide) lk_X12_minds_7 rfl dX12_minds_22 ?_
        refine g_bipush (v := 125) X dX12_minds_25 (by decide) ?_
        refine g_iload_n X dX12_minds_27 rfl 1 rfl ?_
        refine g_iadd X dX12_minds_28 ?_
        refine g_aload_n X dX12_minds_29 rfl 0 rfl ?_
        refine g_get (C := RX12) (T := TX12) (N := 22) (ci := 8) (v := (.ref h_t_w)) X iw_X12_minds_X12 0 rfl rfl 0 (by decide) lk_X12_minds_7 rfl dX12_minds_30 ?_
        refine g_bipush (v := 125) X dX12_minds_33 (by decide) ?_
        refine g_iload_n X dX12_minds_35 rfl 1 rfl ?_
        refine g_iadd X dX12_minds_36 ?_
        refine g_bipush (v := 22) X dX12_minds_37 (by decide) ?_
        refine g_iadd X dX12_minds_39 ?_
        obtain ⟨hb_2, hf⟩ := chk_out hf
        refine g_iald X 1 rfl hb_2 dX12_minds_40 ?_
        obtain ⟨hb_3, hf⟩ := chk_out hf
        obtain ⟨t_w_4, et_w_4, hf⟩ := bnd_out hf
        refine g_iast (ws' := (wd_X12_minds cI cZ h_t h_t_w h_t_isKept h_t_text h_t_statuses h_t_ways h_t_feels h_t_next h_t_came h_t_deep h_t_sizes h_t_tableOf h_t_usedBy h_t_taken h_t_sixOf t_texted t_above t_below t_at t_start t_number t_went t_h t_w_4)) X 1 rfl hb_3 et_w_4 dX12_minds_41 rfl ?_
        obtain ⟨v1_5, ev1_5, hf⟩ := bnd_out hf
        refine g_iinc (v := v1_5) (lv' := [(0, .ref h_t), (1, .int v1_5)]) X dX12_minds_42 1 rfl (by rw [ev1_5]; rfl) (Nat.le_of_ble_eq_true rfl) [1, 0] rfl ?_
        refine g_goto (tgt := 14) X dX12_minds_45 (by decide) ?_
        exact ih t_w_4 v1_5 hf
  refine g_aload_n X dX12_minds_0 rfl 0 rfl ?_
  refine g_get (C := RX12) (T := TX12) (N := 22) (ci := 8) (v := (.ref h_t_w)) X iw_X12_minds_X12 0 rfl rfl 0 (by decide) lk_X12_minds_7 rfl dX12_minds_1 ?_
  refine g_bipush (v := 124) X dX12_minds_4 (by decide) ?_
  obtain ⟨hb_22, hf⟩ := chk_out hf
  refine g_iald X 1 rfl hb_22 dX12_minds_6 ?_
  refine g_bipush (v := 8) X dX12_minds_7 (by decide) ?_
  refine g_icmp_ne (tgt := 59) X dX12_minds_9 (by decide) (fun hc_23 => ?_) (fun hc_23 => ?_)
  · replace hf := ite_f hc_23 hf
    exact J59 t_w hf
  · replace hf := ite_t hc_23 hf
    refine g_iconst (v := 0) X dX12_minds_12 (by decide) ?_
    refine g_istore_n (lv' := [(0, .ref h_t), (1, .int 0)]) X dX12_minds_13 rfl (Nat.le_of_ble_eq_true rfl) [1, 0] rfl ?_
    exact J14 FU t_w 0 hf
def wd_X12_hook (cI cZ : ClassId) (h_t : Nat) (h_t_w : Nat) (h_t_isKept : Nat) (h_t_text : Nat) (h_t_statuses : Nat) (h_t_ways : Nat) (h_t_feels : Nat) (h_t_next : Nat) (h_t_came : Nat) (h_t_deep : Nat) (h_t_sizes : Nat) (h_t_tableOf : Nat) (h_t_usedBy : Nat) (h_t_taken : Nat) (h_t_sixOf : Nat) (t_texted : Int32) (t_above : Int64) (t_below : Int64) (t_at : Int32) (t_start : Int32) (t_number : Int32) (t_went : Int32) (t_h : Int64) (t_w : (Nat → Int32)) (t_statuses : (Nat → Int32)) : va_W := [(h_t, .inr (8, [.ref h_t_w, .ref h_t_isKept, .ref h_t_text, .int t_texted, .long t_above, .long t_below, .ref h_t_statuses, .int t_at, .int t_start, .int t_number, .ref h_t_ways, .int t_went, .ref h_t_feels, .ref h_t_next, .ref h_t_came, .ref h_t_deep, .ref h_t_sizes, .ref h_t_tableOf, .ref h_t_usedBy, .ref h_t_taken, .ref h_t_sixOf, .long t_h])), (h_t_w, .inl (cI, 1251, .inl t_w)), (h_t_statuses, .inl (cI, 3, .inl t_statuses))]
abbrev rm_X12_hook : Room := { frames := 2, cells := 0, slots := 0, locals := 47 }
theorem hv_X12_hook : yX12_hook.cls = RX12 ∧ yX12_hook.cls ≠ "java/lang/invoke/MethodHandle" ∧ yX12_hook.cls ≠ "java/lang/invoke/VarHandle" ∧ (parseMethodDescriptor yX12_hook.desc).map (fun d => d.parameters.length) = some 2 := by decide +kernel
theorem iw_X12_hook_X12 : ∀ w ∈ u_ws RX12 TX12 22, w ∈ wsX12_hook := by decide +kernel
theorem lk_X12_hook_7 : Cond.fieldLink RX12 7 "ClerkChainsModel" "w" "[I" ∈ wsX12_hook := by decide +kernel
set_option maxHeartbeats 4000000 in
set_option maxRecDepth 100000 in
theorem c_X12_hook (l : Launch) (D : va_G) (cI cZ : ClassId) (h_t : Nat) (h_t_w : Nat) (h_t_isKept : Nat) (h_t_text : Nat) (h_t_statuses : Nat) (h_t_ways : Nat) (h_t_feels : Nat) (h_t_next : Nat) (h_t_came : Nat) (h_t_deep : Nat) (h_t_sizes : Nat) (h_t_tableOf : Nat) (h_t_usedBy : Nat) (h_t_taken : Nat) (h_t_sixOf : Nat) (t_texted : Int32) (t_above : Int64) (t_below : Int64) (t_at : Int32) (t_start : Int32) (t_number : Int32) (t_went : Int32) (t_h : Int64) (t_w : (Nat → Int32)) (t_statuses : (Nat → Int32)) (v1 : Int32) (v2 : Int32) (res : Int32 × (Nat → Int32) × (Nat → Int32)) (hf : f_X12_hook t_w t_statuses v1 v2 = some res) : MetG l yX12_hook wsX12_hook rm_X12_hook D cI cZ none [.ref h_t, .int v1, .int v2] (wd_X12_hook cI cZ h_t h_t_w h_t_isKept h_t_text h_t_statuses h_t_ways h_t_feels h_t_next h_t_came h_t_deep h_t_sizes h_t_tableOf h_t_usedBy h_t_taken h_t_sixOf t_texted t_above t_below t_at t_start t_number t_went t_h t_w t_statuses) (kV res (fun u => some (.int u.1)) (fun u => (wd_X12_hook cI cZ h_t h_t_w h_t_isKept h_t_text h_t_statuses h_t_ways h_t_feels h_t_next h_t_came h_t_deep h_t_sizes h_t_tableOf h_t_usedBy h_t_taken h_t_sixOf t_texted t_above t_below t_at t_start t_number t_went t_h (u.2.1) (u.2.2)))) := by
  refine metG_of (cc := cX12_hook) (maxL := 3) (ret := (some .int)) (own := RX12) (lv0 := [(0, .ref h_t), (1, .int v1), (2, .int v2)]) (ini := false) (by decide) rfl (Nat.le_of_ble_eq_true rfl) rfl rfl (fun h => by cases h) (fun G X hR => ?_)
  replace hR := rt_int hR
  unfold f_X12_hook at hf
  have J21 : ∀ (t_w : (Nat → Int32)) (t_statuses : (Nat → Int32)), f_X12_hook_21 t_w t_statuses = some res → G 0 0 (wd_X12_hook cI cZ h_t h_t_w h_t_isKept h_t_text h_t_statuses h_t_ways h_t_feels h_t_next h_t_came h_t_deep h_t_sizes h_t_tableOf h_t_usedBy h_t_taken h_t_sixOf t_texted t_above t_below t_at t_start t_number t_went t_h t_w t_statuses) [(0, .ref h_t)] 21 [] := by
    intro t_w t_statuses hf
    unfold f_X12_hook_21 at hf
    refine g_aload_n X dX12_hook_21 rfl 0 rfl ?_
    refine g_bipush (v := (-2)) X dX12_hook_22 (by decide) ?_
    obtain ⟨r_1, t_statuses_2, hk_3, hf⟩ := ob2_out hf
    refine g_cVW (st := []) (st1 := [.int r_1]) (C := RX12) (ci := 8) (q0 := 0) (ws' := (wd_X12_hook cI cZ h_t h_t_w h_t_isKept h_t_text h_t_statuses h_t_ways h_t_feels h_t_next h_t_came h_t_deep h_t_sizes h_t_tableOf h_t_usedBy h_t_taken h_t_sixOf t_texted t_above t_below t_at t_start t_number t_went t_h t_w t_statuses_2)) X (c_X12_bad l D cI cZ h_t h_t_w h_t_isKept h_t_text h_t_statuses h_t_ways h_t_feels h_t_next h_t_came h_t_deep h_t_sizes h_t_tableOf h_t_usedBy h_t_taken h_t_sixOf t_texted t_above t_below t_at t_start t_number t_went t_h t_statuses (-2) _ hk_3) (Or.inl rfl) 1 gX12_hook_X12_bad rfl hv_X12_bad ⟨Nat.le_of_ble_eq_true rfl, Nat.le_of_ble_eq_true rfl⟩ rfl rfl (Nat.le_of_ble_eq_true rfl) ⟨rfl, rfl⟩ (Nat.zero_le _) (Nat.zero_le _) rfl rfl rfl dX12_hook_24 [0, 2] rfl rfl [1] rfl rfl (by decide) [1, 0, 2] rfl rfl rfl ?_
    exact hR _ _ _ _ dX12_hook_27 (kV_in (u := (r_1, t_w, t_statuses_2)) hf)
  have J51 : ∀ (t_w : (Nat → Int32)) (t_statuses : (Nat → Int32)), f_X12_hook_51 t_w t_statuses = some res → G 0 0 (wd_X12_hook cI cZ h_t h_t_w h_t_isKept h_t_text h_t_statuses h_t_ways h_t_feels h_t_next h_t_came h_t_deep h_t_sizes h_t_tableOf h_t_usedBy h_t_taken h_t_sixOf t_texted t_above t_below t_at t_start t_number t_went t_h t_w t_statuses) [(0, .ref h_t)] 51 [] := by
    intro t_w t_statuses hf
    unfold f_X12_hook_51 at hf
    refine g_aload_n X dX12_hook_51 rfl 0 rfl ?_
    obtain ⟨r_4, t_statuses_5, hk_6, hf⟩ := ob2_out hf
    refine g_cVW (st := []) (st1 := [.int r_4]) (C := RX12) (ci := 8) (q0 := 0) (ws' := (wd_X12_hook cI cZ h_t h_t_w h_t_isKept h_t_text h_t_statuses h_t_ways h_t_feels h_t_next h_t_came h_t_deep h_t_sizes h_t_tableOf h_t_usedBy h_t_taken h_t_sixOf t_texted t_above t_below t_at t_start t_number t_went t_h t_w t_statuses_5)) X (c_X12_no l D cI cZ h_t h_t_w h_t_isKept h_t_text h_t_statuses h_t_ways h_t_feels h_t_next h_t_came h_t_deep h_t_sizes h_t_tableOf h_t_usedBy h_t_taken h_t_sixOf t_texted t_above t_below t_at t_start t_number t_went t_h t_statuses _ hk_6) (Or.inl rfl) 0 gX12_hook_X12_no rfl hv_X12_no ⟨Nat.le_of_ble_eq_true rfl, Nat.le_of_ble_eq_true rfl⟩ rfl rfl (Nat.le_of_ble_eq_true rfl) ⟨rfl, rfl⟩ (Nat.zero_le _) (Nat.zero_le _) rfl rfl rfl dX12_hook_52 [0, 2] rfl rfl [1] rfl rfl (by decide) [1, 0, 2] rfl rfl rfl ?_
    exact hR _ _ _ _ dX12_hook_55 (kV_in (u := (r_4, t_w, t_statuses_5)) hf)
  refine g_aload_n X dX12_hook_0 rfl 0 rfl ?_
  refine g_iload_n X dX12_hook_1 rfl 1 rfl ?_
  obtain ⟨r_7, hk_8, hf⟩ := ob1_out hf
  refine g_cVR (st := []) (st1 := [.int r_7]) (C := RX12) (ci := 8) (q0 := 0) X (c_X12_isClerk l D cI cZ h_t h_t_w h_t_isKept h_t_text h_t_statuses h_t_ways h_t_feels h_t_next h_t_came h_t_deep h_t_sizes h_t_tableOf h_t_usedBy h_t_taken h_t_sixOf t_texted t_above t_below t_at t_start t_number t_went t_h t_w v1 _ hk_8) (Or.inl rfl) 1 gX12_hook_X12_isClerk rfl hv_X12_isClerk ⟨Nat.le_of_ble_eq_true rfl, Nat.le_of_ble_eq_true rfl⟩ rfl rfl (Nat.le_of_ble_eq_true rfl) ⟨rfl, rfl⟩ (Nat.zero_le _) (Nat.zero_le _) rfl rfl rfl dX12_hook_2 [0, 1] rfl rfl rfl ?_
  refine g_if_eq (tgt := 21) X dX12_hook_5 (by decide) (fun hc_9 => ?_) (fun hc_9 => ?_)
  · replace hf := ite_t hc_9 hf
    refine g_lv X (lv' := [(0, .ref h_t)]) [0] rfl ?_
    exact J21 t_w t_statuses hf
  · replace hf := ite_f hc_9 hf
    refine g_aload_n X dX12_hook_8 rfl 0 rfl ?_
    refine g_iload_n X dX12_hook_9 rfl 2 rfl ?_
    obtain ⟨r_10, hk_11, hf⟩ := ob1_out hf
    refine g_cVR (st := []) (st1 := [.int r_10]) (C := RX12) (ci := 8) (q0 := 0) X (c_X12_isClerk l D cI cZ h_t h_t_w h_t_isKept h_t_text h_t_statuses h_t_ways h_t_feels h_t_next h_t_came h_t_deep h_t_sizes h_t_tableOf h_t_usedBy h_t_taken h_t_sixOf t_texted t_above t_below t_at t_start t_number t_went t_h t_w v2 _ hk_11) (Or.inl rfl) 1 gX12_hook_X12_isClerk rfl hv_X12_isClerk ⟨Nat.le_of_ble_eq_true rfl, Nat.le_of_ble_eq_true rfl⟩ rfl rfl (Nat.le_of_ble_eq_true rfl) ⟨rfl, rfl⟩ (Nat.zero_le _) (Nat.zero_le _) rfl rfl rfl dX12_hook_10 [0, 1] rfl rfl rfl ?_
    refine g_if_eq (tgt := 21) X dX12_hook_13 (by decide) (fun hc_12 => ?_) (fun hc_12 => ?_)
    · replace hf := ite_t hc_12 hf
      refine g_lv X (lv' := [(0, .ref h_t)]) [0] rfl ?_
      exact J21 t_w t_statuses hf
    · replace hf := ite_f hc_12 hf
      refine g_iload_n X dX12_hook_16 rfl 1 rfl ?_
      refine g_iload_n X dX12_hook_17 rfl 2 rfl ?_
      refine g_icmp_ne (tgt := 28) X dX12_hook_18 (by decide) (fun hc_13 => ?_) (fun hc_13 => ?_)
      · replace hf := ite_f hc_13 hf
        refine g_aload_n X dX12_hook_28 rfl 0 rfl ?_
        refine g_get (C := RX12) (T := TX12) (N := 22) (ci := 8) (v := (.ref h_t_w)) X iw_X12_hook_X12 0 rfl rfl 0 (by decide) lk_X12_hook_7 rfl dX12_hook_29 ?_
        refine g_bipush (v := 31) X dX12_hook_32 (by decide) ?_
        refine g_iload_n X dX12_hook_34 rfl 1 rfl ?_
        refine g_iadd X dX12_hook_35 ?_
        obtain ⟨hb_14, hf⟩ := chk_out hf
        refine g_iald X 1 rfl hb_14 dX12_hook_36 ?_
        refine g_iconst (v := (-1)) X dX12_hook_37 (by decide) ?_
        refine g_icmp_ne (tgt := 51) X dX12_hook_38 (by decide) (fun hc_15 => ?_) (fun hc_15 => ?_)
        · replace hf := ite_f hc_15 hf
          refine g_lv X (lv' := [(0, .ref h_t)]) [0] rfl ?_
          exact J51 t_w t_statuses hf
        · replace hf := ite_t hc_15 hf
          refine g_aload_n X dX12_hook_41 rfl 0 rfl ?_
          refine g_iconst (v := 0) X dX12_hook_42 (by decide) ?_
          refine g_iload_n X dX12_hook_43 rfl 1 rfl ?_
          refine g_iload_n X dX12_hook_44 rfl 2 rfl ?_
          obtain ⟨r_16, hk_17, hf⟩ := ob1_out hf
          refine g_cVR (st := []) (st1 := [.int r_16]) (C := RX12) (ci := 8) (q0 := 0) X (c_X12_isOver l D cI cZ h_t h_t_w h_t_isKept h_t_text h_t_statuses h_t_ways h_t_feels h_t_next h_t_came h_t_deep h_t_sizes h_t_tableOf h_t_usedBy h_t_taken h_t_sixOf t_texted t_above t_below t_at t_start t_number t_went t_h t_w 0 v1 v2 _ hk_17) (Or.inl rfl) 3 gX12_hook_X12_isOver rfl hv_X12_isOver ⟨Nat.le_of_ble_eq_true rfl, Nat.le_of_ble_eq_true rfl⟩ rfl rfl (Nat.le_of_ble_eq_true rfl) ⟨rfl, rfl⟩ (Nat.zero_le _) (Nat.zero_le _) rfl rfl rfl dX12_hook_45 [0, 1] rfl rfl rfl ?_
          refine g_if_eq (tgt := 56) X dX12_hook_48 (by decide) (fun hc_18 => ?_) (fun hc_18 => ?_)
          · replace hf := ite_t hc_18 hf
            refine g_aload_n X dX12_hook_56 rfl 0 rfl ?_
            refine g_iconst (v := 0) X dX12_hook_57 (by decide) ?_
            refine g_iload_n X dX12_hook_58 rfl 2 rfl ?_
            obtain ⟨r_19, hk_20, hf⟩ := ob1_out hf
            refine g_cVR (st := []) (st1 := [.int r_19]) (C := RX12) (ci := 8) (q0 := 0) X (c_X12_onIt l D cI cZ h_t h_t_w h_t_isKept h_t_text h_t_statuses h_t_ways h_t_feels h_t_next h_t_came h_t_deep h_t_sizes h_t_tableOf h_t_usedBy h_t_taken h_t_sixOf t_texted t_above t_below t_at t_start t_number t_went t_h t_w 0 v2 _ hk_20) (Or.inl rfl) 2 gX12_hook_X12_onIt rfl hv_X12_onIt ⟨Nat.le_of_ble_eq_true rfl, Nat.le_of_ble_eq_true rfl⟩ rfl rfl (Nat.le_of_ble_eq_true rfl) ⟨rfl, rfl⟩ (Nat.zero_le _) (Nat.zero_le _) rfl rfl rfl dX12_hook_59 [0, 1] rfl rfl rfl ?_
            refine g_iconst (v := 2) X dX12_hook_62 (by decide) ?_
            refine g_icmp_ne (tgt := 71) X dX12_hook_63 (by decide) (fun hc_21 => ?_) (fun hc_21 => ?_)
            · replace hf := ite_f hc_21 hf
              refine g_aload_n X dX12_hook_71 rfl 0 rfl ?_
              obtain ⟨t_w_22, hk_23, hf⟩ := ob1_out hf
              refine g_cVW (st := []) (st1 := []) (C := RX12) (ci := 8) (q0 := 0) (ws' := (wd_X12_hook cI cZ h_t h_t_w h_t_isKept h_t_text h_t_statuses h_t_ways h_t_feels h_t_next h_t_came h_t_deep h_t_sizes h_t_tableOf h_t_usedBy h_t_taken h_t_sixOf t_texted t_above t_below t_at t_start t_number t_went t_h t_w_22 t_statuses)) X (c_X12_minds l D cI cZ h_t h_t_w h_t_isKept h_t_text h_t_statuses h_t_ways h_t_feels h_t_next h_t_came h_t_deep h_t_sizes h_t_tableOf h_t_usedBy h_t_taken h_t_sixOf t_texted t_above t_below t_at t_start t_number t_went t_h t_w _ hk_23) (Or.inl rfl) 0 gX12_hook_X12_minds rfl hv_X12_minds ⟨Nat.le_of_ble_eq_true rfl, Nat.le_of_ble_eq_true rfl⟩ rfl rfl (Nat.le_of_ble_eq_true rfl) ⟨rfl, rfl⟩ (Nat.zero_le _) (Nat.zero_le _) rfl rfl rfl dX12_hook_72 [0, 1] rfl rfl [2] rfl rfl (by decide) [1, 2, 0] rfl rfl rfl ?_
              refine g_aload_n X dX12_hook_75 rfl 0 rfl ?_
              refine g_get (C := RX12) (T := TX12) (N := 22) (ci := 8) (v := (.ref h_t_w)) X iw_X12_hook_X12 0 rfl rfl 0 (by decide) lk_X12_hook_7 rfl dX12_hook_76 ?_
              refine g_bipush (v := 31) X dX12_hook_79 (by decide) ?_
              refine g_iload_n X dX12_hook_81 rfl 1 rfl ?_
              refine g_iadd X dX12_hook_82 ?_
              refine g_iload_n X dX12_hook_83 rfl 2 rfl ?_
              obtain ⟨hb_24, hf⟩ := chk_out hf
              obtain ⟨t_w_25, et_w_25, hf⟩ := bnd_out hf
              refine g_iast (ws' := (wd_X12_hook cI cZ h_t h_t_w h_t_isKept h_t_text h_t_statuses h_t_ways h_t_feels h_t_next h_t_came h_t_deep h_t_sizes h_t_tableOf h_t_usedBy h_t_taken h_t_sixOf t_texted t_above t_below t_at t_start t_number t_went t_h t_w_25 t_statuses)) X 1 rfl hb_24 et_w_25 dX12_hook_84 rfl ?_
              refine g_aload_n X dX12_hook_85 rfl 0 rfl ?_
              refine g_iconst (v := 0) X dX12_hook_86 (by decide) ?_
              refine g_iload_n X dX12_hook_87 rfl 1 rfl ?_
              obtain ⟨r_26, hk_27, hf⟩ := ob1_out hf
              refine g_cVR (st := []) (st1 := [.int r_26]) (C := RX12) (ci := 8) (q0 := 0) X (c_X12_stringOf l D cI cZ h_t h_t_w h_t_isKept h_t_text h_t_statuses h_t_ways h_t_feels h_t_next h_t_came h_t_deep h_t_sizes h_t_tableOf h_t_usedBy h_t_taken h_t_sixOf t_texted t_above t_below t_at t_start t_number t_went t_h t_w_25 0 v1 _ hk_27) (Or.inl rfl) 2 gX12_hook_X12_stringOf rfl hv_X12_stringOf ⟨Nat.le_of_ble_eq_true rfl, Nat.le_of_ble_eq_true rfl⟩ rfl rfl (Nat.le_of_ble_eq_true rfl) ⟨rfl, rfl⟩ (Nat.zero_le _) (Nat.zero_le _) rfl rfl rfl dX12_hook_88 [0, 1] rfl rfl rfl ?_
              obtain ⟨r_28, hk_29, hf⟩ := ob1_out hf
              refine g_cSR (st := []) (st1 := [.int r_28]) X (c_X12_ones l D cI cZ r_26 _ hk_29) (Or.inl rfl) 1 gX12_hook_X12_ones rfl hs_X12_ones ⟨Nat.le_of_ble_eq_true rfl, Nat.le_of_ble_eq_true rfl⟩ rfl rfl (Nat.le_of_ble_eq_true rfl) ⟨rfl, rfl⟩ (Nat.zero_le _) (Nat.zero_le _) dX12_hook_91 [] rfl rfl rfl ?_
              exact hR _ _ _ _ dX12_hook_94 (kV_in (u := (r_28, t_w_25, t_statuses)) hf)
            · replace hf := ite_t hc_21 hf
              refine g_aload_n X dX12_hook_66 rfl 0 rfl ?_
              obtain ⟨r_30, t_statuses_31, hk_32, hf⟩ := ob2_out hf
              refine g_cVW (st := []) (st1 := [.int r_30]) (C := RX12) (ci := 8) (q0 := 0) (ws' := (wd_X12_hook cI cZ h_t h_t_w h_t_isKept h_t_text h_t_statuses h_t_ways h_t_feels h_t_next h_t_came h_t_deep h_t_sizes h_t_tableOf h_t_usedBy h_t_taken h_t_sixOf t_texted t_above t_below t_at t_start t_number t_went t_h t_w t_statuses_31)) X (c_X12_full l D cI cZ h_t h_t_w h_t_isKept h_t_text h_t_statuses h_t_ways h_t_feels h_t_next h_t_came h_t_deep h_t_sizes h_t_tableOf h_t_usedBy h_t_taken h_t_sixOf t_texted t_above t_below t_at t_start t_number t_went t_h t_statuses _ hk_32) (Or.inl rfl) 0 gX12_hook_X12_full rfl hv_X12_full ⟨Nat.le_of_ble_eq_true rfl, Nat.le_of_ble_eq_true rfl⟩ rfl rfl (Nat.le_of_ble_eq_true rfl) ⟨rfl, rfl⟩ (Nat.zero_le _) (Nat.zero_le _) rfl rfl rfl dX12_hook_67 [0, 2] rfl rfl [1] rfl rfl (by decide) [1, 0, 2] rfl rfl rfl ?_
              exact hR _ _ _ _ dX12_hook_70 (kV_in (u := (r_30, t_w, t_statuses_31)) hf)
          · replace hf := ite_f hc_18 hf
            refine g_lv X (lv' := [(0, .ref h_t)]) [0] rfl ?_
            exact J51 t_w t_statuses hf
      · replace hf := ite_t hc_13 hf
        refine g_lv X (lv' := [(0, .ref h_t)]) [0] rfl ?_
        exact J21 t_w t_statuses hf
def wd_X12_unbend (cI cZ : ClassId) (h_t : Nat) (h_t_w : Nat) (h_t_isKept : Nat) (h_t_text : Nat) (h_t_statuses : Nat) (h_t_ways : Nat) (h_t_feels : Nat) (h_t_next : Nat) (h_t_came : Nat) (h_t_deep : Nat) (h_t_sizes : Nat) (h_t_tableOf : Nat) (h_t_usedBy : Nat) (h_t_taken : Nat) (h_t_sixOf : Nat) (t_texted : Int32) (t_above : Int64) (t_below : Int64) (t_at : Int32) (t_start : Int32) (t_number : Int32) (t_went : Int32) (t_h : Int64) (t_w : (Nat → Int32)) (t_statuses : (Nat → Int32)) : va_W := [(h_t, .inr (8, [.ref h_t_w, .ref h_t_isKept, .ref h_t_text, .int t_texted, .long t_above, .long t_below, .ref h_t_statuses, .int t_at, .int t_start, .int t_number, .ref h_t_ways, .int t_went, .ref h_t_feels, .ref h_t_next, .ref h_t_came, .ref h_t_deep, .ref h_t_sizes, .ref h_t_tableOf, .ref h_t_usedBy, .ref h_t_taken, .ref h_t_sixOf, .long t_h])), (h_t_w, .inl (cI, 1251, .inl t_w)), (h_t_statuses, .inl (cI, 3, .inl t_statuses))]
abbrev rm_X12_unbend : Room := { frames := 2, cells := 0, slots := 0, locals := 46 }
theorem hv_X12_unbend : yX12_unbend.cls = RX12 ∧ yX12_unbend.cls ≠ "java/lang/invoke/MethodHandle" ∧ yX12_unbend.cls ≠ "java/lang/invoke/VarHandle" ∧ (parseMethodDescriptor yX12_unbend.desc).map (fun d => d.parameters.length) = some 1 := by decide +kernel
theorem iw_X12_unbend_X12 : ∀ w ∈ u_ws RX12 TX12 22, w ∈ wsX12_unbend := by decide +kernel
theorem lk_X12_unbend_7 : Cond.fieldLink RX12 7 "ClerkChainsModel" "w" "[I" ∈ wsX12_unbend := by decide +kernel
set_option maxHeartbeats 4000000 in
set_option maxRecDepth 100000 in
theorem c_X12_unbend (l : Launch) (D : va_G) (cI cZ : ClassId) (h_t : Nat) (h_t_w : Nat) (h_t_isKept : Nat) (h_t_text : Nat) (h_t_statuses : Nat) (h_t_ways : Nat) (h_t_feels : Nat) (h_t_next : Nat) (h_t_came : Nat) (h_t_deep : Nat) (h_t_sizes : Nat) (h_t_tableOf : Nat) (h_t_usedBy : Nat) (h_t_taken : Nat) (h_t_sixOf : Nat) (t_texted : Int32) (t_above : Int64) (t_below : Int64) (t_at : Int32) (t_start : Int32) (t_number : Int32) (t_went : Int32) (t_h : Int64) (t_w : (Nat → Int32)) (t_statuses : (Nat → Int32)) (v1 : Int32) (res : Int32 × (Nat → Int32) × (Nat → Int32)) (hf : f_X12_unbend t_w t_statuses v1 = some res) : MetG l yX12_unbend wsX12_unbend rm_X12_unbend D cI cZ none [.ref h_t, .int v1] (wd_X12_unbend cI cZ h_t h_t_w h_t_isKept h_t_text h_t_statuses h_t_ways h_t_feels h_t_next h_t_came h_t_deep h_t_sizes h_t_tableOf h_t_usedBy h_t_taken h_t_sixOf t_texted t_above t_below t_at t_start t_number t_went t_h t_w t_statuses) (kV res (fun u => some (.int u.1)) (fun u => (wd_X12_unbend cI cZ h_t h_t_w h_t_isKept h_t_text h_t_statuses h_t_ways h_t_feels h_t_next h_t_came h_t_deep h_t_sizes h_t_tableOf h_t_usedBy h_t_taken h_t_sixOf t_texted t_above t_below t_at t_start t_number t_went t_h (u.2.1) (u.2.2)))) := by
  refine metG_of (cc := cX12_unbend) (maxL := 3) (ret := (some .int)) (own := RX12) (lv0 := [(0, .ref h_t), (1, .int v1)]) (ini := false) (by decide) rfl (Nat.le_of_ble_eq_true rfl) rfl rfl (fun h => by cases h) (fun G X hR => ?_)
  replace hR := rt_int hR
  unfold f_X12_unbend at hf
  refine g_aload_n X dX12_unbend_0 rfl 0 rfl ?_
  refine g_iload_n X dX12_unbend_1 rfl 1 rfl ?_
  obtain ⟨r_1, hk_2, hf⟩ := ob1_out hf
  refine g_cVR (st := []) (st1 := [.int r_1]) (C := RX12) (ci := 8) (q0 := 0) X (c_X12_isClerk l D cI cZ h_t h_t_w h_t_isKept h_t_text h_t_statuses h_t_ways h_t_feels h_t_next h_t_came h_t_deep h_t_sizes h_t_tableOf h_t_usedBy h_t_taken h_t_sixOf t_texted t_above t_below t_at t_start t_number t_went t_h t_w v1 _ hk_2) (Or.inl rfl) 1 gX12_unbend_X12_isClerk rfl hv_X12_isClerk ⟨Nat.le_of_ble_eq_true rfl, Nat.le_of_ble_eq_true rfl⟩ rfl rfl (Nat.le_of_ble_eq_true rfl) ⟨rfl, rfl⟩ (Nat.zero_le _) (Nat.zero_le _) rfl rfl rfl dX12_unbend_2 [0, 1] rfl rfl rfl ?_
  refine g_if_ne (tgt := 15) X dX12_unbend_5 (by decide) (fun hc_3 => ?_) (fun hc_3 => ?_)
  · replace hf := ite_f hc_3 hf
    refine g_aload_n X dX12_unbend_15 rfl 0 rfl ?_
    refine g_get (C := RX12) (T := TX12) (N := 22) (ci := 8) (v := (.ref h_t_w)) X iw_X12_unbend_X12 0 rfl rfl 0 (by decide) lk_X12_unbend_7 rfl dX12_unbend_16 ?_
    refine g_bipush (v := 31) X dX12_unbend_19 (by decide) ?_
    refine g_iload_n X dX12_unbend_21 rfl 1 rfl ?_
    refine g_iadd X dX12_unbend_22 ?_
    obtain ⟨hb_4, hf⟩ := chk_out hf
    refine g_iald X 1 rfl hb_4 dX12_unbend_23 ?_
    obtain ⟨v2_5, ev2_5, hf⟩ := bnd_out hf
    refine g_nmI X ev2_5 ?_
    refine g_istore_n (lv' := [(0, .ref h_t), (1, .int v1), (2, .int v2_5)]) X dX12_unbend_24 rfl (Nat.le_of_ble_eq_true rfl) [1, 2, 0] rfl ?_
    refine g_iload_n X dX12_unbend_25 rfl 2 rfl ?_
    refine g_iconst (v := (-1)) X dX12_unbend_26 (by decide) ?_
    refine g_icmp_ne (tgt := 35) X dX12_unbend_27 (by decide) (fun hc_6 => ?_) (fun hc_6 => ?_)
    · replace hf := ite_f hc_6 hf
      refine g_aload_n X dX12_unbend_35 rfl 0 rfl ?_
      obtain ⟨t_w_7, hk_8, hf⟩ := ob1_out hf
      refine g_cVW (st := []) (st1 := []) (C := RX12) (ci := 8) (q0 := 0) (ws' := (wd_X12_unbend cI cZ h_t h_t_w h_t_isKept h_t_text h_t_statuses h_t_ways h_t_feels h_t_next h_t_came h_t_deep h_t_sizes h_t_tableOf h_t_usedBy h_t_taken h_t_sixOf t_texted t_above t_below t_at t_start t_number t_went t_h t_w_7 t_statuses)) X (c_X12_minds l D cI cZ h_t h_t_w h_t_isKept h_t_text h_t_statuses h_t_ways h_t_feels h_t_next h_t_came h_t_deep h_t_sizes h_t_tableOf h_t_usedBy h_t_taken h_t_sixOf t_texted t_above t_below t_at t_start t_number t_went t_h t_w _ hk_8) (Or.inl rfl) 0 gX12_unbend_X12_minds rfl hv_X12_minds ⟨Nat.le_of_ble_eq_true rfl, Nat.le_of_ble_eq_true rfl⟩ rfl rfl (Nat.le_of_ble_eq_true rfl) ⟨rfl, rfl⟩ (Nat.zero_le _) (Nat.zero_le _) rfl rfl rfl dX12_unbend_36 [0, 1] rfl rfl [2] rfl rfl (by decide) [1, 2, 0] rfl rfl rfl ?_
      refine g_aload_n X dX12_unbend_39 rfl 0 rfl ?_
      refine g_get (C := RX12) (T := TX12) (N := 22) (ci := 8) (v := (.ref h_t_w)) X iw_X12_unbend_X12 0 rfl rfl 0 (by decide) lk_X12_unbend_7 rfl dX12_unbend_40 ?_
      refine g_bipush (v := 31) X dX12_unbend_43 (by decide) ?_
      refine g_iload_n X dX12_unbend_45 rfl 1 rfl ?_
      refine g_iadd X dX12_unbend_46 ?_
      refine g_iconst (v := (-1)) X dX12_unbend_47 (by decide) ?_
      obtain ⟨hb_9, hf⟩ := chk_out hf
      obtain ⟨t_w_10, et_w_10, hf⟩ := bnd_out hf
      refine g_iast (ws' := (wd_X12_unbend cI cZ h_t h_t_w h_t_isKept h_t_text h_t_statuses h_t_ways h_t_feels h_t_next h_t_came h_t_deep h_t_sizes h_t_tableOf h_t_usedBy h_t_taken h_t_sixOf t_texted t_above t_below t_at t_start t_number t_went t_h t_w_10 t_statuses)) X 1 rfl hb_9 et_w_10 dX12_unbend_48 rfl ?_
      refine g_iload_n X dX12_unbend_49 rfl 2 rfl ?_
      exact hR _ _ _ _ dX12_unbend_50 (kV_in (u := (v2_5, t_w_10, t_statuses)) hf)
    · replace hf := ite_t hc_6 hf
      refine g_aload_n X dX12_unbend_30 rfl 0 rfl ?_
      obtain ⟨r_11, t_statuses_12, hk_13, hf⟩ := ob2_out hf
      refine g_cVW (st := []) (st1 := [.int r_11]) (C := RX12) (ci := 8) (q0 := 0) (ws' := (wd_X12_unbend cI cZ h_t h_t_w h_t_isKept h_t_text h_t_statuses h_t_ways h_t_feels h_t_next h_t_came h_t_deep h_t_sizes h_t_tableOf h_t_usedBy h_t_taken h_t_sixOf t_texted t_above t_below t_at t_start t_number t_went t_h t_w t_statuses_12)) X (c_X12_no l D cI cZ h_t h_t_w h_t_isKept h_t_text h_t_statuses h_t_ways h_t_feels h_t_next h_t_came h_t_deep h_t_sizes h_t_tableOf h_t_usedBy h_t_taken h_t_sixOf t_texted t_above t_below t_at t_start t_number t_went t_h t_statuses _ hk_13) (Or.inl rfl) 0 gX12_unbend_X12_no rfl hv_X12_no ⟨Nat.le_of_ble_eq_true rfl, Nat.le_of_ble_eq_true rfl⟩ rfl rfl (Nat.le_of_ble_eq_true rfl) ⟨rfl, rfl⟩ (Nat.zero_le _) (Nat.zero_le _) rfl rfl rfl dX12_unbend_31 [0, 2] rfl rfl [1] rfl rfl (by decide) [1, 0, 2] rfl rfl rfl ?_
      exact hR _ _ _ _ dX12_unbend_34 (kV_in (u := (r_11, t_w, t_statuses_12)) hf)
  · replace hf := ite_t hc_3 hf
    refine g_aload_n X dX12_unbend_8 rfl 0 rfl ?_
    refine g_bipush (v := (-2)) X dX12_unbend_9 (by decide) ?_
    obtain ⟨r_14, t_statuses_15, hk_16, hf⟩ := ob2_out hf
    refine g_cVW (st := []) (st1 := [.int r_14]) (C := RX12) (ci := 8) (q0 := 0) (ws' := (wd_X12_unbend cI cZ h_t h_t_w h_t_isKept h_t_text h_t_statuses h_t_ways h_t_feels h_t_next h_t_came h_t_deep h_t_sizes h_t_tableOf h_t_usedBy h_t_taken h_t_sixOf t_texted t_above t_below t_at t_start t_number t_went t_h t_w t_statuses_15)) X (c_X12_bad l D cI cZ h_t h_t_w h_t_isKept h_t_text h_t_statuses h_t_ways h_t_feels h_t_next h_t_came h_t_deep h_t_sizes h_t_tableOf h_t_usedBy h_t_taken h_t_sixOf t_texted t_above t_below t_at t_start t_number t_went t_h t_statuses (-2) _ hk_16) (Or.inl rfl) 1 gX12_unbend_X12_bad rfl hv_X12_bad ⟨Nat.le_of_ble_eq_true rfl, Nat.le_of_ble_eq_true rfl⟩ rfl rfl (Nat.le_of_ble_eq_true rfl) ⟨rfl, rfl⟩ (Nat.zero_le _) (Nat.zero_le _) rfl rfl rfl dX12_unbend_11 [0, 2] rfl rfl [1] rfl rfl (by decide) [1, 0, 2] rfl rfl rfl ?_
    exact hR _ _ _ _ dX12_unbend_14 (kV_in (u := (r_14, t_w, t_statuses_15)) hf)
def wd_X12_day (cI cZ : ClassId) (h_t : Nat) (h_t_w : Nat) (h_t_isKept : Nat) (h_t_text : Nat) (h_t_statuses : Nat) (h_t_ways : Nat) (h_t_feels : Nat) (h_t_next : Nat) (h_t_came : Nat) (h_t_deep : Nat) (h_t_sizes : Nat) (h_t_tableOf : Nat) (h_t_usedBy : Nat) (h_t_taken : Nat) (h_t_sixOf : Nat) (t_texted : Int32) (t_above : Int64) (t_below : Int64) (t_at : Int32) (t_start : Int32) (t_number : Int32) (t_went : Int32) (t_h : Int64) (t_w : (Nat → Int32)) (t_statuses : (Nat → Int32)) (t_ways : (Nat → Int32)) : va_W := [(h_t, .inr (8, [.ref h_t_w, .ref h_t_isKept, .ref h_t_text, .int t_texted, .long t_above, .long t_below, .ref h_t_statuses, .int t_at, .int t_start, .int t_number, .ref h_t_ways, .int t_went, .ref h_t_feels, .ref h_t_next, .ref h_t_came, .ref h_t_deep, .ref h_t_sizes, .ref h_t_tableOf, .ref h_t_usedBy, .ref h_t_taken, .ref h_t_sixOf, .long t_h])), (h_t_w, .inl (cI, 1251, .inl t_w)), (h_t_statuses, .inl (cI, 3, .inl t_statuses)), (h_t_ways, .inl (cI, 7, .inl t_ways))]
abbrev rm_X12_day : Room := { frames := 6, cells := 0, slots := 0, locals := 141 }
theorem hv_X12_day : yX12_day.cls = RX12 ∧ yX12_day.cls ≠ "java/lang/invoke/MethodHandle" ∧ yX12_day.cls ≠ "java/lang/invoke/VarHandle" ∧ (parseMethodDescriptor yX12_day.desc).map (fun d => d.parameters.length) = some 1 := by decide +kernel
theorem iw_X12_day_X12 : ∀ w ∈ u_ws RX12 TX12 22, w ∈ wsX12_day := by decide +kernel
theorem lk_X12_day_7 : Cond.fieldLink RX12 7 "ClerkChainsModel" "w" "[I" ∈ wsX12_day := by decide +kernel
theorem lk_X12_day_197 : Cond.fieldLink RX12 197 "ClerkChainsModel" "went" "I" ∈ wsX12_day := by decide +kernel
theorem lk_X12_day_219 : Cond.constantLong RX12 219 60 ∈ wsX12_day := by decide +kernel
set_option maxHeartbeats 4000000 in
set_option maxRecDepth 100000 in
theorem c_X12_day (l : Launch) (D : va_G) (cI cZ : ClassId) (h_t : Nat) (h_t_w : Nat) (h_t_isKept : Nat) (h_t_text : Nat) (h_t_statuses : Nat) (h_t_ways : Nat) (h_t_feels : Nat) (h_t_next : Nat) (h_t_came : Nat) (h_t_deep : Nat) (h_t_sizes : Nat) (h_t_tableOf : Nat) (h_t_usedBy : Nat) (h_t_taken : Nat) (h_t_sixOf : Nat) (t_texted : Int32) (t_above : Int64) (t_below : Int64) (t_at : Int32) (t_start : Int32) (t_number : Int32) (t_went : Int32) (t_h : Int64) (t_w : (Nat → Int32)) (t_statuses : (Nat → Int32)) (t_ways : (Nat → Int32)) (v1 : Int32) (res : Int32 × Int32 × (Nat → Int32) × (Nat → Int32) × (Nat → Int32)) (hf : f_X12_day t_went t_w t_statuses t_ways v1 = some res) : MetG l yX12_day wsX12_day rm_X12_day D cI cZ none [.ref h_t, .int v1] (wd_X12_day cI cZ h_t h_t_w h_t_isKept h_t_text h_t_statuses h_t_ways h_t_feels h_t_next h_t_came h_t_deep h_t_sizes h_t_tableOf h_t_usedBy h_t_taken h_t_sixOf t_texted t_above t_below t_at t_start t_number t_went t_h t_w t_statuses t_ways) (kV res (fun u => some (.int u.1)) (fun u => (wd_X12_day cI cZ h_t h_t_w h_t_isKept h_t_text h_t_statuses h_t_ways h_t_feels h_t_next h_t_came h_t_deep h_t_sizes h_t_tableOf h_t_usedBy h_t_taken h_t_sixOf t_texted t_above t_below t_at t_start t_number (u.2.1) t_h (u.2.2.1) (u.2.2.2.1) (u.2.2.2.2)))) := by
  refine metG_of (cc := cX12_day) (maxL := 3) (ret := (some .int)) (own := RX12) (lv0 := [(0, .ref h_t), (1, .int v1)]) (ini := false) (by decide) rfl (Nat.le_of_ble_eq_true rfl) rfl rfl (fun h => by cases h) (fun G X hR => ?_)
  replace hR := rt_int hR
  unfold f_X12_day at hf
  have J58 : ∀ (t_went : Int32) (t_w : (Nat → Int32)) (t_statuses : (Nat → Int32)) (t_ways : (Nat → Int32)), f_X12_day_58 t_went t_w t_statuses t_ways = some res → G 0 0 (wd_X12_day cI cZ h_t h_t_w h_t_isKept h_t_text h_t_statuses h_t_ways h_t_feels h_t_next h_t_came h_t_deep h_t_sizes h_t_tableOf h_t_usedBy h_t_taken h_t_sixOf t_texted t_above t_below t_at t_start t_number t_went t_h t_w t_statuses t_ways) [(0, .ref h_t)] 58 [] := by
    intro t_went t_w t_statuses t_ways hf
    unfold f_X12_day_58 at hf
    refine g_aload_n X dX12_day_58 rfl 0 rfl ?_
    refine g_get (C := RX12) (T := TX12) (N := 22) (ci := 8) (v := (.int t_went)) X iw_X12_day_X12 0 rfl rfl 11 (by decide) lk_X12_day_197 rfl dX12_day_59 ?_
    exact hR _ _ _ _ dX12_day_62 (kV_in (u := (t_went, t_went, t_w, t_statuses, t_ways)) hf)
  have J30 : ∀ (n : Nat) (t_went : Int32) (t_w : (Nat → Int32)) (t_statuses : (Nat → Int32)) (t_ways : (Nat → Int32)) (v1 : Int32) (v2 : Int32), f_X12_day_30 n t_went t_w t_statuses t_ways v1 v2 = some res → G 0 0 (wd_X12_day cI cZ h_t h_t_w h_t_isKept h_t_text h_t_statuses h_t_ways h_t_feels h_t_next h_t_came h_t_deep h_t_sizes h_t_tableOf h_t_usedBy h_t_taken h_t_sixOf t_texted t_above t_below t_at t_start t_number t_went t_h t_w t_statuses t_ways) [(0, .ref h_t), (1, .int v1), (2, .int v2)] 30 [] := by
    intro n
    induction n with
    | zero => intro t_went t_w t_statuses t_ways v1 v2 hf; rw [f_X12_day_30] at hf; cases hf
    | succ n ih =>
      intro t_went t_w t_statuses t_ways v1 v2 hf
      rw [f_X12_day_30] at hf
      refine g_iload_n X dX12_day_30 rfl 2 rfl ?_
      refine g_iload_n X dX12_day_31 rfl 1 rfl ?_
      refine g_icmp_ge (tgt := 58) X dX12_day_32 (by decide) (fun hc_1 => ?_) (fun hc_1 => ?_)
      · replace hf := ite_t hc_1 hf
        refine g_lv X (lv' := [(0, .ref h_t)]) [0] rfl ?_
        exact J58 t_went t_w t_statuses t_ways hf
      · replace hf := ite_f hc_1 hf
        refine g_aload_n X dX12_day_35 rfl 0 rfl ?_
        refine g_get (C := RX12) (T := TX12) (N := 22) (ci := 8) (v := (.ref h_t_w)) X iw_X12_day_X12 0 rfl rfl 0 (by decide) lk_X12_day_7 rfl dX12_day_36 ?_
        refine g_iconst (v := 2) X dX12_day_39 (by decide) ?_
        obtain ⟨hb_2, hf⟩ := chk_out hf
        refine g_iald X 1 rfl hb_2 dX12_day_40 ?_
        refine g_sipush (v := 999) X dX12_day_41 (by decide) ?_
        refine g_icmp_ge (tgt := 58) X dX12_day_44 (by decide) (fun hc_3 => ?_) (fun hc_3 => ?_)
        · replace hf := ite_t hc_3 hf
          refine g_lv X (lv' := [(0, .ref h_t)]) [0] rfl ?_
          exact J58 t_went t_w t_statuses t_ways hf
        · replace hf := ite_f hc_3 hf
          refine g_aload_n X dX12_day_47 rfl 0 rfl ?_
          refine g_iconst (v := 0) X dX12_day_48 (by decide) ?_
          obtain ⟨t_went_4, t_w_5, t_ways_6, hk_7, hf⟩ := ob3_out hf
          refine g_cVW (st := []) (st1 := []) (C := RX12) (ci := 8) (q0 := 0) (ws' := (wd_X12_day cI cZ h_t h_t_w h_t_isKept h_t_text h_t_statuses h_t_ways h_t_feels h_t_next h_t_came h_t_deep h_t_sizes h_t_tableOf h_t_usedBy h_t_taken h_t_sixOf t_texted t_above t_below t_at t_start t_number t_went_4 t_h t_w_5 t_statuses t_ways_6)) X (c_X12_passes l D cI cZ h_t h_t_w h_t_isKept h_t_text h_t_statuses h_t_ways h_t_feels h_t_next h_t_came h_t_deep h_t_sizes h_t_tableOf h_t_usedBy h_t_taken h_t_sixOf t_texted t_above t_below t_at t_start t_number t_went t_h t_w t_ways 0 _ hk_7) (Or.inl rfl) 1 gX12_day_X12_passes rfl hv_X12_passes ⟨Nat.le_of_ble_eq_true rfl, Nat.le_of_ble_eq_true rfl⟩ rfl rfl (Nat.le_of_ble_eq_true rfl) ⟨rfl, rfl⟩ (Nat.zero_le _) (Nat.zero_le _) rfl rfl rfl dX12_day_49 [0, 1, 3] rfl rfl [2] rfl rfl (by decide) [1, 2, 0, 3] rfl rfl rfl ?_
          obtain ⟨v2_8, ev2_8, hf⟩ := bnd_out hf
          refine g_iinc (v := v2_8) (lv' := [(0, .ref h_t), (1, .int v1), (2, .int v2_8)]) X dX12_day_52 2 rfl (by rw [ev2_8]; rfl) (Nat.le_of_ble_eq_true rfl) [1, 2, 0] rfl ?_
          refine g_goto (tgt := 30) X dX12_day_55 (by decide) ?_
          exact ih t_went_4 t_w_5 t_statuses t_ways_6 v1 v2_8 hf
  refine g_iload_n X dX12_day_0 rfl 1 rfl ?_
  refine g_i2l X dX12_day_1 ?_
  refine g_lconst (v := 1) X dX12_day_2 (by decide) ?_
  refine g_ldc2 (v := 60) X dX12_day_3 lk_X12_day_219 ?_
  obtain ⟨r_9, hk_10, hf⟩ := ob1_out hf
  refine g_cSR (st := []) (st1 := [.int r_9]) X (c_X12_in l D cI cZ (v1.toInt64) 1 60 _ hk_10) (Or.inl rfl) 3 gX12_day_X12_in rfl hs_X12_in ⟨Nat.le_of_ble_eq_true rfl, Nat.le_of_ble_eq_true rfl⟩ rfl rfl (Nat.le_of_ble_eq_true rfl) ⟨rfl, rfl⟩ (Nat.zero_le _) (Nat.zero_le _) dX12_day_6 [] rfl rfl rfl ?_
  refine g_if_ne (tgt := 19) X dX12_day_9 (by decide) (fun hc_11 => ?_) (fun hc_11 => ?_)
  · replace hf := ite_f hc_11 hf
    refine g_aload_n X dX12_day_19 rfl 0 rfl ?_
    obtain ⟨t_w_12, hk_13, hf⟩ := ob1_out hf
    refine g_cVW (st := []) (st1 := []) (C := RX12) (ci := 8) (q0 := 0) (ws' := (wd_X12_day cI cZ h_t h_t_w h_t_isKept h_t_text h_t_statuses h_t_ways h_t_feels h_t_next h_t_came h_t_deep h_t_sizes h_t_tableOf h_t_usedBy h_t_taken h_t_sixOf t_texted t_above t_below t_at t_start t_number t_went t_h t_w_12 t_statuses t_ways)) X (c_X12_minds l D cI cZ h_t h_t_w h_t_isKept h_t_text h_t_statuses h_t_ways h_t_feels h_t_next h_t_came h_t_deep h_t_sizes h_t_tableOf h_t_usedBy h_t_taken h_t_sixOf t_texted t_above t_below t_at t_start t_number t_went t_h t_w _ hk_13) (Or.inl rfl) 0 gX12_day_X12_minds rfl hv_X12_minds ⟨Nat.le_of_ble_eq_true rfl, Nat.le_of_ble_eq_true rfl⟩ rfl rfl (Nat.le_of_ble_eq_true rfl) ⟨rfl, rfl⟩ (Nat.zero_le _) (Nat.zero_le _) rfl rfl rfl dX12_day_20 [0, 1] rfl rfl [2, 3] rfl rfl (by decide) [2, 3, 0, 1] rfl rfl rfl ?_
    refine g_aload_n X dX12_day_23 rfl 0 rfl ?_
    refine g_iconst (v := 0) X dX12_day_24 (by decide) ?_
    refine g_put (C := RX12) (T := TX12) (N := 22) (ci := 8) (v := .int 0) (ws' := (wd_X12_day cI cZ h_t h_t_w h_t_isKept h_t_text h_t_statuses h_t_ways h_t_feels h_t_next h_t_came h_t_deep h_t_sizes h_t_tableOf h_t_usedBy h_t_taken h_t_sixOf t_texted t_above t_below t_at t_start t_number 0 t_h t_w_12 t_statuses t_ways)) X iw_X12_day_X12 tyX12 tyX12_ok nmX12 0 rfl rfl 11 (by decide) lk_X12_day_197 rfl (tyX12_ok 11 (by decide)) rfl rfl (Nat.le_of_ble_eq_true rfl) dX12_day_25 rfl ?_
    refine g_iconst (v := 0) X dX12_day_28 (by decide) ?_
    refine g_istore_n (lv' := [(0, .ref h_t), (1, .int v1), (2, .int 0)]) X dX12_day_29 rfl (Nat.le_of_ble_eq_true rfl) [1, 2, 0] rfl ?_
    exact J30 FU 0 t_w_12 t_statuses t_ways v1 0 hf
  · replace hf := ite_t hc_11 hf
    refine g_aload_n X dX12_day_12 rfl 0 rfl ?_
    refine g_bipush (v := (-2)) X dX12_day_13 (by decide) ?_
    obtain ⟨r_14, t_statuses_15, hk_16, hf⟩ := ob2_out hf
    refine g_cVW (st := []) (st1 := [.int r_14]) (C := RX12) (ci := 8) (q0 := 0) (ws' := (wd_X12_day cI cZ h_t h_t_w h_t_isKept h_t_text h_t_statuses h_t_ways h_t_feels h_t_next h_t_came h_t_deep h_t_sizes h_t_tableOf h_t_usedBy h_t_taken h_t_sixOf t_texted t_above t_below t_at t_start t_number t_went t_h t_w t_statuses_15 t_ways)) X (c_X12_bad l D cI cZ h_t h_t_w h_t_isKept h_t_text h_t_statuses h_t_ways h_t_feels h_t_next h_t_came h_t_deep h_t_sizes h_t_tableOf h_t_usedBy h_t_taken h_t_sixOf t_texted t_above t_below t_at t_start t_number t_went t_h t_statuses (-2) _ hk_16) (Or.inl rfl) 1 gX12_day_X12_bad rfl hv_X12_bad ⟨Nat.le_of_ble_eq_true rfl, Nat.le_of_ble_eq_true rfl⟩ rfl rfl (Nat.le_of_ble_eq_true rfl) ⟨rfl, rfl⟩ (Nat.zero_le _) (Nat.zero_le _) rfl rfl rfl dX12_day_15 [0, 2] rfl rfl [1, 3] rfl rfl (by decide) [2, 0, 3, 1] rfl rfl rfl ?_
    exact hR _ _ _ _ dX12_day_18 (kV_in (u := (r_14, t_went, t_w, t_statuses_15, t_ways)) hf)
