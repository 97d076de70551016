def wd_X12_undo (cI cZ : ClassId) (h_t : Nat) (h_t_w : Nat) (h_t_isKept : Nat) (h_t_text : Nat) (h_t_statuses : Nat) (h_t_ways : Nat) (h_t_feels : Nat) (h_t_next : Nat) (h_t_came : Nat) (h_t_deep : Nat) (h_t_sizes : Nat) (h_t_tableOf : Nat) (h_t_usedBy : Nat) (h_t_taken : Nat) (h_t_sixOf : Nat) (t_texted : Int32) (t_above : Int64) (t_below : Int64) (t_at : Int32) (t_start : Int32) (t_number : Int32) (t_went : Int32) (t_h : Int64) (t_w : (Nat → Int32)) (t_statuses : (Nat → Int32)) : va_W := [(h_t, .inr (8, [.ref h_t_w, .ref h_t_isKept, .ref h_t_text, .int t_texted, .long t_above, .long t_below, .ref h_t_statuses, .int t_at, .int t_start, .int t_number, .ref h_t_ways, .int t_went, .ref h_t_feels, .ref h_t_next, .ref h_t_came, .ref h_t_deep, .ref h_t_sizes, .ref h_t_tableOf, .ref h_t_usedBy, .ref h_t_taken, .ref h_t_sixOf, .long t_h])), (h_t_w, .inl (cI, 1251, .inl t_w)), (h_t_statuses, .inl (cI, 3, .inl t_statuses))]
abbrev rm_X12_undo : Room := { frames := 1, cells := 0, slots := 0, locals := 20 }
theorem hv_X12_undo : yX12_undo.cls = RX12 ∧ yX12_undo.cls ≠ "java/lang/invoke/MethodHandle" ∧ yX12_undo.cls ≠ "java/lang/invoke/VarHandle" ∧ (parseMethodDescriptor yX12_undo.desc).map (fun d => d.parameters.length) = some 0 := by decide +kernel
theorem iw_X12_undo_X12 : ∀ w ∈ u_ws RX12 TX12 22, w ∈ wsX12_undo := by decide +kernel
theorem lk_X12_undo_7 : Cond.fieldLink RX12 7 "ClerkChainsModel" "w" "[I" ∈ wsX12_undo := by decide +kernel
set_option maxHeartbeats 4000000 in
set_option maxRecDepth 100000 in
theorem c_X12_undo (l : Launch) (D : va_G) (cI cZ : ClassId) (h_t : Nat) (h_t_w : Nat) (h_t_isKept : Nat) (h_t_text : Nat) (h_t_statuses : Nat) (h_t_ways : Nat) (h_t_feels : Nat) (h_t_next : Nat) (h_t_came : Nat) (h_t_deep : Nat) (h_t_sizes : Nat) (h_t_tableOf : Nat) (h_t_usedBy : Nat) (h_t_taken : Nat) (h_t_sixOf : Nat) (t_texted : Int32) (t_above : Int64) (t_below : Int64) (t_at : Int32) (t_start : Int32) (t_number : Int32) (t_went : Int32) (t_h : Int64) (t_w : (Nat → Int32)) (t_statuses : (Nat → Int32)) (res : Int32 × (Nat → Int32) × (Nat → Int32)) (hf : f_X12_undo t_w t_statuses = some res) : MetG l yX12_undo wsX12_undo rm_X12_undo D cI cZ none [.ref h_t] (wd_X12_undo cI cZ h_t h_t_w h_t_isKept h_t_text h_t_statuses h_t_ways h_t_feels h_t_next h_t_came h_t_deep h_t_sizes h_t_tableOf h_t_usedBy h_t_taken h_t_sixOf t_texted t_above t_below t_at t_start t_number t_went t_h t_w t_statuses) (kV res (fun u => some (.int u.1)) (fun u => (wd_X12_undo cI cZ h_t h_t_w h_t_isKept h_t_text h_t_statuses h_t_ways h_t_feels h_t_next h_t_came h_t_deep h_t_sizes h_t_tableOf h_t_usedBy h_t_taken h_t_sixOf t_texted t_above t_below t_at t_start t_number t_went t_h (u.2.1) (u.2.2)))) := by
  refine metG_of (cc := cX12_undo) (maxL := 3) (ret := (some .int)) (own := RX12) (lv0 := [(0, .ref h_t)]) (ini := false) (by decide) rfl (Nat.le_of_ble_eq_true rfl) rfl rfl (fun h => by cases h) (fun G X hR => ?_)
  replace hR := rt_int hR
  unfold f_X12_undo at hf
  have J85 : ∀ (t_w : (Nat → Int32)) (t_statuses : (Nat → Int32)), f_X12_undo_85 t_w t_statuses = some res → G 0 0 (wd_X12_undo cI cZ h_t h_t_w h_t_isKept h_t_text h_t_statuses h_t_ways h_t_feels h_t_next h_t_came h_t_deep h_t_sizes h_t_tableOf h_t_usedBy h_t_taken h_t_sixOf t_texted t_above t_below t_at t_start t_number t_went t_h t_w t_statuses) [(0, .ref h_t)] 85 [] := by
    intro t_w t_statuses hf
    unfold f_X12_undo_85 at hf
    refine g_aload_n X dX12_undo_85 rfl 0 rfl ?_
    refine g_get (C := RX12) (T := TX12) (N := 22) (ci := 8) (v := (.ref h_t_w)) X iw_X12_undo_X12 0 rfl rfl 0 (by decide) lk_X12_undo_7 rfl dX12_undo_86 ?_
    refine g_iconst (v := 2) X dX12_undo_89 (by decide) ?_
    obtain ⟨hb_6, hf⟩ := chk_out hf
    refine g_iald X 1 rfl hb_6 dX12_undo_90 ?_
    exact hR _ _ _ _ dX12_undo_91 (kV_in (u := (t_w (2 : Int32).toNatClampNeg, t_w, t_statuses)) hf)
  have J54 : ∀ (n : Nat) (t_w : (Nat → Int32)) (t_statuses : (Nat → Int32)) (v1 : Int32) (v2 : Int32), f_X12_undo_54 n t_w t_statuses v1 v2 = some res → G 0 0 (wd_X12_undo cI cZ h_t h_t_w h_t_isKept h_t_text h_t_statuses h_t_ways h_t_feels h_t_next h_t_came h_t_deep h_t_sizes h_t_tableOf h_t_usedBy h_t_taken h_t_sixOf t_texted t_above t_below t_at t_start t_number t_went t_h t_w t_statuses) [(0, .ref h_t), (1, .int v1), (2, .int v2)] 54 [] := by
    intro n
    induction n with
    | zero => intro t_w t_statuses v1 v2 hf; rw [f_X12_undo_54] at hf; cases hf
    | succ n ih =>
      intro t_w t_statuses v1 v2 hf
      rw [f_X12_undo_54] at hf
      refine g_iload_n X dX12_undo_54 rfl 2 rfl ?_
      refine g_bipush (v := 21) X dX12_undo_55 (by decide) ?_
      refine g_icmp_ge (tgt := 85) X dX12_undo_57 (by decide) (fun hc_1 => ?_) (fun hc_1 => ?_)
      · replace hf := ite_t hc_1 hf
        refine g_lv X (lv' := [(0, .ref h_t)]) [0] rfl ?_
        exact J85 t_w t_statuses hf
      · replace hf := ite_f hc_1 hf
        refine g_aload_n X dX12_undo_60 rfl 0 rfl ?_
        refine g_get (C := RX12) (T := TX12) (N := 22) (ci := 8) (v := (.ref h_t_w)) X iw_X12_undo_X12 0 rfl rfl 0 (by decide) lk_X12_undo_7 rfl dX12_undo_61 ?_
        refine g_bipush (v := 17) X dX12_undo_64 (by decide) ?_
        refine g_iload_n X dX12_undo_66 rfl 2 rfl ?_
        refine g_iadd X dX12_undo_67 ?_
        refine g_aload_n X dX12_undo_68 rfl 0 rfl ?_
        refine g_get (C := RX12) (T := TX12) (N := 22) (ci := 8) (v := (.ref h_t_w)) X iw_X12_undo_X12 0 rfl rfl 0 (by decide) lk_X12_undo_7 rfl dX12_undo_69 ?_
        refine g_iload_n X dX12_undo_72 rfl 1 rfl ?_
        refine g_iconst (v := 1) X dX12_undo_73 (by decide) ?_
        refine g_iadd X dX12_undo_74 ?_
        refine g_iload_n X dX12_undo_75 rfl 2 rfl ?_
        refine g_iadd X dX12_undo_76 ?_
        obtain ⟨hb_2, hf⟩ := chk_out hf
        refine g_iald X 1 rfl hb_2 dX12_undo_77 ?_
        obtain ⟨hb_3, hf⟩ := chk_out hf
        obtain ⟨t_w_4, et_w_4, hf⟩ := bnd_out hf
        refine g_iast (ws' := (wd_X12_undo cI cZ h_t h_t_w h_t_isKept h_t_text h_t_statuses h_t_ways h_t_feels h_t_next h_t_came h_t_deep h_t_sizes h_t_tableOf h_t_usedBy h_t_taken h_t_sixOf t_texted t_above t_below t_at t_start t_number t_went t_h t_w_4 t_statuses)) X 1 rfl hb_3 et_w_4 dX12_undo_78 rfl ?_
        obtain ⟨v2_5, ev2_5, hf⟩ := bnd_out hf
        refine g_iinc (v := v2_5) (lv' := [(0, .ref h_t), (1, .int v1), (2, .int v2_5)]) X dX12_undo_79 2 rfl (by rw [ev2_5]; rfl) (Nat.le_of_ble_eq_true rfl) [1, 2, 0] rfl ?_
        refine g_goto (tgt := 54) X dX12_undo_82 (by decide) ?_
        exact ih t_w_4 t_statuses v1 v2_5 hf
  refine g_aload_n X dX12_undo_0 rfl 0 rfl ?_
  refine g_get (C := RX12) (T := TX12) (N := 22) (ci := 8) (v := (.ref h_t_w)) X iw_X12_undo_X12 0 rfl rfl 0 (by decide) lk_X12_undo_7 rfl dX12_undo_1 ?_
  refine g_bipush (v := 124) X dX12_undo_4 (by decide) ?_
  obtain ⟨hb_7, hf⟩ := chk_out hf
  refine g_iald X 1 rfl hb_7 dX12_undo_6 ?_
  refine g_if_ne (tgt := 15) X dX12_undo_7 (by decide) (fun hc_8 => ?_) (fun hc_8 => ?_)
  · replace hf := ite_f hc_8 hf
    refine g_aload_n X dX12_undo_15 rfl 0 rfl ?_
    refine g_get (C := RX12) (T := TX12) (N := 22) (ci := 8) (v := (.ref h_t_w)) X iw_X12_undo_X12 0 rfl rfl 0 (by decide) lk_X12_undo_7 rfl dX12_undo_16 ?_
    refine g_bipush (v := 124) X dX12_undo_19 (by decide) ?_
    refine g_dup2_11 X dX12_undo_21 rfl rfl ?_
    obtain ⟨hb_9, hf⟩ := chk_out hf
    refine g_iald X 1 rfl hb_9 dX12_undo_22 ?_
    refine g_iconst (v := 1) X dX12_undo_23 (by decide) ?_
    refine g_isub X dX12_undo_24 ?_
    obtain ⟨hb_10, hf⟩ := chk_out hf
    obtain ⟨t_w_11, et_w_11, hf⟩ := bnd_out hf
    refine g_iast (ws' := (wd_X12_undo cI cZ h_t h_t_w h_t_isKept h_t_text h_t_statuses h_t_ways h_t_feels h_t_next h_t_came h_t_deep h_t_sizes h_t_tableOf h_t_usedBy h_t_taken h_t_sixOf t_texted t_above t_below t_at t_start t_number t_went t_h t_w_11 t_statuses)) X 1 rfl hb_10 et_w_11 dX12_undo_25 rfl ?_
    refine g_bipush (v := 125) X dX12_undo_26 (by decide) ?_
    refine g_bipush (v := 22) X dX12_undo_28 (by decide) ?_
    refine g_aload_n X dX12_undo_30 rfl 0 rfl ?_
    refine g_get (C := RX12) (T := TX12) (N := 22) (ci := 8) (v := (.ref h_t_w)) X iw_X12_undo_X12 0 rfl rfl 0 (by decide) lk_X12_undo_7 rfl dX12_undo_31 ?_
    refine g_bipush (v := 124) X dX12_undo_34 (by decide) ?_
    obtain ⟨hb_12, hf⟩ := chk_out hf
    refine g_iald X 1 rfl hb_12 dX12_undo_36 ?_
    refine g_imul X dX12_undo_37 ?_
    refine g_iadd X dX12_undo_38 ?_
    obtain ⟨v1_13, ev1_13, hf⟩ := bnd_out hf
    refine g_nmI X ev1_13 ?_
    refine g_istore_n (lv' := [(0, .ref h_t), (1, .int v1_13)]) X dX12_undo_39 rfl (Nat.le_of_ble_eq_true rfl) [1, 0] rfl ?_
    refine g_aload_n X dX12_undo_40 rfl 0 rfl ?_
    refine g_get (C := RX12) (T := TX12) (N := 22) (ci := 8) (v := (.ref h_t_w)) X iw_X12_undo_X12 0 rfl rfl 0 (by decide) lk_X12_undo_7 rfl dX12_undo_41 ?_
    refine g_iconst (v := 2) X dX12_undo_44 (by decide) ?_
    refine g_aload_n X dX12_undo_45 rfl 0 rfl ?_
    refine g_get (C := RX12) (T := TX12) (N := 22) (ci := 8) (v := (.ref h_t_w)) X iw_X12_undo_X12 0 rfl rfl 0 (by decide) lk_X12_undo_7 rfl dX12_undo_46 ?_
    refine g_iload_n X dX12_undo_49 rfl 1 rfl ?_
    obtain ⟨hb_14, hf⟩ := chk_out hf
    refine g_iald X 1 rfl hb_14 dX12_undo_50 ?_
    obtain ⟨hb_15, hf⟩ := chk_out hf
    obtain ⟨t_w_16, et_w_16, hf⟩ := bnd_out hf
    refine g_iast (ws' := (wd_X12_undo cI cZ h_t h_t_w h_t_isKept h_t_text h_t_statuses h_t_ways h_t_feels h_t_next h_t_came h_t_deep h_t_sizes h_t_tableOf h_t_usedBy h_t_taken h_t_sixOf t_texted t_above t_below t_at t_start t_number t_went t_h t_w_16 t_statuses)) X 1 rfl hb_15 et_w_16 dX12_undo_51 rfl ?_
    refine g_iconst (v := 0) X dX12_undo_52 (by decide) ?_
    refine g_istore_n (lv' := [(0, .ref h_t), (1, .int v1_13), (2, .int 0)]) X dX12_undo_53 rfl (Nat.le_of_ble_eq_true rfl) [1, 2, 0] rfl ?_
    exact J54 FU t_w_16 t_statuses v1_13 0 hf
  · replace hf := ite_t hc_8 hf
    refine g_aload_n X dX12_undo_10 rfl 0 rfl ?_
    obtain ⟨r_17, t_statuses_18, hk_19, hf⟩ := ob2_out hf
    refine g_cVW (st := []) (st1 := [.int r_17]) (C := RX12) (ci := 8) (q0 := 0) (ws' := (wd_X12_undo cI cZ h_t h_t_w h_t_isKept h_t_text h_t_statuses h_t_ways h_t_feels h_t_next h_t_came h_t_deep h_t_sizes h_t_tableOf h_t_usedBy h_t_taken h_t_sixOf t_texted t_above t_below t_at t_start t_number t_went t_h t_w t_statuses_18)) X (c_X12_no l D cI cZ h_t h_t_w h_t_isKept h_t_text h_t_statuses h_t_ways h_t_feels h_t_next h_t_came h_t_deep h_t_sizes h_t_tableOf h_t_usedBy h_t_taken h_t_sixOf t_texted t_above t_below t_at t_start t_number t_went t_h t_statuses _ hk_19) (Or.inl rfl) 0 gX12_undo_X12_no rfl hv_X12_no ⟨Nat.le_of_ble_eq_true rfl, Nat.le_of_ble_eq_true rfl⟩ rfl rfl (Nat.le_of_ble_eq_true rfl) ⟨rfl, rfl⟩ (Nat.zero_le _) (Nat.zero_le _) rfl rfl rfl dX12_undo_11 [0, 2] rfl rfl [1] rfl rfl (by decide) [1, 0, 2] rfl rfl rfl ?_
    exact hR _ _ _ _ dX12_undo_14 (kV_in (u := (r_17, t_w, t_statuses_18)) hf)
def wd_X12_ofClerk (cI cZ : ClassId) (h_t : Nat) (h_t_w : Nat) (h_t_isKept : Nat) (h_t_text : Nat) (h_t_statuses : Nat) (h_t_ways : Nat) (h_t_feels : Nat) (h_t_next : Nat) (h_t_came : Nat) (h_t_deep : Nat) (h_t_sizes : Nat) (h_t_tableOf : Nat) (h_t_usedBy : Nat) (h_t_taken : Nat) (h_t_sixOf : Nat) (t_texted : Int32) (t_above : Int64) (t_below : Int64) (t_at : Int32) (t_start : Int32) (t_number : Int32) (t_went : Int32) (t_h : Int64) (t_w : (Nat → Int32)) : va_W := [(h_t, .inr (8, [.ref h_t_w, .ref h_t_isKept, .ref h_t_text, .int t_texted, .long t_above, .long t_below, .ref h_t_statuses, .int t_at, .int t_start, .int t_number, .ref h_t_ways, .int t_went, .ref h_t_feels, .ref h_t_next, .ref h_t_came, .ref h_t_deep, .ref h_t_sizes, .ref h_t_tableOf, .ref h_t_usedBy, .ref h_t_taken, .ref h_t_sixOf, .long t_h])), (h_t_w, .inl (cI, 1251, .inl t_w))]
abbrev rm_X12_ofClerk : Room := { frames := 0, cells := 0, slots := 0, locals := 0 }
theorem hv_X12_ofClerk : yX12_ofClerk.cls = RX12 ∧ yX12_ofClerk.cls ≠ "java/lang/invoke/MethodHandle" ∧ yX12_ofClerk.cls ≠ "java/lang/invoke/VarHandle" ∧ (parseMethodDescriptor yX12_ofClerk.desc).map (fun d => d.parameters.length) = some 2 := by decide +kernel
theorem iw_X12_ofClerk_X12 : ∀ w ∈ u_ws RX12 TX12 22, w ∈ wsX12_ofClerk := by decide +kernel
theorem lk_X12_ofClerk_7 : Cond.fieldLink RX12 7 "ClerkChainsModel" "w" "[I" ∈ wsX12_ofClerk := by decide +kernel
set_option maxHeartbeats 4000000 in
set_option maxRecDepth 100000 in
theorem c_X12_ofClerk (l : Launch) (D : va_G) (cI cZ : ClassId) (h_t : Nat) (h_t_w : Nat) (h_t_isKept : Nat) (h_t_text : Nat) (h_t_statuses : Nat) (h_t_ways : Nat) (h_t_feels : Nat) (h_t_next : Nat) (h_t_came : Nat) (h_t_deep : Nat) (h_t_sizes : Nat) (h_t_tableOf : Nat) (h_t_usedBy : Nat) (h_t_taken : Nat) (h_t_sixOf : Nat) (t_texted : Int32) (t_above : Int64) (t_below : Int64) (t_at : Int32) (t_start : Int32) (t_number : Int32) (t_went : Int32) (t_h : Int64) (t_w : (Nat → Int32)) (v1 : Int32) (v2 : Int32) (res : Int32) (hf : f_X12_ofClerk t_w v1 v2 = some res) : MetR l yX12_ofClerk wsX12_ofClerk rm_X12_ofClerk D cI cZ none [.ref h_t, .int v1, .int v2] (wd_X12_ofClerk cI cZ h_t h_t_w h_t_isKept h_t_text h_t_statuses h_t_ways h_t_feels h_t_next h_t_came h_t_deep h_t_sizes h_t_tableOf h_t_usedBy h_t_taken h_t_sixOf t_texted t_above t_below t_at t_start t_number t_went t_h t_w) (kR res (fun u => some (.int u))) := by
  refine metR_of (cc := cX12_ofClerk) (maxL := 3) (ret := (some .int)) (own := RX12) (lv0 := [(0, .ref h_t), (1, .int v1), (2, .int v2)]) (by decide) rfl (Nat.le_of_ble_eq_true rfl) rfl rfl (fun G X hR => ?_)
  replace hR := rt_int hR
  unfold f_X12_ofClerk at hf
  refine g_iload_n X dX12_ofClerk_0 rfl 2 rfl ?_
  refine g_if_ne (tgt := 15) X dX12_ofClerk_1 (by decide) (fun hc_1 => ?_) (fun hc_1 => ?_)
  · replace hf := ite_f hc_1 hf
    refine g_iload_n X dX12_ofClerk_15 rfl 2 rfl ?_
    refine g_iconst (v := 1) X dX12_ofClerk_16 (by decide) ?_
    refine g_icmp_ne (tgt := 32) X dX12_ofClerk_17 (by decide) (fun hc_2 => ?_) (fun hc_2 => ?_)
    · replace hf := ite_f hc_2 hf
      refine g_iload_n X dX12_ofClerk_32 rfl 2 rfl ?_
      refine g_iconst (v := 2) X dX12_ofClerk_33 (by decide) ?_
      refine g_icmp_ne (tgt := 49) X dX12_ofClerk_34 (by decide) (fun hc_3 => ?_) (fun hc_3 => ?_)
      · replace hf := ite_f hc_3 hf
        refine g_iload_n X dX12_ofClerk_49 rfl 2 rfl ?_
        refine g_iconst (v := 3) X dX12_ofClerk_50 (by decide) ?_
        refine g_icmp_ne (tgt := 66) X dX12_ofClerk_51 (by decide) (fun hc_4 => ?_) (fun hc_4 => ?_)
        · replace hf := ite_f hc_4 hf
          refine g_aload_n X dX12_ofClerk_66 rfl 0 rfl ?_
          refine g_get (C := RX12) (T := TX12) (N := 22) (ci := 8) (v := (.ref h_t_w)) X iw_X12_ofClerk_X12 0 rfl rfl 0 (by decide) lk_X12_ofClerk_7 rfl dX12_ofClerk_67 ?_
          refine g_bipush (v := 31) X dX12_ofClerk_70 (by decide) ?_
          refine g_iload_n X dX12_ofClerk_72 rfl 1 rfl ?_
          refine g_iadd X dX12_ofClerk_73 ?_
          obtain ⟨hb_5, hf⟩ := chk_out hf
          refine g_iald X 1 rfl hb_5 dX12_ofClerk_74 ?_
          exact hR _ _ _ _ dX12_ofClerk_75 (kR_in (u := (t_w (31 + v1).toNatClampNeg)) hf)
        · replace hf := ite_t hc_4 hf
          refine g_aload_n X dX12_ofClerk_54 rfl 0 rfl ?_
          refine g_get (C := RX12) (T := TX12) (N := 22) (ci := 8) (v := (.ref h_t_w)) X iw_X12_ofClerk_X12 0 rfl rfl 0 (by decide) lk_X12_ofClerk_7 rfl dX12_ofClerk_55 ?_
          refine g_bipush (v := 24) X dX12_ofClerk_58 (by decide) ?_
          refine g_iload_n X dX12_ofClerk_60 rfl 1 rfl ?_
          refine g_iadd X dX12_ofClerk_61 ?_
          obtain ⟨hb_6, hf⟩ := chk_out hf
          refine g_iald X 1 rfl hb_6 dX12_ofClerk_62 ?_
          refine g_goto (tgt := 75) X dX12_ofClerk_63 (by decide) ?_
          exact hR _ _ _ _ dX12_ofClerk_75 (kR_in (u := (t_w (24 + v1).toNatClampNeg)) hf)
      · replace hf := ite_t hc_3 hf
        refine g_aload_n X dX12_ofClerk_37 rfl 0 rfl ?_
        refine g_get (C := RX12) (T := TX12) (N := 22) (ci := 8) (v := (.ref h_t_w)) X iw_X12_ofClerk_X12 0 rfl rfl 0 (by decide) lk_X12_ofClerk_7 rfl dX12_ofClerk_38 ?_
        refine g_bipush (v := 10) X dX12_ofClerk_41 (by decide) ?_
        refine g_iload_n X dX12_ofClerk_43 rfl 1 rfl ?_
        refine g_iadd X dX12_ofClerk_44 ?_
        obtain ⟨hb_7, hf⟩ := chk_out hf
        refine g_iald X 1 rfl hb_7 dX12_ofClerk_45 ?_
        refine g_goto (tgt := 75) X dX12_ofClerk_46 (by decide) ?_
        exact hR _ _ _ _ dX12_ofClerk_75 (kR_in (u := (t_w (10 + v1).toNatClampNeg)) hf)
    · replace hf := ite_t hc_2 hf
      refine g_aload_n X dX12_ofClerk_20 rfl 0 rfl ?_
      refine g_get (C := RX12) (T := TX12) (N := 22) (ci := 8) (v := (.ref h_t_w)) X iw_X12_ofClerk_X12 0 rfl rfl 0 (by decide) lk_X12_ofClerk_7 rfl dX12_ofClerk_21 ?_
      refine g_bipush (v := 17) X dX12_ofClerk_24 (by decide) ?_
      refine g_iload_n X dX12_ofClerk_26 rfl 1 rfl ?_
      refine g_iadd X dX12_ofClerk_27 ?_
      obtain ⟨hb_8, hf⟩ := chk_out hf
      refine g_iald X 1 rfl hb_8 dX12_ofClerk_28 ?_
      refine g_goto (tgt := 75) X dX12_ofClerk_29 (by decide) ?_
      exact hR _ _ _ _ dX12_ofClerk_75 (kR_in (u := (t_w (17 + v1).toNatClampNeg)) hf)
  · replace hf := ite_t hc_1 hf
    refine g_aload_n X dX12_ofClerk_4 rfl 0 rfl ?_
    refine g_get (C := RX12) (T := TX12) (N := 22) (ci := 8) (v := (.ref h_t_w)) X iw_X12_ofClerk_X12 0 rfl rfl 0 (by decide) lk_X12_ofClerk_7 rfl dX12_ofClerk_5 ?_
    refine g_iconst (v := 3) X dX12_ofClerk_8 (by decide) ?_
    refine g_iload_n X dX12_ofClerk_9 rfl 1 rfl ?_
    refine g_iadd X dX12_ofClerk_10 ?_
    obtain ⟨hb_9, hf⟩ := chk_out hf
    refine g_iald X 1 rfl hb_9 dX12_ofClerk_11 ?_
    refine g_goto (tgt := 75) X dX12_ofClerk_12 (by decide) ?_
    exact hR _ _ _ _ dX12_ofClerk_75 (kR_in (u := (t_w (3 + v1).toNatClampNeg)) hf)
def wd_X12_of (cI cZ : ClassId) (h_t : Nat) (h_t_w : Nat) (h_t_isKept : Nat) (h_t_text : Nat) (h_t_statuses : Nat) (h_t_ways : Nat) (h_t_feels : Nat) (h_t_next : Nat) (h_t_came : Nat) (h_t_deep : Nat) (h_t_sizes : Nat) (h_t_tableOf : Nat) (h_t_usedBy : Nat) (h_t_taken : Nat) (h_t_sixOf : Nat) (t_texted : Int32) (t_above : Int64) (t_below : Int64) (t_at : Int32) (t_start : Int32) (t_number : Int32) (t_went : Int32) (t_h : Int64) (t_w : (Nat → Int32)) (t_statuses : (Nat → Int32)) : va_W := [(h_t, .inr (8, [.ref h_t_w, .ref h_t_isKept, .ref h_t_text, .int t_texted, .long t_above, .long t_below, .ref h_t_statuses, .int t_at, .int t_start, .int t_number, .ref h_t_ways, .int t_went, .ref h_t_feels, .ref h_t_next, .ref h_t_came, .ref h_t_deep, .ref h_t_sizes, .ref h_t_tableOf, .ref h_t_usedBy, .ref h_t_taken, .ref h_t_sixOf, .long t_h])), (h_t_w, .inl (cI, 1251, .inl t_w)), (h_t_statuses, .inl (cI, 3, .inl t_statuses))]
abbrev rm_X12_of : Room := { frames := 2, cells := 0, slots := 0, locals := 46 }
theorem hv_X12_of : yX12_of.cls = RX12 ∧ yX12_of.cls ≠ "java/lang/invoke/MethodHandle" ∧ yX12_of.cls ≠ "java/lang/invoke/VarHandle" ∧ (parseMethodDescriptor yX12_of.desc).map (fun d => d.parameters.length) = some 2 := by decide +kernel
theorem lk_X12_of_221 : Cond.constantLong RX12 221 4 ∈ wsX12_of := by decide +kernel
set_option maxHeartbeats 4000000 in
set_option maxRecDepth 100000 in
theorem c_X12_of (l : Launch) (D : va_G) (cI cZ : ClassId) (h_t : Nat) (h_t_w : Nat) (h_t_isKept : Nat) (h_t_text : Nat) (h_t_statuses : Nat) (h_t_ways : Nat) (h_t_feels : Nat) (h_t_next : Nat) (h_t_came : Nat) (h_t_deep : Nat) (h_t_sizes : Nat) (h_t_tableOf : Nat) (h_t_usedBy : Nat) (h_t_taken : Nat) (h_t_sixOf : Nat) (t_texted : Int32) (t_above : Int64) (t_below : Int64) (t_at : Int32) (t_start : Int32) (t_number : Int32) (t_went : Int32) (t_h : Int64) (t_w : (Nat → Int32)) (t_statuses : (Nat → Int32)) (v1 : Int32) (v2 : Int32) (res : Int32 × (Nat → Int32)) (hf : f_X12_of t_w t_statuses v1 v2 = some res) : MetG l yX12_of wsX12_of rm_X12_of D cI cZ none [.ref h_t, .int v1, .int v2] (wd_X12_of cI cZ h_t h_t_w h_t_isKept h_t_text h_t_statuses h_t_ways h_t_feels h_t_next h_t_came h_t_deep h_t_sizes h_t_tableOf h_t_usedBy h_t_taken h_t_sixOf t_texted t_above t_below t_at t_start t_number t_went t_h t_w t_statuses) (kV res (fun u => some (.int u.1)) (fun u => (wd_X12_of cI cZ h_t h_t_w h_t_isKept h_t_text h_t_statuses h_t_ways h_t_feels h_t_next h_t_came h_t_deep h_t_sizes h_t_tableOf h_t_usedBy h_t_taken h_t_sixOf t_texted t_above t_below t_at t_start t_number t_went t_h t_w (u.2)))) := by
  refine metG_of (cc := cX12_of) (maxL := 3) (ret := (some .int)) (own := RX12) (lv0 := [(0, .ref h_t), (1, .int v1), (2, .int v2)]) (ini := false) (by decide) rfl (Nat.le_of_ble_eq_true rfl) rfl rfl (fun h => by cases h) (fun G X hR => ?_)
  replace hR := rt_int hR
  unfold f_X12_of at hf
  have J29 : ∀ (t_statuses : (Nat → Int32)), f_X12_of_29 t_w t_statuses = some res → G 0 0 (wd_X12_of cI cZ h_t h_t_w h_t_isKept h_t_text h_t_statuses h_t_ways h_t_feels h_t_next h_t_came h_t_deep h_t_sizes h_t_tableOf h_t_usedBy h_t_taken h_t_sixOf t_texted t_above t_below t_at t_start t_number t_went t_h t_w t_statuses) [(0, .ref h_t)] 29 [] := by
    intro t_statuses hf
    unfold f_X12_of_29 at hf
    refine g_aload_n X dX12_of_29 rfl 0 rfl ?_
    refine g_bipush (v := (-2)) X dX12_of_30 (by decide) ?_
    obtain ⟨r_1, t_statuses_2, hk_3, hf⟩ := ob2_out hf
    refine g_cVW (st := []) (st1 := [.int r_1]) (C := RX12) (ci := 8) (q0 := 0) (ws' := (wd_X12_of cI cZ h_t h_t_w h_t_isKept h_t_text h_t_statuses h_t_ways h_t_feels h_t_next h_t_came h_t_deep h_t_sizes h_t_tableOf h_t_usedBy h_t_taken h_t_sixOf t_texted t_above t_below t_at t_start t_number t_went t_h t_w t_statuses_2)) X (c_X12_bad l D cI cZ h_t h_t_w h_t_isKept h_t_text h_t_statuses h_t_ways h_t_feels h_t_next h_t_came h_t_deep h_t_sizes h_t_tableOf h_t_usedBy h_t_taken h_t_sixOf t_texted t_above t_below t_at t_start t_number t_went t_h t_statuses (-2) _ hk_3) (Or.inl rfl) 1 gX12_of_X12_bad rfl hv_X12_bad ⟨Nat.le_of_ble_eq_true rfl, Nat.le_of_ble_eq_true rfl⟩ rfl rfl (Nat.le_of_ble_eq_true rfl) ⟨rfl, rfl⟩ (Nat.zero_le _) (Nat.zero_le _) rfl rfl rfl dX12_of_32 [0, 2] rfl rfl [1] rfl rfl (by decide) [1, 0, 2] rfl rfl rfl ?_
    exact hR _ _ _ _ dX12_of_35 (kV_in (u := (r_1, t_statuses_2)) hf)
  refine g_aload_n X dX12_of_0 rfl 0 rfl ?_
  refine g_iload_n X dX12_of_1 rfl 1 rfl ?_
  obtain ⟨r_4, hk_5, hf⟩ := ob1_out hf
  refine g_cVR (st := []) (st1 := [.int r_4]) (C := RX12) (ci := 8) (q0 := 0) X (c_X12_isClerk l D cI cZ h_t h_t_w h_t_isKept h_t_text h_t_statuses h_t_ways h_t_feels h_t_next h_t_came h_t_deep h_t_sizes h_t_tableOf h_t_usedBy h_t_taken h_t_sixOf t_texted t_above t_below t_at t_start t_number t_went t_h t_w v1 _ hk_5) (Or.inl rfl) 1 gX12_of_X12_isClerk rfl hv_X12_isClerk ⟨Nat.le_of_ble_eq_true rfl, Nat.le_of_ble_eq_true rfl⟩ rfl rfl (Nat.le_of_ble_eq_true rfl) ⟨rfl, rfl⟩ (Nat.zero_le _) (Nat.zero_le _) rfl rfl rfl dX12_of_2 [0, 1] rfl rfl rfl ?_
  refine g_if_eq (tgt := 29) X dX12_of_5 (by decide) (fun hc_6 => ?_) (fun hc_6 => ?_)
  · replace hf := ite_t hc_6 hf
    refine g_lv X (lv' := [(0, .ref h_t)]) [0] rfl ?_
    exact J29 t_statuses hf
  · replace hf := ite_f hc_6 hf
    refine g_iload_n X dX12_of_8 rfl 2 rfl ?_
    refine g_i2l X dX12_of_9 ?_
    refine g_lconst (v := 0) X dX12_of_10 (by decide) ?_
    refine g_ldc2 (v := 4) X dX12_of_11 lk_X12_of_221 ?_
    obtain ⟨r_7, hk_8, hf⟩ := ob1_out hf
    refine g_cSR (st := []) (st1 := [.int r_7]) X (c_X12_in l D cI cZ (v2.toInt64) 0 4 _ hk_8) (Or.inl rfl) 3 gX12_of_X12_in rfl hs_X12_in ⟨Nat.le_of_ble_eq_true rfl, Nat.le_of_ble_eq_true rfl⟩ rfl rfl (Nat.le_of_ble_eq_true rfl) ⟨rfl, rfl⟩ (Nat.zero_le _) (Nat.zero_le _) dX12_of_14 [] rfl rfl rfl ?_
    refine g_if_eq (tgt := 29) X dX12_of_17 (by decide) (fun hc_9 => ?_) (fun hc_9 => ?_)
    · replace hf := ite_t hc_9 hf
      refine g_lv X (lv' := [(0, .ref h_t)]) [0] rfl ?_
      exact J29 t_statuses hf
    · replace hf := ite_f hc_9 hf
      refine g_aload_n X dX12_of_20 rfl 0 rfl ?_
      refine g_iload_n X dX12_of_21 rfl 1 rfl ?_
      refine g_iload_n X dX12_of_22 rfl 2 rfl ?_
      obtain ⟨r_10, hk_11, hf⟩ := ob1_out hf
      refine g_cVR (st := []) (st1 := [.int r_10]) (C := RX12) (ci := 8) (q0 := 0) X (c_X12_ofClerk l D cI cZ h_t h_t_w h_t_isKept h_t_text h_t_statuses h_t_ways h_t_feels h_t_next h_t_came h_t_deep h_t_sizes h_t_tableOf h_t_usedBy h_t_taken h_t_sixOf t_texted t_above t_below t_at t_start t_number t_went t_h t_w v1 v2 _ hk_11) (Or.inl rfl) 2 gX12_of_X12_ofClerk rfl hv_X12_ofClerk ⟨Nat.le_of_ble_eq_true rfl, Nat.le_of_ble_eq_true rfl⟩ rfl rfl (Nat.le_of_ble_eq_true rfl) ⟨rfl, rfl⟩ (Nat.zero_le _) (Nat.zero_le _) rfl rfl rfl dX12_of_23 [0, 1] rfl rfl rfl ?_
      refine g_goto (tgt := 35) X dX12_of_26 (by decide) ?_
      exact hR _ _ _ _ dX12_of_35 (kV_in (u := (r_10, t_statuses)) hf)
def wd_X12_areHooked (cI cZ : ClassId) (h_t : Nat) (h_t_w : Nat) (h_t_isKept : Nat) (h_t_text : Nat) (h_t_statuses : Nat) (h_t_ways : Nat) (h_t_feels : Nat) (h_t_next : Nat) (h_t_came : Nat) (h_t_deep : Nat) (h_t_sizes : Nat) (h_t_tableOf : Nat) (h_t_usedBy : Nat) (h_t_taken : Nat) (h_t_sixOf : Nat) (t_texted : Int32) (t_above : Int64) (t_below : Int64) (t_at : Int32) (t_start : Int32) (t_number : Int32) (t_went : Int32) (t_h : Int64) (t_w : (Nat → Int32)) : va_W := [(h_t, .inr (8, [.ref h_t_w, .ref h_t_isKept, .ref h_t_text, .int t_texted, .long t_above, .long t_below, .ref h_t_statuses, .int t_at, .int t_start, .int t_number, .ref h_t_ways, .int t_went, .ref h_t_feels, .ref h_t_next, .ref h_t_came, .ref h_t_deep, .ref h_t_sizes, .ref h_t_tableOf, .ref h_t_usedBy, .ref h_t_taken, .ref h_t_sixOf, .long t_h])), (h_t_w, .inl (cI, 1251, .inl t_w))]
abbrev rm_X12_areHooked : Room := { frames := 0, cells := 0, slots := 0, locals := 0 }
theorem hv_X12_areHooked : yX12_areHooked.cls = RX12 ∧ yX12_areHooked.cls ≠ "java/lang/invoke/MethodHandle" ∧ yX12_areHooked.cls ≠ "java/lang/invoke/VarHandle" ∧ (parseMethodDescriptor yX12_areHooked.desc).map (fun d => d.parameters.length) = some 3 := by decide +kernel
theorem iw_X12_areHooked_X12 : ∀ w ∈ u_ws RX12 TX12 22, w ∈ wsX12_areHooked := by decide +kernel
theorem lk_X12_areHooked_7 : Cond.fieldLink RX12 7 "ClerkChainsModel" "w" "[I" ∈ wsX12_areHooked := by decide +kernel
set_option maxHeartbeats 4000000 in
set_option maxRecDepth 100000 in
theorem c_X12_areHooked (l : Launch) (D : va_G) (cI cZ : ClassId) (h_t : Nat) (h_t_w : Nat) (h_t_isKept : Nat) (h_t_text : Nat) (h_t_statuses : Nat) (h_t_ways : Nat) (h_t_feels : Nat) (h_t_next : Nat) (h_t_came : Nat) (h_t_deep : Nat) (h_t_sizes : Nat) (h_t_tableOf : Nat) (h_t_usedBy : Nat) (h_t_taken : Nat) (h_t_sixOf : Nat) (t_texted : Int32) (t_above : Int64) (t_below : Int64) (t_at : Int32) (t_start : Int32) (t_number : Int32) (t_went : Int32) (t_h : Int64) (t_w : (Nat → Int32)) (v1 : Int32) (v2 : Int32) (v3 : Int32) (res : Int32) (hf : f_X12_areHooked t_w v1 v2 v3 = some res) : MetR l yX12_areHooked wsX12_areHooked rm_X12_areHooked D cI cZ none [.ref h_t, .int v1, .int v2, .int v3] (wd_X12_areHooked cI cZ h_t h_t_w h_t_isKept h_t_text h_t_statuses h_t_ways h_t_feels h_t_next h_t_came h_t_deep h_t_sizes h_t_tableOf h_t_usedBy h_t_taken h_t_sixOf t_texted t_above t_below t_at t_start t_number t_went t_h t_w) (kR res (fun u => some (.int u))) := by
  refine metR_of (cc := cX12_areHooked) (maxL := 4) (ret := (some .boolean)) (own := RX12) (lv0 := [(0, .ref h_t), (1, .int v1), (2, .int v2), (3, .int v3)]) (by decide) rfl (Nat.le_of_ble_eq_true rfl) rfl rfl (fun G X hR => ?_)
  replace hR := rt_bool hR
  unfold f_X12_areHooked at hf
  have J30 : f_X12_areHooked_30 t_w = some res → G 0 0 (wd_X12_areHooked cI cZ h_t h_t_w h_t_isKept h_t_text h_t_statuses h_t_ways h_t_feels h_t_next h_t_came h_t_deep h_t_sizes h_t_tableOf h_t_usedBy h_t_taken h_t_sixOf t_texted t_above t_below t_at t_start t_number t_went t_h t_w) [] 30 [] := by
    intro hf
    unfold f_X12_areHooked_30 at hf
    refine g_iconst (v := 1) X dX12_areHooked_30 (by decide) ?_
    refine g_goto (tgt := 35) X dX12_areHooked_31 (by decide) ?_
    exact hR _ _ _ _ (Or.inr rfl) dX12_areHooked_35 (kR_in (u := 1) hf)
  refine g_aload_n X dX12_areHooked_0 rfl 0 rfl ?_
  refine g_get (C := RX12) (T := TX12) (N := 22) (ci := 8) (v := (.ref h_t_w)) X iw_X12_areHooked_X12 0 rfl rfl 0 (by decide) lk_X12_areHooked_7 rfl dX12_areHooked_1 ?_
  refine g_iload_n X dX12_areHooked_4 rfl 1 rfl ?_
  refine g_bipush (v := 31) X dX12_areHooked_5 (by decide) ?_
  refine g_iadd X dX12_areHooked_7 ?_
  refine g_iload_n X dX12_areHooked_8 rfl 2 rfl ?_
  refine g_iadd X dX12_areHooked_9 ?_
  obtain ⟨hb_1, hf⟩ := chk_out hf
  refine g_iald X 1 rfl hb_1 dX12_areHooked_10 ?_
  refine g_iload_n X dX12_areHooked_11 rfl 3 rfl ?_
  refine g_icmp_eq (tgt := 30) X dX12_areHooked_12 (by decide) (fun hc_2 => ?_) (fun hc_2 => ?_)
  · replace hf := ite_t hc_2 hf
    refine g_lv X (lv' := []) [] rfl ?_
    exact J30 hf
  · replace hf := ite_f hc_2 hf
    refine g_aload_n X dX12_areHooked_15 rfl 0 rfl ?_
    refine g_get (C := RX12) (T := TX12) (N := 22) (ci := 8) (v := (.ref h_t_w)) X iw_X12_areHooked_X12 0 rfl rfl 0 (by decide) lk_X12_areHooked_7 rfl dX12_areHooked_16 ?_
    refine g_iload_n X dX12_areHooked_19 rfl 1 rfl ?_
    refine g_bipush (v := 31) X dX12_areHooked_20 (by decide) ?_
    refine g_iadd X dX12_areHooked_22 ?_
    refine g_iload_n X dX12_areHooked_23 rfl 3 rfl ?_
    refine g_iadd X dX12_areHooked_24 ?_
    obtain ⟨hb_3, hf⟩ := chk_out hf
    refine g_iald X 1 rfl hb_3 dX12_areHooked_25 ?_
    refine g_iload_n X dX12_areHooked_26 rfl 2 rfl ?_
    refine g_icmp_ne (tgt := 34) X dX12_areHooked_27 (by decide) (fun hc_4 => ?_) (fun hc_4 => ?_)
    · replace hf := ite_f hc_4 hf
      refine g_iconst (v := 0) X dX12_areHooked_34 (by decide) ?_
      exact hR _ _ _ _ (Or.inl rfl) dX12_areHooked_35 (kR_in (u := 0) hf)
    · replace hf := ite_t hc_4 hf
      refine g_lv X (lv' := []) [] rfl ?_
      exact J30 hf
def wd_X12_tugs (cI cZ : ClassId) (h_t : Nat) (h_t_w : Nat) (h_t_isKept : Nat) (h_t_text : Nat) (h_t_statuses : Nat) (h_t_ways : Nat) (h_t_feels : Nat) (h_t_next : Nat) (h_t_came : Nat) (h_t_deep : Nat) (h_t_sizes : Nat) (h_t_tableOf : Nat) (h_t_usedBy : Nat) (h_t_taken : Nat) (h_t_sixOf : Nat) (t_texted : Int32) (t_above : Int64) (t_below : Int64) (t_at : Int32) (t_start : Int32) (t_number : Int32) (t_went : Int32) (t_h : Int64) (t_w : (Nat → Int32)) (t_feels : (Nat → Int32)) (t_next : (Nat → Int32)) (t_came : (Nat → Int32)) : va_W := [(h_t, .inr (8, [.ref h_t_w, .ref h_t_isKept, .ref h_t_text, .int t_texted, .long t_above, .long t_below, .ref h_t_statuses, .int t_at, .int t_start, .int t_number, .ref h_t_ways, .int t_went, .ref h_t_feels, .ref h_t_next, .ref h_t_came, .ref h_t_deep, .ref h_t_sizes, .ref h_t_tableOf, .ref h_t_usedBy, .ref h_t_taken, .ref h_t_sixOf, .long t_h])), (h_t_w, .inl (cI, 1251, .inl t_w)), (h_t_feels, .inl (cI, 7, .inl t_feels)), (h_t_next, .inl (cI, 7, .inl t_next)), (h_t_came, .inl (cI, 7, .inl t_came))]
abbrev rm_X12_tugs : Room := { frames := 2, cells := 0, slots := 0, locals := 44 }
theorem hv_X12_tugs : yX12_tugs.cls = RX12 ∧ yX12_tugs.cls ≠ "java/lang/invoke/MethodHandle" ∧ yX12_tugs.cls ≠ "java/lang/invoke/VarHandle" ∧ (parseMethodDescriptor yX12_tugs.desc).map (fun d => d.parameters.length) = some 3 := by decide +kernel
theorem iw_X12_tugs_X12 : ∀ w ∈ u_ws RX12 TX12 22, w ∈ wsX12_tugs := by decide +kernel
theorem lk_X12_tugs_33 : Cond.fieldLink RX12 33 "ClerkChainsModel" "feels" "[I" ∈ wsX12_tugs := by decide +kernel
theorem lk_X12_tugs_36 : Cond.fieldLink RX12 36 "ClerkChainsModel" "next" "[I" ∈ wsX12_tugs := by decide +kernel
theorem lk_X12_tugs_39 : Cond.fieldLink RX12 39 "ClerkChainsModel" "came" "[I" ∈ wsX12_tugs := by decide +kernel
theorem lk_X12_tugs_7 : Cond.fieldLink RX12 7 "ClerkChainsModel" "w" "[I" ∈ wsX12_tugs := by decide +kernel
set_option maxHeartbeats 4000000 in
set_option maxRecDepth 100000 in
theorem c_X12_tugs (l : Launch) (D : va_G) (cI cZ : ClassId) (h_t : Nat) (h_t_w : Nat) (h_t_isKept : Nat) (h_t_text : Nat) (h_t_statuses : Nat) (h_t_ways : Nat) (h_t_feels : Nat) (h_t_next : Nat) (h_t_came : Nat) (h_t_deep : Nat) (h_t_sizes : Nat) (h_t_tableOf : Nat) (h_t_usedBy : Nat) (h_t_taken : Nat) (h_t_sixOf : Nat) (t_texted : Int32) (t_above : Int64) (t_below : Int64) (t_at : Int32) (t_start : Int32) (t_number : Int32) (t_went : Int32) (t_h : Int64) (t_w : (Nat → Int32)) (t_feels : (Nat → Int32)) (t_next : (Nat → Int32)) (t_came : (Nat → Int32)) (v1 : Int32) (v2 : Int32) (v3 : Int32) (res : (Nat → Int32) × (Nat → Int32) × (Nat → Int32)) (hf : f_X12_tugs t_w t_feels t_next t_came v1 v2 v3 = some res) : MetG l yX12_tugs wsX12_tugs rm_X12_tugs D cI cZ none [.ref h_t, .int v1, .int v2, .int v3] (wd_X12_tugs cI cZ h_t h_t_w h_t_isKept h_t_text h_t_statuses h_t_ways h_t_feels h_t_next h_t_came h_t_deep h_t_sizes h_t_tableOf h_t_usedBy h_t_taken h_t_sixOf t_texted t_above t_below t_at t_start t_number t_went t_h t_w t_feels t_next t_came) (kV res (fun _ => none) (fun u => (wd_X12_tugs cI cZ h_t h_t_w h_t_isKept h_t_text h_t_statuses h_t_ways h_t_feels h_t_next h_t_came h_t_deep h_t_sizes h_t_tableOf h_t_usedBy h_t_taken h_t_sixOf t_texted t_above t_below t_at t_start t_number t_went t_h t_w (u.1) (u.2.1) (u.2.2)))) := by
  refine metG_of (cc := cX12_tugs) (maxL := 9) (ret := none) (own := RX12) (lv0 := [(0, .ref h_t), (1, .int v1), (2, .int v2), (3, .int v3)]) (ini := false) (by decide) rfl (Nat.le_of_ble_eq_true rfl) rfl rfl (fun h => by cases h) (fun G X hR => ?_)
  replace hR := rt_void hR
  unfold f_X12_tugs at hf
  have J187 : ∀ (k51 : (Nat → Int32) → (Nat → Int32) → (Nat → Int32) → Int32 → Int32 → Int32 → Option ((Nat → Int32) × (Nat → Int32) × (Nat → Int32))) (hk51 : ∀ (t_feels : (Nat → Int32)) (t_next : (Nat → Int32)) (t_came : (Nat → Int32)) (v1 : Int32) (v4 : Int32) (v5 : Int32), k51 t_feels t_next t_came v1 v4 v5 = some res → G 0 0 (wd_X12_tugs cI cZ h_t h_t_w h_t_isKept h_t_text h_t_statuses h_t_ways h_t_feels h_t_next h_t_came h_t_deep h_t_sizes h_t_tableOf h_t_usedBy h_t_taken h_t_sixOf t_texted t_above t_below t_at t_start t_number t_went t_h t_w t_feels t_next t_came) [(0, .ref h_t), (1, .int v1), (4, .int v4), (5, .int v5)] 51 []) (k108 : (Nat → Int32) → (Nat → Int32) → (Nat → Int32) → Int32 → Int32 → Int32 → Int32 → Int32 → Int32 → Option ((Nat → Int32) × (Nat → Int32) × (Nat → Int32))) (hk108 : ∀ (t_feels : (Nat → Int32)) (t_next : (Nat → Int32)) (t_came : (Nat → Int32)) (v1 : Int32) (v4 : Int32) (v5 : Int32) (v6 : Int32) (v7 : Int32) (v8 : Int32), k108 t_feels t_next t_came v1 v4 v5 v6 v7 v8 = some res → G 0 0 (wd_X12_tugs cI cZ h_t h_t_w h_t_isKept h_t_text h_t_statuses h_t_ways h_t_feels h_t_next h_t_came h_t_deep h_t_sizes h_t_tableOf h_t_usedBy h_t_taken h_t_sixOf t_texted t_above t_below t_at t_start t_number t_went t_h t_w t_feels t_next t_came) [(0, .ref h_t), (1, .int v1), (4, .int v4), (5, .int v5), (6, .int v6), (7, .int v7), (8, .int v8)] 108 []) (t_feels : (Nat → Int32)) (t_next : (Nat → Int32)) (t_came : (Nat → Int32)) (v1 : Int32) (v4 : Int32) (v5 : Int32) (v6 : Int32) (v7 : Int32) (v8 : Int32), f_X12_tugs_187 t_w k51 k108 t_feels t_next t_came v1 v4 v5 v6 v7 v8 = some res → G 0 0 (wd_X12_tugs cI cZ h_t h_t_w h_t_isKept h_t_text h_t_statuses h_t_ways h_t_feels h_t_next h_t_came h_t_deep h_t_sizes h_t_tableOf h_t_usedBy h_t_taken h_t_sixOf t_texted t_above t_below t_at t_start t_number t_went t_h t_w t_feels t_next t_came) [(0, .ref h_t), (1, .int v1), (4, .int v4), (5, .int v5), (6, .int v6), (7, .int v7), (8, .int v8)] 187 [] := by
    intro k51 hk51 k108 hk108 t_feels t_next t_came v1 v4 v5 v6 v7 v8 hf
    unfold f_X12_tugs_187 at hf
    obtain ⟨v8_36, ev8_36, hf⟩ := bnd_out hf
    refine g_iinc (v := v8_36) (lv' := [(0, .ref h_t), (1, .int v1), (4, .int v4), (5, .int v5), (6, .int v6), (7, .int v7), (8, .int v8_36)]) X dX12_tugs_187 6 rfl (by rw [ev8_36]; rfl) (Nat.le_of_ble_eq_true rfl) [1, 2, 3, 4, 5, 6, 0] rfl ?_
    refine g_goto (tgt := 108) X dX12_tugs_190 (by decide) ?_
    exact hk108 t_feels t_next t_came v1 v4 v5 v6 v7 v8_36 hf
  have J193 : ∀ (k51 : (Nat → Int32) → (Nat → Int32) → (Nat → Int32) → Int32 → Int32 → Int32 → Option ((Nat → Int32) × (Nat → Int32) × (Nat → Int32))) (hk51 : ∀ (t_feels : (Nat → Int32)) (t_next : (Nat → Int32)) (t_came : (Nat → Int32)) (v1 : Int32) (v4 : Int32) (v5 : Int32), k51 t_feels t_next t_came v1 v4 v5 = some res → G 0 0 (wd_X12_tugs cI cZ h_t h_t_w h_t_isKept h_t_text h_t_statuses h_t_ways h_t_feels h_t_next h_t_came h_t_deep h_t_sizes h_t_tableOf h_t_usedBy h_t_taken h_t_sixOf t_texted t_above t_below t_at t_start t_number t_went t_h t_w t_feels t_next t_came) [(0, .ref h_t), (1, .int v1), (4, .int v4), (5, .int v5)] 51 []) (t_feels : (Nat → Int32)) (t_next : (Nat → Int32)) (t_came : (Nat → Int32)) (v1 : Int32) (v4 : Int32) (v5 : Int32), f_X12_tugs_193 t_w k51 t_feels t_next t_came v1 v4 v5 = some res → G 0 0 (wd_X12_tugs cI cZ h_t h_t_w h_t_isKept h_t_text h_t_statuses h_t_ways h_t_feels h_t_next h_t_came h_t_deep h_t_sizes h_t_tableOf h_t_usedBy h_t_taken h_t_sixOf t_texted t_above t_below t_at t_start t_number t_went t_h t_w t_feels t_next t_came) [(0, .ref h_t), (1, .int v1), (4, .int v4), (5, .int v5)] 193 [] := by
    intro k51 hk51 t_feels t_next t_came v1 v4 v5 hf
    unfold f_X12_tugs_193 at hf
    refine g_goto (tgt := 51) X dX12_tugs_193 (by decide) ?_
    exact hk51 t_feels t_next t_came v1 v4 v5 hf
  have J108 : ∀ (k51 : (Nat → Int32) → (Nat → Int32) → (Nat → Int32) → Int32 → Int32 → Int32 → Option ((Nat → Int32) × (Nat → Int32) × (Nat → Int32))) (hk51 : ∀ (t_feels : (Nat → Int32)) (t_next : (Nat → Int32)) (t_came : (Nat → Int32)) (v1 : Int32) (v4 : Int32) (v5 : Int32), k51 t_feels t_next t_came v1 v4 v5 = some res → G 0 0 (wd_X12_tugs cI cZ h_t h_t_w h_t_isKept h_t_text h_t_statuses h_t_ways h_t_feels h_t_next h_t_came h_t_deep h_t_sizes h_t_tableOf h_t_usedBy h_t_taken h_t_sixOf t_texted t_above t_below t_at t_start t_number t_went t_h t_w t_feels t_next t_came) [(0, .ref h_t), (1, .int v1), (4, .int v4), (5, .int v5)] 51 []) (n : Nat) (t_feels : (Nat → Int32)) (t_next : (Nat → Int32)) (t_came : (Nat → Int32)) (v1 : Int32) (v4 : Int32) (v5 : Int32) (v6 : Int32) (v7 : Int32) (v8 : Int32), f_X12_tugs_108 t_w k51 n t_feels t_next t_came v1 v4 v5 v6 v7 v8 = some res → G 0 0 (wd_X12_tugs cI cZ h_t h_t_w h_t_isKept h_t_text h_t_statuses h_t_ways h_t_feels h_t_next h_t_came h_t_deep h_t_sizes h_t_tableOf h_t_usedBy h_t_taken h_t_sixOf t_texted t_above t_below t_at t_start t_number t_went t_h t_w t_feels t_next t_came) [(0, .ref h_t), (1, .int v1), (4, .int v4), (5, .int v5), (6, .int v6), (7, .int v7), (8, .int v8)] 108 [] := by
    intro k51 hk51 n
    induction n with
    | zero => intro t_feels t_next t_came v1 v4 v5 v6 v7 v8 hf; rw [f_X12_tugs_108] at hf; cases hf
    | succ n ih =>
      intro t_feels t_next t_came v1 v4 v5 v6 v7 v8 hf
      rw [f_X12_tugs_108] at hf
      refine g_iload X dX12_tugs_108 6 rfl ?_
      refine g_aload_n X dX12_tugs_110 rfl 0 rfl ?_
      refine g_get (C := RX12) (T := TX12) (N := 22) (ci := 8) (v := (.ref h_t_w)) X iw_X12_tugs_X12 0 rfl rfl 0 (by decide) lk_X12_tugs_7 rfl dX12_tugs_111 ?_
      refine g_iload_n X dX12_tugs_114 rfl 1 rfl ?_
      refine g_iconst (v := 0) X dX12_tugs_115 (by decide) ?_
      refine g_iadd X dX12_tugs_116 ?_
      obtain ⟨hb_20, hf⟩ := chk_out hf
      refine g_iald X 1 rfl hb_20 dX12_tugs_117 ?_
      refine g_icmp_ge (tgt := 193) X dX12_tugs_118 (by decide) (fun hc_21 => ?_) (fun hc_21 => ?_)
      · replace hf := ite_t hc_21 hf
        refine g_lv X (lv' := [(0, .ref h_t), (1, .int v1), (4, .int v4), (5, .int v5)]) [0, 1, 2, 3] rfl ?_
        exact J193 k51 hk51 t_feels t_next t_came v1 v4 v5 hf
      · replace hf := ite_f hc_21 hf
        refine g_iload X dX12_tugs_121 5 rfl ?_
        refine g_if_le (tgt := 193) X dX12_tugs_123 (by decide) (fun hc_22 => ?_) (fun hc_22 => ?_)
        · replace hf := ite_t hc_22 hf
          refine g_lv X (lv' := [(0, .ref h_t), (1, .int v1), (4, .int v4), (5, .int v5)]) [0, 1, 2, 3] rfl ?_
          exact J193 k51 hk51 t_feels t_next t_came v1 v4 v5 hf
        · replace hf := ite_f hc_22 hf
          refine g_iload X dX12_tugs_126 6 rfl ?_
          refine g_iload X dX12_tugs_128 4 rfl ?_
          refine g_icmp_eq (tgt := 187) X dX12_tugs_130 (by decide) (fun hc_23 => ?_) (fun hc_23 => ?_)
          · replace hf := ite_t hc_23 hf
            exact J187 k51 hk51 (f_X12_tugs_108 t_w k51 n) ih t_feels t_next t_came v1 v4 v5 v6 v7 v8 hf
          · replace hf := ite_f hc_23 hf
            refine g_iload X dX12_tugs_133 6 rfl ?_
            refine g_aload_n X dX12_tugs_135 rfl 0 rfl ?_
            refine g_get (C := RX12) (T := TX12) (N := 22) (ci := 8) (v := (.ref h_t_came)) X iw_X12_tugs_X12 0 rfl rfl 14 (by decide) lk_X12_tugs_39 rfl dX12_tugs_136 ?_
            refine g_iload X dX12_tugs_139 4 rfl ?_
            obtain ⟨hb_24, hf⟩ := chk_out hf
            refine g_iald X 4 rfl hb_24 dX12_tugs_141 ?_
            refine g_icmp_eq (tgt := 187) X dX12_tugs_142 (by decide) (fun hc_25 => ?_) (fun hc_25 => ?_)
            · replace hf := ite_t hc_25 hf
              exact J187 k51 hk51 (f_X12_tugs_108 t_w k51 n) ih t_feels t_next t_came v1 v4 v5 v6 v7 v8 hf
            · replace hf := ite_f hc_25 hf
              refine g_aload_n X dX12_tugs_145 rfl 0 rfl ?_
              refine g_iload_n X dX12_tugs_146 rfl 1 rfl ?_
              refine g_iload X dX12_tugs_147 4 rfl ?_
              refine g_iload X dX12_tugs_149 6 rfl ?_
              obtain ⟨r_26, hk_27, hf⟩ := ob1_out hf
              refine g_cVR (st := []) (st1 := [.int r_26]) (C := RX12) (ci := 8) (q0 := 0) X (c_X12_areHooked l D cI cZ h_t h_t_w h_t_isKept h_t_text h_t_statuses h_t_ways h_t_feels h_t_next h_t_came h_t_deep h_t_sizes h_t_tableOf h_t_usedBy h_t_taken h_t_sixOf t_texted t_above t_below t_at t_start t_number t_went t_h t_w v1 v6 v8 _ hk_27) (Or.inl rfl) 3 gX12_tugs_X12_areHooked rfl hv_X12_areHooked ⟨Nat.le_of_ble_eq_true rfl, Nat.le_of_ble_eq_true rfl⟩ rfl rfl (Nat.le_of_ble_eq_true rfl) ⟨rfl, rfl⟩ (Nat.zero_le _) (Nat.zero_le _) rfl rfl rfl dX12_tugs_151 [0, 1] rfl rfl rfl ?_
              refine g_if_eq (tgt := 187) X dX12_tugs_154 (by decide) (fun hc_28 => ?_) (fun hc_28 => ?_)
              · replace hf := ite_t hc_28 hf
                exact J187 k51 hk51 (f_X12_tugs_108 t_w k51 n) ih t_feels t_next t_came v1 v4 v5 v6 v7 v8 hf
              · replace hf := ite_f hc_28 hf
                refine g_aload_n X dX12_tugs_157 rfl 0 rfl ?_
                refine g_get (C := RX12) (T := TX12) (N := 22) (ci := 8) (v := (.ref h_t_feels)) X iw_X12_tugs_X12 0 rfl rfl 12 (by decide) lk_X12_tugs_33 rfl dX12_tugs_158 ?_
                refine g_iload X dX12_tugs_161 6 rfl ?_
                refine g_iload X dX12_tugs_163 5 rfl ?_
                obtain ⟨hb_29, hf⟩ := chk_out hf
                obtain ⟨t_feels_30, et_feels_30, hf⟩ := bnd_out hf
                refine g_iast (ws' := (wd_X12_tugs cI cZ h_t h_t_w h_t_isKept h_t_text h_t_statuses h_t_ways h_t_feels h_t_next h_t_came h_t_deep h_t_sizes h_t_tableOf h_t_usedBy h_t_taken h_t_sixOf t_texted t_above t_below t_at t_start t_number t_went t_h t_w t_feels_30 t_next t_came)) X 2 rfl hb_29 et_feels_30 dX12_tugs_165 rfl ?_
                refine g_aload_n X dX12_tugs_166 rfl 0 rfl ?_
                refine g_get (C := RX12) (T := TX12) (N := 22) (ci := 8) (v := (.ref h_t_came)) X iw_X12_tugs_X12 0 rfl rfl 14 (by decide) lk_X12_tugs_39 rfl dX12_tugs_167 ?_
                refine g_iload X dX12_tugs_170 6 rfl ?_
                refine g_iload X dX12_tugs_172 4 rfl ?_
                obtain ⟨hb_31, hf⟩ := chk_out hf
                obtain ⟨t_came_32, et_came_32, hf⟩ := bnd_out hf
                refine g_iast (ws' := (wd_X12_tugs cI cZ h_t h_t_w h_t_isKept h_t_text h_t_statuses h_t_ways h_t_feels h_t_next h_t_came h_t_deep h_t_sizes h_t_tableOf h_t_usedBy h_t_taken h_t_sixOf t_texted t_above t_below t_at t_start t_number t_went t_h t_w t_feels_30 t_next t_came_32)) X 4 rfl hb_31 et_came_32 dX12_tugs_174 rfl ?_
                refine g_aload_n X dX12_tugs_175 rfl 0 rfl ?_
                refine g_get (C := RX12) (T := TX12) (N := 22) (ci := 8) (v := (.ref h_t_next)) X iw_X12_tugs_X12 0 rfl rfl 13 (by decide) lk_X12_tugs_36 rfl dX12_tugs_176 ?_
                refine g_iload X dX12_tugs_179 3 rfl ?_
                refine g_iload X dX12_tugs_181 6 rfl ?_
                obtain ⟨hb_33, hf⟩ := chk_out hf
                obtain ⟨t_next_34, et_next_34, hf⟩ := bnd_out hf
                refine g_iast (ws' := (wd_X12_tugs cI cZ h_t h_t_w h_t_isKept h_t_text h_t_statuses h_t_ways h_t_feels h_t_next h_t_came h_t_deep h_t_sizes h_t_tableOf h_t_usedBy h_t_taken h_t_sixOf t_texted t_above t_below t_at t_start t_number t_went t_h t_w t_feels_30 t_next_34 t_came_32)) X 3 rfl hb_33 et_next_34 dX12_tugs_183 rfl ?_
                obtain ⟨v5_35, ev5_35, hf⟩ := bnd_out hf
                refine g_iinc (v := v5_35) (lv' := [(0, .ref h_t), (1, .int v1), (4, .int v4), (5, .int v5_35), (6, .int v6), (7, .int v7), (8, .int v8)]) X dX12_tugs_184 3 rfl (by rw [ev5_35]; rfl) (Nat.le_of_ble_eq_true rfl) [1, 2, 3, 0, 4, 5, 6] rfl ?_
                exact J187 k51 hk51 (f_X12_tugs_108 t_w k51 n) ih t_feels_30 t_next_34 t_came_32 v1 v4 v5_35 v6 v7 v8 hf
  have J51 : ∀ (n : Nat) (t_feels : (Nat → Int32)) (t_next : (Nat → Int32)) (t_came : (Nat → Int32)) (v1 : Int32) (v4 : Int32) (v5 : Int32), f_X12_tugs_51 t_w n t_feels t_next t_came v1 v4 v5 = some res → G 0 0 (wd_X12_tugs cI cZ h_t h_t_w h_t_isKept h_t_text h_t_statuses h_t_ways h_t_feels h_t_next h_t_came h_t_deep h_t_sizes h_t_tableOf h_t_usedBy h_t_taken h_t_sixOf t_texted t_above t_below t_at t_start t_number t_went t_h t_w t_feels t_next t_came) [(0, .ref h_t), (1, .int v1), (4, .int v4), (5, .int v5)] 51 [] := by
    intro n
    induction n with
    | zero => intro t_feels t_next t_came v1 v4 v5 hf; rw [f_X12_tugs_51] at hf; cases hf
    | succ n ih =>
      intro t_feels t_next t_came v1 v4 v5 hf
      rw [f_X12_tugs_51] at hf
      refine g_iload X dX12_tugs_51 2 rfl ?_
      refine g_iload X dX12_tugs_53 3 rfl ?_
      refine g_icmp_ge (tgt := 196) X dX12_tugs_55 (by decide) (fun hc_11 => ?_) (fun hc_11 => ?_)
      · replace hf := ite_t hc_11 hf
        exact hR _ _ _ dX12_tugs_196 (kV_in (u := (t_feels, t_next, t_came)) hf)
      · replace hf := ite_f hc_11 hf
        refine g_aload_n X dX12_tugs_58 rfl 0 rfl ?_
        refine g_get (C := RX12) (T := TX12) (N := 22) (ci := 8) (v := (.ref h_t_next)) X iw_X12_tugs_X12 0 rfl rfl 13 (by decide) lk_X12_tugs_36 rfl dX12_tugs_59 ?_
        refine g_iload X dX12_tugs_62 2 rfl ?_
        obtain ⟨hb_12, hf⟩ := chk_out hf
        refine g_iald X 3 rfl hb_12 dX12_tugs_64 ?_
        obtain ⟨v6_13, ev6_13, hf⟩ := bnd_out hf
        refine g_nmI X ev6_13 ?_
        refine g_istore (lv' := [(0, .ref h_t), (1, .int v1), (4, .int v4), (5, .int v5), (6, .int v6_13)]) X dX12_tugs_65 (Nat.le_of_ble_eq_true rfl) [1, 2, 3, 4, 0] rfl ?_
        obtain ⟨v4_14, ev4_14, hf⟩ := bnd_out hf
        refine g_iinc (v := v4_14) (lv' := [(0, .ref h_t), (1, .int v1), (4, .int v4_14), (5, .int v5), (6, .int v6_13)]) X dX12_tugs_67 2 rfl (by rw [ev4_14]; rfl) (Nat.le_of_ble_eq_true rfl) [1, 2, 0, 3, 4] rfl ?_
        refine g_aload_n X dX12_tugs_70 rfl 0 rfl ?_
        refine g_get (C := RX12) (T := TX12) (N := 22) (ci := 8) (v := (.ref h_t_w)) X iw_X12_tugs_X12 0 rfl rfl 0 (by decide) lk_X12_tugs_7 rfl dX12_tugs_71 ?_
        refine g_iload_n X dX12_tugs_74 rfl 1 rfl ?_
        refine g_iconst (v := 3) X dX12_tugs_75 (by decide) ?_
        refine g_iadd X dX12_tugs_76 ?_
        refine g_iload X dX12_tugs_77 4 rfl ?_
        refine g_iadd X dX12_tugs_79 ?_
        obtain ⟨hb_15, hf⟩ := chk_out hf
        refine g_iald X 1 rfl hb_15 dX12_tugs_80 ?_
        refine g_aload_n X dX12_tugs_81 rfl 0 rfl ?_
        refine g_get (C := RX12) (T := TX12) (N := 22) (ci := 8) (v := (.ref h_t_feels)) X iw_X12_tugs_X12 0 rfl rfl 12 (by decide) lk_X12_tugs_33 rfl dX12_tugs_82 ?_
        refine g_iload X dX12_tugs_85 4 rfl ?_
        obtain ⟨hb_16, hf⟩ := chk_out hf
        refine g_iald X 2 rfl hb_16 dX12_tugs_87 ?_
        refine g_aload_n X dX12_tugs_88 rfl 0 rfl ?_
        refine g_get (C := RX12) (T := TX12) (N := 22) (ci := 8) (v := (.ref h_t_w)) X iw_X12_tugs_X12 0 rfl rfl 0 (by decide) lk_X12_tugs_7 rfl dX12_tugs_89 ?_
        refine g_iload_n X dX12_tugs_92 rfl 1 rfl ?_
        refine g_bipush (v := 24) X dX12_tugs_93 (by decide) ?_
        refine g_iadd X dX12_tugs_95 ?_
        refine g_iload X dX12_tugs_96 4 rfl ?_
        refine g_iadd X dX12_tugs_98 ?_
        obtain ⟨hb_17, hf⟩ := chk_out hf
        refine g_iald X 1 rfl hb_17 dX12_tugs_99 ?_
        obtain ⟨r_18, hk_19, hf⟩ := ob1_out hf
        refine g_cSR (st := []) (st1 := [.int r_18]) X (c_X12_goesOn l D cI cZ (t_w ((v1 + 3) + v6_13).toNatClampNeg) (t_feels v6_13.toNatClampNeg) (t_w ((v1 + 24) + v6_13).toNatClampNeg) _ hk_19) (Or.inl rfl) 3 gX12_tugs_X12_goesOn rfl hs_X12_goesOn ⟨Nat.le_of_ble_eq_true rfl, Nat.le_of_ble_eq_true rfl⟩ rfl rfl (Nat.le_of_ble_eq_true rfl) ⟨rfl, rfl⟩ (Nat.zero_le _) (Nat.zero_le _) dX12_tugs_100 [] rfl rfl rfl ?_
        refine g_istore (lv' := [(0, .ref h_t), (1, .int v1), (4, .int v4_14), (5, .int v5), (6, .int v6_13), (7, .int r_18)]) X dX12_tugs_103 (Nat.le_of_ble_eq_true rfl) [1, 2, 3, 4, 5, 0] rfl ?_
        refine g_iconst (v := 0) X dX12_tugs_105 (by decide) ?_
        refine g_istore (lv' := [(0, .ref h_t), (1, .int v1), (4, .int v4_14), (5, .int v5), (6, .int v6_13), (7, .int r_18), (8, .int 0)]) X dX12_tugs_106 (Nat.le_of_ble_eq_true rfl) [1, 2, 3, 4, 5, 6, 0] rfl ?_
        exact J108 (f_X12_tugs_51 t_w n) ih FU t_feels t_next t_came v1 v4_14 v5 v6_13 r_18 0 hf
  have J24 : ∀ (t_feels : (Nat → Int32)) (t_next : (Nat → Int32)) (t_came : (Nat → Int32)) (v1 : Int32) (v2 : Int32) (v3 : Int32), f_X12_tugs_24 t_w t_feels t_next t_came v1 v2 v3 = some res → G 0 0 (wd_X12_tugs cI cZ h_t h_t_w h_t_isKept h_t_text h_t_statuses h_t_ways h_t_feels h_t_next h_t_came h_t_deep h_t_sizes h_t_tableOf h_t_usedBy h_t_taken h_t_sixOf t_texted t_above t_below t_at t_start t_number t_went t_h t_w t_feels t_next t_came) [(0, .ref h_t), (1, .int v1), (2, .int v2), (3, .int v3)] 24 [] := by
    intro t_feels t_next t_came v1 v2 v3 hf
    unfold f_X12_tugs_24 at hf
    refine g_iconst (v := 0) X dX12_tugs_24 (by decide) ?_
    refine g_istore (lv' := [(0, .ref h_t), (1, .int v1), (2, .int v2), (3, .int v3), (4, .int 0)]) X dX12_tugs_25 (Nat.le_of_ble_eq_true rfl) [1, 2, 3, 4, 0] rfl ?_
    refine g_iconst (v := 1) X dX12_tugs_27 (by decide) ?_
    refine g_istore (lv' := [(0, .ref h_t), (1, .int v1), (2, .int v2), (3, .int v3), (4, .int 0), (5, .int 1)]) X dX12_tugs_28 (Nat.le_of_ble_eq_true rfl) [1, 2, 3, 4, 5, 0] rfl ?_
    refine g_aload_n X dX12_tugs_30 rfl 0 rfl ?_
    refine g_get (C := RX12) (T := TX12) (N := 22) (ci := 8) (v := (.ref h_t_next)) X iw_X12_tugs_X12 0 rfl rfl 13 (by decide) lk_X12_tugs_36 rfl dX12_tugs_31 ?_
    refine g_iconst (v := 0) X dX12_tugs_34 (by decide) ?_
    refine g_iload_n X dX12_tugs_35 rfl 2 rfl ?_
    obtain ⟨hb_5, hf⟩ := chk_out hf
    obtain ⟨t_next_6, et_next_6, hf⟩ := bnd_out hf
    refine g_iast (ws' := (wd_X12_tugs cI cZ h_t h_t_w h_t_isKept h_t_text h_t_statuses h_t_ways h_t_feels h_t_next h_t_came h_t_deep h_t_sizes h_t_tableOf h_t_usedBy h_t_taken h_t_sixOf t_texted t_above t_below t_at t_start t_number t_went t_h t_w t_feels t_next_6 t_came)) X 3 rfl hb_5 et_next_6 dX12_tugs_36 rfl ?_
    refine g_aload_n X dX12_tugs_37 rfl 0 rfl ?_
    refine g_get (C := RX12) (T := TX12) (N := 22) (ci := 8) (v := (.ref h_t_came)) X iw_X12_tugs_X12 0 rfl rfl 14 (by decide) lk_X12_tugs_39 rfl dX12_tugs_38 ?_
    refine g_iload_n X dX12_tugs_41 rfl 2 rfl ?_
    refine g_iconst (v := (-1)) X dX12_tugs_42 (by decide) ?_
    obtain ⟨hb_7, hf⟩ := chk_out hf
    obtain ⟨t_came_8, et_came_8, hf⟩ := bnd_out hf
    refine g_iast (ws' := (wd_X12_tugs cI cZ h_t h_t_w h_t_isKept h_t_text h_t_statuses h_t_ways h_t_feels h_t_next h_t_came h_t_deep h_t_sizes h_t_tableOf h_t_usedBy h_t_taken h_t_sixOf t_texted t_above t_below t_at t_start t_number t_went t_h t_w t_feels t_next_6 t_came_8)) X 4 rfl hb_7 et_came_8 dX12_tugs_43 rfl ?_
    refine g_aload_n X dX12_tugs_44 rfl 0 rfl ?_
    refine g_get (C := RX12) (T := TX12) (N := 22) (ci := 8) (v := (.ref h_t_feels)) X iw_X12_tugs_X12 0 rfl rfl 12 (by decide) lk_X12_tugs_33 rfl dX12_tugs_45 ?_
    refine g_iload_n X dX12_tugs_48 rfl 2 rfl ?_
    refine g_iload_n X dX12_tugs_49 rfl 3 rfl ?_
    obtain ⟨hb_9, hf⟩ := chk_out hf
    obtain ⟨t_feels_10, et_feels_10, hf⟩ := bnd_out hf
    refine g_iast (ws' := (wd_X12_tugs cI cZ h_t h_t_w h_t_isKept h_t_text h_t_statuses h_t_ways h_t_feels h_t_next h_t_came h_t_deep h_t_sizes h_t_tableOf h_t_usedBy h_t_taken h_t_sixOf t_texted t_above t_below t_at t_start t_number t_went t_h t_w t_feels_10 t_next_6 t_came_8)) X 2 rfl hb_9 et_feels_10 dX12_tugs_50 rfl ?_
    refine g_lv X (lv' := [(0, .ref h_t), (1, .int v1), (4, .int 0), (5, .int 1)]) [0, 1, 4, 5] rfl ?_
    exact J51 FU t_feels_10 t_next_6 t_came_8 v1 0 1 hf
  have J3 : ∀ (n : Nat) (t_feels : (Nat → Int32)) (t_next : (Nat → Int32)) (t_came : (Nat → Int32)) (v1 : Int32) (v2 : Int32) (v3 : Int32) (v4 : Int32), f_X12_tugs_3 t_w n t_feels t_next t_came v1 v2 v3 v4 = some res → G 0 0 (wd_X12_tugs cI cZ h_t h_t_w h_t_isKept h_t_text h_t_statuses h_t_ways h_t_feels h_t_next h_t_came h_t_deep h_t_sizes h_t_tableOf h_t_usedBy h_t_taken h_t_sixOf t_texted t_above t_below t_at t_start t_number t_went t_h t_w t_feels t_next t_came) [(0, .ref h_t), (1, .int v1), (2, .int v2), (3, .int v3), (4, .int v4)] 3 [] := by
    intro n
    induction n with
    | zero => intro t_feels t_next t_came v1 v2 v3 v4 hf; rw [f_X12_tugs_3] at hf; cases hf
    | succ n ih =>
      intro t_feels t_next t_came v1 v2 v3 v4 hf
      rw [f_X12_tugs_3] at hf
      refine g_iload X dX12_tugs_3 4 rfl ?_
      refine g_bipush (v := 7) X dX12_tugs_5 (by decide) ?_
      refine g_icmp_ge (tgt := 24) X dX12_tugs_7 (by decide) (fun hc_1 => ?_) (fun hc_1 => ?_)
      · replace hf := ite_t hc_1 hf
        refine g_lv X (lv' := [(0, .ref h_t), (1, .int v1), (2, .int v2), (3, .int v3)]) [0, 1, 2, 3] rfl ?_
        exact J24 t_feels t_next t_came v1 v2 v3 hf
      · replace hf := ite_f hc_1 hf
        refine g_aload_n X dX12_tugs_10 rfl 0 rfl ?_
        refine g_get (C := RX12) (T := TX12) (N := 22) (ci := 8) (v := (.ref h_t_feels)) X iw_X12_tugs_X12 0 rfl rfl 12 (by decide) lk_X12_tugs_33 rfl dX12_tugs_11 ?_
        refine g_iload X dX12_tugs_14 4 rfl ?_
        refine g_iconst (v := 0) X dX12_tugs_16 (by decide) ?_
        obtain ⟨hb_2, hf⟩ := chk_out hf
        obtain ⟨t_feels_3, et_feels_3, hf⟩ := bnd_out hf
        refine g_iast (ws' := (wd_X12_tugs cI cZ h_t h_t_w h_t_isKept h_t_text h_t_statuses h_t_ways h_t_feels h_t_next h_t_came h_t_deep h_t_sizes h_t_tableOf h_t_usedBy h_t_taken h_t_sixOf t_texted t_above t_below t_at t_start t_number t_went t_h t_w t_feels_3 t_next t_came)) X 2 rfl hb_2 et_feels_3 dX12_tugs_17 rfl ?_
        obtain ⟨v4_4, ev4_4, hf⟩ := bnd_out hf
        refine g_iinc (v := v4_4) (lv' := [(0, .ref h_t), (1, .int v1), (2, .int v2), (3, .int v3), (4, .int v4_4)]) X dX12_tugs_18 4 rfl (by rw [ev4_4]; rfl) (Nat.le_of_ble_eq_true rfl) [1, 2, 3, 4, 0] rfl ?_
        refine g_goto (tgt := 3) X dX12_tugs_21 (by decide) ?_
        exact ih t_feels_3 t_next t_came v1 v2 v3 v4_4 hf
  refine g_iconst (v := 0) X dX12_tugs_0 (by decide) ?_
  refine g_istore (lv' := [(0, .ref h_t), (1, .int v1), (2, .int v2), (3, .int v3), (4, .int 0)]) X dX12_tugs_1 (Nat.le_of_ble_eq_true rfl) [1, 2, 3, 4, 0] rfl ?_
  exact J3 FU t_feels t_next t_came v1 v2 v3 0 hf
def wd_X12_whoFeels (cI cZ : ClassId) (h_t : Nat) (h_t_w : Nat) (h_t_isKept : Nat) (h_t_text : Nat) (h_t_statuses : Nat) (h_t_ways : Nat) (h_t_feels : Nat) (h_t_next : Nat) (h_t_came : Nat) (h_t_deep : Nat) (h_t_sizes : Nat) (h_t_tableOf : Nat) (h_t_usedBy : Nat) (h_t_taken : Nat) (h_t_sixOf : Nat) (t_texted : Int32) (t_above : Int64) (t_below : Int64) (t_at : Int32) (t_start : Int32) (t_number : Int32) (t_went : Int32) (t_h : Int64) (t_w : (Nat → Int32)) (t_feels : (Nat → Int32)) : va_W := [(h_t, .inr (8, [.ref h_t_w, .ref h_t_isKept, .ref h_t_text, .int t_texted, .long t_above, .long t_below, .ref h_t_statuses, .int t_at, .int t_start, .int t_number, .ref h_t_ways, .int t_went, .ref h_t_feels, .ref h_t_next, .ref h_t_came, .ref h_t_deep, .ref h_t_sizes, .ref h_t_tableOf, .ref h_t_usedBy, .ref h_t_taken, .ref h_t_sixOf, .long t_h])), (h_t_w, .inl (cI, 1251, .inl t_w)), (h_t_feels, .inl (cI, 7, .inl t_feels))]
abbrev rm_X12_whoFeels : Room := { frames := 0, cells := 0, slots := 0, locals := 0 }
theorem hv_X12_whoFeels : yX12_whoFeels.cls = RX12 ∧ yX12_whoFeels.cls ≠ "java/lang/invoke/MethodHandle" ∧ yX12_whoFeels.cls ≠ "java/lang/invoke/VarHandle" ∧ (parseMethodDescriptor yX12_whoFeels.desc).map (fun d => d.parameters.length) = some 0 := by decide +kernel
theorem iw_X12_whoFeels_X12 : ∀ w ∈ u_ws RX12 TX12 22, w ∈ wsX12_whoFeels := by decide +kernel
theorem lk_X12_whoFeels_7 : Cond.fieldLink RX12 7 "ClerkChainsModel" "w" "[I" ∈ wsX12_whoFeels := by decide +kernel
theorem lk_X12_whoFeels_33 : Cond.fieldLink RX12 33 "ClerkChainsModel" "feels" "[I" ∈ wsX12_whoFeels := by decide +kernel
set_option maxHeartbeats 4000000 in
set_option maxRecDepth 100000 in
theorem c_X12_whoFeels (l : Launch) (D : va_G) (cI cZ : ClassId) (h_t : Nat) (h_t_w : Nat) (h_t_isKept : Nat) (h_t_text : Nat) (h_t_statuses : Nat) (h_t_ways : Nat) (h_t_feels : Nat) (h_t_next : Nat) (h_t_came : Nat) (h_t_deep : Nat) (h_t_sizes : Nat) (h_t_tableOf : Nat) (h_t_usedBy : Nat) (h_t_taken : Nat) (h_t_sixOf : Nat) (t_texted : Int32) (t_above : Int64) (t_below : Int64) (t_at : Int32) (t_start : Int32) (t_number : Int32) (t_went : Int32) (t_h : Int64) (t_w : (Nat → Int32)) (t_feels : (Nat → Int32)) (res : Int32) (hf : f_X12_whoFeels t_w t_feels = some res) : MetR l yX12_whoFeels wsX12_whoFeels rm_X12_whoFeels D cI cZ none [.ref h_t] (wd_X12_whoFeels cI cZ h_t h_t_w h_t_isKept h_t_text h_t_statuses h_t_ways h_t_feels h_t_next h_t_came h_t_deep h_t_sizes h_t_tableOf h_t_usedBy h_t_taken h_t_sixOf t_texted t_above t_below t_at t_start t_number t_went t_h t_w t_feels) (kR res (fun u => some (.int u))) := by
  refine metR_of (cc := cX12_whoFeels) (maxL := 3) (ret := (some .int)) (own := RX12) (lv0 := [(0, .ref h_t)]) (by decide) rfl (Nat.le_of_ble_eq_true rfl) rfl rfl (fun G X hR => ?_)
  replace hR := rt_int hR
  unfold f_X12_whoFeels at hf
  have J31 : ∀ (k4 : Int32 → Int32 → Option (Int32)) (hk4 : ∀ (v1 : Int32) (v2 : Int32), k4 v1 v2 = some res → G 0 0 (wd_X12_whoFeels cI cZ h_t h_t_w h_t_isKept h_t_text h_t_statuses h_t_ways h_t_feels h_t_next h_t_came h_t_deep h_t_sizes h_t_tableOf h_t_usedBy h_t_taken h_t_sixOf t_texted t_above t_below t_at t_start t_number t_went t_h t_w t_feels) [(0, .ref h_t), (1, .int v1), (2, .int v2)] 4 []) (v2 : Int32) (s0 : Int32) (s1 : Int32), f_X12_whoFeels_31 t_w t_feels k4 v2 s0 s1 = some res → G 0 0 (wd_X12_whoFeels cI cZ h_t h_t_w h_t_isKept h_t_text h_t_statuses h_t_ways h_t_feels h_t_next h_t_came h_t_deep h_t_sizes h_t_tableOf h_t_usedBy h_t_taken h_t_sixOf t_texted t_above t_below t_at t_start t_number t_went t_h t_w t_feels) [(0, .ref h_t), (2, .int v2)] 31 [.int s1, .int s0] := by
    intro k4 hk4 v2 s0 s1 hf
    unfold f_X12_whoFeels_31 at hf
    refine g_ior X dX12_whoFeels_31 ?_
    obtain ⟨v1_5, ev1_5, hf⟩ := bnd_out hf
    refine g_nmI X ev1_5 ?_
    refine g_istore_n (lv' := [(0, .ref h_t), (1, .int v1_5), (2, .int v2)]) X dX12_whoFeels_32 rfl (Nat.le_of_ble_eq_true rfl) [1, 0, 2] rfl ?_
    obtain ⟨v2_6, ev2_6, hf⟩ := bnd_out hf
    refine g_iinc (v := v2_6) (lv' := [(0, .ref h_t), (1, .int v1_5), (2, .int v2_6)]) X dX12_whoFeels_33 2 rfl (by rw [ev2_6]; rfl) (Nat.le_of_ble_eq_true rfl) [1, 2, 0] rfl ?_
    refine g_goto (tgt := 4) X dX12_whoFeels_36 (by decide) ?_
    exact hk4 v1_5 v2_6 hf
  have J4 : ∀ (n : Nat) (v1 : Int32) (v2 : Int32), f_X12_whoFeels_4 t_w t_feels n v1 v2 = some res → G 0 0 (wd_X12_whoFeels cI cZ h_t h_t_w h_t_isKept h_t_text h_t_statuses h_t_ways h_t_feels h_t_next h_t_came h_t_deep h_t_sizes h_t_tableOf h_t_usedBy h_t_taken h_t_sixOf t_texted t_above t_below t_at t_start t_number t_went t_h t_w t_feels) [(0, .ref h_t), (1, .int v1), (2, .int v2)] 4 [] := by
    intro n
    induction n with
    | zero => intro v1 v2 hf; rw [f_X12_whoFeels_4] at hf; cases hf
    | succ n ih =>
      intro v1 v2 hf
      rw [f_X12_whoFeels_4] at hf
      refine g_iload_n X dX12_whoFeels_4 rfl 2 rfl ?_
      refine g_aload_n X dX12_whoFeels_5 rfl 0 rfl ?_
      refine g_get (C := RX12) (T := TX12) (N := 22) (ci := 8) (v := (.ref h_t_w)) X iw_X12_whoFeels_X12 0 rfl rfl 0 (by decide) lk_X12_whoFeels_7 rfl dX12_whoFeels_6 ?_
      refine g_iconst (v := 0) X dX12_whoFeels_9 (by decide) ?_
      obtain ⟨hb_1, hf⟩ := chk_out hf
      refine g_iald X 1 rfl hb_1 dX12_whoFeels_10 ?_
      refine g_icmp_ge (tgt := 39) X dX12_whoFeels_11 (by decide) (fun hc_2 => ?_) (fun hc_2 => ?_)
      · replace hf := ite_t hc_2 hf
        refine g_iload_n X dX12_whoFeels_39 rfl 1 rfl ?_
        exact hR _ _ _ _ dX12_whoFeels_40 (kR_in (u := v1) hf)
      · replace hf := ite_f hc_2 hf
        refine g_iload_n X dX12_whoFeels_14 rfl 1 rfl ?_
        refine g_aload_n X dX12_whoFeels_15 rfl 0 rfl ?_
        refine g_get (C := RX12) (T := TX12) (N := 22) (ci := 8) (v := (.ref h_t_feels)) X iw_X12_whoFeels_X12 0 rfl rfl 12 (by decide) lk_X12_whoFeels_33 rfl dX12_whoFeels_16 ?_
        refine g_iload_n X dX12_whoFeels_19 rfl 2 rfl ?_
        obtain ⟨hb_3, hf⟩ := chk_out hf
        refine g_iald X 2 rfl hb_3 dX12_whoFeels_20 ?_
        refine g_if_le (tgt := 30) X dX12_whoFeels_21 (by decide) (fun hc_4 => ?_) (fun hc_4 => ?_)
        · replace hf := ite_t hc_4 hf
          refine g_iconst (v := 0) X dX12_whoFeels_30 (by decide) ?_
          refine g_lv X (lv' := [(0, .ref h_t), (2, .int v2)]) [0, 2] rfl ?_
          exact J31 (f_X12_whoFeels_4 t_w t_feels n) ih v2 v1 0 hf
        · replace hf := ite_f hc_4 hf
          refine g_iconst (v := 1) X dX12_whoFeels_24 (by decide) ?_
          refine g_iload_n X dX12_whoFeels_25 rfl 2 rfl ?_
          refine g_ishl X dX12_whoFeels_26 ?_
          refine g_goto (tgt := 31) X dX12_whoFeels_27 (by decide) ?_
          refine g_lv X (lv' := [(0, .ref h_t), (2, .int v2)]) [0, 2] rfl ?_
          exact J31 (f_X12_whoFeels_4 t_w t_feels n) ih v2 v1 (1 <<< (v2 &&& 31)) hf
  refine g_iconst (v := 0) X dX12_whoFeels_0 (by decide) ?_
  refine g_istore_n (lv' := [(0, .ref h_t), (1, .int 0)]) X dX12_whoFeels_1 rfl (Nat.le_of_ble_eq_true rfl) [1, 0] rfl ?_
  refine g_iconst (v := 0) X dX12_whoFeels_2 (by decide) ?_
  refine g_istore_n (lv' := [(0, .ref h_t), (1, .int 0), (2, .int 0)]) X dX12_whoFeels_3 rfl (Nat.le_of_ble_eq_true rfl) [1, 2, 0] rfl ?_
  exact J4 FU 0 0 hf
def wd_X12_felt (cI cZ : ClassId) (h_t : Nat) (h_t_w : Nat) (h_t_isKept : Nat) (h_t_text : Nat) (h_t_statuses : Nat) (h_t_ways : Nat) (h_t_feels : Nat) (h_t_next : Nat) (h_t_came : Nat) (h_t_deep : Nat) (h_t_sizes : Nat) (h_t_tableOf : Nat) (h_t_usedBy : Nat) (h_t_taken : Nat) (h_t_sixOf : Nat) (t_texted : Int32) (t_above : Int64) (t_below : Int64) (t_at : Int32) (t_start : Int32) (t_number : Int32) (t_went : Int32) (t_h : Int64) (t_w : (Nat → Int32)) (t_statuses : (Nat → Int32)) (t_feels : (Nat → Int32)) (t_next : (Nat → Int32)) (t_came : (Nat → Int32)) : va_W := [(h_t, .inr (8, [.ref h_t_w, .ref h_t_isKept, .ref h_t_text, .int t_texted, .long t_above, .long t_below, .ref h_t_statuses, .int t_at, .int t_start, .int t_number, .ref h_t_ways, .int t_went, .ref h_t_feels, .ref h_t_next, .ref h_t_came, .ref h_t_deep, .ref h_t_sizes, .ref h_t_tableOf, .ref h_t_usedBy, .ref h_t_taken, .ref h_t_sixOf, .long t_h])), (h_t_w, .inl (cI, 1251, .inl t_w)), (h_t_statuses, .inl (cI, 3, .inl t_statuses)), (h_t_feels, .inl (cI, 7, .inl t_feels)), (h_t_next, .inl (cI, 7, .inl t_next)), (h_t_came, .inl (cI, 7, .inl t_came))]
abbrev rm_X12_felt : Room := { frames := 3, cells := 0, slots := 0, locals := 72 }
theorem hv_X12_felt : yX12_felt.cls = RX12 ∧ yX12_felt.cls ≠ "java/lang/invoke/MethodHandle" ∧ yX12_felt.cls ≠ "java/lang/invoke/VarHandle" ∧ (parseMethodDescriptor yX12_felt.desc).map (fun d => d.parameters.length) = some 3 := by decide +kernel
theorem iw_X12_felt_X12 : ∀ w ∈ u_ws RX12 TX12 22, w ∈ wsX12_felt := by decide +kernel
theorem lk_X12_felt_33 : Cond.fieldLink RX12 33 "ClerkChainsModel" "feels" "[I" ∈ wsX12_felt := by decide +kernel
theorem lk_X12_felt_233 : Cond.constantLong RX12 233 20 ∈ wsX12_felt := by decide +kernel
set_option maxHeartbeats 4000000 in
set_option maxRecDepth 100000 in
theorem c_X12_felt (l : Launch) (D : va_G) (cI cZ : ClassId) (h_t : Nat) (h_t_w : Nat) (h_t_isKept : Nat) (h_t_text : Nat) (h_t_statuses : Nat) (h_t_ways : Nat) (h_t_feels : Nat) (h_t_next : Nat) (h_t_came : Nat) (h_t_deep : Nat) (h_t_sizes : Nat) (h_t_tableOf : Nat) (h_t_usedBy : Nat) (h_t_taken : Nat) (h_t_sixOf : Nat) (t_texted : Int32) (t_above : Int64) (t_below : Int64) (t_at : Int32) (t_start : Int32) (t_number : Int32) (t_went : Int32) (t_h : Int64) (t_w : (Nat → Int32)) (t_statuses : (Nat → Int32)) (t_feels : (Nat → Int32)) (t_next : (Nat → Int32)) (t_came : (Nat → Int32)) (v1 : Int32) (v2 : Int32) (v3 : Int32) (res : Int32 × (Nat → Int32) × (Nat → Int32) × (Nat → Int32) × (Nat → Int32)) (hf : f_X12_felt t_w t_statuses t_feels t_next t_came v1 v2 v3 = some res) : MetG l yX12_felt wsX12_felt rm_X12_felt D cI cZ none [.ref h_t, .int v1, .int v2, .int v3] (wd_X12_felt cI cZ h_t h_t_w h_t_isKept h_t_text h_t_statuses h_t_ways h_t_feels h_t_next h_t_came h_t_deep h_t_sizes h_t_tableOf h_t_usedBy h_t_taken h_t_sixOf t_texted t_above t_below t_at t_start t_number t_went t_h t_w t_statuses t_feels t_next t_came) (kV res (fun u => some (.int u.1)) (fun u => (wd_X12_felt cI cZ h_t h_t_w h_t_isKept h_t_text h_t_statuses h_t_ways h_t_feels h_t_next h_t_came h_t_deep h_t_sizes h_t_tableOf h_t_usedBy h_t_taken h_t_sixOf t_texted t_above t_below t_at t_start t_number t_went t_h t_w (u.2.1) (u.2.2.1) (u.2.2.2.1) (u.2.2.2.2)))) := by
  refine metG_of (cc := cX12_felt) (maxL := 4) (ret := (some .int)) (own := RX12) (lv0 := [(0, .ref h_t), (1, .int v1), (2, .int v2), (3, .int v3)]) (ini := false) (by decide) rfl (Nat.le_of_ble_eq_true rfl) rfl rfl (fun h => by cases h) (fun G X hR => ?_)
  replace hR := rt_int hR
  unfold f_X12_felt at hf
  have J33 : ∀ (t_statuses : (Nat → Int32)) (t_feels : (Nat → Int32)) (t_next : (Nat → Int32)) (t_came : (Nat → Int32)), f_X12_felt_33 t_w t_statuses t_feels t_next t_came = some res → G 0 0 (wd_X12_felt cI cZ h_t h_t_w h_t_isKept h_t_text h_t_statuses h_t_ways h_t_feels h_t_next h_t_came h_t_deep h_t_sizes h_t_tableOf h_t_usedBy h_t_taken h_t_sixOf t_texted t_above t_below t_at t_start t_number t_went t_h t_w t_statuses t_feels t_next t_came) [(0, .ref h_t)] 33 [] := by
    intro t_statuses t_feels t_next t_came hf
    unfold f_X12_felt_33 at hf
    refine g_aload_n X dX12_felt_33 rfl 0 rfl ?_
    refine g_bipush (v := (-2)) X dX12_felt_34 (by decide) ?_
    obtain ⟨r_1, t_statuses_2, hk_3, hf⟩ := ob2_out hf
    refine g_cVW (st := []) (st1 := [.int r_1]) (C := RX12) (ci := 8) (q0 := 0) (ws' := (wd_X12_felt cI cZ h_t h_t_w h_t_isKept h_t_text h_t_statuses h_t_ways h_t_feels h_t_next h_t_came h_t_deep h_t_sizes h_t_tableOf h_t_usedBy h_t_taken h_t_sixOf t_texted t_above t_below t_at t_start t_number t_went t_h t_w t_statuses_2 t_feels t_next t_came)) X (c_X12_bad l D cI cZ h_t h_t_w h_t_isKept h_t_text h_t_statuses h_t_ways h_t_feels h_t_next h_t_came h_t_deep h_t_sizes h_t_tableOf h_t_usedBy h_t_taken h_t_sixOf t_texted t_above t_below t_at t_start t_number t_went t_h t_statuses (-2) _ hk_3) (Or.inl rfl) 1 gX12_felt_X12_bad rfl hv_X12_bad ⟨Nat.le_of_ble_eq_true rfl, Nat.le_of_ble_eq_true rfl⟩ rfl rfl (Nat.le_of_ble_eq_true rfl) ⟨rfl, rfl⟩ (Nat.zero_le _) (Nat.zero_le _) rfl rfl rfl dX12_felt_36 [0, 2] rfl rfl [1, 3, 4, 5] rfl rfl (by decide) [4, 0, 5, 1, 2, 3] rfl rfl rfl ?_
    exact hR _ _ _ _ dX12_felt_39 (kV_in (u := (r_1, t_statuses_2, t_feels, t_next, t_came)) hf)
  have J40 : ∀ (t_statuses : (Nat → Int32)) (t_feels : (Nat → Int32)) (t_next : (Nat → Int32)) (t_came : (Nat → Int32)) (v1 : Int32) (v2 : Int32) (v3 : Int32), f_X12_felt_40 t_w t_statuses t_feels t_next t_came v1 v2 v3 = some res → G 0 0 (wd_X12_felt cI cZ h_t h_t_w h_t_isKept h_t_text h_t_statuses h_t_ways h_t_feels h_t_next h_t_came h_t_deep h_t_sizes h_t_tableOf h_t_usedBy h_t_taken h_t_sixOf t_texted t_above t_below t_at t_start t_number t_went t_h t_w t_statuses t_feels t_next t_came) [(0, .ref h_t), (1, .int v1), (2, .int v2), (3, .int v3)] 40 [] := by
    intro t_statuses t_feels t_next t_came v1 v2 v3 hf
    unfold f_X12_felt_40 at hf
    refine g_aload_n X dX12_felt_40 rfl 0 rfl ?_
    refine g_iconst (v := 0) X dX12_felt_41 (by decide) ?_
    refine g_iload_n X dX12_felt_42 rfl 1 rfl ?_
    refine g_iload_n X dX12_felt_43 rfl 2 rfl ?_
    obtain ⟨t_feels_4, t_next_5, t_came_6, hk_7, hf⟩ := ob3_out hf
    refine g_cVW (st := []) (st1 := []) (C := RX12) (ci := 8) (q0 := 0) (ws' := (wd_X12_felt cI cZ h_t h_t_w h_t_isKept h_t_text h_t_statuses h_t_ways h_t_feels h_t_next h_t_came h_t_deep h_t_sizes h_t_tableOf h_t_usedBy h_t_taken h_t_sixOf t_texted t_above t_below t_at t_start t_number t_went t_h t_w t_statuses t_feels_4 t_next_5 t_came_6)) X (c_X12_tugs l D cI cZ h_t h_t_w h_t_isKept h_t_text h_t_statuses h_t_ways h_t_feels h_t_next h_t_came h_t_deep h_t_sizes h_t_tableOf h_t_usedBy h_t_taken h_t_sixOf t_texted t_above t_below t_at t_start t_number t_went t_h t_w t_feels t_next t_came 0 v1 v2 _ hk_7) (Or.inl rfl) 3 gX12_felt_X12_tugs rfl hv_X12_tugs ⟨Nat.le_of_ble_eq_true rfl, Nat.le_of_ble_eq_true rfl⟩ rfl rfl (Nat.le_of_ble_eq_true rfl) ⟨rfl, rfl⟩ (Nat.zero_le _) (Nat.zero_le _) rfl rfl rfl dX12_felt_44 [0, 1, 3, 4, 5] rfl rfl [2] rfl rfl (by decide) [1, 2, 0, 3, 4, 5] rfl rfl rfl ?_
    refine g_iload_n X dX12_felt_47 rfl 3 rfl ?_
    refine g_iconst (v := (-1)) X dX12_felt_48 (by decide) ?_
    refine g_icmp_ne (tgt := 59) X dX12_felt_49 (by decide) (fun hc_8 => ?_) (fun hc_8 => ?_)
    · replace hf := ite_f hc_8 hf
      refine g_aload_n X dX12_felt_59 rfl 0 rfl ?_
      refine g_get (C := RX12) (T := TX12) (N := 22) (ci := 8) (v := (.ref h_t_feels)) X iw_X12_felt_X12 0 rfl rfl 12 (by decide) lk_X12_felt_33 rfl dX12_felt_60 ?_
      refine g_iload_n X dX12_felt_63 rfl 3 rfl ?_
      obtain ⟨hb_9, hf⟩ := chk_out hf
      refine g_iald X 3 rfl hb_9 dX12_felt_64 ?_
      exact hR _ _ _ _ dX12_felt_65 (kV_in (u := (t_feels_4 v3.toNatClampNeg, t_statuses, t_feels_4, t_next_5, t_came_6)) hf)
    · replace hf := ite_t hc_8 hf
      refine g_aload_n X dX12_felt_52 rfl 0 rfl ?_
      obtain ⟨r_10, hk_11, hf⟩ := ob1_out hf
      refine g_cVR (st := []) (st1 := [.int r_10]) (C := RX12) (ci := 8) (q0 := 0) X (c_X12_whoFeels l D cI cZ h_t h_t_w h_t_isKept h_t_text h_t_statuses h_t_ways h_t_feels h_t_next h_t_came h_t_deep h_t_sizes h_t_tableOf h_t_usedBy h_t_taken h_t_sixOf t_texted t_above t_below t_at t_start t_number t_went t_h t_w t_feels_4 _ hk_11) (Or.inl rfl) 0 gX12_felt_X12_whoFeels rfl hv_X12_whoFeels ⟨Nat.le_of_ble_eq_true rfl, Nat.le_of_ble_eq_true rfl⟩ rfl rfl (Nat.le_of_ble_eq_true rfl) ⟨rfl, rfl⟩ (Nat.zero_le _) (Nat.zero_le _) rfl rfl rfl dX12_felt_53 [0, 1, 3] rfl rfl rfl ?_
      refine g_goto (tgt := 65) X dX12_felt_56 (by decide) ?_
      exact hR _ _ _ _ dX12_felt_65 (kV_in (u := (r_10, t_statuses, t_feels_4, t_next_5, t_came_6)) hf)
  refine g_aload_n X dX12_felt_0 rfl 0 rfl ?_
  refine g_iload_n X dX12_felt_1 rfl 1 rfl ?_
  obtain ⟨r_12, hk_13, hf⟩ := ob1_out hf
  refine g_cVR (st := []) (st1 := [.int r_12]) (C := RX12) (ci := 8) (q0 := 0) X (c_X12_isClerk l D cI cZ h_t h_t_w h_t_isKept h_t_text h_t_statuses h_t_ways h_t_feels h_t_next h_t_came h_t_deep h_t_sizes h_t_tableOf h_t_usedBy h_t_taken h_t_sixOf t_texted t_above t_below t_at t_start t_number t_went t_h t_w v1 _ hk_13) (Or.inl rfl) 1 gX12_felt_X12_isClerk rfl hv_X12_isClerk ⟨Nat.le_of_ble_eq_true rfl, Nat.le_of_ble_eq_true rfl⟩ rfl rfl (Nat.le_of_ble_eq_true rfl) ⟨rfl, rfl⟩ (Nat.zero_le _) (Nat.zero_le _) rfl rfl rfl dX12_felt_2 [0, 1] rfl rfl rfl ?_
  refine g_if_eq (tgt := 33) X dX12_felt_5 (by decide) (fun hc_14 => ?_) (fun hc_14 => ?_)
  · replace hf := ite_t hc_14 hf
    refine g_lv X (lv' := [(0, .ref h_t)]) [0] rfl ?_
    exact J33 t_statuses t_feels t_next t_came hf
  · replace hf := ite_f hc_14 hf
    refine g_iload_n X dX12_felt_8 rfl 2 rfl ?_
    refine g_i2l X dX12_felt_9 ?_
    refine g_lconst (v := 1) X dX12_felt_10 (by decide) ?_
    refine g_ldc2 (v := 20) X dX12_felt_11 lk_X12_felt_233 ?_
    obtain ⟨r_15, hk_16, hf⟩ := ob1_out hf
    refine g_cSR (st := []) (st1 := [.int r_15]) X (c_X12_in l D cI cZ (v2.toInt64) 1 20 _ hk_16) (Or.inl rfl) 3 gX12_felt_X12_in rfl hs_X12_in ⟨Nat.le_of_ble_eq_true rfl, Nat.le_of_ble_eq_true rfl⟩ rfl rfl (Nat.le_of_ble_eq_true rfl) ⟨rfl, rfl⟩ (Nat.zero_le _) (Nat.zero_le _) dX12_felt_14 [] rfl rfl rfl ?_
    refine g_if_eq (tgt := 33) X dX12_felt_17 (by decide) (fun hc_17 => ?_) (fun hc_17 => ?_)
    · replace hf := ite_t hc_17 hf
      refine g_lv X (lv' := [(0, .ref h_t)]) [0] rfl ?_
      exact J33 t_statuses t_feels t_next t_came hf
    · replace hf := ite_f hc_17 hf
      refine g_iload_n X dX12_felt_20 rfl 3 rfl ?_
      refine g_iconst (v := (-1)) X dX12_felt_21 (by decide) ?_
      refine g_icmp_eq (tgt := 40) X dX12_felt_22 (by decide) (fun hc_18 => ?_) (fun hc_18 => ?_)
      · replace hf := ite_t hc_18 hf
        exact J40 t_statuses t_feels t_next t_came v1 v2 v3 hf
      · replace hf := ite_f hc_18 hf
        refine g_aload_n X dX12_felt_25 rfl 0 rfl ?_
        refine g_iload_n X dX12_felt_26 rfl 3 rfl ?_
        obtain ⟨r_19, hk_20, hf⟩ := ob1_out hf
        refine g_cVR (st := []) (st1 := [.int r_19]) (C := RX12) (ci := 8) (q0 := 0) X (c_X12_isClerk l D cI cZ h_t h_t_w h_t_isKept h_t_text h_t_statuses h_t_ways h_t_feels h_t_next h_t_came h_t_deep h_t_sizes h_t_tableOf h_t_usedBy h_t_taken h_t_sixOf t_texted t_above t_below t_at t_start t_number t_went t_h t_w v3 _ hk_20) (Or.inl rfl) 1 gX12_felt_X12_isClerk rfl hv_X12_isClerk ⟨Nat.le_of_ble_eq_true rfl, Nat.le_of_ble_eq_true rfl⟩ rfl rfl (Nat.le_of_ble_eq_true rfl) ⟨rfl, rfl⟩ (Nat.zero_le _) (Nat.zero_le _) rfl rfl rfl dX12_felt_27 [0, 1] rfl rfl rfl ?_
        refine g_if_ne (tgt := 40) X dX12_felt_30 (by decide) (fun hc_21 => ?_) (fun hc_21 => ?_)
        · replace hf := ite_f hc_21 hf
          exact J40 t_statuses t_feels t_next t_came v1 v2 v3 hf
        · replace hf := ite_t hc_21 hf
          refine g_lv X (lv' := [(0, .ref h_t)]) [0] rfl ?_
          exact J33 t_statuses t_feels t_next t_came hf
def wd_X12_least (cI cZ : ClassId) (h_t : Nat) (h_t_w : Nat) (h_t_isKept : Nat) (h_t_text : Nat) (h_t_statuses : Nat) (h_t_ways : Nat) (h_t_feels : Nat) (h_t_next : Nat) (h_t_came : Nat) (h_t_deep : Nat) (h_t_sizes : Nat) (h_t_tableOf : Nat) (h_t_usedBy : Nat) (h_t_taken : Nat) (h_t_sixOf : Nat) (t_texted : Int32) (t_above : Int64) (t_below : Int64) (t_at : Int32) (t_start : Int32) (t_number : Int32) (t_went : Int32) (t_h : Int64) (t_w : (Nat → Int32)) (t_statuses : (Nat → Int32)) (t_feels : (Nat → Int32)) (t_next : (Nat → Int32)) (t_came : (Nat → Int32)) : va_W := [(h_t, .inr (8, [.ref h_t_w, .ref h_t_isKept, .ref h_t_text, .int t_texted, .long t_above, .long t_below, .ref h_t_statuses, .int t_at, .int t_start, .int t_number, .ref h_t_ways, .int t_went, .ref h_t_feels, .ref h_t_next, .ref h_t_came, .ref h_t_deep, .ref h_t_sizes, .ref h_t_tableOf, .ref h_t_usedBy, .ref h_t_taken, .ref h_t_sixOf, .long t_h])), (h_t_w, .inl (cI, 1251, .inl t_w)), (h_t_statuses, .inl (cI, 3, .inl t_statuses)), (h_t_feels, .inl (cI, 7, .inl t_feels)), (h_t_next, .inl (cI, 7, .inl t_next)), (h_t_came, .inl (cI, 7, .inl t_came))]
abbrev rm_X12_least : Room := { frames := 3, cells := 0, slots := 0, locals := 72 }
theorem hv_X12_least : yX12_least.cls = RX12 ∧ yX12_least.cls ≠ "java/lang/invoke/MethodHandle" ∧ yX12_least.cls ≠ "java/lang/invoke/VarHandle" ∧ (parseMethodDescriptor yX12_least.desc).map (fun d => d.parameters.length) = some 2 := by decide +kernel
theorem iw_X12_least_X12 : ∀ w ∈ u_ws RX12 TX12 22, w ∈ wsX12_least := by decide +kernel
theorem lk_X12_least_33 : Cond.fieldLink RX12 33 "ClerkChainsModel" "feels" "[I" ∈ wsX12_least := by decide +kernel
set_option maxHeartbeats 4000000 in
set_option maxRecDepth 100000 in
theorem c_X12_least (l : Launch) (D : va_G) (cI cZ : ClassId) (h_t : Nat) (h_t_w : Nat) (h_t_isKept : Nat) (h_t_text : Nat) (h_t_statuses : Nat) (h_t_ways : Nat) (h_t_feels : Nat) (h_t_next : Nat) (h_t_came : Nat) (h_t_deep : Nat) (h_t_sizes : Nat) (h_t_tableOf : Nat) (h_t_usedBy : Nat) (h_t_taken : Nat) (h_t_sixOf : Nat) (t_texted : Int32) (t_above : Int64) (t_below : Int64) (t_at : Int32) (t_start : Int32) (t_number : Int32) (t_went : Int32) (t_h : Int64) (t_w : (Nat → Int32)) (t_statuses : (Nat → Int32)) (t_feels : (Nat → Int32)) (t_next : (Nat → Int32)) (t_came : (Nat → Int32)) (v1 : Int32) (v2 : Int32) (res : Int32 × (Nat → Int32) × (Nat → Int32) × (Nat → Int32) × (Nat → Int32)) (hf : f_X12_least t_w t_statuses t_feels t_next t_came v1 v2 = some res) : MetG l yX12_least wsX12_least rm_X12_least D cI cZ none [.ref h_t, .int v1, .int v2] (wd_X12_least cI cZ h_t h_t_w h_t_isKept h_t_text h_t_statuses h_t_ways h_t_feels h_t_next h_t_came h_t_deep h_t_sizes h_t_tableOf h_t_usedBy h_t_taken h_t_sixOf t_texted t_above t_below t_at t_start t_number t_went t_h t_w t_statuses t_feels t_next t_came) (kV res (fun u => some (.int u.1)) (fun u => (wd_X12_least cI cZ h_t h_t_w h_t_isKept h_t_text h_t_statuses h_t_ways h_t_feels h_t_next h_t_came h_t_deep h_t_sizes h_t_tableOf h_t_usedBy h_t_taken h_t_sixOf t_texted t_above t_below t_at t_start t_number t_went t_h t_w (u.2.1) (u.2.2.1) (u.2.2.2.1) (u.2.2.2.2)))) := by
  refine metG_of (cc := cX12_least) (maxL := 4) (ret := (some .int)) (own := RX12) (lv0 := [(0, .ref h_t), (1, .int v1), (2, .int v2)]) (ini := false) (by decide) rfl (Nat.le_of_ble_eq_true rfl) rfl rfl (fun h => by cases h) (fun G X hR => ?_)
  replace hR := rt_int hR
  unfold f_X12_least at hf
  have J16 : ∀ (t_statuses : (Nat → Int32)) (t_feels : (Nat → Int32)) (t_next : (Nat → Int32)) (t_came : (Nat → Int32)), f_X12_least_16 t_w t_statuses t_feels t_next t_came = some res → G 0 0 (wd_X12_least cI cZ h_t h_t_w h_t_isKept h_t_text h_t_statuses h_t_ways h_t_feels h_t_next h_t_came h_t_deep h_t_sizes h_t_tableOf h_t_usedBy h_t_taken h_t_sixOf t_texted t_above t_below t_at t_start t_number t_went t_h t_w t_statuses t_feels t_next t_came) [(0, .ref h_t)] 16 [] := by
    intro t_statuses t_feels t_next t_came hf
    unfold f_X12_least_16 at hf
    refine g_aload_n X dX12_least_16 rfl 0 rfl ?_
    refine g_bipush (v := (-2)) X dX12_least_17 (by decide) ?_
    obtain ⟨r_1, t_statuses_2, hk_3, hf⟩ := ob2_out hf
    refine g_cVW (st := []) (st1 := [.int r_1]) (C := RX12) (ci := 8) (q0 := 0) (ws' := (wd_X12_least cI cZ h_t h_t_w h_t_isKept h_t_text h_t_statuses h_t_ways h_t_feels h_t_next h_t_came h_t_deep h_t_sizes h_t_tableOf h_t_usedBy h_t_taken h_t_sixOf t_texted t_above t_below t_at t_start t_number t_went t_h t_w t_statuses_2 t_feels t_next t_came)) X (c_X12_bad l D cI cZ h_t h_t_w h_t_isKept h_t_text h_t_statuses h_t_ways h_t_feels h_t_next h_t_came h_t_deep h_t_sizes h_t_tableOf h_t_usedBy h_t_taken h_t_sixOf t_texted t_above t_below t_at t_start t_number t_went t_h t_statuses (-2) _ hk_3) (Or.inl rfl) 1 gX12_least_X12_bad rfl hv_X12_bad ⟨Nat.le_of_ble_eq_true rfl, Nat.le_of_ble_eq_true rfl⟩ rfl rfl (Nat.le_of_ble_eq_true rfl) ⟨rfl, rfl⟩ (Nat.zero_le _) (Nat.zero_le _) rfl rfl rfl dX12_least_19 [0, 2] rfl rfl [1, 3, 4, 5] rfl rfl (by decide) [4, 0, 5, 1, 2, 3] rfl rfl rfl ?_
    exact hR _ _ _ _ dX12_least_22 (kV_in (u := (r_1, t_statuses_2, t_feels, t_next, t_came)) hf)
  have J25 : ∀ (n : Nat) (t_statuses : (Nat → Int32)) (t_feels : (Nat → Int32)) (t_next : (Nat → Int32)) (t_came : (Nat → Int32)) (v1 : Int32) (v2 : Int32) (v3 : Int32), f_X12_least_25 t_w n t_statuses t_feels t_next t_came v1 v2 v3 = some res → G 0 0 (wd_X12_least cI cZ h_t h_t_w h_t_isKept h_t_text h_t_statuses h_t_ways h_t_feels h_t_next h_t_came h_t_deep h_t_sizes h_t_tableOf h_t_usedBy h_t_taken h_t_sixOf t_texted t_above t_below t_at t_start t_number t_went t_h t_w t_statuses t_feels t_next t_came) [(0, .ref h_t), (1, .int v1), (2, .int v2), (3, .int v3)] 25 [] := by
    intro n
    induction n with
    | zero => intro t_statuses t_feels t_next t_came v1 v2 v3 hf; rw [f_X12_least_25] at hf; cases hf
    | succ n ih =>
      intro t_statuses t_feels t_next t_came v1 v2 v3 hf
      rw [f_X12_least_25] at hf
      refine g_iload_n X dX12_least_25 rfl 3 rfl ?_
      refine g_bipush (v := 20) X dX12_least_26 (by decide) ?_
      refine g_icmp_gt (tgt := 55) X dX12_least_28 (by decide) (fun hc_4 => ?_) (fun hc_4 => ?_)
      · replace hf := ite_t hc_4 hf
        refine g_iconst (v := (-1)) X dX12_least_55 (by decide) ?_
        exact hR _ _ _ _ dX12_least_56 (kV_in (u := ((-1), t_statuses, t_feels, t_next, t_came)) hf)
      · replace hf := ite_f hc_4 hf
        refine g_aload_n X dX12_least_31 rfl 0 rfl ?_
        refine g_iconst (v := 0) X dX12_least_32 (by decide) ?_
        refine g_iload_n X dX12_least_33 rfl 1 rfl ?_
        refine g_iload_n X dX12_least_34 rfl 3 rfl ?_
        obtain ⟨t_feels_5, t_next_6, t_came_7, hk_8, hf⟩ := ob3_out hf
        refine g_cVW (st := []) (st1 := []) (C := RX12) (ci := 8) (q0 := 0) (ws' := (wd_X12_least cI cZ h_t h_t_w h_t_isKept h_t_text h_t_statuses h_t_ways h_t_feels h_t_next h_t_came h_t_deep h_t_sizes h_t_tableOf h_t_usedBy h_t_taken h_t_sixOf t_texted t_above t_below t_at t_start t_number t_went t_h t_w t_statuses t_feels_5 t_next_6 t_came_7)) X (c_X12_tugs l D cI cZ h_t h_t_w h_t_isKept h_t_text h_t_statuses h_t_ways h_t_feels h_t_next h_t_came h_t_deep h_t_sizes h_t_tableOf h_t_usedBy h_t_taken h_t_sixOf t_texted t_above t_below t_at t_start t_number t_went t_h t_w t_feels t_next t_came 0 v1 v3 _ hk_8) (Or.inl rfl) 3 gX12_least_X12_tugs rfl hv_X12_tugs ⟨Nat.le_of_ble_eq_true rfl, Nat.le_of_ble_eq_true rfl⟩ rfl rfl (Nat.le_of_ble_eq_true rfl) ⟨rfl, rfl⟩ (Nat.zero_le _) (Nat.zero_le _) rfl rfl rfl dX12_least_35 [0, 1, 3, 4, 5] rfl rfl [2] rfl rfl (by decide) [1, 2, 0, 3, 4, 5] rfl rfl rfl ?_
        refine g_aload_n X dX12_least_38 rfl 0 rfl ?_
        refine g_get (C := RX12) (T := TX12) (N := 22) (ci := 8) (v := (.ref h_t_feels)) X iw_X12_least_X12 0 rfl rfl 12 (by decide) lk_X12_least_33 rfl dX12_least_39 ?_
        refine g_iload_n X dX12_least_42 rfl 2 rfl ?_
        obtain ⟨hb_9, hf⟩ := chk_out hf
        refine g_iald X 3 rfl hb_9 dX12_least_43 ?_
        refine g_if_le (tgt := 49) X dX12_least_44 (by decide) (fun hc_10 => ?_) (fun hc_10 => ?_)
        · replace hf := ite_t hc_10 hf
          obtain ⟨v3_11, ev3_11, hf⟩ := bnd_out hf
          refine g_iinc (v := v3_11) (lv' := [(0, .ref h_t), (1, .int v1), (2, .int v2), (3, .int v3_11)]) X dX12_least_49 3 rfl (by rw [ev3_11]; rfl) (Nat.le_of_ble_eq_true rfl) [1, 2, 3, 0] rfl ?_
          refine g_goto (tgt := 25) X dX12_least_52 (by decide) ?_
          exact ih t_statuses t_feels_5 t_next_6 t_came_7 v1 v2 v3_11 hf
        · replace hf := ite_f hc_10 hf
          refine g_iload_n X dX12_least_47 rfl 3 rfl ?_
          exact hR _ _ _ _ dX12_least_48 (kV_in (u := (v3, t_statuses, t_feels_5, t_next_6, t_came_7)) hf)
  refine g_aload_n X dX12_least_0 rfl 0 rfl ?_
  refine g_iload_n X dX12_least_1 rfl 1 rfl ?_
  obtain ⟨r_12, hk_13, hf⟩ := ob1_out hf
  refine g_cVR (st := []) (st1 := [.int r_12]) (C := RX12) (ci := 8) (q0 := 0) X (c_X12_isClerk l D cI cZ h_t h_t_w h_t_isKept h_t_text h_t_statuses h_t_ways h_t_feels h_t_next h_t_came h_t_deep h_t_sizes h_t_tableOf h_t_usedBy h_t_taken h_t_sixOf t_texted t_above t_below t_at t_start t_number t_went t_h t_w v1 _ hk_13) (Or.inl rfl) 1 gX12_least_X12_isClerk rfl hv_X12_isClerk ⟨Nat.le_of_ble_eq_true rfl, Nat.le_of_ble_eq_true rfl⟩ rfl rfl (Nat.le_of_ble_eq_true rfl) ⟨rfl, rfl⟩ (Nat.zero_le _) (Nat.zero_le _) rfl rfl rfl dX12_least_2 [0, 1] rfl rfl rfl ?_
  refine g_if_eq (tgt := 16) X dX12_least_5 (by decide) (fun hc_14 => ?_) (fun hc_14 => ?_)
  · replace hf := ite_t hc_14 hf
    refine g_lv X (lv' := [(0, .ref h_t)]) [0] rfl ?_
    exact J16 t_statuses t_feels t_next t_came hf
  · replace hf := ite_f hc_14 hf
    refine g_aload_n X dX12_least_8 rfl 0 rfl ?_
    refine g_iload_n X dX12_least_9 rfl 2 rfl ?_
    obtain ⟨r_15, hk_16, hf⟩ := ob1_out hf
    refine g_cVR (st := []) (st1 := [.int r_15]) (C := RX12) (ci := 8) (q0 := 0) X (c_X12_isClerk l D cI cZ h_t h_t_w h_t_isKept h_t_text h_t_statuses h_t_ways h_t_feels h_t_next h_t_came h_t_deep h_t_sizes h_t_tableOf h_t_usedBy h_t_taken h_t_sixOf t_texted t_above t_below t_at t_start t_number t_went t_h t_w v2 _ hk_16) (Or.inl rfl) 1 gX12_least_X12_isClerk rfl hv_X12_isClerk ⟨Nat.le_of_ble_eq_true rfl, Nat.le_of_ble_eq_true rfl⟩ rfl rfl (Nat.le_of_ble_eq_true rfl) ⟨rfl, rfl⟩ (Nat.zero_le _) (Nat.zero_le _) rfl rfl rfl dX12_least_10 [0, 1] rfl rfl rfl ?_
    refine g_if_ne (tgt := 23) X dX12_least_13 (by decide) (fun hc_17 => ?_) (fun hc_17 => ?_)
    · replace hf := ite_f hc_17 hf
      refine g_iconst (v := 1) X dX12_least_23 (by decide) ?_
      refine g_istore_n (lv' := [(0, .ref h_t), (1, .int v1), (2, .int v2), (3, .int 1)]) X dX12_least_24 rfl (Nat.le_of_ble_eq_true rfl) [1, 2, 3, 0] rfl ?_
      exact J25 FU t_statuses t_feels t_next t_came v1 v2 1 hf
    · replace hf := ite_t hc_17 hf
      refine g_lv X (lv' := [(0, .ref h_t)]) [0] rfl ?_
      exact J16 t_statuses t_feels t_next t_came hf
def wd_X12_quiet (cI cZ : ClassId) (h_t : Nat) (h_t_w : Nat) (h_t_isKept : Nat) (h_t_text : Nat) (h_t_statuses : Nat) (h_t_ways : Nat) (h_t_feels : Nat) (h_t_next : Nat) (h_t_came : Nat) (h_t_deep : Nat) (h_t_sizes : Nat) (h_t_tableOf : Nat) (h_t_usedBy : Nat) (h_t_taken : Nat) (h_t_sixOf : Nat) (t_texted : Int32) (t_above : Int64) (t_below : Int64) (t_at : Int32) (t_start : Int32) (t_number : Int32) (t_went : Int32) (t_h : Int64) (t_w : (Nat → Int32)) (t_statuses : (Nat → Int32)) (t_feels : (Nat → Int32)) (t_next : (Nat → Int32)) (t_came : (Nat → Int32)) : va_W := [(h_t, .inr (8, [.ref h_t_w, .ref h_t_isKept, .ref h_t_text, .int t_texted, .long t_above, .long t_below, .ref h_t_statuses, .int t_at, .int t_start, .int t_number, .ref h_t_ways, .int t_went, .ref h_t_feels, .ref h_t_next, .ref h_t_came, .ref h_t_deep, .ref h_t_sizes, .ref h_t_tableOf, .ref h_t_usedBy, .ref h_t_taken, .ref h_t_sixOf, .long t_h])), (h_t_w, .inl (cI, 1251, .inl t_w)), (h_t_statuses, .inl (cI, 3, .inl t_statuses)), (h_t_feels, .inl (cI, 7, .inl t_feels)), (h_t_next, .inl (cI, 7, .inl t_next)), (h_t_came, .inl (cI, 7, .inl t_came))]
abbrev rm_X12_quiet : Room := { frames := 3, cells := 0, slots := 0, locals := 72 }
theorem hv_X12_quiet : yX12_quiet.cls = RX12 ∧ yX12_quiet.cls ≠ "java/lang/invoke/MethodHandle" ∧ yX12_quiet.cls ≠ "java/lang/invoke/VarHandle" ∧ (parseMethodDescriptor yX12_quiet.desc).map (fun d => d.parameters.length) = some 2 := by decide +kernel
theorem iw_X12_quiet_X12 : ∀ w ∈ u_ws RX12 TX12 22, w ∈ wsX12_quiet := by decide +kernel
theorem lk_X12_quiet_7 : Cond.fieldLink RX12 7 "ClerkChainsModel" "w" "[I" ∈ wsX12_quiet := by decide +kernel
theorem lk_X12_quiet_33 : Cond.fieldLink RX12 33 "ClerkChainsModel" "feels" "[I" ∈ wsX12_quiet := by decide +kernel
set_option maxHeartbeats 4000000 in
set_option maxRecDepth 100000 in
theorem c_X12_quiet (l : Launch) (D : va_G) (cI cZ : ClassId) (h_t : Nat) (h_t_w : Nat) (h_t_isKept : Nat) (h_t_text : Nat) (h_t_statuses : Nat) (h_t_ways : Nat) (h_t_feels : Nat) (h_t_next : Nat) (h_t_came : Nat) (h_t_deep : Nat) (h_t_sizes : Nat) (h_t_tableOf : Nat) (h_t_usedBy : Nat) (h_t_taken : Nat) (h_t_sixOf : Nat) (t_texted : Int32) (t_above : Int64) (t_below : Int64) (t_at : Int32) (t_start : Int32) (t_number : Int32) (t_went : Int32) (t_h : Int64) (t_w : (Nat → Int32)) (t_statuses : (Nat → Int32)) (t_feels : (Nat → Int32)) (t_next : (Nat → Int32)) (t_came : (Nat → Int32)) (v1 : Int32) (v2 : Int32) (res : Int32 × (Nat → Int32) × (Nat → Int32) × (Nat → Int32) × (Nat → Int32)) (hf : f_X12_quiet t_w t_statuses t_feels t_next t_came v1 v2 = some res) : MetG l yX12_quiet wsX12_quiet rm_X12_quiet D cI cZ none [.ref h_t, .int v1, .int v2] (wd_X12_quiet cI cZ h_t h_t_w h_t_isKept h_t_text h_t_statuses h_t_ways h_t_feels h_t_next h_t_came h_t_deep h_t_sizes h_t_tableOf h_t_usedBy h_t_taken h_t_sixOf t_texted t_above t_below t_at t_start t_number t_went t_h t_w t_statuses t_feels t_next t_came) (kV res (fun u => some (.int u.1)) (fun u => (wd_X12_quiet cI cZ h_t h_t_w h_t_isKept h_t_text h_t_statuses h_t_ways h_t_feels h_t_next h_t_came h_t_deep h_t_sizes h_t_tableOf h_t_usedBy h_t_taken h_t_sixOf t_texted t_above t_below t_at t_start t_number t_went t_h t_w (u.2.1) (u.2.2.1) (u.2.2.2.1) (u.2.2.2.2)))) := by
  refine metG_of (cc := cX12_quiet) (maxL := 5) (ret := (some .int)) (own := RX12) (lv0 := [(0, .ref h_t), (1, .int v1), (2, .int v2)]) (ini := false) (by decide) rfl (Nat.le_of_ble_eq_true rfl) rfl rfl (fun h => by cases h) (fun G X hR => ?_)
  replace hR := rt_int hR
  unfold f_X12_quiet at hf
  have J28 : ∀ (t_statuses : (Nat → Int32)) (t_feels : (Nat → Int32)) (t_next : (Nat → Int32)) (t_came : (Nat → Int32)), f_X12_quiet_28 t_w t_statuses t_feels t_next t_came = some res → G 0 0 (wd_X12_quiet cI cZ h_t h_t_w h_t_isKept h_t_text h_t_statuses h_t_ways h_t_feels h_t_next h_t_came h_t_deep h_t_sizes h_t_tableOf h_t_usedBy h_t_taken h_t_sixOf t_texted t_above t_below t_at t_start t_number t_went t_h t_w t_statuses t_feels t_next t_came) [(0, .ref h_t)] 28 [] := by
    intro t_statuses t_feels t_next t_came hf
    unfold f_X12_quiet_28 at hf
    refine g_aload_n X dX12_quiet_28 rfl 0 rfl ?_
    refine g_bipush (v := (-2)) X dX12_quiet_29 (by decide) ?_
    obtain ⟨r_1, t_statuses_2, hk_3, hf⟩ := ob2_out hf
    refine g_cVW (st := []) (st1 := [.int r_1]) (C := RX12) (ci := 8) (q0 := 0) (ws' := (wd_X12_quiet cI cZ h_t h_t_w h_t_isKept h_t_text h_t_statuses h_t_ways h_t_feels h_t_next h_t_came h_t_deep h_t_sizes h_t_tableOf h_t_usedBy h_t_taken h_t_sixOf t_texted t_above t_below t_at t_start t_number t_went t_h t_w t_statuses_2 t_feels t_next t_came)) X (c_X12_bad l D cI cZ h_t h_t_w h_t_isKept h_t_text h_t_statuses h_t_ways h_t_feels h_t_next h_t_came h_t_deep h_t_sizes h_t_tableOf h_t_usedBy h_t_taken h_t_sixOf t_texted t_above t_below t_at t_start t_number t_went t_h t_statuses (-2) _ hk_3) (Or.inl rfl) 1 gX12_quiet_X12_bad rfl hv_X12_bad ⟨Nat.le_of_ble_eq_true rfl, Nat.le_of_ble_eq_true rfl⟩ rfl rfl (Nat.le_of_ble_eq_true rfl) ⟨rfl, rfl⟩ (Nat.zero_le _) (Nat.zero_le _) rfl rfl rfl dX12_quiet_31 [0, 2] rfl rfl [1, 3, 4, 5] rfl rfl (by decide) [4, 0, 5, 1, 2, 3] rfl rfl rfl ?_
    exact hR _ _ _ _ dX12_quiet_34 (kV_in (u := (r_1, t_statuses_2, t_feels, t_next, t_came)) hf)
  have J83 : ∀ (t_statuses : (Nat → Int32)) (t_feels : (Nat → Int32)) (t_next : (Nat → Int32)) (t_came : (Nat → Int32)) (v3 : Int32) (v4 : Int32), f_X12_quiet_83 t_w t_statuses t_feels t_next t_came v3 v4 = some res → G 0 0 (wd_X12_quiet cI cZ h_t h_t_w h_t_isKept h_t_text h_t_statuses h_t_ways h_t_feels h_t_next h_t_came h_t_deep h_t_sizes h_t_tableOf h_t_usedBy h_t_taken h_t_sixOf t_texted t_above t_below t_at t_start t_number t_went t_h t_w t_statuses t_feels t_next t_came) [(3, .int v3), (4, .int v4)] 83 [] := by
    intro t_statuses t_feels t_next t_came v3 v4 hf
    unfold f_X12_quiet_83 at hf
    refine g_bipush (v := 100) X dX12_quiet_83 (by decide) ?_
    refine g_iload_n X dX12_quiet_85 rfl 0 rfl ?_
    refine g_imul X dX12_quiet_86 ?_
    refine g_iload X dX12_quiet_87 1 rfl ?_
    refine g_iadd X dX12_quiet_89 ?_
    exact hR _ _ _ _ dX12_quiet_90 (kV_in (u := ((100 * v3) + v4, t_statuses, t_feels, t_next, t_came)) hf)
  have J91 : ∀ (k37 : (Nat → Int32) → (Nat → Int32) → (Nat → Int32) → (Nat → Int32) → Int32 → Int32 → Int32 → Option (Int32 × (Nat → Int32) × (Nat → Int32) × (Nat → Int32) × (Nat → Int32))) (hk37 : ∀ (t_statuses : (Nat → Int32)) (t_feels : (Nat → Int32)) (t_next : (Nat → Int32)) (t_came : (Nat → Int32)) (v1 : Int32) (v2 : Int32) (v3 : Int32), k37 t_statuses t_feels t_next t_came v1 v2 v3 = some res → G 0 0 (wd_X12_quiet cI cZ h_t h_t_w h_t_isKept h_t_text h_t_statuses h_t_ways h_t_feels h_t_next h_t_came h_t_deep h_t_sizes h_t_tableOf h_t_usedBy h_t_taken h_t_sixOf t_texted t_above t_below t_at t_start t_number t_went t_h t_w t_statuses t_feels t_next t_came) [(0, .ref h_t), (1, .int v1), (2, .int v2), (3, .int v3)] 37 []) (k46 : (Nat → Int32) → (Nat → Int32) → (Nat → Int32) → (Nat → Int32) → Int32 → Int32 → Int32 → Int32 → Option (Int32 × (Nat → Int32) × (Nat → Int32) × (Nat → Int32) × (Nat → Int32))) (hk46 : ∀ (t_statuses : (Nat → Int32)) (t_feels : (Nat → Int32)) (t_next : (Nat → Int32)) (t_came : (Nat → Int32)) (v1 : Int32) (v2 : Int32) (v3 : Int32) (v4 : Int32), k46 t_statuses t_feels t_next t_came v1 v2 v3 v4 = some res → G 0 0 (wd_X12_quiet cI cZ h_t h_t_w h_t_isKept h_t_text h_t_statuses h_t_ways h_t_feels h_t_next h_t_came h_t_deep h_t_sizes h_t_tableOf h_t_usedBy h_t_taken h_t_sixOf t_texted t_above t_below t_at t_start t_number t_went t_h t_w t_statuses t_feels t_next t_came) [(0, .ref h_t), (1, .int v1), (2, .int v2), (3, .int v3), (4, .int v4)] 46 []) (t_statuses : (Nat → Int32)) (t_feels : (Nat → Int32)) (t_next : (Nat → Int32)) (t_came : (Nat → Int32)) (v1 : Int32) (v2 : Int32) (v3 : Int32) (v4 : Int32), f_X12_quiet_91 t_w k37 k46 t_statuses t_feels t_next t_came v1 v2 v3 v4 = some res → G 0 0 (wd_X12_quiet cI cZ h_t h_t_w h_t_isKept h_t_text h_t_statuses h_t_ways h_t_feels h_t_next h_t_came h_t_deep h_t_sizes h_t_tableOf h_t_usedBy h_t_taken h_t_sixOf t_texted t_above t_below t_at t_start t_number t_went t_h t_w t_statuses t_feels t_next t_came) [(0, .ref h_t), (1, .int v1), (2, .int v2), (3, .int v3), (4, .int v4)] 91 [] := by
    intro k37 hk37 k46 hk46 t_statuses t_feels t_next t_came v1 v2 v3 v4 hf
    unfold f_X12_quiet_91 at hf
    obtain ⟨v4_16, ev4_16, hf⟩ := bnd_out hf
    refine g_iinc (v := v4_16) (lv' := [(0, .ref h_t), (1, .int v1), (2, .int v2), (3, .int v3), (4, .int v4_16)]) X dX12_quiet_91 4 rfl (by rw [ev4_16]; rfl) (Nat.le_of_ble_eq_true rfl) [1, 2, 3, 4, 0] rfl ?_
    refine g_goto (tgt := 46) X dX12_quiet_94 (by decide) ?_
    exact hk46 t_statuses t_feels t_next t_came v1 v2 v3 v4_16 hf
  have J97 : ∀ (k37 : (Nat → Int32) → (Nat → Int32) → (Nat → Int32) → (Nat → Int32) → Int32 → Int32 → Int32 → Option (Int32 × (Nat → Int32) × (Nat → Int32) × (Nat → Int32) × (Nat → Int32))) (hk37 : ∀ (t_statuses : (Nat → Int32)) (t_feels : (Nat → Int32)) (t_next : (Nat → Int32)) (t_came : (Nat → Int32)) (v1 : Int32) (v2 : Int32) (v3 : Int32), k37 t_statuses t_feels t_next t_came v1 v2 v3 = some res → G 0 0 (wd_X12_quiet cI cZ h_t h_t_w h_t_isKept h_t_text h_t_statuses h_t_ways h_t_feels h_t_next h_t_came h_t_deep h_t_sizes h_t_tableOf h_t_usedBy h_t_taken h_t_sixOf t_texted t_above t_below t_at t_start t_number t_went t_h t_w t_statuses t_feels t_next t_came) [(0, .ref h_t), (1, .int v1), (2, .int v2), (3, .int v3)] 37 []) (t_statuses : (Nat → Int32)) (t_feels : (Nat → Int32)) (t_next : (Nat → Int32)) (t_came : (Nat → Int32)) (v1 : Int32) (v2 : Int32) (v3 : Int32), f_X12_quiet_97 t_w k37 t_statuses t_feels t_next t_came v1 v2 v3 = some res → G 0 0 (wd_X12_quiet cI cZ h_t h_t_w h_t_isKept h_t_text h_t_statuses h_t_ways h_t_feels h_t_next h_t_came h_t_deep h_t_sizes h_t_tableOf h_t_usedBy h_t_taken h_t_sixOf t_texted t_above t_below t_at t_start t_number t_went t_h t_w t_statuses t_feels t_next t_came) [(0, .ref h_t), (1, .int v1), (2, .int v2), (3, .int v3)] 97 [] := by
    intro k37 hk37 t_statuses t_feels t_next t_came v1 v2 v3 hf
    unfold f_X12_quiet_97 at hf
    obtain ⟨v3_17, ev3_17, hf⟩ := bnd_out hf
    refine g_iinc (v := v3_17) (lv' := [(0, .ref h_t), (1, .int v1), (2, .int v2), (3, .int v3_17)]) X dX12_quiet_97 3 rfl (by rw [ev3_17]; rfl) (Nat.le_of_ble_eq_true rfl) [1, 2, 3, 0] rfl ?_
    refine g_goto (tgt := 37) X dX12_quiet_100 (by decide) ?_
    exact hk37 t_statuses t_feels t_next t_came v1 v2 v3_17 hf
  have J46 : ∀ (k37 : (Nat → Int32) → (Nat → Int32) → (Nat → Int32) → (Nat → Int32) → Int32 → Int32 → Int32 → Option (Int32 × (Nat → Int32) × (Nat → Int32) × (Nat → Int32) × (Nat → Int32))) (hk37 : ∀ (t_statuses : (Nat → Int32)) (t_feels : (Nat → Int32)) (t_next : (Nat → Int32)) (t_came : (Nat → Int32)) (v1 : Int32) (v2 : Int32) (v3 : Int32), k37 t_statuses t_feels t_next t_came v1 v2 v3 = some res → G 0 0 (wd_X12_quiet cI cZ h_t h_t_w h_t_isKept h_t_text h_t_statuses h_t_ways h_t_feels h_t_next h_t_came h_t_deep h_t_sizes h_t_tableOf h_t_usedBy h_t_taken h_t_sixOf t_texted t_above t_below t_at t_start t_number t_went t_h t_w t_statuses t_feels t_next t_came) [(0, .ref h_t), (1, .int v1), (2, .int v2), (3, .int v3)] 37 []) (n : Nat) (t_statuses : (Nat → Int32)) (t_feels : (Nat → Int32)) (t_next : (Nat → Int32)) (t_came : (Nat → Int32)) (v1 : Int32) (v2 : Int32) (v3 : Int32) (v4 : Int32), f_X12_quiet_46 t_w k37 n t_statuses t_feels t_next t_came v1 v2 v3 v4 = some res → G 0 0 (wd_X12_quiet cI cZ h_t h_t_w h_t_isKept h_t_text h_t_statuses h_t_ways h_t_feels h_t_next h_t_came h_t_deep h_t_sizes h_t_tableOf h_t_usedBy h_t_taken h_t_sixOf t_texted t_above t_below t_at t_start t_number t_went t_h t_w t_statuses t_feels t_next t_came) [(0, .ref h_t), (1, .int v1), (2, .int v2), (3, .int v3), (4, .int v4)] 46 [] := by
    intro k37 hk37 n
    induction n with
    | zero => intro t_statuses t_feels t_next t_came v1 v2 v3 v4 hf; rw [f_X12_quiet_46] at hf; cases hf
    | succ n ih =>
      intro t_statuses t_feels t_next t_came v1 v2 v3 v4 hf
      rw [f_X12_quiet_46] at hf
      refine g_iload X dX12_quiet_46 4 rfl ?_
      refine g_aload_n X dX12_quiet_48 rfl 0 rfl ?_
      refine g_get (C := RX12) (T := TX12) (N := 22) (ci := 8) (v := (.ref h_t_w)) X iw_X12_quiet_X12 0 rfl rfl 0 (by decide) lk_X12_quiet_7 rfl dX12_quiet_49 ?_
      refine g_iconst (v := 0) X dX12_quiet_52 (by decide) ?_
      obtain ⟨hb_5, hf⟩ := chk_out hf
      refine g_iald X 1 rfl hb_5 dX12_quiet_53 ?_
      refine g_icmp_ge (tgt := 97) X dX12_quiet_54 (by decide) (fun hc_6 => ?_) (fun hc_6 => ?_)
      · replace hf := ite_t hc_6 hf
        refine g_lv X (lv' := [(0, .ref h_t), (1, .int v1), (2, .int v2), (3, .int v3)]) [0, 1, 2, 3] rfl ?_
        exact J97 k37 hk37 t_statuses t_feels t_next t_came v1 v2 v3 hf
      · replace hf := ite_f hc_6 hf
        refine g_aload_n X dX12_quiet_57 rfl 0 rfl ?_
        refine g_iconst (v := 0) X dX12_quiet_58 (by decide) ?_
        refine g_iload X dX12_quiet_59 4 rfl ?_
        refine g_iload_n X dX12_quiet_61 rfl 3 rfl ?_
        obtain ⟨t_feels_7, t_next_8, t_came_9, hk_10, hf⟩ := ob3_out hf
        refine g_cVW (st := []) (st1 := []) (C := RX12) (ci := 8) (q0 := 0) (ws' := (wd_X12_quiet cI cZ h_t h_t_w h_t_isKept h_t_text h_t_statuses h_t_ways h_t_feels h_t_next h_t_came h_t_deep h_t_sizes h_t_tableOf h_t_usedBy h_t_taken h_t_sixOf t_texted t_above t_below t_at t_start t_number t_went t_h t_w t_statuses t_feels_7 t_next_8 t_came_9)) X (c_X12_tugs l D cI cZ h_t h_t_w h_t_isKept h_t_text h_t_statuses h_t_ways h_t_feels h_t_next h_t_came h_t_deep h_t_sizes h_t_tableOf h_t_usedBy h_t_taken h_t_sixOf t_texted t_above t_below t_at t_start t_number t_went t_h t_w t_feels t_next t_came 0 v4 v3 _ hk_10) (Or.inl rfl) 3 gX12_quiet_X12_tugs rfl hv_X12_tugs ⟨Nat.le_of_ble_eq_true rfl, Nat.le_of_ble_eq_true rfl⟩ rfl rfl (Nat.le_of_ble_eq_true rfl) ⟨rfl, rfl⟩ (Nat.zero_le _) (Nat.zero_le _) rfl rfl rfl dX12_quiet_62 [0, 1, 3, 4, 5] rfl rfl [2] rfl rfl (by decide) [1, 2, 0, 3, 4, 5] rfl rfl rfl ?_
        refine g_aload_n X dX12_quiet_65 rfl 0 rfl ?_
        refine g_get (C := RX12) (T := TX12) (N := 22) (ci := 8) (v := (.ref h_t_feels)) X iw_X12_quiet_X12 0 rfl rfl 12 (by decide) lk_X12_quiet_33 rfl dX12_quiet_66 ?_
        refine g_iload_n X dX12_quiet_69 rfl 1 rfl ?_
        obtain ⟨hb_11, hf⟩ := chk_out hf
        refine g_iald X 3 rfl hb_11 dX12_quiet_70 ?_
        refine g_if_le (tgt := 91) X dX12_quiet_71 (by decide) (fun hc_12 => ?_) (fun hc_12 => ?_)
        · replace hf := ite_t hc_12 hf
          exact J91 k37 hk37 (f_X12_quiet_46 t_w k37 n) ih t_statuses t_feels_7 t_next_8 t_came_9 v1 v2 v3 v4 hf
        · replace hf := ite_f hc_12 hf
          refine g_aload_n X dX12_quiet_74 rfl 0 rfl ?_
          obtain ⟨r_13, hk_14, hf⟩ := ob1_out hf
          refine g_cVR (st := []) (st1 := [.int r_13]) (C := RX12) (ci := 8) (q0 := 0) X (c_X12_whoFeels l D cI cZ h_t h_t_w h_t_isKept h_t_text h_t_statuses h_t_ways h_t_feels h_t_next h_t_came h_t_deep h_t_sizes h_t_tableOf h_t_usedBy h_t_taken h_t_sixOf t_texted t_above t_below t_at t_start t_number t_went t_h t_w t_feels_7 _ hk_14) (Or.inl rfl) 0 gX12_quiet_X12_whoFeels rfl hv_X12_whoFeels ⟨Nat.le_of_ble_eq_true rfl, Nat.le_of_ble_eq_true rfl⟩ rfl rfl (Nat.le_of_ble_eq_true rfl) ⟨rfl, rfl⟩ (Nat.zero_le _) (Nat.zero_le _) rfl rfl rfl dX12_quiet_75 [0, 1, 3] rfl rfl rfl ?_
          refine g_iload_n X dX12_quiet_78 rfl 2 rfl ?_
          refine g_iand X dX12_quiet_79 ?_
          refine g_if_ne (tgt := 91) X dX12_quiet_80 (by decide) (fun hc_15 => ?_) (fun hc_15 => ?_)
          · replace hf := ite_f hc_15 hf
            exact J91 k37 hk37 (f_X12_quiet_46 t_w k37 n) ih t_statuses t_feels_7 t_next_8 t_came_9 v1 v2 v3 v4 hf
          · replace hf := ite_t hc_15 hf
            refine g_lv X (lv' := [(3, .int v3), (4, .int v4)]) [3, 4] rfl ?_
            exact J83 t_statuses t_feels_7 t_next_8 t_came_9 v3 v4 hf
  have J37 : ∀ (n : Nat) (t_statuses : (Nat → Int32)) (t_feels : (Nat → Int32)) (t_next : (Nat → Int32)) (t_came : (Nat → Int32)) (v1 : Int32) (v2 : Int32) (v3 : Int32), f_X12_quiet_37 t_w n t_statuses t_feels t_next t_came v1 v2 v3 = some res → G 0 0 (wd_X12_quiet cI cZ h_t h_t_w h_t_isKept h_t_text h_t_statuses h_t_ways h_t_feels h_t_next h_t_came h_t_deep h_t_sizes h_t_tableOf h_t_usedBy h_t_taken h_t_sixOf t_texted t_above t_below t_at t_start t_number t_went t_h t_w t_statuses t_feels t_next t_came) [(0, .ref h_t), (1, .int v1), (2, .int v2), (3, .int v3)] 37 [] := by
    intro n
    induction n with
    | zero => intro t_statuses t_feels t_next t_came v1 v2 v3 hf; rw [f_X12_quiet_37] at hf; cases hf
    | succ n ih =>
      intro t_statuses t_feels t_next t_came v1 v2 v3 hf
      rw [f_X12_quiet_37] at hf
      refine g_iload_n X dX12_quiet_37 rfl 3 rfl ?_
      refine g_bipush (v := 20) X dX12_quiet_38 (by decide) ?_
      refine g_icmp_gt (tgt := 103) X dX12_quiet_40 (by decide) (fun hc_4 => ?_) (fun hc_4 => ?_)
      · replace hf := ite_t hc_4 hf
        refine g_iconst (v := (-1)) X dX12_quiet_103 (by decide) ?_
        exact hR _ _ _ _ dX12_quiet_104 (kV_in (u := ((-1), t_statuses, t_feels, t_next, t_came)) hf)
      · replace hf := ite_f hc_4 hf
        refine g_iconst (v := 0) X dX12_quiet_43 (by decide) ?_
        refine g_istore (lv' := [(0, .ref h_t), (1, .int v1), (2, .int v2), (3, .int v3), (4, .int 0)]) X dX12_quiet_44 (Nat.le_of_ble_eq_true rfl) [1, 2, 3, 4, 0] rfl ?_
        exact J46 (f_X12_quiet_37 t_w n) ih FU t_statuses t_feels t_next t_came v1 v2 v3 0 hf
  refine g_aload_n X dX12_quiet_0 rfl 0 rfl ?_
  refine g_iload_n X dX12_quiet_1 rfl 1 rfl ?_
  obtain ⟨r_18, hk_19, hf⟩ := ob1_out hf
  refine g_cVR (st := []) (st1 := [.int r_18]) (C := RX12) (ci := 8) (q0 := 0) X (c_X12_isClerk l D cI cZ h_t h_t_w h_t_isKept h_t_text h_t_statuses h_t_ways h_t_feels h_t_next h_t_came h_t_deep h_t_sizes h_t_tableOf h_t_usedBy h_t_taken h_t_sixOf t_texted t_above t_below t_at t_start t_number t_went t_h t_w v1 _ hk_19) (Or.inl rfl) 1 gX12_quiet_X12_isClerk rfl hv_X12_isClerk ⟨Nat.le_of_ble_eq_true rfl, Nat.le_of_ble_eq_true rfl⟩ rfl rfl (Nat.le_of_ble_eq_true rfl) ⟨rfl, rfl⟩ (Nat.zero_le _) (Nat.zero_le _) rfl rfl rfl dX12_quiet_2 [0, 1] rfl rfl rfl ?_
  refine g_if_eq (tgt := 28) X dX12_quiet_5 (by decide) (fun hc_20 => ?_) (fun hc_20 => ?_)
  · replace hf := ite_t hc_20 hf
    refine g_lv X (lv' := [(0, .ref h_t)]) [0] rfl ?_
    exact J28 t_statuses t_feels t_next t_came hf
  · replace hf := ite_f hc_20 hf
    refine g_iload_n X dX12_quiet_8 rfl 2 rfl ?_
    refine g_i2l X dX12_quiet_9 ?_
    refine g_lconst (v := 0) X dX12_quiet_10 (by decide) ?_
    refine g_iconst (v := 1) X dX12_quiet_11 (by decide) ?_
    refine g_aload_n X dX12_quiet_12 rfl 0 rfl ?_
    refine g_get (C := RX12) (T := TX12) (N := 22) (ci := 8) (v := (.ref h_t_w)) X iw_X12_quiet_X12 0 rfl rfl 0 (by decide) lk_X12_quiet_7 rfl dX12_quiet_13 ?_
    refine g_iconst (v := 0) X dX12_quiet_16 (by decide) ?_
    obtain ⟨hb_21, hf⟩ := chk_out hf
    refine g_iald X 1 rfl hb_21 dX12_quiet_17 ?_
    refine g_ishl X dX12_quiet_18 ?_
    refine g_iconst (v := 1) X dX12_quiet_19 (by decide) ?_
    refine g_isub X dX12_quiet_20 ?_
    refine g_i2l X dX12_quiet_21 ?_
    obtain ⟨r_22, hk_23, hf⟩ := ob1_out hf
    refine g_cSR (st := []) (st1 := [.int r_22]) X (c_X12_in l D cI cZ (v2.toInt64) 0 (((1 <<< ((t_w (0 : Int32).toNatClampNeg) &&& 31)) - 1).toInt64) _ hk_23) (Or.inl rfl) 3 gX12_quiet_X12_in rfl hs_X12_in ⟨Nat.le_of_ble_eq_true rfl, Nat.le_of_ble_eq_true rfl⟩ rfl rfl (Nat.le_of_ble_eq_true rfl) ⟨rfl, rfl⟩ (Nat.zero_le _) (Nat.zero_le _) dX12_quiet_22 [] rfl rfl rfl ?_
    refine g_if_ne (tgt := 35) X dX12_quiet_25 (by decide) (fun hc_24 => ?_) (fun hc_24 => ?_)
    · replace hf := ite_f hc_24 hf
      refine g_iconst (v := 1) X dX12_quiet_35 (by decide) ?_
      refine g_istore_n (lv' := [(0, .ref h_t), (1, .int v1), (2, .int v2), (3, .int 1)]) X dX12_quiet_36 rfl (Nat.le_of_ble_eq_true rfl) [1, 2, 3, 0] rfl ?_
      exact J37 FU t_statuses t_feels t_next t_came v1 v2 1 hf
    · replace hf := ite_t hc_24 hf
      refine g_lv X (lv' := [(0, .ref h_t)]) [0] rfl ?_
      exact J28 t_statuses t_feels t_next t_came hf
def wd_X12_longFrom (cI cZ : ClassId) (h_t : Nat) (h_t_w : Nat) (h_t_isKept : Nat) (h_t_text : Nat) (h_t_statuses : Nat) (h_t_ways : Nat) (h_t_feels : Nat) (h_t_next : Nat) (h_t_came : Nat) (h_t_deep : Nat) (h_t_sizes : Nat) (h_t_tableOf : Nat) (h_t_usedBy : Nat) (h_t_taken : Nat) (h_t_sixOf : Nat) (t_texted : Int32) (t_above : Int64) (t_below : Int64) (t_at : Int32) (t_start : Int32) (t_number : Int32) (t_went : Int32) (t_h : Int64) (t_w : (Nat → Int32)) (t_next : (Nat → Int32)) (t_came : (Nat → Int32)) (t_deep : (Nat → Int32)) : va_W := [(h_t, .inr (8, [.ref h_t_w, .ref h_t_isKept, .ref h_t_text, .int t_texted, .long t_above, .long t_below, .ref h_t_statuses, .int t_at, .int t_start, .int t_number, .ref h_t_ways, .int t_went, .ref h_t_feels, .ref h_t_next, .ref h_t_came, .ref h_t_deep, .ref h_t_sizes, .ref h_t_tableOf, .ref h_t_usedBy, .ref h_t_taken, .ref h_t_sixOf, .long t_h])), (h_t_w, .inl (cI, 1251, .inl t_w)), (h_t_next, .inl (cI, 7, .inl t_next)), (h_t_came, .inl (cI, 7, .inl t_came)), (h_t_deep, .inl (cI, 7, .inl t_deep))]
abbrev rm_X12_longFrom : Room := { frames := 1, cells := 0, slots := 0, locals := 23 }
theorem hv_X12_longFrom : yX12_longFrom.cls = RX12 ∧ yX12_longFrom.cls ≠ "java/lang/invoke/MethodHandle" ∧ yX12_longFrom.cls ≠ "java/lang/invoke/VarHandle" ∧ (parseMethodDescriptor yX12_longFrom.desc).map (fun d => d.parameters.length) = some 1 := by decide +kernel
theorem iw_X12_longFrom_X12 : ∀ w ∈ u_ws RX12 TX12 22, w ∈ wsX12_longFrom := by decide +kernel
theorem lk_X12_longFrom_36 : Cond.fieldLink RX12 36 "ClerkChainsModel" "next" "[I" ∈ wsX12_longFrom := by decide +kernel
theorem lk_X12_longFrom_42 : Cond.fieldLink RX12 42 "ClerkChainsModel" "deep" "[I" ∈ wsX12_longFrom := by decide +kernel
theorem lk_X12_longFrom_7 : Cond.fieldLink RX12 7 "ClerkChainsModel" "w" "[I" ∈ wsX12_longFrom := by decide +kernel
theorem lk_X12_longFrom_39 : Cond.fieldLink RX12 39 "ClerkChainsModel" "came" "[I" ∈ wsX12_longFrom := by decide +kernel
set_option maxHeartbeats 4000000 in
set_option maxRecDepth 100000 in
theorem c_X12_longFrom (l : Launch) (D : va_G) (cI cZ : ClassId) (h_t : Nat) (h_t_w : Nat) (h_t_isKept : Nat) (h_t_text : Nat) (h_t_statuses : Nat) (h_t_ways : Nat) (h_t_feels : Nat) (h_t_next : Nat) (h_t_came : Nat) (h_t_deep : Nat) (h_t_sizes : Nat) (h_t_tableOf : Nat) (h_t_usedBy : Nat) (h_t_taken : Nat) (h_t_sixOf : Nat) (t_texted : Int32) (t_above : Int64) (t_below : Int64) (t_at : Int32) (t_start : Int32) (t_number : Int32) (t_went : Int32) (t_h : Int64) (t_w : (Nat → Int32)) (t_next : (Nat → Int32)) (t_came : (Nat → Int32)) (t_deep : (Nat → Int32)) (v1 : Int32) (res : Int32 × (Nat → Int32) × (Nat → Int32) × (Nat → Int32)) (hf : f_X12_longFrom t_w t_next t_came t_deep v1 = some res) : MetG l yX12_longFrom wsX12_longFrom rm_X12_longFrom D cI cZ none [.ref h_t, .int v1] (wd_X12_longFrom cI cZ h_t h_t_w h_t_isKept h_t_text h_t_statuses h_t_ways h_t_feels h_t_next h_t_came h_t_deep h_t_sizes h_t_tableOf h_t_usedBy h_t_taken h_t_sixOf t_texted t_above t_below t_at t_start t_number t_went t_h t_w t_next t_came t_deep) (kV res (fun u => some (.int u.1)) (fun u => (wd_X12_longFrom cI cZ h_t h_t_w h_t_isKept h_t_text h_t_statuses h_t_ways h_t_feels h_t_next h_t_came h_t_deep h_t_sizes h_t_tableOf h_t_usedBy h_t_taken h_t_sixOf t_texted t_above t_below t_at t_start t_number t_went t_h t_w (u.2.1) (u.2.2.1) (u.2.2.2)))) := by
  refine metG_of (cc := cX12_longFrom) (maxL := 7) (ret := (some .int)) (own := RX12) (lv0 := [(0, .ref h_t), (1, .int v1)]) (ini := false) (by decide) rfl (Nat.le_of_ble_eq_true rfl) rfl rfl (fun h => by cases h) (fun G X hR => ?_)
  replace hR := rt_int hR
  unfold f_X12_longFrom at hf
  have J150 : ∀ (k28 : (Nat → Int32) → (Nat → Int32) → (Nat → Int32) → Int32 → Int32 → Int32 → Option (Int32 × (Nat → Int32) × (Nat → Int32) × (Nat → Int32))) (hk28 : ∀ (t_next : (Nat → Int32)) (t_came : (Nat → Int32)) (t_deep : (Nat → Int32)) (v2 : Int32) (v3 : Int32) (v4 : Int32), k28 t_next t_came t_deep v2 v3 v4 = some res → G 0 0 (wd_X12_longFrom cI cZ h_t h_t_w h_t_isKept h_t_text h_t_statuses h_t_ways h_t_feels h_t_next h_t_came h_t_deep h_t_sizes h_t_tableOf h_t_usedBy h_t_taken h_t_sixOf t_texted t_above t_below t_at t_start t_number t_went t_h t_w t_next t_came t_deep) [(0, .ref h_t), (2, .int v2), (3, .int v3), (4, .int v4)] 28 []) (k71 : (Nat → Int32) → (Nat → Int32) → (Nat → Int32) → Int32 → Int32 → Int32 → Int32 → Int32 → Option (Int32 × (Nat → Int32) × (Nat → Int32) × (Nat → Int32))) (hk71 : ∀ (t_next : (Nat → Int32)) (t_came : (Nat → Int32)) (t_deep : (Nat → Int32)) (v2 : Int32) (v3 : Int32) (v4 : Int32) (v5 : Int32) (v6 : Int32), k71 t_next t_came t_deep v2 v3 v4 v5 v6 = some res → G 0 0 (wd_X12_longFrom cI cZ h_t h_t_w h_t_isKept h_t_text h_t_statuses h_t_ways h_t_feels h_t_next h_t_came h_t_deep h_t_sizes h_t_tableOf h_t_usedBy h_t_taken h_t_sixOf t_texted t_above t_below t_at t_start t_number t_went t_h t_w t_next t_came t_deep) [(0, .ref h_t), (2, .int v2), (3, .int v3), (4, .int v4), (5, .int v5), (6, .int v6)] 71 []) (t_next : (Nat → Int32)) (t_came : (Nat → Int32)) (t_deep : (Nat → Int32)) (v2 : Int32) (v3 : Int32) (v4 : Int32) (v5 : Int32) (v6 : Int32), f_X12_longFrom_150 t_w k28 k71 t_next t_came t_deep v2 v3 v4 v5 v6 = some res → G 0 0 (wd_X12_longFrom cI cZ h_t h_t_w h_t_isKept h_t_text h_t_statuses h_t_ways h_t_feels h_t_next h_t_came h_t_deep h_t_sizes h_t_tableOf h_t_usedBy h_t_taken h_t_sixOf t_texted t_above t_below t_at t_start t_number t_went t_h t_w t_next t_came t_deep) [(0, .ref h_t), (2, .int v2), (3, .int v3), (4, .int v4), (5, .int v5), (6, .int v6)] 150 [] := by
    intro k28 hk28 k71 hk71 t_next t_came t_deep v2 v3 v4 v5 v6 hf
    unfold f_X12_longFrom_150 at hf
    obtain ⟨v6_24, ev6_24, hf⟩ := bnd_out hf
    refine g_iinc (v := v6_24) (lv' := [(0, .ref h_t), (2, .int v2), (3, .int v3), (4, .int v4), (5, .int v5), (6, .int v6_24)]) X dX12_longFrom_150 5 rfl (by rw [ev6_24]; rfl) (Nat.le_of_ble_eq_true rfl) [1, 2, 3, 4, 5, 0] rfl ?_
    refine g_goto (tgt := 71) X dX12_longFrom_153 (by decide) ?_
    exact hk71 t_next t_came t_deep v2 v3 v4 v5 v6_24 hf
  have J156 : ∀ (k28 : (Nat → Int32) → (Nat → Int32) → (Nat → Int32) → Int32 → Int32 → Int32 → Option (Int32 × (Nat → Int32) × (Nat → Int32) × (Nat → Int32))) (hk28 : ∀ (t_next : (Nat → Int32)) (t_came : (Nat → Int32)) (t_deep : (Nat → Int32)) (v2 : Int32) (v3 : Int32) (v4 : Int32), k28 t_next t_came t_deep v2 v3 v4 = some res → G 0 0 (wd_X12_longFrom cI cZ h_t h_t_w h_t_isKept h_t_text h_t_statuses h_t_ways h_t_feels h_t_next h_t_came h_t_deep h_t_sizes h_t_tableOf h_t_usedBy h_t_taken h_t_sixOf t_texted t_above t_below t_at t_start t_number t_went t_h t_w t_next t_came t_deep) [(0, .ref h_t), (2, .int v2), (3, .int v3), (4, .int v4)] 28 []) (t_next : (Nat → Int32)) (t_came : (Nat → Int32)) (t_deep : (Nat → Int32)) (v2 : Int32) (v3 : Int32) (v4 : Int32), f_X12_longFrom_156 t_w k28 t_next t_came t_deep v2 v3 v4 = some res → G 0 0 (wd_X12_longFrom cI cZ h_t h_t_w h_t_isKept h_t_text h_t_statuses h_t_ways h_t_feels h_t_next h_t_came h_t_deep h_t_sizes h_t_tableOf h_t_usedBy h_t_taken h_t_sixOf t_texted t_above t_below t_at t_start t_number t_went t_h t_w t_next t_came t_deep) [(0, .ref h_t), (2, .int v2), (3, .int v3), (4, .int v4)] 156 [] := by
    intro k28 hk28 t_next t_came t_deep v2 v3 v4 hf
    unfold f_X12_longFrom_156 at hf
    refine g_goto (tgt := 28) X dX12_longFrom_156 (by decide) ?_
    exact hk28 t_next t_came t_deep v2 v3 v4 hf
  have J71 : ∀ (k28 : (Nat → Int32) → (Nat → Int32) → (Nat → Int32) → Int32 → Int32 → Int32 → Option (Int32 × (Nat → Int32) × (Nat → Int32) × (Nat → Int32))) (hk28 : ∀ (t_next : (Nat → Int32)) (t_came : (Nat → Int32)) (t_deep : (Nat → Int32)) (v2 : Int32) (v3 : Int32) (v4 : Int32), k28 t_next t_came t_deep v2 v3 v4 = some res → G 0 0 (wd_X12_longFrom cI cZ h_t h_t_w h_t_isKept h_t_text h_t_statuses h_t_ways h_t_feels h_t_next h_t_came h_t_deep h_t_sizes h_t_tableOf h_t_usedBy h_t_taken h_t_sixOf t_texted t_above t_below t_at t_start t_number t_went t_h t_w t_next t_came t_deep) [(0, .ref h_t), (2, .int v2), (3, .int v3), (4, .int v4)] 28 []) (n : Nat) (t_next : (Nat → Int32)) (t_came : (Nat → Int32)) (t_deep : (Nat → Int32)) (v2 : Int32) (v3 : Int32) (v4 : Int32) (v5 : Int32) (v6 : Int32), f_X12_longFrom_71 t_w k28 n t_next t_came t_deep v2 v3 v4 v5 v6 = some res → G 0 0 (wd_X12_longFrom cI cZ h_t h_t_w h_t_isKept h_t_text h_t_statuses h_t_ways h_t_feels h_t_next h_t_came h_t_deep h_t_sizes h_t_tableOf h_t_usedBy h_t_taken h_t_sixOf t_texted t_above t_below t_at t_start t_number t_went t_h t_w t_next t_came t_deep) [(0, .ref h_t), (2, .int v2), (3, .int v3), (4, .int v4), (5, .int v5), (6, .int v6)] 71 [] := by
    intro k28 hk28 n
    induction n with
    | zero => intro t_next t_came t_deep v2 v3 v4 v5 v6 hf; rw [f_X12_longFrom_71] at hf; cases hf
    | succ n ih =>
      intro t_next t_came t_deep v2 v3 v4 v5 v6 hf
      rw [f_X12_longFrom_71] at hf
      refine g_iload X dX12_longFrom_71 5 rfl ?_
      refine g_aload_n X dX12_longFrom_73 rfl 0 rfl ?_
      refine g_get (C := RX12) (T := TX12) (N := 22) (ci := 8) (v := (.ref h_t_w)) X iw_X12_longFrom_X12 0 rfl rfl 0 (by decide) lk_X12_longFrom_7 rfl dX12_longFrom_74 ?_
      refine g_iconst (v := 0) X dX12_longFrom_77 (by decide) ?_
      obtain ⟨hb_8, hf⟩ := chk_out hf
      refine g_iald X 1 rfl hb_8 dX12_longFrom_78 ?_
      refine g_icmp_ge (tgt := 156) X dX12_longFrom_79 (by decide) (fun hc_9 => ?_) (fun hc_9 => ?_)
      · replace hf := ite_t hc_9 hf
        refine g_lv X (lv' := [(0, .ref h_t), (2, .int v2), (3, .int v3), (4, .int v4)]) [0, 1, 2, 3] rfl ?_
        exact J156 k28 hk28 t_next t_came t_deep v2 v3 v4 hf
      · replace hf := ite_f hc_9 hf
        refine g_iload X dX12_longFrom_82 5 rfl ?_
        refine g_iload X dX12_longFrom_84 4 rfl ?_
        refine g_icmp_eq (tgt := 150) X dX12_longFrom_86 (by decide) (fun hc_10 => ?_) (fun hc_10 => ?_)
        · replace hf := ite_t hc_10 hf
          exact J150 k28 hk28 (f_X12_longFrom_71 t_w k28 n) ih t_next t_came t_deep v2 v3 v4 v5 v6 hf
        · replace hf := ite_f hc_10 hf
          refine g_iload X dX12_longFrom_89 5 rfl ?_
          refine g_aload_n X dX12_longFrom_91 rfl 0 rfl ?_
          refine g_get (C := RX12) (T := TX12) (N := 22) (ci := 8) (v := (.ref h_t_came)) X iw_X12_longFrom_X12 0 rfl rfl 14 (by decide) lk_X12_longFrom_39 rfl dX12_longFrom_92 ?_
          refine g_iload X dX12_longFrom_95 4 rfl ?_
          obtain ⟨hb_11, hf⟩ := chk_out hf
          refine g_iald X 3 rfl hb_11 dX12_longFrom_97 ?_
          refine g_icmp_eq (tgt := 150) X dX12_longFrom_98 (by decide) (fun hc_12 => ?_) (fun hc_12 => ?_)
          · replace hf := ite_t hc_12 hf
            exact J150 k28 hk28 (f_X12_longFrom_71 t_w k28 n) ih t_next t_came t_deep v2 v3 v4 v5 v6 hf
          · replace hf := ite_f hc_12 hf
            refine g_aload_n X dX12_longFrom_101 rfl 0 rfl ?_
            refine g_iconst (v := 0) X dX12_longFrom_102 (by decide) ?_
            refine g_iload X dX12_longFrom_103 4 rfl ?_
            refine g_iload X dX12_longFrom_105 5 rfl ?_
            obtain ⟨r_13, hk_14, hf⟩ := ob1_out hf
            refine g_cVR (st := []) (st1 := [.int r_13]) (C := RX12) (ci := 8) (q0 := 0) X (c_X12_areHooked l D cI cZ h_t h_t_w h_t_isKept h_t_text h_t_statuses h_t_ways h_t_feels h_t_next h_t_came h_t_deep h_t_sizes h_t_tableOf h_t_usedBy h_t_taken h_t_sixOf t_texted t_above t_below t_at t_start t_number t_went t_h t_w 0 v5 v6 _ hk_14) (Or.inl rfl) 3 gX12_longFrom_X12_areHooked rfl hv_X12_areHooked ⟨Nat.le_of_ble_eq_true rfl, Nat.le_of_ble_eq_true rfl⟩ rfl rfl (Nat.le_of_ble_eq_true rfl) ⟨rfl, rfl⟩ (Nat.zero_le _) (Nat.zero_le _) rfl rfl rfl dX12_longFrom_107 [0, 1] rfl rfl rfl ?_
            refine g_if_eq (tgt := 150) X dX12_longFrom_110 (by decide) (fun hc_15 => ?_) (fun hc_15 => ?_)
            · replace hf := ite_t hc_15 hf
              exact J150 k28 hk28 (f_X12_longFrom_71 t_w k28 n) ih t_next t_came t_deep v2 v3 v4 v5 v6 hf
            · replace hf := ite_f hc_15 hf
              refine g_aload_n X dX12_longFrom_113 rfl 0 rfl ?_
              refine g_get (C := RX12) (T := TX12) (N := 22) (ci := 8) (v := (.ref h_t_deep)) X iw_X12_longFrom_X12 0 rfl rfl 15 (by decide) lk_X12_longFrom_42 rfl dX12_longFrom_114 ?_
              refine g_iload X dX12_longFrom_117 5 rfl ?_
              refine g_aload_n X dX12_longFrom_119 rfl 0 rfl ?_
              refine g_get (C := RX12) (T := TX12) (N := 22) (ci := 8) (v := (.ref h_t_deep)) X iw_X12_longFrom_X12 0 rfl rfl 15 (by decide) lk_X12_longFrom_42 rfl dX12_longFrom_120 ?_
              refine g_iload X dX12_longFrom_123 4 rfl ?_
              obtain ⟨hb_16, hf⟩ := chk_out hf
              refine g_iald X 4 rfl hb_16 dX12_longFrom_125 ?_
              refine g_iconst (v := 1) X dX12_longFrom_126 (by decide) ?_
              refine g_iadd X dX12_longFrom_127 ?_
              obtain ⟨hb_17, hf⟩ := chk_out hf
              obtain ⟨t_deep_18, et_deep_18, hf⟩ := bnd_out hf
              refine g_iast (ws' := (wd_X12_longFrom cI cZ h_t h_t_w h_t_isKept h_t_text h_t_statuses h_t_ways h_t_feels h_t_next h_t_came h_t_deep h_t_sizes h_t_tableOf h_t_usedBy h_t_taken h_t_sixOf t_texted t_above t_below t_at t_start t_number t_went t_h t_w t_next t_came t_deep_18)) X 4 rfl hb_17 et_deep_18 dX12_longFrom_128 rfl ?_
              refine g_aload_n X dX12_longFrom_129 rfl 0 rfl ?_
              refine g_get (C := RX12) (T := TX12) (N := 22) (ci := 8) (v := (.ref h_t_came)) X iw_X12_longFrom_X12 0 rfl rfl 14 (by decide) lk_X12_longFrom_39 rfl dX12_longFrom_130 ?_
              refine g_iload X dX12_longFrom_133 5 rfl ?_
              refine g_iload X dX12_longFrom_135 4 rfl ?_
              obtain ⟨hb_19, hf⟩ := chk_out hf
              obtain ⟨t_came_20, et_came_20, hf⟩ := bnd_out hf
              refine g_iast (ws' := (wd_X12_longFrom cI cZ h_t h_t_w h_t_isKept h_t_text h_t_statuses h_t_ways h_t_feels h_t_next h_t_came h_t_deep h_t_sizes h_t_tableOf h_t_usedBy h_t_taken h_t_sixOf t_texted t_above t_below t_at t_start t_number t_went t_h t_w t_next t_came_20 t_deep_18)) X 3 rfl hb_19 et_came_20 dX12_longFrom_137 rfl ?_
              refine g_aload_n X dX12_longFrom_138 rfl 0 rfl ?_
              refine g_get (C := RX12) (T := TX12) (N := 22) (ci := 8) (v := (.ref h_t_next)) X iw_X12_longFrom_X12 0 rfl rfl 13 (by decide) lk_X12_longFrom_36 rfl dX12_longFrom_139 ?_
              refine g_iload X dX12_longFrom_142 3 rfl ?_
              refine g_iload X dX12_longFrom_144 5 rfl ?_
              obtain ⟨hb_21, hf⟩ := chk_out hf
              obtain ⟨t_next_22, et_next_22, hf⟩ := bnd_out hf
              refine g_iast (ws' := (wd_X12_longFrom cI cZ h_t h_t_w h_t_isKept h_t_text h_t_statuses h_t_ways h_t_feels h_t_next h_t_came h_t_deep h_t_sizes h_t_tableOf h_t_usedBy h_t_taken h_t_sixOf t_texted t_above t_below t_at t_start t_number t_went t_h t_w t_next_22 t_came_20 t_deep_18)) X 2 rfl hb_21 et_next_22 dX12_longFrom_146 rfl ?_
              obtain ⟨v4_23, ev4_23, hf⟩ := bnd_out hf
              refine g_iinc (v := v4_23) (lv' := [(0, .ref h_t), (2, .int v2), (3, .int v3), (4, .int v4_23), (5, .int v5), (6, .int v6)]) X dX12_longFrom_147 3 rfl (by rw [ev4_23]; rfl) (Nat.le_of_ble_eq_true rfl) [1, 2, 3, 0, 4, 5] rfl ?_
              exact J150 k28 hk28 (f_X12_longFrom_71 t_w k28 n) ih t_next_22 t_came_20 t_deep_18 v2 v3 v4_23 v5 v6 hf
  have J67 : ∀ (k28 : (Nat → Int32) → (Nat → Int32) → (Nat → Int32) → Int32 → Int32 → Int32 → Option (Int32 × (Nat → Int32) × (Nat → Int32) × (Nat → Int32))) (hk28 : ∀ (t_next : (Nat → Int32)) (t_came : (Nat → Int32)) (t_deep : (Nat → Int32)) (v2 : Int32) (v3 : Int32) (v4 : Int32), k28 t_next t_came t_deep v2 v3 v4 = some res → G 0 0 (wd_X12_longFrom cI cZ h_t h_t_w h_t_isKept h_t_text h_t_statuses h_t_ways h_t_feels h_t_next h_t_came h_t_deep h_t_sizes h_t_tableOf h_t_usedBy h_t_taken h_t_sixOf t_texted t_above t_below t_at t_start t_number t_went t_h t_w t_next t_came t_deep) [(0, .ref h_t), (2, .int v2), (3, .int v3), (4, .int v4)] 28 []) (t_next : (Nat → Int32)) (t_came : (Nat → Int32)) (t_deep : (Nat → Int32)) (v3 : Int32) (v4 : Int32) (v5 : Int32) (s0 : Int32), f_X12_longFrom_67 t_w k28 t_next t_came t_deep v3 v4 v5 s0 = some res → G 0 0 (wd_X12_longFrom cI cZ h_t h_t_w h_t_isKept h_t_text h_t_statuses h_t_ways h_t_feels h_t_next h_t_came h_t_deep h_t_sizes h_t_tableOf h_t_usedBy h_t_taken h_t_sixOf t_texted t_above t_below t_at t_start t_number t_went t_h t_w t_next t_came t_deep) [(0, .ref h_t), (3, .int v3), (4, .int v4), (5, .int v5)] 67 [.int s0] := by
    intro k28 hk28 t_next t_came t_deep v3 v4 v5 s0 hf
    unfold f_X12_longFrom_67 at hf
    refine g_istore_n (lv' := [(0, .ref h_t), (2, .int s0), (3, .int v3), (4, .int v4), (5, .int v5)]) X dX12_longFrom_67 rfl (Nat.le_of_ble_eq_true rfl) [1, 0, 2, 3, 4] rfl ?_
    refine g_iconst (v := 0) X dX12_longFrom_68 (by decide) ?_
    refine g_istore (lv' := [(0, .ref h_t), (2, .int s0), (3, .int v3), (4, .int v4), (5, .int v5), (6, .int 0)]) X dX12_longFrom_69 (Nat.le_of_ble_eq_true rfl) [1, 2, 3, 4, 5, 0] rfl ?_
    exact J71 k28 hk28 FU t_next t_came t_deep s0 v3 v4 v5 0 hf
  have J28 : ∀ (n : Nat) (t_next : (Nat → Int32)) (t_came : (Nat → Int32)) (t_deep : (Nat → Int32)) (v2 : Int32) (v3 : Int32) (v4 : Int32), f_X12_longFrom_28 t_w n t_next t_came t_deep v2 v3 v4 = some res → G 0 0 (wd_X12_longFrom cI cZ h_t h_t_w h_t_isKept h_t_text h_t_statuses h_t_ways h_t_feels h_t_next h_t_came h_t_deep h_t_sizes h_t_tableOf h_t_usedBy h_t_taken h_t_sixOf t_texted t_above t_below t_at t_start t_number t_went t_h t_w t_next t_came t_deep) [(0, .ref h_t), (2, .int v2), (3, .int v3), (4, .int v4)] 28 [] := by
    intro n
    induction n with
    | zero => intro t_next t_came t_deep v2 v3 v4 hf; rw [f_X12_longFrom_28] at hf; cases hf
    | succ n ih =>
      intro t_next t_came t_deep v2 v3 v4 hf
      rw [f_X12_longFrom_28] at hf
      refine g_iload_n X dX12_longFrom_28 rfl 2 rfl ?_
      refine g_iload X dX12_longFrom_29 3 rfl ?_
      refine g_icmp_ge (tgt := 159) X dX12_longFrom_31 (by decide) (fun hc_1 => ?_) (fun hc_1 => ?_)
      · replace hf := ite_t hc_1 hf
        refine g_iload_n X dX12_longFrom_159 rfl 1 rfl ?_
        exact hR _ _ _ _ dX12_longFrom_160 (kV_in (u := (v2, t_next, t_came, t_deep)) hf)
      · replace hf := ite_f hc_1 hf
        refine g_aload_n X dX12_longFrom_34 rfl 0 rfl ?_
        refine g_get (C := RX12) (T := TX12) (N := 22) (ci := 8) (v := (.ref h_t_next)) X iw_X12_longFrom_X12 0 rfl rfl 13 (by decide) lk_X12_longFrom_36 rfl dX12_longFrom_35 ?_
        refine g_iload_n X dX12_longFrom_38 rfl 2 rfl ?_
        obtain ⟨hb_2, hf⟩ := chk_out hf
        refine g_iald X 2 rfl hb_2 dX12_longFrom_39 ?_
        obtain ⟨v5_3, ev5_3, hf⟩ := bnd_out hf
        refine g_nmI X ev5_3 ?_
        refine g_istore (lv' := [(0, .ref h_t), (2, .int v2), (3, .int v3), (4, .int v4), (5, .int v5_3)]) X dX12_longFrom_40 (Nat.le_of_ble_eq_true rfl) [1, 2, 3, 4, 0] rfl ?_
        obtain ⟨v3_4, ev3_4, hf⟩ := bnd_out hf
        refine g_iinc (v := v3_4) (lv' := [(0, .ref h_t), (2, .int v2), (3, .int v3_4), (4, .int v4), (5, .int v5_3)]) X dX12_longFrom_42 2 rfl (by rw [ev3_4]; rfl) (Nat.le_of_ble_eq_true rfl) [1, 2, 0, 3, 4] rfl ?_
        refine g_aload_n X dX12_longFrom_45 rfl 0 rfl ?_
        refine g_get (C := RX12) (T := TX12) (N := 22) (ci := 8) (v := (.ref h_t_deep)) X iw_X12_longFrom_X12 0 rfl rfl 15 (by decide) lk_X12_longFrom_42 rfl dX12_longFrom_46 ?_
        refine g_iload X dX12_longFrom_49 4 rfl ?_
        obtain ⟨hb_5, hf⟩ := chk_out hf
        refine g_iald X 4 rfl hb_5 dX12_longFrom_51 ?_
        refine g_iload_n X dX12_longFrom_52 rfl 1 rfl ?_
        refine g_icmp_le (tgt := 66) X dX12_longFrom_53 (by decide) (fun hc_6 => ?_) (fun hc_6 => ?_)
        · replace hf := ite_t hc_6 hf
          refine g_iload_n X dX12_longFrom_66 rfl 1 rfl ?_
          refine g_lv X (lv' := [(0, .ref h_t), (3, .int v3_4), (4, .int v4), (5, .int v5_3)]) [0, 2, 3, 4] rfl ?_
          exact J67 (f_X12_longFrom_28 t_w n) ih t_next t_came t_deep v3_4 v4 v5_3 v2 hf
        · replace hf := ite_f hc_6 hf
          refine g_aload_n X dX12_longFrom_56 rfl 0 rfl ?_
          refine g_get (C := RX12) (T := TX12) (N := 22) (ci := 8) (v := (.ref h_t_deep)) X iw_X12_longFrom_X12 0 rfl rfl 15 (by decide) lk_X12_longFrom_42 rfl dX12_longFrom_57 ?_
          refine g_iload X dX12_longFrom_60 4 rfl ?_
          obtain ⟨hb_7, hf⟩ := chk_out hf
          refine g_iald X 4 rfl hb_7 dX12_longFrom_62 ?_
          refine g_goto (tgt := 67) X dX12_longFrom_63 (by decide) ?_
          refine g_lv X (lv' := [(0, .ref h_t), (3, .int v3_4), (4, .int v4), (5, .int v5_3)]) [0, 2, 3, 4] rfl ?_
          exact J67 (f_X12_longFrom_28 t_w n) ih t_next t_came t_deep v3_4 v4 v5_3 (t_deep v5_3.toNatClampNeg) hf
  refine g_iconst (v := 1) X dX12_longFrom_0 (by decide) ?_
  refine g_istore_n (lv' := [(0, .ref h_t), (1, .int v1), (2, .int 1)]) X dX12_longFrom_1 rfl (Nat.le_of_ble_eq_true rfl) [1, 2, 0] rfl ?_
  refine g_iconst (v := 0) X dX12_longFrom_2 (by decide) ?_
  refine g_istore_n (lv' := [(0, .ref h_t), (1, .int v1), (2, .int 1), (3, .int 0)]) X dX12_longFrom_3 rfl (Nat.le_of_ble_eq_true rfl) [1, 2, 3, 0] rfl ?_
  refine g_iconst (v := 1) X dX12_longFrom_4 (by decide) ?_
  refine g_istore (lv' := [(0, .ref h_t), (1, .int v1), (2, .int 1), (3, .int 0), (4, .int 1)]) X dX12_longFrom_5 (Nat.le_of_ble_eq_true rfl) [1, 2, 3, 4, 0] rfl ?_
  refine g_aload_n X dX12_longFrom_7 rfl 0 rfl ?_
  refine g_get (C := RX12) (T := TX12) (N := 22) (ci := 8) (v := (.ref h_t_next)) X iw_X12_longFrom_X12 0 rfl rfl 13 (by decide) lk_X12_longFrom_36 rfl dX12_longFrom_8 ?_
  refine g_iconst (v := 0) X dX12_longFrom_11 (by decide) ?_
  refine g_iload_n X dX12_longFrom_12 rfl 1 rfl ?_
  obtain ⟨hb_25, hf⟩ := chk_out hf
  obtain ⟨t_next_26, et_next_26, hf⟩ := bnd_out hf
  refine g_iast (ws' := (wd_X12_longFrom cI cZ h_t h_t_w h_t_isKept h_t_text h_t_statuses h_t_ways h_t_feels h_t_next h_t_came h_t_deep h_t_sizes h_t_tableOf h_t_usedBy h_t_taken h_t_sixOf t_texted t_above t_below t_at t_start t_number t_went t_h t_w t_next_26 t_came t_deep)) X 2 rfl hb_25 et_next_26 dX12_longFrom_13 rfl ?_
  refine g_aload_n X dX12_longFrom_14 rfl 0 rfl ?_
  refine g_get (C := RX12) (T := TX12) (N := 22) (ci := 8) (v := (.ref h_t_came)) X iw_X12_longFrom_X12 0 rfl rfl 14 (by decide) lk_X12_longFrom_39 rfl dX12_longFrom_15 ?_
  refine g_iload_n X dX12_longFrom_18 rfl 1 rfl ?_
  refine g_iconst (v := (-1)) X dX12_longFrom_19 (by decide) ?_
  obtain ⟨hb_27, hf⟩ := chk_out hf
  obtain ⟨t_came_28, et_came_28, hf⟩ := bnd_out hf
  refine g_iast (ws' := (wd_X12_longFrom cI cZ h_t h_t_w h_t_isKept h_t_text h_t_statuses h_t_ways h_t_feels h_t_next h_t_came h_t_deep h_t_sizes h_t_tableOf h_t_usedBy h_t_taken h_t_sixOf t_texted t_above t_below t_at t_start t_number t_went t_h t_w t_next_26 t_came_28 t_deep)) X 3 rfl hb_27 et_came_28 dX12_longFrom_20 rfl ?_
  refine g_aload_n X dX12_longFrom_21 rfl 0 rfl ?_
  refine g_get (C := RX12) (T := TX12) (N := 22) (ci := 8) (v := (.ref h_t_deep)) X iw_X12_longFrom_X12 0 rfl rfl 15 (by decide) lk_X12_longFrom_42 rfl dX12_longFrom_22 ?_
  refine g_iload_n X dX12_longFrom_25 rfl 1 rfl ?_
  refine g_iconst (v := 1) X dX12_longFrom_26 (by decide) ?_
  obtain ⟨hb_29, hf⟩ := chk_out hf
  obtain ⟨t_deep_30, et_deep_30, hf⟩ := bnd_out hf
  refine g_iast (ws' := (wd_X12_longFrom cI cZ h_t h_t_w h_t_isKept h_t_text h_t_statuses h_t_ways h_t_feels h_t_next h_t_came h_t_deep h_t_sizes h_t_tableOf h_t_usedBy h_t_taken h_t_sixOf t_texted t_above t_below t_at t_start t_number t_went t_h t_w t_next_26 t_came_28 t_deep_30)) X 4 rfl hb_29 et_deep_30 dX12_longFrom_27 rfl ?_
  refine g_lv X (lv' := [(0, .ref h_t), (2, .int 1), (3, .int 0), (4, .int 1)]) [0, 2, 3, 4] rfl ?_
  exact J28 FU t_next_26 t_came_28 t_deep_30 1 0 1 hf
def wd_X12_longestOf (cI cZ : ClassId) (h_t : Nat) (h_t_w : Nat) (h_t_isKept : Nat) (h_t_text : Nat) (h_t_statuses : Nat) (h_t_ways : Nat) (h_t_feels : Nat) (h_t_next : Nat) (h_t_came : Nat) (h_t_deep : Nat) (h_t_sizes : Nat) (h_t_tableOf : Nat) (h_t_usedBy : Nat) (h_t_taken : Nat) (h_t_sixOf : Nat) (t_texted : Int32) (t_above : Int64) (t_below : Int64) (t_at : Int32) (t_start : Int32) (t_number : Int32) (t_went : Int32) (t_h : Int64) (t_w : (Nat → Int32)) (t_next : (Nat → Int32)) (t_came : (Nat → Int32)) (t_deep : (Nat → Int32)) : va_W := [(h_t, .inr (8, [.ref h_t_w, .ref h_t_isKept, .ref h_t_text, .int t_texted, .long t_above, .long t_below, .ref h_t_statuses, .int t_at, .int t_start, .int t_number, .ref h_t_ways, .int t_went, .ref h_t_feels, .ref h_t_next, .ref h_t_came, .ref h_t_deep, .ref h_t_sizes, .ref h_t_tableOf, .ref h_t_usedBy, .ref h_t_taken, .ref h_t_sixOf, .long t_h])), (h_t_w, .inl (cI, 1251, .inl t_w)), (h_t_next, .inl (cI, 7, .inl t_next)), (h_t_came, .inl (cI, 7, .inl t_came)), (h_t_deep, .inl (cI, 7, .inl t_deep))]
abbrev rm_X12_longestOf : Room := { frames := 2, cells := 0, slots := 0, locals := 49 }
theorem hv_X12_longestOf : yX12_longestOf.cls = RX12 ∧ yX12_longestOf.cls ≠ "java/lang/invoke/MethodHandle" ∧ yX12_longestOf.cls ≠ "java/lang/invoke/VarHandle" ∧ (parseMethodDescriptor yX12_longestOf.desc).map (fun d => d.parameters.length) = some 1 := by decide +kernel
theorem iw_X12_longestOf_X12 : ∀ w ∈ u_ws RX12 TX12 22, w ∈ wsX12_longestOf := by decide +kernel
theorem lk_X12_longestOf_7 : Cond.fieldLink RX12 7 "ClerkChainsModel" "w" "[I" ∈ wsX12_longestOf := by decide +kernel
set_option maxHeartbeats 4000000 in
set_option maxRecDepth 100000 in
theorem c_X12_longestOf (l : Launch) (D : va_G) (cI cZ : ClassId) (h_t : Nat) (h_t_w : Nat) (h_t_isKept : Nat) (h_t_text : Nat) (h_t_statuses : Nat) (h_t_ways : Nat) (h_t_feels : Nat) (h_t_next : Nat) (h_t_came : Nat) (h_t_deep : Nat) (h_t_sizes : Nat) (h_t_tableOf : Nat) (h_t_usedBy : Nat) (h_t_taken : Nat) (h_t_sixOf : Nat) (t_texted : Int32) (t_above : Int64) (t_below : Int64) (t_at : Int32) (t_start : Int32) (t_number : Int32) (t_went : Int32) (t_h : Int64) (t_w : (Nat → Int32)) (t_next : (Nat → Int32)) (t_came : (Nat → Int32)) (t_deep : (Nat → Int32)) (v1 : Int32) (res : Int32 × (Nat → Int32) × (Nat → Int32) × (Nat → Int32)) (hf : f_X12_longestOf t_w t_next t_came t_deep v1 = some res) : MetG l yX12_longestOf wsX12_longestOf rm_X12_longestOf D cI cZ none [.ref h_t, .int v1] (wd_X12_longestOf cI cZ h_t h_t_w h_t_isKept h_t_text h_t_statuses h_t_ways h_t_feels h_t_next h_t_came h_t_deep h_t_sizes h_t_tableOf h_t_usedBy h_t_taken h_t_sixOf t_texted t_above t_below t_at t_start t_number t_went t_h t_w t_next t_came t_deep) (kV res (fun u => some (.int u.1)) (fun u => (wd_X12_longestOf cI cZ h_t h_t_w h_t_isKept h_t_text h_t_statuses h_t_ways h_t_feels h_t_next h_t_came h_t_deep h_t_sizes h_t_tableOf h_t_usedBy h_t_taken h_t_sixOf t_texted t_above t_below t_at t_start t_number t_went t_h t_w (u.2.1) (u.2.2.1) (u.2.2.2)))) := by
  refine metG_of (cc := cX12_longestOf) (maxL := 5) (ret := (some .int)) (own := RX12) (lv0 := [(0, .ref h_t), (1, .int v1)]) (ini := false) (by decide) rfl (Nat.le_of_ble_eq_true rfl) rfl rfl (fun h => by cases h) (fun G X hR => ?_)
  replace hR := rt_int hR
  unfold f_X12_longestOf at hf
  have J45 : ∀ (k4 : (Nat → Int32) → (Nat → Int32) → (Nat → Int32) → Int32 → Int32 → Int32 → Option (Int32 × (Nat → Int32) × (Nat → Int32) × (Nat → Int32))) (hk4 : ∀ (t_next : (Nat → Int32)) (t_came : (Nat → Int32)) (t_deep : (Nat → Int32)) (v1 : Int32) (v2 : Int32) (v3 : Int32), k4 t_next t_came t_deep v1 v2 v3 = some res → G 0 0 (wd_X12_longestOf cI cZ h_t h_t_w h_t_isKept h_t_text h_t_statuses h_t_ways h_t_feels h_t_next h_t_came h_t_deep h_t_sizes h_t_tableOf h_t_usedBy h_t_taken h_t_sixOf t_texted t_above t_below t_at t_start t_number t_went t_h t_w t_next t_came t_deep) [(0, .ref h_t), (1, .int v1), (2, .int v2), (3, .int v3)] 4 []) (t_next : (Nat → Int32)) (t_came : (Nat → Int32)) (t_deep : (Nat → Int32)) (v1 : Int32) (v3 : Int32) (s0 : Int32), f_X12_longestOf_45 t_w k4 t_next t_came t_deep v1 v3 s0 = some res → G 0 0 (wd_X12_longestOf cI cZ h_t h_t_w h_t_isKept h_t_text h_t_statuses h_t_ways h_t_feels h_t_next h_t_came h_t_deep h_t_sizes h_t_tableOf h_t_usedBy h_t_taken h_t_sixOf t_texted t_above t_below t_at t_start t_number t_went t_h t_w t_next t_came t_deep) [(0, .ref h_t), (1, .int v1), (3, .int v3)] 45 [.int s0] := by
    intro k4 hk4 t_next t_came t_deep v1 v3 s0 hf
    unfold f_X12_longestOf_45 at hf
    refine g_istore_n (lv' := [(0, .ref h_t), (1, .int v1), (2, .int s0), (3, .int v3)]) X dX12_longestOf_45 rfl (Nat.le_of_ble_eq_true rfl) [1, 2, 0, 3] rfl ?_
    obtain ⟨v3_12, ev3_12, hf⟩ := bnd_out hf
    refine g_iinc (v := v3_12) (lv' := [(0, .ref h_t), (1, .int v1), (2, .int s0), (3, .int v3_12)]) X dX12_longestOf_46 3 rfl (by rw [ev3_12]; rfl) (Nat.le_of_ble_eq_true rfl) [1, 2, 3, 0] rfl ?_
    refine g_goto (tgt := 4) X dX12_longestOf_49 (by decide) ?_
    exact hk4 t_next t_came t_deep v1 s0 v3_12 hf
  have J31 : ∀ (k4 : (Nat → Int32) → (Nat → Int32) → (Nat → Int32) → Int32 → Int32 → Int32 → Option (Int32 × (Nat → Int32) × (Nat → Int32) × (Nat → Int32))) (hk4 : ∀ (t_next : (Nat → Int32)) (t_came : (Nat → Int32)) (t_deep : (Nat → Int32)) (v1 : Int32) (v2 : Int32) (v3 : Int32), k4 t_next t_came t_deep v1 v2 v3 = some res → G 0 0 (wd_X12_longestOf cI cZ h_t h_t_w h_t_isKept h_t_text h_t_statuses h_t_ways h_t_feels h_t_next h_t_came h_t_deep h_t_sizes h_t_tableOf h_t_usedBy h_t_taken h_t_sixOf t_texted t_above t_below t_at t_start t_number t_went t_h t_w t_next t_came t_deep) [(0, .ref h_t), (1, .int v1), (2, .int v2), (3, .int v3)] 4 []) (t_next : (Nat → Int32)) (t_came : (Nat → Int32)) (t_deep : (Nat → Int32)) (v1 : Int32) (v2 : Int32) (v3 : Int32) (s0 : Int32), f_X12_longestOf_31 t_w k4 t_next t_came t_deep v1 v2 v3 s0 = some res → G 0 0 (wd_X12_longestOf cI cZ h_t h_t_w h_t_isKept h_t_text h_t_statuses h_t_ways h_t_feels h_t_next h_t_came h_t_deep h_t_sizes h_t_tableOf h_t_usedBy h_t_taken h_t_sixOf t_texted t_above t_below t_at t_start t_number t_went t_h t_w t_next t_came t_deep) [(0, .ref h_t), (1, .int v1), (2, .int v2), (3, .int v3)] 31 [.int s0] := by
    intro k4 hk4 t_next t_came t_deep v1 v2 v3 s0 hf
    unfold f_X12_longestOf_31 at hf
    refine g_istore (lv' := [(0, .ref h_t), (1, .int v1), (2, .int v2), (3, .int v3), (4, .int s0)]) X dX12_longestOf_31 (Nat.le_of_ble_eq_true rfl) [1, 2, 3, 4, 0] rfl ?_
    refine g_iload X dX12_longestOf_33 4 rfl ?_
    refine g_iload_n X dX12_longestOf_35 rfl 2 rfl ?_
    refine g_icmp_le (tgt := 44) X dX12_longestOf_36 (by decide) (fun hc_11 => ?_) (fun hc_11 => ?_)
    · replace hf := ite_t hc_11 hf
      refine g_iload_n X dX12_longestOf_44 rfl 2 rfl ?_
      refine g_lv X (lv' := [(0, .ref h_t), (1, .int v1), (3, .int v3)]) [0, 1, 3] rfl ?_
      exact J45 k4 hk4 t_next t_came t_deep v1 v3 v2 hf
    · replace hf := ite_f hc_11 hf
      refine g_iload X dX12_longestOf_39 4 rfl ?_
      refine g_goto (tgt := 45) X dX12_longestOf_41 (by decide) ?_
      refine g_lv X (lv' := [(0, .ref h_t), (1, .int v1), (3, .int v3)]) [0, 1, 3] rfl ?_
      exact J45 k4 hk4 t_next t_came t_deep v1 v3 s0 hf
  have J4 : ∀ (n : Nat) (t_next : (Nat → Int32)) (t_came : (Nat → Int32)) (t_deep : (Nat → Int32)) (v1 : Int32) (v2 : Int32) (v3 : Int32), f_X12_longestOf_4 t_w n t_next t_came t_deep v1 v2 v3 = some res → G 0 0 (wd_X12_longestOf cI cZ h_t h_t_w h_t_isKept h_t_text h_t_statuses h_t_ways h_t_feels h_t_next h_t_came h_t_deep h_t_sizes h_t_tableOf h_t_usedBy h_t_taken h_t_sixOf t_texted t_above t_below t_at t_start t_number t_went t_h t_w t_next t_came t_deep) [(0, .ref h_t), (1, .int v1), (2, .int v2), (3, .int v3)] 4 [] := by
    intro n
    induction n with
    | zero => intro t_next t_came t_deep v1 v2 v3 hf; rw [f_X12_longestOf_4] at hf; cases hf
    | succ n ih =>
      intro t_next t_came t_deep v1 v2 v3 hf
      rw [f_X12_longestOf_4] at hf
      refine g_iload_n X dX12_longestOf_4 rfl 3 rfl ?_
      refine g_aload_n X dX12_longestOf_5 rfl 0 rfl ?_
      refine g_get (C := RX12) (T := TX12) (N := 22) (ci := 8) (v := (.ref h_t_w)) X iw_X12_longestOf_X12 0 rfl rfl 0 (by decide) lk_X12_longestOf_7 rfl dX12_longestOf_6 ?_
      refine g_iconst (v := 0) X dX12_longestOf_9 (by decide) ?_
      obtain ⟨hb_1, hf⟩ := chk_out hf
      refine g_iald X 1 rfl hb_1 dX12_longestOf_10 ?_
      refine g_icmp_ge (tgt := 52) X dX12_longestOf_11 (by decide) (fun hc_2 => ?_) (fun hc_2 => ?_)
      · replace hf := ite_t hc_2 hf
        refine g_iload_n X dX12_longestOf_52 rfl 2 rfl ?_
        exact hR _ _ _ _ dX12_longestOf_53 (kV_in (u := (v2, t_next, t_came, t_deep)) hf)
      · replace hf := ite_f hc_2 hf
        refine g_iload_n X dX12_longestOf_14 rfl 1 rfl ?_
        refine g_iload_n X dX12_longestOf_15 rfl 3 rfl ?_
        obtain ⟨r_3, hk_4, hf⟩ := ob1_out hf
        refine g_cSR (st := []) (st1 := [.int r_3]) X (c_X12_has l D cI cZ v1 v3 _ hk_4) (Or.inl rfl) 2 gX12_longestOf_X12_has rfl hs_X12_has ⟨Nat.le_of_ble_eq_true rfl, Nat.le_of_ble_eq_true rfl⟩ rfl rfl (Nat.le_of_ble_eq_true rfl) ⟨rfl, rfl⟩ (Nat.zero_le _) (Nat.zero_le _) dX12_longestOf_16 [] rfl rfl rfl ?_
        refine g_if_eq (tgt := 30) X dX12_longestOf_19 (by decide) (fun hc_5 => ?_) (fun hc_5 => ?_)
        · replace hf := ite_t hc_5 hf
          refine g_iconst (v := 0) X dX12_longestOf_30 (by decide) ?_
          exact J31 (f_X12_longestOf_4 t_w n) ih t_next t_came t_deep v1 v2 v3 0 hf
        · replace hf := ite_f hc_5 hf
          refine g_aload_n X dX12_longestOf_22 rfl 0 rfl ?_
          refine g_iload_n X dX12_longestOf_23 rfl 3 rfl ?_
          obtain ⟨r_6, t_next_7, t_came_8, t_deep_9, hk_10, hf⟩ := ob4_out hf
          refine g_cVW (st := []) (st1 := [.int r_6]) (C := RX12) (ci := 8) (q0 := 0) (ws' := (wd_X12_longestOf cI cZ h_t h_t_w h_t_isKept h_t_text h_t_statuses h_t_ways h_t_feels h_t_next h_t_came h_t_deep h_t_sizes h_t_tableOf h_t_usedBy h_t_taken h_t_sixOf t_texted t_above t_below t_at t_start t_number t_went t_h t_w t_next_7 t_came_8 t_deep_9)) X (c_X12_longFrom l D cI cZ h_t h_t_w h_t_isKept h_t_text h_t_statuses h_t_ways h_t_feels h_t_next h_t_came h_t_deep h_t_sizes h_t_tableOf h_t_usedBy h_t_taken h_t_sixOf t_texted t_above t_below t_at t_start t_number t_went t_h t_w t_next t_came t_deep v3 _ hk_10) (Or.inl rfl) 1 gX12_longestOf_X12_longFrom rfl hv_X12_longFrom ⟨Nat.le_of_ble_eq_true rfl, Nat.le_of_ble_eq_true rfl⟩ rfl rfl (Nat.le_of_ble_eq_true rfl) ⟨rfl, rfl⟩ (Nat.zero_le _) (Nat.zero_le _) rfl rfl rfl dX12_longestOf_24 [0, 1, 2, 3, 4] rfl rfl [] rfl rfl (by decide) [0, 1, 2, 3, 4] rfl rfl rfl ?_
          refine g_goto (tgt := 31) X dX12_longestOf_27 (by decide) ?_
          exact J31 (f_X12_longestOf_4 t_w n) ih t_next_7 t_came_8 t_deep_9 v1 v2 v3 r_6 hf
  refine g_iconst (v := 0) X dX12_longestOf_0 (by decide) ?_
  refine g_istore_n (lv' := [(0, .ref h_t), (1, .int v1), (2, .int 0)]) X dX12_longestOf_1 rfl (Nat.le_of_ble_eq_true rfl) [1, 2, 0] rfl ?_
  refine g_iconst (v := 0) X dX12_longestOf_2 (by decide) ?_
  refine g_istore_n (lv' := [(0, .ref h_t), (1, .int v1), (2, .int 0), (3, .int 0)]) X dX12_longestOf_3 rfl (Nat.le_of_ble_eq_true rfl) [1, 2, 3, 0] rfl ?_
  exact J4 FU t_next t_came t_deep v1 0 0 hf
def wd_X12_string (cI cZ : ClassId) (h_t : Nat) (h_t_w : Nat) (h_t_isKept : Nat) (h_t_text : Nat) (h_t_statuses : Nat) (h_t_ways : Nat) (h_t_feels : Nat) (h_t_next : Nat) (h_t_came : Nat) (h_t_deep : Nat) (h_t_sizes : Nat) (h_t_tableOf : Nat) (h_t_usedBy : Nat) (h_t_taken : Nat) (h_t_sixOf : Nat) (t_texted : Int32) (t_above : Int64) (t_below : Int64) (t_at : Int32) (t_start : Int32) (t_number : Int32) (t_went : Int32) (t_h : Int64) (t_w : (Nat → Int32)) (t_statuses : (Nat → Int32)) (t_next : (Nat → Int32)) (t_came : (Nat → Int32)) (t_deep : (Nat → Int32)) : va_W := [(h_t, .inr (8, [.ref h_t_w, .ref h_t_isKept, .ref h_t_text, .int t_texted, .long t_above, .long t_below, .ref h_t_statuses, .int t_at, .int t_start, .int t_number, .ref h_t_ways, .int t_went, .ref h_t_feels, .ref h_t_next, .ref h_t_came, .ref h_t_deep, .ref h_t_sizes, .ref h_t_tableOf, .ref h_t_usedBy, .ref h_t_taken, .ref h_t_sixOf, .long t_h])), (h_t_w, .inl (cI, 1251, .inl t_w)), (h_t_statuses, .inl (cI, 3, .inl t_statuses)), (h_t_next, .inl (cI, 7, .inl t_next)), (h_t_came, .inl (cI, 7, .inl t_came)), (h_t_deep, .inl (cI, 7, .inl t_deep))]
abbrev rm_X12_string : Room := { frames := 4, cells := 0, slots := 0, locals := 92 }
theorem hv_X12_string : yX12_string.cls = RX12 ∧ yX12_string.cls ≠ "java/lang/invoke/MethodHandle" ∧ yX12_string.cls ≠ "java/lang/invoke/VarHandle" ∧ (parseMethodDescriptor yX12_string.desc).map (fun d => d.parameters.length) = some 2 := by decide +kernel
theorem lk_X12_string_245 : Cond.constantLong RX12 245 3 ∈ wsX12_string := by decide +kernel
set_option maxHeartbeats 4000000 in
set_option maxRecDepth 100000 in
theorem c_X12_string (l : Launch) (D : va_G) (cI cZ : ClassId) (h_t : Nat) (h_t_w : Nat) (h_t_isKept : Nat) (h_t_text : Nat) (h_t_statuses : Nat) (h_t_ways : Nat) (h_t_feels : Nat) (h_t_next : Nat) (h_t_came : Nat) (h_t_deep : Nat) (h_t_sizes : Nat) (h_t_tableOf : Nat) (h_t_usedBy : Nat) (h_t_taken : Nat) (h_t_sixOf : Nat) (t_texted : Int32) (t_above : Int64) (t_below : Int64) (t_at : Int32) (t_start : Int32) (t_number : Int32) (t_went : Int32) (t_h : Int64) (t_w : (Nat → Int32)) (t_statuses : (Nat → Int32)) (t_next : (Nat → Int32)) (t_came : (Nat → Int32)) (t_deep : (Nat → Int32)) (v1 : Int32) (v2 : Int32) (res : Int32 × (Nat → Int32) × (Nat → Int32) × (Nat → Int32) × (Nat → Int32)) (hf : f_X12_string t_w t_statuses t_next t_came t_deep v1 v2 = some res) : MetG l yX12_string wsX12_string rm_X12_string D cI cZ none [.ref h_t, .int v1, .int v2] (wd_X12_string cI cZ h_t h_t_w h_t_isKept h_t_text h_t_statuses h_t_ways h_t_feels h_t_next h_t_came h_t_deep h_t_sizes h_t_tableOf h_t_usedBy h_t_taken h_t_sixOf t_texted t_above t_below t_at t_start t_number t_went t_h t_w t_statuses t_next t_came t_deep) (kV res (fun u => some (.int u.1)) (fun u => (wd_X12_string cI cZ h_t h_t_w h_t_isKept h_t_text h_t_statuses h_t_ways h_t_feels h_t_next h_t_came h_t_deep h_t_sizes h_t_tableOf h_t_usedBy h_t_taken h_t_sixOf t_texted t_above t_below t_at t_start t_number t_went t_h t_w (u.2.1) (u.2.2.1) (u.2.2.2.1) (u.2.2.2.2)))) := by
  refine metG_of (cc := cX12_string) (maxL := 4) (ret := (some .int)) (own := RX12) (lv0 := [(0, .ref h_t), (1, .int v1), (2, .int v2)]) (ini := false) (by decide) rfl (Nat.le_of_ble_eq_true rfl) rfl rfl (fun h => by cases h) (fun G X hR => ?_)
  replace hR := rt_int hR
  unfold f_X12_string at hf
  have J20 : ∀ (t_statuses : (Nat → Int32)) (t_next : (Nat → Int32)) (t_came : (Nat → Int32)) (t_deep : (Nat → Int32)), f_X12_string_20 t_w t_statuses t_next t_came t_deep = some res → G 0 0 (wd_X12_string cI cZ h_t h_t_w h_t_isKept h_t_text h_t_statuses h_t_ways h_t_feels h_t_next h_t_came h_t_deep h_t_sizes h_t_tableOf h_t_usedBy h_t_taken h_t_sixOf t_texted t_above t_below t_at t_start t_number t_went t_h t_w t_statuses t_next t_came t_deep) [(0, .ref h_t)] 20 [] := by
    intro t_statuses t_next t_came t_deep hf
    unfold f_X12_string_20 at hf
    refine g_aload_n X dX12_string_20 rfl 0 rfl ?_
    refine g_sipush (v := (-1000)) X dX12_string_21 (by decide) ?_
    obtain ⟨r_1, t_statuses_2, hk_3, hf⟩ := ob2_out hf
    refine g_cVW (st := []) (st1 := [.int r_1]) (C := RX12) (ci := 8) (q0 := 0) (ws' := (wd_X12_string cI cZ h_t h_t_w h_t_isKept h_t_text h_t_statuses h_t_ways h_t_feels h_t_next h_t_came h_t_deep h_t_sizes h_t_tableOf h_t_usedBy h_t_taken h_t_sixOf t_texted t_above t_below t_at t_start t_number t_went t_h t_w t_statuses_2 t_next t_came t_deep)) X (c_X12_bad l D cI cZ h_t h_t_w h_t_isKept h_t_text h_t_statuses h_t_ways h_t_feels h_t_next h_t_came h_t_deep h_t_sizes h_t_tableOf h_t_usedBy h_t_taken h_t_sixOf t_texted t_above t_below t_at t_start t_number t_went t_h t_statuses (-1000) _ hk_3) (Or.inl rfl) 1 gX12_string_X12_bad rfl hv_X12_bad ⟨Nat.le_of_ble_eq_true rfl, Nat.le_of_ble_eq_true rfl⟩ rfl rfl (Nat.le_of_ble_eq_true rfl) ⟨rfl, rfl⟩ (Nat.zero_le _) (Nat.zero_le _) rfl rfl rfl dX12_string_24 [0, 2] rfl rfl [1, 3, 4, 5] rfl rfl (by decide) [4, 0, 5, 1, 2, 3] rfl rfl rfl ?_
    exact hR _ _ _ _ dX12_string_27 (kV_in (u := (r_1, t_statuses_2, t_next, t_came, t_deep)) hf)
  refine g_aload_n X dX12_string_0 rfl 0 rfl ?_
  refine g_iload_n X dX12_string_1 rfl 1 rfl ?_
  obtain ⟨r_4, hk_5, hf⟩ := ob1_out hf
  refine g_cVR (st := []) (st1 := [.int r_4]) (C := RX12) (ci := 8) (q0 := 0) X (c_X12_isClerk l D cI cZ h_t h_t_w h_t_isKept h_t_text h_t_statuses h_t_ways h_t_feels h_t_next h_t_came h_t_deep h_t_sizes h_t_tableOf h_t_usedBy h_t_taken h_t_sixOf t_texted t_above t_below t_at t_start t_number t_went t_h t_w v1 _ hk_5) (Or.inl rfl) 1 gX12_string_X12_isClerk rfl hv_X12_isClerk ⟨Nat.le_of_ble_eq_true rfl, Nat.le_of_ble_eq_true rfl⟩ rfl rfl (Nat.le_of_ble_eq_true rfl) ⟨rfl, rfl⟩ (Nat.zero_le _) (Nat.zero_le _) rfl rfl rfl dX12_string_2 [0, 1] rfl rfl rfl ?_
  refine g_if_eq (tgt := 20) X dX12_string_5 (by decide) (fun hc_6 => ?_) (fun hc_6 => ?_)
  · replace hf := ite_t hc_6 hf
    refine g_lv X (lv' := [(0, .ref h_t)]) [0] rfl ?_
    exact J20 t_statuses t_next t_came t_deep hf
  · replace hf := ite_f hc_6 hf
    refine g_iload_n X dX12_string_8 rfl 2 rfl ?_
    refine g_i2l X dX12_string_9 ?_
    refine g_lconst (v := 0) X dX12_string_10 (by decide) ?_
    refine g_ldc2 (v := 3) X dX12_string_11 lk_X12_string_245 ?_
    obtain ⟨r_7, hk_8, hf⟩ := ob1_out hf
    refine g_cSR (st := []) (st1 := [.int r_7]) X (c_X12_in l D cI cZ (v2.toInt64) 0 3 _ hk_8) (Or.inl rfl) 3 gX12_string_X12_in rfl hs_X12_in ⟨Nat.le_of_ble_eq_true rfl, Nat.le_of_ble_eq_true rfl⟩ rfl rfl (Nat.le_of_ble_eq_true rfl) ⟨rfl, rfl⟩ (Nat.zero_le _) (Nat.zero_le _) dX12_string_14 [] rfl rfl rfl ?_
    refine g_if_ne (tgt := 28) X dX12_string_17 (by decide) (fun hc_9 => ?_) (fun hc_9 => ?_)
    · replace hf := ite_f hc_9 hf
      refine g_aload_n X dX12_string_28 rfl 0 rfl ?_
      refine g_iconst (v := 0) X dX12_string_29 (by decide) ?_
      refine g_iload_n X dX12_string_30 rfl 1 rfl ?_
      obtain ⟨r_10, hk_11, hf⟩ := ob1_out hf
      refine g_cVR (st := []) (st1 := [.int r_10]) (C := RX12) (ci := 8) (q0 := 0) X (c_X12_stringOf l D cI cZ h_t h_t_w h_t_isKept h_t_text h_t_statuses h_t_ways h_t_feels h_t_next h_t_came h_t_deep h_t_sizes h_t_tableOf h_t_usedBy h_t_taken h_t_sixOf t_texted t_above t_below t_at t_start t_number t_went t_h t_w 0 v1 _ hk_11) (Or.inl rfl) 2 gX12_string_X12_stringOf rfl hv_X12_stringOf ⟨Nat.le_of_ble_eq_true rfl, Nat.le_of_ble_eq_true rfl⟩ rfl rfl (Nat.le_of_ble_eq_true rfl) ⟨rfl, rfl⟩ (Nat.zero_le _) (Nat.zero_le _) rfl rfl rfl dX12_string_31 [0, 1] rfl rfl rfl ?_
      refine g_istore_n (lv' := [(0, .ref h_t), (1, .int v1), (2, .int v2), (3, .int r_10)]) X dX12_string_34 rfl (Nat.le_of_ble_eq_true rfl) [1, 2, 3, 0] rfl ?_
      refine g_iload_n X dX12_string_35 rfl 2 rfl ?_
      refine g_if_ne (tgt := 43) X dX12_string_36 (by decide) (fun hc_12 => ?_) (fun hc_12 => ?_)
      · replace hf := ite_f hc_12 hf
        refine g_iload_n X dX12_string_43 rfl 2 rfl ?_
        refine g_iconst (v := 1) X dX12_string_44 (by decide) ?_
        refine g_icmp_ne (tgt := 57) X dX12_string_45 (by decide) (fun hc_13 => ?_) (fun hc_13 => ?_)
        · replace hf := ite_f hc_13 hf
          refine g_iload_n X dX12_string_57 rfl 2 rfl ?_
          refine g_iconst (v := 2) X dX12_string_58 (by decide) ?_
          refine g_icmp_ne (tgt := 70) X dX12_string_59 (by decide) (fun hc_14 => ?_) (fun hc_14 => ?_)
          · replace hf := ite_f hc_14 hf
            refine g_aload_n X dX12_string_70 rfl 0 rfl ?_
            refine g_iconst (v := 0) X dX12_string_71 (by decide) ?_
            refine g_iload_n X dX12_string_72 rfl 3 rfl ?_
            obtain ⟨r_15, hk_16, hf⟩ := ob1_out hf
            refine g_cVR (st := []) (st1 := [.int r_15]) (C := RX12) (ci := 8) (q0 := 0) X (c_X12_drawnBy l D cI cZ h_t h_t_w h_t_isKept h_t_text h_t_statuses h_t_ways h_t_feels h_t_next h_t_came h_t_deep h_t_sizes h_t_tableOf h_t_usedBy h_t_taken h_t_sixOf t_texted t_above t_below t_at t_start t_number t_went t_h t_w 0 r_10 _ hk_16) (Or.inl rfl) 2 gX12_string_X12_drawnBy rfl hv_X12_drawnBy ⟨Nat.le_of_ble_eq_true rfl, Nat.le_of_ble_eq_true rfl⟩ rfl rfl (Nat.le_of_ble_eq_true rfl) ⟨rfl, rfl⟩ (Nat.zero_le _) (Nat.zero_le _) rfl rfl rfl dX12_string_73 [0, 1] rfl rfl rfl ?_
            exact hR _ _ _ _ dX12_string_76 (kV_in (u := (r_15, t_statuses, t_next, t_came, t_deep)) hf)
          · replace hf := ite_t hc_14 hf
            refine g_aload_n X dX12_string_62 rfl 0 rfl ?_
            refine g_iload_n X dX12_string_63 rfl 3 rfl ?_
            obtain ⟨r_17, t_next_18, t_came_19, t_deep_20, hk_21, hf⟩ := ob4_out hf
            refine g_cVW (st := []) (st1 := [.int r_17]) (C := RX12) (ci := 8) (q0 := 0) (ws' := (wd_X12_string cI cZ h_t h_t_w h_t_isKept h_t_text h_t_statuses h_t_ways h_t_feels h_t_next h_t_came h_t_deep h_t_sizes h_t_tableOf h_t_usedBy h_t_taken h_t_sixOf t_texted t_above t_below t_at t_start t_number t_went t_h t_w t_statuses t_next_18 t_came_19 t_deep_20)) X (c_X12_longestOf l D cI cZ h_t h_t_w h_t_isKept h_t_text h_t_statuses h_t_ways h_t_feels h_t_next h_t_came h_t_deep h_t_sizes h_t_tableOf h_t_usedBy h_t_taken h_t_sixOf t_texted t_above t_below t_at t_start t_number t_went t_h t_w t_next t_came t_deep r_10 _ hk_21) (Or.inl rfl) 1 gX12_string_X12_longestOf rfl hv_X12_longestOf ⟨Nat.le_of_ble_eq_true rfl, Nat.le_of_ble_eq_true rfl⟩ rfl rfl (Nat.le_of_ble_eq_true rfl) ⟨rfl, rfl⟩ (Nat.zero_le _) (Nat.zero_le _) rfl rfl rfl dX12_string_64 [0, 1, 3, 4, 5] rfl rfl [2] rfl rfl (by decide) [1, 2, 0, 3, 4, 5] rfl rfl rfl ?_
            refine g_goto (tgt := 76) X dX12_string_67 (by decide) ?_
            exact hR _ _ _ _ dX12_string_76 (kV_in (u := (r_17, t_statuses, t_next_18, t_came_19, t_deep_20)) hf)
        · replace hf := ite_t hc_13 hf
          refine g_aload_n X dX12_string_48 rfl 0 rfl ?_
          refine g_iconst (v := 0) X dX12_string_49 (by decide) ?_
          refine g_iload_n X dX12_string_50 rfl 3 rfl ?_
          obtain ⟨r_22, hk_23, hf⟩ := ob1_out hf
          refine g_cVR (st := []) (st1 := [.int r_22]) (C := RX12) (ci := 8) (q0 := 0) X (c_X12_weighs l D cI cZ h_t h_t_w h_t_isKept h_t_text h_t_statuses h_t_ways h_t_feels h_t_next h_t_came h_t_deep h_t_sizes h_t_tableOf h_t_usedBy h_t_taken h_t_sixOf t_texted t_above t_below t_at t_start t_number t_went t_h t_w 0 r_10 _ hk_23) (Or.inl rfl) 2 gX12_string_X12_weighs rfl hv_X12_weighs ⟨Nat.le_of_ble_eq_true rfl, Nat.le_of_ble_eq_true rfl⟩ rfl rfl (Nat.le_of_ble_eq_true rfl) ⟨rfl, rfl⟩ (Nat.zero_le _) (Nat.zero_le _) rfl rfl rfl dX12_string_51 [0, 1] rfl rfl rfl ?_
          refine g_goto (tgt := 76) X dX12_string_54 (by decide) ?_
          exact hR _ _ _ _ dX12_string_76 (kV_in (u := (r_22, t_statuses, t_next, t_came, t_deep)) hf)
      · replace hf := ite_t hc_12 hf
        refine g_iload_n X dX12_string_39 rfl 3 rfl ?_
        refine g_goto (tgt := 76) X dX12_string_40 (by decide) ?_
        exact hR _ _ _ _ dX12_string_76 (kV_in (u := (r_10, t_statuses, t_next, t_came, t_deep)) hf)
    · replace hf := ite_t hc_9 hf
      refine g_lv X (lv' := [(0, .ref h_t)]) [0] rfl ?_
      exact J20 t_statuses t_next t_came t_deep hf
def wd_X12_hooksOf (cI cZ : ClassId) (h_t : Nat) (h_t_w : Nat) (h_t_isKept : Nat) (h_t_text : Nat) (h_t_statuses : Nat) (h_t_ways : Nat) (h_t_feels : Nat) (h_t_next : Nat) (h_t_came : Nat) (h_t_deep : Nat) (h_t_sizes : Nat) (h_t_tableOf : Nat) (h_t_usedBy : Nat) (h_t_taken : Nat) (h_t_sixOf : Nat) (t_texted : Int32) (t_above : Int64) (t_below : Int64) (t_at : Int32) (t_start : Int32) (t_number : Int32) (t_went : Int32) (t_h : Int64) (t_w : (Nat → Int32)) : va_W := [(h_t, .inr (8, [.ref h_t_w, .ref h_t_isKept, .ref h_t_text, .int t_texted, .long t_above, .long t_below, .ref h_t_statuses, .int t_at, .int t_start, .int t_number, .ref h_t_ways, .int t_went, .ref h_t_feels, .ref h_t_next, .ref h_t_came, .ref h_t_deep, .ref h_t_sizes, .ref h_t_tableOf, .ref h_t_usedBy, .ref h_t_taken, .ref h_t_sixOf, .long t_h])), (h_t_w, .inl (cI, 1251, .inl t_w))]
abbrev rm_X12_hooksOf : Room := { frames := 1, cells := 0, slots := 0, locals := 24 }
theorem hv_X12_hooksOf : yX12_hooksOf.cls = RX12 ∧ yX12_hooksOf.cls ≠ "java/lang/invoke/MethodHandle" ∧ yX12_hooksOf.cls ≠ "java/lang/invoke/VarHandle" ∧ (parseMethodDescriptor yX12_hooksOf.desc).map (fun d => d.parameters.length) = some 1 := by decide +kernel
theorem iw_X12_hooksOf_X12 : ∀ w ∈ u_ws RX12 TX12 22, w ∈ wsX12_hooksOf := by decide +kernel
theorem lk_X12_hooksOf_7 : Cond.fieldLink RX12 7 "ClerkChainsModel" "w" "[I" ∈ wsX12_hooksOf := by decide +kernel
set_option maxHeartbeats 4000000 in
set_option maxRecDepth 100000 in
theorem c_X12_hooksOf (l : Launch) (D : va_G) (cI cZ : ClassId) (h_t : Nat) (h_t_w : Nat) (h_t_isKept : Nat) (h_t_text : Nat) (h_t_statuses : Nat) (h_t_ways : Nat) (h_t_feels : Nat) (h_t_next : Nat) (h_t_came : Nat) (h_t_deep : Nat) (h_t_sizes : Nat) (h_t_tableOf : Nat) (h_t_usedBy : Nat) (h_t_taken : Nat) (h_t_sixOf : Nat) (t_texted : Int32) (t_above : Int64) (t_below : Int64) (t_at : Int32) (t_start : Int32) (t_number : Int32) (t_went : Int32) (t_h : Int64) (t_w : (Nat → Int32)) (v1 : Int32) (res : Int32) (hf : f_X12_hooksOf t_w v1 = some res) : MetR l yX12_hooksOf wsX12_hooksOf rm_X12_hooksOf D cI cZ none [.ref h_t, .int v1] (wd_X12_hooksOf cI cZ h_t h_t_w h_t_isKept h_t_text h_t_statuses h_t_ways h_t_feels h_t_next h_t_came h_t_deep h_t_sizes h_t_tableOf h_t_usedBy h_t_taken h_t_sixOf t_texted t_above t_below t_at t_start t_number t_went t_h t_w) (kR res (fun u => some (.int u))) := by
  refine metR_of (cc := cX12_hooksOf) (maxL := 2) (ret := (some .int)) (own := RX12) (lv0 := [(0, .ref h_t), (1, .int v1)]) (by decide) rfl (Nat.le_of_ble_eq_true rfl) rfl rfl (fun G X hR => ?_)
  replace hR := rt_int hR
  unfold f_X12_hooksOf at hf
  have J24 : ∀ (s0 : Int32) (s1 : Int32), f_X12_hooksOf_24 t_w s0 s1 = some res → G 0 0 (wd_X12_hooksOf cI cZ h_t h_t_w h_t_isKept h_t_text h_t_statuses h_t_ways h_t_feels h_t_next h_t_came h_t_deep h_t_sizes h_t_tableOf h_t_usedBy h_t_taken h_t_sixOf t_texted t_above t_below t_at t_start t_number t_went t_h t_w) [] 24 [.int s1, .int s0] := by
    intro s0 s1 hf
    unfold f_X12_hooksOf_24 at hf
    refine g_iadd X dX12_hooksOf_24 ?_
    exact hR _ _ _ _ dX12_hooksOf_25 (kR_in (u := (s0 + s1)) hf)
  refine g_aload_n X dX12_hooksOf_0 rfl 0 rfl ?_
  refine g_iconst (v := 0) X dX12_hooksOf_1 (by decide) ?_
  refine g_iload_n X dX12_hooksOf_2 rfl 1 rfl ?_
  obtain ⟨r_1, hk_2, hf⟩ := ob1_out hf
  refine g_cVR (st := []) (st1 := [.int r_1]) (C := RX12) (ci := 8) (q0 := 0) X (c_X12_onIt l D cI cZ h_t h_t_w h_t_isKept h_t_text h_t_statuses h_t_ways h_t_feels h_t_next h_t_came h_t_deep h_t_sizes h_t_tableOf h_t_usedBy h_t_taken h_t_sixOf t_texted t_above t_below t_at t_start t_number t_went t_h t_w 0 v1 _ hk_2) (Or.inl rfl) 2 gX12_hooksOf_X12_onIt rfl hv_X12_onIt ⟨Nat.le_of_ble_eq_true rfl, Nat.le_of_ble_eq_true rfl⟩ rfl rfl (Nat.le_of_ble_eq_true rfl) ⟨rfl, rfl⟩ (Nat.zero_le _) (Nat.zero_le _) rfl rfl rfl dX12_hooksOf_3 [0, 1] rfl rfl rfl ?_
  refine g_aload_n X dX12_hooksOf_6 rfl 0 rfl ?_
  refine g_get (C := RX12) (T := TX12) (N := 22) (ci := 8) (v := (.ref h_t_w)) X iw_X12_hooksOf_X12 0 rfl rfl 0 (by decide) lk_X12_hooksOf_7 rfl dX12_hooksOf_7 ?_
  refine g_bipush (v := 31) X dX12_hooksOf_10 (by decide) ?_
  refine g_iload_n X dX12_hooksOf_12 rfl 1 rfl ?_
  refine g_iadd X dX12_hooksOf_13 ?_
  obtain ⟨hb_3, hf⟩ := chk_out hf
  refine g_iald X 1 rfl hb_3 dX12_hooksOf_14 ?_
  refine g_iconst (v := (-1)) X dX12_hooksOf_15 (by decide) ?_
  refine g_icmp_ne (tgt := 23) X dX12_hooksOf_16 (by decide) (fun hc_4 => ?_) (fun hc_4 => ?_)
  · replace hf := ite_f hc_4 hf
    refine g_iconst (v := 1) X dX12_hooksOf_23 (by decide) ?_
    refine g_lv X (lv' := []) [] rfl ?_
    exact J24 r_1 1 hf
  · replace hf := ite_t hc_4 hf
    refine g_iconst (v := 0) X dX12_hooksOf_19 (by decide) ?_
    refine g_goto (tgt := 24) X dX12_hooksOf_20 (by decide) ?_
    refine g_lv X (lv' := []) [] rfl ?_
    exact J24 r_1 0 hf
def wd_X12_strings (cI cZ : ClassId) (h_t : Nat) (h_t_w : Nat) (h_t_isKept : Nat) (h_t_text : Nat) (h_t_statuses : Nat) (h_t_ways : Nat) (h_t_feels : Nat) (h_t_next : Nat) (h_t_came : Nat) (h_t_deep : Nat) (h_t_sizes : Nat) (h_t_tableOf : Nat) (h_t_usedBy : Nat) (h_t_taken : Nat) (h_t_sixOf : Nat) (t_texted : Int32) (t_above : Int64) (t_below : Int64) (t_at : Int32) (t_start : Int32) (t_number : Int32) (t_went : Int32) (t_h : Int64) (t_w : (Nat → Int32)) (t_statuses : (Nat → Int32)) : va_W := [(h_t, .inr (8, [.ref h_t_w, .ref h_t_isKept, .ref h_t_text, .int t_texted, .long t_above, .long t_below, .ref h_t_statuses, .int t_at, .int t_start, .int t_number, .ref h_t_ways, .int t_went, .ref h_t_feels, .ref h_t_next, .ref h_t_came, .ref h_t_deep, .ref h_t_sizes, .ref h_t_tableOf, .ref h_t_usedBy, .ref h_t_taken, .ref h_t_sixOf, .long t_h])), (h_t_w, .inl (cI, 1251, .inl t_w)), (h_t_statuses, .inl (cI, 3, .inl t_statuses))]
abbrev rm_X12_strings : Room := { frames := 2, cells := 0, slots := 0, locals := 45 }
theorem hv_X12_strings : yX12_strings.cls = RX12 ∧ yX12_strings.cls ≠ "java/lang/invoke/MethodHandle" ∧ yX12_strings.cls ≠ "java/lang/invoke/VarHandle" ∧ (parseMethodDescriptor yX12_strings.desc).map (fun d => d.parameters.length) = some 1 := by decide +kernel
theorem iw_X12_strings_X12 : ∀ w ∈ u_ws RX12 TX12 22, w ∈ wsX12_strings := by decide +kernel
theorem lk_X12_strings_7 : Cond.fieldLink RX12 7 "ClerkChainsModel" "w" "[I" ∈ wsX12_strings := by decide +kernel
set_option maxHeartbeats 4000000 in
set_option maxRecDepth 100000 in
theorem c_X12_strings (l : Launch) (D : va_G) (cI cZ : ClassId) (h_t : Nat) (h_t_w : Nat) (h_t_isKept : Nat) (h_t_text : Nat) (h_t_statuses : Nat) (h_t_ways : Nat) (h_t_feels : Nat) (h_t_next : Nat) (h_t_came : Nat) (h_t_deep : Nat) (h_t_sizes : Nat) (h_t_tableOf : Nat) (h_t_usedBy : Nat) (h_t_taken : Nat) (h_t_sixOf : Nat) (t_texted : Int32) (t_above : Int64) (t_below : Int64) (t_at : Int32) (t_start : Int32) (t_number : Int32) (t_went : Int32) (t_h : Int64) (t_w : (Nat → Int32)) (t_statuses : (Nat → Int32)) (v1 : Int32) (res : Int32 × (Nat → Int32)) (hf : f_X12_strings t_w t_statuses v1 = some res) : MetG l yX12_strings wsX12_strings rm_X12_strings D cI cZ none [.ref h_t, .int v1] (wd_X12_strings cI cZ h_t h_t_w h_t_isKept h_t_text h_t_statuses h_t_ways h_t_feels h_t_next h_t_came h_t_deep h_t_sizes h_t_tableOf h_t_usedBy h_t_taken h_t_sixOf t_texted t_above t_below t_at t_start t_number t_went t_h t_w t_statuses) (kV res (fun u => some (.int u.1)) (fun u => (wd_X12_strings cI cZ h_t h_t_w h_t_isKept h_t_text h_t_statuses h_t_ways h_t_feels h_t_next h_t_came h_t_deep h_t_sizes h_t_tableOf h_t_usedBy h_t_taken h_t_sixOf t_texted t_above t_below t_at t_start t_number t_went t_h t_w (u.2)))) := by
  refine metG_of (cc := cX12_strings) (maxL := 5) (ret := (some .int)) (own := RX12) (lv0 := [(0, .ref h_t), (1, .int v1)]) (ini := false) (by decide) rfl (Nat.le_of_ble_eq_true rfl) rfl rfl (fun h => by cases h) (fun G X hR => ?_)
  replace hR := rt_int hR
  unfold f_X12_strings at hf
  have J76 : ∀ (k24 : (Nat → Int32) → Int32 → Int32 → Int32 → Int32 → Option (Int32 × (Nat → Int32))) (hk24 : ∀ (t_statuses : (Nat → Int32)) (v1 : Int32) (v2 : Int32) (v3 : Int32) (v4 : Int32), k24 t_statuses v1 v2 v3 v4 = some res → G 0 0 (wd_X12_strings cI cZ h_t h_t_w h_t_isKept h_t_text h_t_statuses h_t_ways h_t_feels h_t_next h_t_came h_t_deep h_t_sizes h_t_tableOf h_t_usedBy h_t_taken h_t_sixOf t_texted t_above t_below t_at t_start t_number t_went t_h t_w t_statuses) [(0, .ref h_t), (1, .int v1), (2, .int v2), (3, .int v3), (4, .int v4)] 24 []) (t_statuses : (Nat → Int32)) (v1 : Int32) (v2 : Int32) (v4 : Int32) (s0 : Int32) (s1 : Int32), f_X12_strings_76 t_w k24 t_statuses v1 v2 v4 s0 s1 = some res → G 0 0 (wd_X12_strings cI cZ h_t h_t_w h_t_isKept h_t_text h_t_statuses h_t_ways h_t_feels h_t_next h_t_came h_t_deep h_t_sizes h_t_tableOf h_t_usedBy h_t_taken h_t_sixOf t_texted t_above t_below t_at t_start t_number t_went t_h t_w t_statuses) [(0, .ref h_t), (1, .int v1), (2, .int v2), (4, .int v4)] 76 [.int s1, .int s0] := by
    intro k24 hk24 t_statuses v1 v2 v4 s0 s1 hf
    unfold f_X12_strings_76 at hf
    refine g_ior X dX12_strings_76 ?_
    obtain ⟨v3_9, ev3_9, hf⟩ := bnd_out hf
    refine g_nmI X ev3_9 ?_
    refine g_istore_n (lv' := [(0, .ref h_t), (1, .int v1), (2, .int v2), (3, .int v3_9), (4, .int v4)]) X dX12_strings_77 rfl (Nat.le_of_ble_eq_true rfl) [1, 2, 3, 0, 4] rfl ?_
    obtain ⟨v4_10, ev4_10, hf⟩ := bnd_out hf
    refine g_iinc (v := v4_10) (lv' := [(0, .ref h_t), (1, .int v1), (2, .int v2), (3, .int v3_9), (4, .int v4_10)]) X dX12_strings_78 4 rfl (by rw [ev4_10]; rfl) (Nat.le_of_ble_eq_true rfl) [1, 2, 3, 4, 0] rfl ?_
    refine g_goto (tgt := 24) X dX12_strings_81 (by decide) ?_
    exact hk24 t_statuses v1 v2 v3_9 v4_10 hf
  have J55 : ∀ (k24 : (Nat → Int32) → Int32 → Int32 → Int32 → Int32 → Option (Int32 × (Nat → Int32))) (hk24 : ∀ (t_statuses : (Nat → Int32)) (v1 : Int32) (v2 : Int32) (v3 : Int32) (v4 : Int32), k24 t_statuses v1 v2 v3 v4 = some res → G 0 0 (wd_X12_strings cI cZ h_t h_t_w h_t_isKept h_t_text h_t_statuses h_t_ways h_t_feels h_t_next h_t_came h_t_deep h_t_sizes h_t_tableOf h_t_usedBy h_t_taken h_t_sixOf t_texted t_above t_below t_at t_start t_number t_went t_h t_w t_statuses) [(0, .ref h_t), (1, .int v1), (2, .int v2), (3, .int v3), (4, .int v4)] 24 []) (t_statuses : (Nat → Int32)) (v1 : Int32) (v3 : Int32) (v4 : Int32) (s0 : Int32) (s1 : Int32), f_X12_strings_55 t_w k24 t_statuses v1 v3 v4 s0 s1 = some res → G 0 0 (wd_X12_strings cI cZ h_t h_t_w h_t_isKept h_t_text h_t_statuses h_t_ways h_t_feels h_t_next h_t_came h_t_deep h_t_sizes h_t_tableOf h_t_usedBy h_t_taken h_t_sixOf t_texted t_above t_below t_at t_start t_number t_went t_h t_w t_statuses) [(0, .ref h_t), (1, .int v1), (3, .int v3), (4, .int v4)] 55 [.int s1, .int s0] := by
    intro k24 hk24 t_statuses v1 v3 v4 s0 s1 hf
    unfold f_X12_strings_55 at hf
    refine g_iadd X dX12_strings_55 ?_
    obtain ⟨v2_5, ev2_5, hf⟩ := bnd_out hf
    refine g_nmI X ev2_5 ?_
    refine g_istore_n (lv' := [(0, .ref h_t), (1, .int v1), (2, .int v2_5), (3, .int v3), (4, .int v4)]) X dX12_strings_56 rfl (Nat.le_of_ble_eq_true rfl) [1, 2, 0, 3, 4] rfl ?_
    refine g_iload_n X dX12_strings_57 rfl 3 rfl ?_
    refine g_aload_n X dX12_strings_58 rfl 0 rfl ?_
    refine g_iload X dX12_strings_59 4 rfl ?_
    obtain ⟨r_6, hk_7, hf⟩ := ob1_out hf
    refine g_cVR (st := [.int v3]) (st1 := [.int r_6, .int v3]) (C := RX12) (ci := 8) (q0 := 0) X (c_X12_hooksOf l D cI cZ h_t h_t_w h_t_isKept h_t_text h_t_statuses h_t_ways h_t_feels h_t_next h_t_came h_t_deep h_t_sizes h_t_tableOf h_t_usedBy h_t_taken h_t_sixOf t_texted t_above t_below t_at t_start t_number t_went t_h t_w v4 _ hk_7) (Or.inl rfl) 1 gX12_strings_X12_hooksOf rfl hv_X12_hooksOf ⟨Nat.le_of_ble_eq_true rfl, Nat.le_of_ble_eq_true rfl⟩ rfl rfl (Nat.le_of_ble_eq_true rfl) ⟨rfl, rfl⟩ (Nat.zero_le _) (Nat.zero_le _) rfl rfl rfl dX12_strings_61 [0, 1] rfl rfl rfl ?_
    refine g_iconst (v := 2) X dX12_strings_64 (by decide) ?_
    refine g_icmp_ge (tgt := 75) X dX12_strings_65 (by decide) (fun hc_8 => ?_) (fun hc_8 => ?_)
    · replace hf := ite_t hc_8 hf
      refine g_iconst (v := 0) X dX12_strings_75 (by decide) ?_
      refine g_lv X (lv' := [(0, .ref h_t), (1, .int v1), (2, .int v2_5), (4, .int v4)]) [0, 1, 2, 4] rfl ?_
      exact J76 k24 hk24 t_statuses v1 v2_5 v4 v3 0 hf
    · replace hf := ite_f hc_8 hf
      refine g_iconst (v := 1) X dX12_strings_68 (by decide) ?_
      refine g_iload X dX12_strings_69 4 rfl ?_
      refine g_ishl X dX12_strings_71 ?_
      refine g_goto (tgt := 76) X dX12_strings_72 (by decide) ?_
      refine g_lv X (lv' := [(0, .ref h_t), (1, .int v1), (2, .int v2_5), (4, .int v4)]) [0, 1, 2, 4] rfl ?_
      exact J76 k24 hk24 t_statuses v1 v2_5 v4 v3 (1 <<< (v4 &&& 31)) hf
  have J84 : ∀ (t_statuses : (Nat → Int32)) (v1 : Int32) (v2 : Int32) (v3 : Int32), f_X12_strings_84 t_w t_statuses v1 v2 v3 = some res → G 0 0 (wd_X12_strings cI cZ h_t h_t_w h_t_isKept h_t_text h_t_statuses h_t_ways h_t_feels h_t_next h_t_came h_t_deep h_t_sizes h_t_tableOf h_t_usedBy h_t_taken h_t_sixOf t_texted t_above t_below t_at t_start t_number t_went t_h t_w t_statuses) [(1, .int v1), (2, .int v2), (3, .int v3)] 84 [] := by
    intro t_statuses v1 v2 v3 hf
    unfold f_X12_strings_84 at hf
    refine g_iload_n X dX12_strings_84 rfl 0 rfl ?_
    refine g_if_ne (tgt := 92) X dX12_strings_85 (by decide) (fun hc_11 => ?_) (fun hc_11 => ?_)
    · replace hf := ite_f hc_11 hf
      refine g_iload_n X dX12_strings_92 rfl 2 rfl ?_
      exact hR _ _ _ _ dX12_strings_93 (kV_in (u := (v3, t_statuses)) hf)
    · replace hf := ite_t hc_11 hf
      refine g_iload_n X dX12_strings_88 rfl 1 rfl ?_
      refine g_goto (tgt := 93) X dX12_strings_89 (by decide) ?_
      exact hR _ _ _ _ dX12_strings_93 (kV_in (u := (v2, t_statuses)) hf)
  have J24 : ∀ (n : Nat) (t_statuses : (Nat → Int32)) (v1 : Int32) (v2 : Int32) (v3 : Int32) (v4 : Int32), f_X12_strings_24 t_w n t_statuses v1 v2 v3 v4 = some res → G 0 0 (wd_X12_strings cI cZ h_t h_t_w h_t_isKept h_t_text h_t_statuses h_t_ways h_t_feels h_t_next h_t_came h_t_deep h_t_sizes h_t_tableOf h_t_usedBy h_t_taken h_t_sixOf t_texted t_above t_below t_at t_start t_number t_went t_h t_w t_statuses) [(0, .ref h_t), (1, .int v1), (2, .int v2), (3, .int v3), (4, .int v4)] 24 [] := by
    intro n
    induction n with
    | zero => intro t_statuses v1 v2 v3 v4 hf; rw [f_X12_strings_24] at hf; cases hf
    | succ n ih =>
      intro t_statuses v1 v2 v3 v4 hf
      rw [f_X12_strings_24] at hf
      refine g_iload X dX12_strings_24 4 rfl ?_
      refine g_aload_n X dX12_strings_26 rfl 0 rfl ?_
      refine g_get (C := RX12) (T := TX12) (N := 22) (ci := 8) (v := (.ref h_t_w)) X iw_X12_strings_X12 0 rfl rfl 0 (by decide) lk_X12_strings_7 rfl dX12_strings_27 ?_
      refine g_iconst (v := 0) X dX12_strings_30 (by decide) ?_
      obtain ⟨hb_1, hf⟩ := chk_out hf
      refine g_iald X 1 rfl hb_1 dX12_strings_31 ?_
      refine g_icmp_ge (tgt := 84) X dX12_strings_32 (by decide) (fun hc_2 => ?_) (fun hc_2 => ?_)
      · replace hf := ite_t hc_2 hf
        refine g_lv X (lv' := [(1, .int v1), (2, .int v2), (3, .int v3)]) [1, 2, 3] rfl ?_
        exact J84 t_statuses v1 v2 v3 hf
      · replace hf := ite_f hc_2 hf
        refine g_iload_n X dX12_strings_35 rfl 2 rfl ?_
        refine g_aload_n X dX12_strings_36 rfl 0 rfl ?_
        refine g_get (C := RX12) (T := TX12) (N := 22) (ci := 8) (v := (.ref h_t_w)) X iw_X12_strings_X12 0 rfl rfl 0 (by decide) lk_X12_strings_7 rfl dX12_strings_37 ?_
        refine g_bipush (v := 31) X dX12_strings_40 (by decide) ?_
        refine g_iload X dX12_strings_42 4 rfl ?_
        refine g_iadd X dX12_strings_44 ?_
        obtain ⟨hb_3, hf⟩ := chk_out hf
        refine g_iald X 1 rfl hb_3 dX12_strings_45 ?_
        refine g_iconst (v := (-1)) X dX12_strings_46 (by decide) ?_
        refine g_icmp_ne (tgt := 54) X dX12_strings_47 (by decide) (fun hc_4 => ?_) (fun hc_4 => ?_)
        · replace hf := ite_f hc_4 hf
          refine g_iconst (v := 0) X dX12_strings_54 (by decide) ?_
          refine g_lv X (lv' := [(0, .ref h_t), (1, .int v1), (3, .int v3), (4, .int v4)]) [0, 1, 3, 4] rfl ?_
          exact J55 (f_X12_strings_24 t_w n) ih t_statuses v1 v3 v4 v2 0 hf
        · replace hf := ite_t hc_4 hf
          refine g_iconst (v := 1) X dX12_strings_50 (by decide) ?_
          refine g_goto (tgt := 55) X dX12_strings_51 (by decide) ?_
          refine g_lv X (lv' := [(0, .ref h_t), (1, .int v1), (3, .int v3), (4, .int v4)]) [0, 1, 3, 4] rfl ?_
          exact J55 (f_X12_strings_24 t_w n) ih t_statuses v1 v3 v4 v2 1 hf
  refine g_iload_n X dX12_strings_0 rfl 1 rfl ?_
  refine g_i2l X dX12_strings_1 ?_
  refine g_lconst (v := 0) X dX12_strings_2 (by decide) ?_
  refine g_lconst (v := 1) X dX12_strings_3 (by decide) ?_
  obtain ⟨r_12, hk_13, hf⟩ := ob1_out hf
  refine g_cSR (st := []) (st1 := [.int r_12]) X (c_X12_in l D cI cZ (v1.toInt64) 0 1 _ hk_13) (Or.inl rfl) 3 gX12_strings_X12_in rfl hs_X12_in ⟨Nat.le_of_ble_eq_true rfl, Nat.le_of_ble_eq_true rfl⟩ rfl rfl (Nat.le_of_ble_eq_true rfl) ⟨rfl, rfl⟩ (Nat.zero_le _) (Nat.zero_le _) dX12_strings_4 [] rfl rfl rfl ?_
  refine g_if_ne (tgt := 17) X dX12_strings_7 (by decide) (fun hc_14 => ?_) (fun hc_14 => ?_)
  · replace hf := ite_f hc_14 hf
    refine g_iconst (v := 0) X dX12_strings_17 (by decide) ?_
    refine g_istore_n (lv' := [(0, .ref h_t), (1, .int v1), (2, .int 0)]) X dX12_strings_18 rfl (Nat.le_of_ble_eq_true rfl) [1, 2, 0] rfl ?_
    refine g_iconst (v := 0) X dX12_strings_19 (by decide) ?_
    refine g_istore_n (lv' := [(0, .ref h_t), (1, .int v1), (2, .int 0), (3, .int 0)]) X dX12_strings_20 rfl (Nat.le_of_ble_eq_true rfl) [1, 2, 3, 0] rfl ?_
    refine g_iconst (v := 0) X dX12_strings_21 (by decide) ?_
    refine g_istore (lv' := [(0, .ref h_t), (1, .int v1), (2, .int 0), (3, .int 0), (4, .int 0)]) X dX12_strings_22 (Nat.le_of_ble_eq_true rfl) [1, 2, 3, 4, 0] rfl ?_
    exact J24 FU t_statuses v1 0 0 0 hf
  · replace hf := ite_t hc_14 hf
    refine g_aload_n X dX12_strings_10 rfl 0 rfl ?_
    refine g_bipush (v := (-2)) X dX12_strings_11 (by decide) ?_
    obtain ⟨r_15, t_statuses_16, hk_17, hf⟩ := ob2_out hf
    refine g_cVW (st := []) (st1 := [.int r_15]) (C := RX12) (ci := 8) (q0 := 0) (ws' := (wd_X12_strings cI cZ h_t h_t_w h_t_isKept h_t_text h_t_statuses h_t_ways h_t_feels h_t_next h_t_came h_t_deep h_t_sizes h_t_tableOf h_t_usedBy h_t_taken h_t_sixOf t_texted t_above t_below t_at t_start t_number t_went t_h t_w t_statuses_16)) X (c_X12_bad l D cI cZ h_t h_t_w h_t_isKept h_t_text h_t_statuses h_t_ways h_t_feels h_t_next h_t_came h_t_deep h_t_sizes h_t_tableOf h_t_usedBy h_t_taken h_t_sixOf t_texted t_above t_below t_at t_start t_number t_went t_h t_statuses (-2) _ hk_17) (Or.inl rfl) 1 gX12_strings_X12_bad rfl hv_X12_bad ⟨Nat.le_of_ble_eq_true rfl, Nat.le_of_ble_eq_true rfl⟩ rfl rfl (Nat.le_of_ble_eq_true rfl) ⟨rfl, rfl⟩ (Nat.zero_le _) (Nat.zero_le _) rfl rfl rfl dX12_strings_13 [0, 2] rfl rfl [1] rfl rfl (by decide) [1, 0, 2] rfl rfl rfl ?_
    exact hR _ _ _ _ dX12_strings_16 (kV_in (u := (r_15, t_statuses_16)) hf)
def wd_X12_tries (cI cZ : ClassId) (h_t : Nat) (h_t_w : Nat) (h_t_isKept : Nat) (h_t_text : Nat) (h_t_statuses : Nat) (h_t_ways : Nat) (h_t_feels : Nat) (h_t_next : Nat) (h_t_came : Nat) (h_t_deep : Nat) (h_t_sizes : Nat) (h_t_tableOf : Nat) (h_t_usedBy : Nat) (h_t_taken : Nat) (h_t_sixOf : Nat) (t_texted : Int32) (t_above : Int64) (t_below : Int64) (t_at : Int32) (t_start : Int32) (t_number : Int32) (t_went : Int32) (t_h : Int64) (t_w : (Nat → Int32)) : va_W := [(h_t, .inr (8, [.ref h_t_w, .ref h_t_isKept, .ref h_t_text, .int t_texted, .long t_above, .long t_below, .ref h_t_statuses, .int t_at, .int t_start, .int t_number, .ref h_t_ways, .int t_went, .ref h_t_feels, .ref h_t_next, .ref h_t_came, .ref h_t_deep, .ref h_t_sizes, .ref h_t_tableOf, .ref h_t_usedBy, .ref h_t_taken, .ref h_t_sixOf, .long t_h])), (h_t_w, .inl (cI, 1251, .inl t_w))]
abbrev rm_X12_tries : Room := { frames := 0, cells := 0, slots := 0, locals := 0 }
theorem hv_X12_tries : yX12_tries.cls = RX12 ∧ yX12_tries.cls ≠ "java/lang/invoke/MethodHandle" ∧ yX12_tries.cls ≠ "java/lang/invoke/VarHandle" ∧ (parseMethodDescriptor yX12_tries.desc).map (fun d => d.parameters.length) = some 0 := by decide +kernel
theorem iw_X12_tries_X12 : ∀ w ∈ u_ws RX12 TX12 22, w ∈ wsX12_tries := by decide +kernel
theorem lk_X12_tries_7 : Cond.fieldLink RX12 7 "ClerkChainsModel" "w" "[I" ∈ wsX12_tries := by decide +kernel
set_option maxHeartbeats 4000000 in
set_option maxRecDepth 100000 in
theorem c_X12_tries (l : Launch) (D : va_G) (cI cZ : ClassId) (h_t : Nat) (h_t_w : Nat) (h_t_isKept : Nat) (h_t_text : Nat) (h_t_statuses : Nat) (h_t_ways : Nat) (h_t_feels : Nat) (h_t_next : Nat) (h_t_came : Nat) (h_t_deep : Nat) (h_t_sizes : Nat) (h_t_tableOf : Nat) (h_t_usedBy : Nat) (h_t_taken : Nat) (h_t_sixOf : Nat) (t_texted : Int32) (t_above : Int64) (t_below : Int64) (t_at : Int32) (t_start : Int32) (t_number : Int32) (t_went : Int32) (t_h : Int64) (t_w : (Nat → Int32)) (res : (Nat → Int32)) (hf : f_X12_tries t_w = some res) : MetG l yX12_tries wsX12_tries rm_X12_tries D cI cZ none [.ref h_t] (wd_X12_tries cI cZ h_t h_t_w h_t_isKept h_t_text h_t_statuses h_t_ways h_t_feels h_t_next h_t_came h_t_deep h_t_sizes h_t_tableOf h_t_usedBy h_t_taken h_t_sixOf t_texted t_above t_below t_at t_start t_number t_went t_h t_w) (kV res (fun _ => none) (fun u => (wd_X12_tries cI cZ h_t h_t_w h_t_isKept h_t_text h_t_statuses h_t_ways h_t_feels h_t_next h_t_came h_t_deep h_t_sizes h_t_tableOf h_t_usedBy h_t_taken h_t_sixOf t_texted t_above t_below t_at t_start t_number t_went t_h u))) := by
  refine metG_of (cc := cX12_tries) (maxL := 2) (ret := none) (own := RX12) (lv0 := [(0, .ref h_t)]) (ini := false) (by decide) rfl (Nat.le_of_ble_eq_true rfl) rfl rfl (fun h => by cases h) (fun G X hR => ?_)
  replace hR := rt_void hR
  unfold f_X12_tries at hf
  have J2 : ∀ (n : Nat) (t_w : (Nat → Int32)) (v1 : Int32), f_X12_tries_2 n t_w v1 = some res → G 0 0 (wd_X12_tries cI cZ h_t h_t_w h_t_isKept h_t_text h_t_statuses h_t_ways h_t_feels h_t_next h_t_came h_t_deep h_t_sizes h_t_tableOf h_t_usedBy h_t_taken h_t_sixOf t_texted t_above t_below t_at t_start t_number t_went t_h t_w) [(0, .ref h_t), (1, .int v1)] 2 [] := by
    intro n
    induction n with
    | zero => intro t_w v1 hf; rw [f_X12_tries_2] at hf; cases hf
    | succ n ih =>
      intro t_w v1 hf
      rw [f_X12_tries_2] at hf
      refine g_iload_n X dX12_tries_2 rfl 1 rfl ?_
      refine g_bipush (v := 47) X dX12_tries_3 (by decide) ?_
      refine g_icmp_ge (tgt := 30) X dX12_tries_5 (by decide) (fun hc_1 => ?_) (fun hc_1 => ?_)
      · replace hf := ite_t hc_1 hf
        exact hR _ _ _ dX12_tries_30 (kV_in (u := t_w) hf)
      · replace hf := ite_f hc_1 hf
        refine g_aload_n X dX12_tries_8 rfl 0 rfl ?_
        refine g_get (C := RX12) (T := TX12) (N := 22) (ci := 8) (v := (.ref h_t_w)) X iw_X12_tries_X12 0 rfl rfl 0 (by decide) lk_X12_tries_7 rfl dX12_tries_9 ?_
        refine g_sipush (v := 1204) X dX12_tries_12 (by decide) ?_
        refine g_iload_n X dX12_tries_15 rfl 1 rfl ?_
        refine g_iadd X dX12_tries_16 ?_
        refine g_aload_n X dX12_tries_17 rfl 0 rfl ?_
        refine g_get (C := RX12) (T := TX12) (N := 22) (ci := 8) (v := (.ref h_t_w)) X iw_X12_tries_X12 0 rfl rfl 0 (by decide) lk_X12_tries_7 rfl dX12_tries_18 ?_
        refine g_iload_n X dX12_tries_21 rfl 1 rfl ?_
        obtain ⟨hb_2, hf⟩ := chk_out hf
        refine g_iald X 1 rfl hb_2 dX12_tries_22 ?_
        obtain ⟨hb_3, hf⟩ := chk_out hf
        obtain ⟨t_w_4, et_w_4, hf⟩ := bnd_out hf
        refine g_iast (ws' := (wd_X12_tries cI cZ h_t h_t_w h_t_isKept h_t_text h_t_statuses h_t_ways h_t_feels h_t_next h_t_came h_t_deep h_t_sizes h_t_tableOf h_t_usedBy h_t_taken h_t_sixOf t_texted t_above t_below t_at t_start t_number t_went t_h t_w_4)) X 1 rfl hb_3 et_w_4 dX12_tries_23 rfl ?_
        obtain ⟨v1_5, ev1_5, hf⟩ := bnd_out hf
        refine g_iinc (v := v1_5) (lv' := [(0, .ref h_t), (1, .int v1_5)]) X dX12_tries_24 1 rfl (by rw [ev1_5]; rfl) (Nat.le_of_ble_eq_true rfl) [1, 0] rfl ?_
        refine g_goto (tgt := 2) X dX12_tries_27 (by decide) ?_
        exact ih t_w_4 v1_5 hf
  refine g_iconst (v := 0) X dX12_tries_0 (by decide) ?_
  refine g_istore_n (lv' := [(0, .ref h_t), (1, .int 0)]) X dX12_tries_1 rfl (Nat.le_of_ble_eq_true rfl) [1, 0] rfl ?_
  exact J2 FU t_w 0 hf
def wd_X12_then (cI cZ : ClassId) (h_t : Nat) (h_t_w : Nat) (h_t_isKept : Nat) (h_t_text : Nat) (h_t_statuses : Nat) (h_t_ways : Nat) (h_t_feels : Nat) (h_t_next : Nat) (h_t_came : Nat) (h_t_deep : Nat) (h_t_sizes : Nat) (h_t_tableOf : Nat) (h_t_usedBy : Nat) (h_t_taken : Nat) (h_t_sixOf : Nat) (t_texted : Int32) (t_above : Int64) (t_below : Int64) (t_at : Int32) (t_start : Int32) (t_number : Int32) (t_went : Int32) (t_h : Int64) (t_w : (Nat → Int32)) (t_statuses : (Nat → Int32)) (t_ways : (Nat → Int32)) : va_W := [(h_t, .inr (8, [.ref h_t_w, .ref h_t_isKept, .ref h_t_text, .int t_texted, .long t_above, .long t_below, .ref h_t_statuses, .int t_at, .int t_start, .int t_number, .ref h_t_ways, .int t_went, .ref h_t_feels, .ref h_t_next, .ref h_t_came, .ref h_t_deep, .ref h_t_sizes, .ref h_t_tableOf, .ref h_t_usedBy, .ref h_t_taken, .ref h_t_sixOf, .long t_h])), (h_t_w, .inl (cI, 1251, .inl t_w)), (h_t_statuses, .inl (cI, 3, .inl t_statuses)), (h_t_ways, .inl (cI, 7, .inl t_ways))]
abbrev rm_X12_then : Room := { frames := 6, cells := 0, slots := 0, locals := 141 }
theorem hv_X12_then : yX12_then.cls = RX12 ∧ yX12_then.cls ≠ "java/lang/invoke/MethodHandle" ∧ yX12_then.cls ≠ "java/lang/invoke/VarHandle" ∧ (parseMethodDescriptor yX12_then.desc).map (fun d => d.parameters.length) = some 2 := by decide +kernel
theorem iw_X12_then_X12 : ∀ w ∈ u_ws RX12 TX12 22, w ∈ wsX12_then := by decide +kernel
theorem lk_X12_then_7 : Cond.fieldLink RX12 7 "ClerkChainsModel" "w" "[I" ∈ wsX12_then := by decide +kernel
theorem lk_X12_then_219 : Cond.constantLong RX12 219 60 ∈ wsX12_then := by decide +kernel
set_option maxHeartbeats 4000000 in
set_option maxRecDepth 100000 in
theorem c_X12_then (l : Launch) (D : va_G) (cI cZ : ClassId) (h_t : Nat) (h_t_w : Nat) (h_t_isKept : Nat) (h_t_text : Nat) (h_t_statuses : Nat) (h_t_ways : Nat) (h_t_feels : Nat) (h_t_next : Nat) (h_t_came : Nat) (h_t_deep : Nat) (h_t_sizes : Nat) (h_t_tableOf : Nat) (h_t_usedBy : Nat) (h_t_taken : Nat) (h_t_sixOf : Nat) (t_texted : Int32) (t_above : Int64) (t_below : Int64) (t_at : Int32) (t_start : Int32) (t_number : Int32) (t_went : Int32) (t_h : Int64) (t_w : (Nat → Int32)) (t_statuses : (Nat → Int32)) (t_ways : (Nat → Int32)) (v1 : Int32) (v2 : Int32) (res : Int32 × Int32 × (Nat → Int32) × (Nat → Int32) × (Nat → Int32)) (hf : f_X12_then t_went t_w t_statuses t_ways v1 v2 = some res) : MetG l yX12_then wsX12_then rm_X12_then D cI cZ none [.ref h_t, .int v1, .int v2] (wd_X12_then cI cZ h_t h_t_w h_t_isKept h_t_text h_t_statuses h_t_ways h_t_feels h_t_next h_t_came h_t_deep h_t_sizes h_t_tableOf h_t_usedBy h_t_taken h_t_sixOf t_texted t_above t_below t_at t_start t_number t_went t_h t_w t_statuses t_ways) (kV res (fun u => some (.int u.1)) (fun u => (wd_X12_then cI cZ h_t h_t_w h_t_isKept h_t_text h_t_statuses h_t_ways h_t_feels h_t_next h_t_came h_t_deep h_t_sizes h_t_tableOf h_t_usedBy h_t_taken h_t_sixOf t_texted t_above t_below t_at t_start t_number (u.2.1) t_h (u.2.2.1) (u.2.2.2.1) (u.2.2.2.2)))) := by
  refine metG_of (cc := cX12_then) (maxL := 4) (ret := (some .int)) (own := RX12) (lv0 := [(0, .ref h_t), (1, .int v1), (2, .int v2)]) (ini := false) (by decide) rfl (Nat.le_of_ble_eq_true rfl) rfl rfl (fun h => by cases h) (fun G X hR => ?_)
  replace hR := rt_int hR
  unfold f_X12_then at hf
  have J20 : ∀ (t_went : Int32) (t_w : (Nat → Int32)) (t_statuses : (Nat → Int32)) (t_ways : (Nat → Int32)), f_X12_then_20 t_went t_w t_statuses t_ways = some res → G 0 0 (wd_X12_then cI cZ h_t h_t_w h_t_isKept h_t_text h_t_statuses h_t_ways h_t_feels h_t_next h_t_came h_t_deep h_t_sizes h_t_tableOf h_t_usedBy h_t_taken h_t_sixOf t_texted t_above t_below t_at t_start t_number t_went t_h t_w t_statuses t_ways) [(0, .ref h_t)] 20 [] := by
    intro t_went t_w t_statuses t_ways hf
    unfold f_X12_then_20 at hf
    refine g_aload_n X dX12_then_20 rfl 0 rfl ?_
    refine g_bipush (v := (-2)) X dX12_then_21 (by decide) ?_
    obtain ⟨r_1, t_statuses_2, hk_3, hf⟩ := ob2_out hf
    refine g_cVW (st := []) (st1 := [.int r_1]) (C := RX12) (ci := 8) (q0 := 0) (ws' := (wd_X12_then cI cZ h_t h_t_w h_t_isKept h_t_text h_t_statuses h_t_ways h_t_feels h_t_next h_t_came h_t_deep h_t_sizes h_t_tableOf h_t_usedBy h_t_taken h_t_sixOf t_texted t_above t_below t_at t_start t_number t_went t_h t_w t_statuses_2 t_ways)) X (c_X12_bad l D cI cZ h_t h_t_w h_t_isKept h_t_text h_t_statuses h_t_ways h_t_feels h_t_next h_t_came h_t_deep h_t_sizes h_t_tableOf h_t_usedBy h_t_taken h_t_sixOf t_texted t_above t_below t_at t_start t_number t_went t_h t_statuses (-2) _ hk_3) (Or.inl rfl) 1 gX12_then_X12_bad rfl hv_X12_bad ⟨Nat.le_of_ble_eq_true rfl, Nat.le_of_ble_eq_true rfl⟩ rfl rfl (Nat.le_of_ble_eq_true rfl) ⟨rfl, rfl⟩ (Nat.zero_le _) (Nat.zero_le _) rfl rfl rfl dX12_then_23 [0, 2] rfl rfl [1, 3] rfl rfl (by decide) [2, 0, 3, 1] rfl rfl rfl ?_
    exact hR _ _ _ _ dX12_then_26 (kV_in (u := (r_1, t_went, t_w, t_statuses_2, t_ways)) hf)
  have J51 : ∀ (t_went : Int32) (t_w : (Nat → Int32)) (t_statuses : (Nat → Int32)) (t_ways : (Nat → Int32)) (v1 : Int32), f_X12_then_51 t_went t_w t_statuses t_ways v1 = some res → G 0 0 (wd_X12_then cI cZ h_t h_t_w h_t_isKept h_t_text h_t_statuses h_t_ways h_t_feels h_t_next h_t_came h_t_deep h_t_sizes h_t_tableOf h_t_usedBy h_t_taken h_t_sixOf t_texted t_above t_below t_at t_start t_number t_went t_h t_w t_statuses t_ways) [(0, .ref h_t), (1, .int v1)] 51 [] := by
    intro t_went t_w t_statuses t_ways v1 hf
    unfold f_X12_then_51 at hf
    refine g_aload_n X dX12_then_51 rfl 0 rfl ?_
    refine g_get (C := RX12) (T := TX12) (N := 22) (ci := 8) (v := (.ref h_t_w)) X iw_X12_then_X12 0 rfl rfl 0 (by decide) lk_X12_then_7 rfl dX12_then_52 ?_
    refine g_sipush (v := 1221) X dX12_then_55 (by decide) ?_
    refine g_iload_n X dX12_then_58 rfl 1 rfl ?_
    refine g_iadd X dX12_then_59 ?_
    obtain ⟨hb_10, hf⟩ := chk_out hf
    refine g_iald X 1 rfl hb_10 dX12_then_60 ?_
    exact hR _ _ _ _ dX12_then_61 (kV_in (u := (t_w (1221 + v1).toNatClampNeg, t_went, t_w, t_statuses, t_ways)) hf)
  have J33 : ∀ (n : Nat) (t_went : Int32) (t_w : (Nat → Int32)) (t_statuses : (Nat → Int32)) (t_ways : (Nat → Int32)) (v1 : Int32) (v2 : Int32) (v3 : Int32), f_X12_then_33 n t_went t_w t_statuses t_ways v1 v2 v3 = some res → G 0 0 (wd_X12_then cI cZ h_t h_t_w h_t_isKept h_t_text h_t_statuses h_t_ways h_t_feels h_t_next h_t_came h_t_deep h_t_sizes h_t_tableOf h_t_usedBy h_t_taken h_t_sixOf t_texted t_above t_below t_at t_start t_number t_went t_h t_w t_statuses t_ways) [(0, .ref h_t), (1, .int v1), (2, .int v2), (3, .int v3)] 33 [] := by
    intro n
    induction n with
    | zero => intro t_went t_w t_statuses t_ways v1 v2 v3 hf; rw [f_X12_then_33] at hf; cases hf
    | succ n ih =>
      intro t_went t_w t_statuses t_ways v1 v2 v3 hf
      rw [f_X12_then_33] at hf
      refine g_iload_n X dX12_then_33 rfl 3 rfl ?_
      refine g_iload_n X dX12_then_34 rfl 2 rfl ?_
      refine g_icmp_ge (tgt := 51) X dX12_then_35 (by decide) (fun hc_4 => ?_) (fun hc_4 => ?_)
      · replace hf := ite_t hc_4 hf
        refine g_lv X (lv' := [(0, .ref h_t), (1, .int v1)]) [0, 1] rfl ?_
        exact J51 t_went t_w t_statuses t_ways v1 hf
      · replace hf := ite_f hc_4 hf
        refine g_aload_n X dX12_then_38 rfl 0 rfl ?_
        refine g_sipush (v := 1204) X dX12_then_39 (by decide) ?_
        obtain ⟨t_went_5, t_w_6, t_ways_7, hk_8, hf⟩ := ob3_out hf
        refine g_cVW (st := []) (st1 := []) (C := RX12) (ci := 8) (q0 := 0) (ws' := (wd_X12_then cI cZ h_t h_t_w h_t_isKept h_t_text h_t_statuses h_t_ways h_t_feels h_t_next h_t_came h_t_deep h_t_sizes h_t_tableOf h_t_usedBy h_t_taken h_t_sixOf t_texted t_above t_below t_at t_start t_number t_went_5 t_h t_w_6 t_statuses t_ways_7)) X (c_X12_passes l D cI cZ h_t h_t_w h_t_isKept h_t_text h_t_statuses h_t_ways h_t_feels h_t_next h_t_came h_t_deep h_t_sizes h_t_tableOf h_t_usedBy h_t_taken h_t_sixOf t_texted t_above t_below t_at t_start t_number t_went t_h t_w t_ways 1204 _ hk_8) (Or.inl rfl) 1 gX12_then_X12_passes rfl hv_X12_passes ⟨Nat.le_of_ble_eq_true rfl, Nat.le_of_ble_eq_true rfl⟩ rfl rfl (Nat.le_of_ble_eq_true rfl) ⟨rfl, rfl⟩ (Nat.zero_le _) (Nat.zero_le _) rfl rfl rfl dX12_then_42 [0, 1, 3] rfl rfl [2] rfl rfl (by decide) [1, 2, 0, 3] rfl rfl rfl ?_
        obtain ⟨v3_9, ev3_9, hf⟩ := bnd_out hf
        refine g_iinc (v := v3_9) (lv' := [(0, .ref h_t), (1, .int v1), (2, .int v2), (3, .int v3_9)]) X dX12_then_45 3 rfl (by rw [ev3_9]; rfl) (Nat.le_of_ble_eq_true rfl) [1, 2, 3, 0] rfl ?_
        refine g_goto (tgt := 33) X dX12_then_48 (by decide) ?_
        exact ih t_went_5 t_w_6 t_statuses t_ways_7 v1 v2 v3_9 hf
  refine g_aload_n X dX12_then_0 rfl 0 rfl ?_
  refine g_iload_n X dX12_then_1 rfl 1 rfl ?_
  obtain ⟨r_11, hk_12, hf⟩ := ob1_out hf
  refine g_cVR (st := []) (st1 := [.int r_11]) (C := RX12) (ci := 8) (q0 := 0) X (c_X12_isClerk l D cI cZ h_t h_t_w h_t_isKept h_t_text h_t_statuses h_t_ways h_t_feels h_t_next h_t_came h_t_deep h_t_sizes h_t_tableOf h_t_usedBy h_t_taken h_t_sixOf t_texted t_above t_below t_at t_start t_number t_went t_h t_w v1 _ hk_12) (Or.inl rfl) 1 gX12_then_X12_isClerk rfl hv_X12_isClerk ⟨Nat.le_of_ble_eq_true rfl, Nat.le_of_ble_eq_true rfl⟩ rfl rfl (Nat.le_of_ble_eq_true rfl) ⟨rfl, rfl⟩ (Nat.zero_le _) (Nat.zero_le _) rfl rfl rfl dX12_then_2 [0, 1] rfl rfl rfl ?_
  refine g_if_eq (tgt := 20) X dX12_then_5 (by decide) (fun hc_13 => ?_) (fun hc_13 => ?_)
  · replace hf := ite_t hc_13 hf
    refine g_lv X (lv' := [(0, .ref h_t)]) [0] rfl ?_
    exact J20 t_went t_w t_statuses t_ways hf
  · replace hf := ite_f hc_13 hf
    refine g_iload_n X dX12_then_8 rfl 2 rfl ?_
    refine g_i2l X dX12_then_9 ?_
    refine g_lconst (v := 0) X dX12_then_10 (by decide) ?_
    refine g_ldc2 (v := 60) X dX12_then_11 lk_X12_then_219 ?_
    obtain ⟨r_14, hk_15, hf⟩ := ob1_out hf
    refine g_cSR (st := []) (st1 := [.int r_14]) X (c_X12_in l D cI cZ (v2.toInt64) 0 60 _ hk_15) (Or.inl rfl) 3 gX12_then_X12_in rfl hs_X12_in ⟨Nat.le_of_ble_eq_true rfl, Nat.le_of_ble_eq_true rfl⟩ rfl rfl (Nat.le_of_ble_eq_true rfl) ⟨rfl, rfl⟩ (Nat.zero_le _) (Nat.zero_le _) dX12_then_14 [] rfl rfl rfl ?_
    refine g_if_ne (tgt := 27) X dX12_then_17 (by decide) (fun hc_16 => ?_) (fun hc_16 => ?_)
    · replace hf := ite_f hc_16 hf
      refine g_aload_n X dX12_then_27 rfl 0 rfl ?_
      obtain ⟨t_w_17, hk_18, hf⟩ := ob1_out hf
      refine g_cVW (st := []) (st1 := []) (C := RX12) (ci := 8) (q0 := 0) (ws' := (wd_X12_then cI cZ h_t h_t_w h_t_isKept h_t_text h_t_statuses h_t_ways h_t_feels h_t_next h_t_came h_t_deep h_t_sizes h_t_tableOf h_t_usedBy h_t_taken h_t_sixOf t_texted t_above t_below t_at t_start t_number t_went t_h t_w_17 t_statuses t_ways)) X (c_X12_tries l D cI cZ h_t h_t_w h_t_isKept h_t_text h_t_statuses h_t_ways h_t_feels h_t_next h_t_came h_t_deep h_t_sizes h_t_tableOf h_t_usedBy h_t_taken h_t_sixOf t_texted t_above t_below t_at t_start t_number t_went t_h t_w _ hk_18) (Or.inl rfl) 0 gX12_then_X12_tries rfl hv_X12_tries ⟨Nat.le_of_ble_eq_true rfl, Nat.le_of_ble_eq_true rfl⟩ rfl rfl (Nat.le_of_ble_eq_true rfl) ⟨rfl, rfl⟩ (Nat.zero_le _) (Nat.zero_le _) rfl rfl rfl dX12_then_28 [0, 1] rfl rfl [2, 3] rfl rfl (by decide) [2, 3, 0, 1] rfl rfl rfl ?_
      refine g_iconst (v := 0) X dX12_then_31 (by decide) ?_
      refine g_istore_n (lv' := [(0, .ref h_t), (1, .int v1), (2, .int v2), (3, .int 0)]) X dX12_then_32 rfl (Nat.le_of_ble_eq_true rfl) [1, 2, 3, 0] rfl ?_
      exact J33 FU t_went t_w_17 t_statuses t_ways v1 v2 0 hf
    · replace hf := ite_t hc_16 hf
      refine g_lv X (lv' := [(0, .ref h_t)]) [0] rfl ?_
      exact J20 t_went t_w t_statuses t_ways hf
def wd_X12_fewestTables (cI cZ : ClassId) (h_t : Nat) (h_t_w : Nat) (h_t_isKept : Nat) (h_t_text : Nat) (h_t_statuses : Nat) (h_t_ways : Nat) (h_t_feels : Nat) (h_t_next : Nat) (h_t_came : Nat) (h_t_deep : Nat) (h_t_sizes : Nat) (h_t_tableOf : Nat) (h_t_usedBy : Nat) (h_t_taken : Nat) (h_t_sixOf : Nat) (t_texted : Int32) (t_above : Int64) (t_below : Int64) (t_at : Int32) (t_start : Int32) (t_number : Int32) (t_went : Int32) (t_h : Int64) (t_sizes : (Nat → Int32)) (t_tableOf : (Nat → Int32)) (t_usedBy : (Nat → Int32)) (t_taken : (Nat → Int32)) : va_W := [(h_t, .inr (8, [.ref h_t_w, .ref h_t_isKept, .ref h_t_text, .int t_texted, .long t_above, .long t_below, .ref h_t_statuses, .int t_at, .int t_start, .int t_number, .ref h_t_ways, .int t_went, .ref h_t_feels, .ref h_t_next, .ref h_t_came, .ref h_t_deep, .ref h_t_sizes, .ref h_t_tableOf, .ref h_t_usedBy, .ref h_t_taken, .ref h_t_sixOf, .long t_h])), (h_t_sizes, .inl (cI, 7, .inl t_sizes)), (h_t_tableOf, .inl (cI, 8, .inl t_tableOf)), (h_t_usedBy, .inl (cI, 8, .inl t_usedBy)), (h_t_taken, .inl (cI, 8, .inl t_taken))]
abbrev rm_X12_fewestTables : Room := { frames := 0, cells := 0, slots := 0, locals := 0 }
theorem hv_X12_fewestTables : yX12_fewestTables.cls = RX12 ∧ yX12_fewestTables.cls ≠ "java/lang/invoke/MethodHandle" ∧ yX12_fewestTables.cls ≠ "java/lang/invoke/VarHandle" ∧ (parseMethodDescriptor yX12_fewestTables.desc).map (fun d => d.parameters.length) = some 2 := by decide +kernel
theorem iw_X12_fewestTables_X12 : ∀ w ∈ u_ws RX12 TX12 22, w ∈ wsX12_fewestTables := by decide +kernel
theorem lk_X12_fewestTables_54 : Cond.fieldLink RX12 54 "ClerkChainsModel" "taken" "[I" ∈ wsX12_fewestTables := by decide +kernel
theorem lk_X12_fewestTables_48 : Cond.fieldLink RX12 48 "ClerkChainsModel" "tableOf" "[I" ∈ wsX12_fewestTables := by decide +kernel
theorem lk_X12_fewestTables_45 : Cond.fieldLink RX12 45 "ClerkChainsModel" "sizes" "[I" ∈ wsX12_fewestTables := by decide +kernel
theorem lk_X12_fewestTables_51 : Cond.fieldLink RX12 51 "ClerkChainsModel" "usedBy" "[I" ∈ wsX12_fewestTables := by decide +kernel
set_option maxHeartbeats 4000000 in
set_option maxRecDepth 100000 in
theorem c_X12_fewestTables (l : Launch) (D : va_G) (cI cZ : ClassId) (h_t : Nat) (h_t_w : Nat) (h_t_isKept : Nat) (h_t_text : Nat) (h_t_statuses : Nat) (h_t_ways : Nat) (h_t_feels : Nat) (h_t_next : Nat) (h_t_came : Nat) (h_t_deep : Nat) (h_t_sizes : Nat) (h_t_tableOf : Nat) (h_t_usedBy : Nat) (h_t_taken : Nat) (h_t_sixOf : Nat) (t_texted : Int32) (t_above : Int64) (t_below : Int64) (t_at : Int32) (t_start : Int32) (t_number : Int32) (t_went : Int32) (t_h : Int64) (t_sizes : (Nat → Int32)) (t_tableOf : (Nat → Int32)) (t_usedBy : (Nat → Int32)) (t_taken : (Nat → Int32)) (v1 : Int32) (v2 : Int32) (res : Int32 × (Nat → Int32) × (Nat → Int32) × (Nat → Int32)) (hf : f_X12_fewestTables t_sizes t_tableOf t_usedBy t_taken v1 v2 = some res) : MetG l yX12_fewestTables wsX12_fewestTables rm_X12_fewestTables D cI cZ none [.ref h_t, .int v1, .int v2] (wd_X12_fewestTables cI cZ h_t h_t_w h_t_isKept h_t_text h_t_statuses h_t_ways h_t_feels h_t_next h_t_came h_t_deep h_t_sizes h_t_tableOf h_t_usedBy h_t_taken h_t_sixOf t_texted t_above t_below t_at t_start t_number t_went t_h t_sizes t_tableOf t_usedBy t_taken) (kV res (fun u => some (.int u.1)) (fun u => (wd_X12_fewestTables cI cZ h_t h_t_w h_t_isKept h_t_text h_t_statuses h_t_ways h_t_feels h_t_next h_t_came h_t_deep h_t_sizes h_t_tableOf h_t_usedBy h_t_taken h_t_sixOf t_texted t_above t_below t_at t_start t_number t_went t_h t_sizes (u.2.1) (u.2.2.1) (u.2.2.2)))) := by
  refine metG_of (cc := cX12_fewestTables) (maxL := 6) (ret := (some .int)) (own := RX12) (lv0 := [(0, .ref h_t), (1, .int v1), (2, .int v2)]) (ini := false) (by decide) rfl (Nat.le_of_ble_eq_true rfl) rfl rfl (fun h => by cases h) (fun G X hR => ?_)
  replace hR := rt_int hR
  unfold f_X12_fewestTables at hf
  have J76 : ∀ (k43 : (Nat → Int32) → (Nat → Int32) → (Nat → Int32) → Int32 → Int32 → Int32 → Int32 → Option (Int32 × (Nat → Int32) × (Nat → Int32) × (Nat → Int32))) (hk43 : ∀ (t_tableOf : (Nat → Int32)) (t_usedBy : (Nat → Int32)) (t_taken : (Nat → Int32)) (v1 : Int32) (v2 : Int32) (v3 : Int32) (v4 : Int32), k43 t_tableOf t_usedBy t_taken v1 v2 v3 v4 = some res → G 0 0 (wd_X12_fewestTables cI cZ h_t h_t_w h_t_isKept h_t_text h_t_statuses h_t_ways h_t_feels h_t_next h_t_came h_t_deep h_t_sizes h_t_tableOf h_t_usedBy h_t_taken h_t_sixOf t_texted t_above t_below t_at t_start t_number t_went t_h t_sizes t_tableOf t_usedBy t_taken) [(0, .ref h_t), (1, .int v1), (2, .int v2), (3, .int v3), (4, .int v4)] 43 []) (t_tableOf : (Nat → Int32)) (t_usedBy : (Nat → Int32)) (t_taken : (Nat → Int32)) (v1 : Int32) (v2 : Int32) (v4 : Int32) (s0 : Int32), f_X12_fewestTables_76 t_sizes k43 t_tableOf t_usedBy t_taken v1 v2 v4 s0 = some res → G 0 0 (wd_X12_fewestTables cI cZ h_t h_t_w h_t_isKept h_t_text h_t_statuses h_t_ways h_t_feels h_t_next h_t_came h_t_deep h_t_sizes h_t_tableOf h_t_usedBy h_t_taken h_t_sixOf t_texted t_above t_below t_at t_start t_number t_went t_h t_sizes t_tableOf t_usedBy t_taken) [(0, .ref h_t), (1, .int v1), (2, .int v2), (4, .int v4)] 76 [.int s0] := by
    intro k43 hk43 t_tableOf t_usedBy t_taken v1 v2 v4 s0 hf
    unfold f_X12_fewestTables_76 at hf
    refine g_istore_n (lv' := [(0, .ref h_t), (1, .int v1), (2, .int v2), (3, .int s0), (4, .int v4)]) X dX12_fewestTables_76 rfl (Nat.le_of_ble_eq_true rfl) [1, 2, 3, 0, 4] rfl ?_
    obtain ⟨v4_17, ev4_17, hf⟩ := bnd_out hf
    refine g_iinc (v := v4_17) (lv' := [(0, .ref h_t), (1, .int v1), (2, .int v2), (3, .int s0), (4, .int v4_17)]) X dX12_fewestTables_77 4 rfl (by rw [ev4_17]; rfl) (Nat.le_of_ble_eq_true rfl) [1, 2, 3, 4, 0] rfl ?_
    refine g_goto (tgt := 43) X dX12_fewestTables_80 (by decide) ?_
    exact hk43 t_tableOf t_usedBy t_taken v1 v2 s0 v4_17 hf
  have J253 : ∀ (k43 : (Nat → Int32) → (Nat → Int32) → (Nat → Int32) → Int32 → Int32 → Int32 → Int32 → Option (Int32 × (Nat → Int32) × (Nat → Int32) × (Nat → Int32))) (hk43 : ∀ (t_tableOf : (Nat → Int32)) (t_usedBy : (Nat → Int32)) (t_taken : (Nat → Int32)) (v1 : Int32) (v2 : Int32) (v3 : Int32) (v4 : Int32), k43 t_tableOf t_usedBy t_taken v1 v2 v3 v4 = some res → G 0 0 (wd_X12_fewestTables cI cZ h_t h_t_w h_t_isKept h_t_text h_t_statuses h_t_ways h_t_feels h_t_next h_t_came h_t_deep h_t_sizes h_t_tableOf h_t_usedBy h_t_taken h_t_sixOf t_texted t_above t_below t_at t_start t_number t_went t_h t_sizes t_tableOf t_usedBy t_taken) [(0, .ref h_t), (1, .int v1), (2, .int v2), (3, .int v3), (4, .int v4)] 43 []) (t_tableOf : (Nat → Int32)) (t_usedBy : (Nat → Int32)) (t_taken : (Nat → Int32)) (v1 : Int32) (v2 : Int32) (v3 : Int32) (v4 : Int32), f_X12_fewestTables_253 t_sizes k43 t_tableOf t_usedBy t_taken v1 v2 v3 v4 = some res → G 0 0 (wd_X12_fewestTables cI cZ h_t h_t_w h_t_isKept h_t_text h_t_statuses h_t_ways h_t_feels h_t_next h_t_came h_t_deep h_t_sizes h_t_tableOf h_t_usedBy h_t_taken h_t_sixOf t_texted t_above t_below t_at t_start t_number t_went t_h t_sizes t_tableOf t_usedBy t_taken) [(0, .ref h_t), (1, .int v1), (2, .int v2), (3, .int v3), (4, .int v4)] 253 [] := by
    intro k43 hk43 t_tableOf t_usedBy t_taken v1 v2 v3 v4 hf
    unfold f_X12_fewestTables_253 at hf
    refine g_goto (tgt := 43) X dX12_fewestTables_253 (by decide) ?_
    exact hk43 t_tableOf t_usedBy t_taken v1 v2 v3 v4 hf
  have J241 : ∀ (k43 : (Nat → Int32) → (Nat → Int32) → (Nat → Int32) → Int32 → Int32 → Int32 → Int32 → Option (Int32 × (Nat → Int32) × (Nat → Int32) × (Nat → Int32))) (hk43 : ∀ (t_tableOf : (Nat → Int32)) (t_usedBy : (Nat → Int32)) (t_taken : (Nat → Int32)) (v1 : Int32) (v2 : Int32) (v3 : Int32) (v4 : Int32), k43 t_tableOf t_usedBy t_taken v1 v2 v3 v4 = some res → G 0 0 (wd_X12_fewestTables cI cZ h_t h_t_w h_t_isKept h_t_text h_t_statuses h_t_ways h_t_feels h_t_next h_t_came h_t_deep h_t_sizes h_t_tableOf h_t_usedBy h_t_taken h_t_sixOf t_texted t_above t_below t_at t_start t_number t_went t_h t_sizes t_tableOf t_usedBy t_taken) [(0, .ref h_t), (1, .int v1), (2, .int v2), (3, .int v3), (4, .int v4)] 43 []) (t_tableOf : (Nat → Int32)) (t_usedBy : (Nat → Int32)) (t_taken : (Nat → Int32)) (v1 : Int32) (v2 : Int32) (v3 : Int32) (v4 : Int32) (s1 : Int32) (s2 : Int32), f_X12_fewestTables_241 t_sizes k43 t_tableOf t_usedBy t_taken v1 v2 v3 v4 s1 s2 = some res → G 0 0 (wd_X12_fewestTables cI cZ h_t h_t_w h_t_isKept h_t_text h_t_statuses h_t_ways h_t_feels h_t_next h_t_came h_t_deep h_t_sizes h_t_tableOf h_t_usedBy h_t_taken h_t_sixOf t_texted t_above t_below t_at t_start t_number t_went t_h t_sizes t_tableOf t_usedBy t_taken) [(0, .ref h_t), (1, .int v1), (2, .int v2), (3, .int v3), (4, .int v4)] 241 [.int s2, .int s1, .ref h_t_usedBy] := by
    intro k43 hk43 t_tableOf t_usedBy t_taken v1 v2 v3 v4 s1 s2 hf
    unfold f_X12_fewestTables_241 at hf
    obtain ⟨hb_38, hf⟩ := chk_out hf
    obtain ⟨t_usedBy_39, et_usedBy_39, hf⟩ := bnd_out hf
    refine g_iast (ws' := (wd_X12_fewestTables cI cZ h_t h_t_w h_t_isKept h_t_text h_t_statuses h_t_ways h_t_feels h_t_next h_t_came h_t_deep h_t_sizes h_t_tableOf h_t_usedBy h_t_taken h_t_sixOf t_texted t_above t_below t_at t_start t_number t_went t_h t_sizes t_tableOf t_usedBy_39 t_taken)) X 3 rfl hb_38 et_usedBy_39 dX12_fewestTables_241 rfl ?_
    obtain ⟨v4_40, ev4_40, hf⟩ := bnd_out hf
    refine g_iinc (v := v4_40) (lv' := [(0, .ref h_t), (1, .int v1), (2, .int v2), (3, .int v3), (4, .int v4_40)]) X dX12_fewestTables_242 4 rfl (by rw [ev4_40]; rfl) (Nat.le_of_ble_eq_true rfl) [1, 2, 3, 4, 0] rfl ?_
    refine g_aload_n X dX12_fewestTables_245 rfl 0 rfl ?_
    refine g_get (C := RX12) (T := TX12) (N := 22) (ci := 8) (v := (.ref h_t_tableOf)) X iw_X12_fewestTables_X12 0 rfl rfl 17 (by decide) lk_X12_fewestTables_48 rfl dX12_fewestTables_246 ?_
    refine g_iload X dX12_fewestTables_249 4 rfl ?_
    refine g_iconst (v := (-1)) X dX12_fewestTables_251 (by decide) ?_
    obtain ⟨hb_41, hf⟩ := chk_out hf
    obtain ⟨t_tableOf_42, et_tableOf_42, hf⟩ := bnd_out hf
    refine g_iast (ws' := (wd_X12_fewestTables cI cZ h_t h_t_w h_t_isKept h_t_text h_t_statuses h_t_ways h_t_feels h_t_next h_t_came h_t_deep h_t_sizes h_t_tableOf h_t_usedBy h_t_taken h_t_sixOf t_texted t_above t_below t_at t_start t_number t_went t_h t_sizes t_tableOf_42 t_usedBy_39 t_taken)) X 2 rfl hb_41 et_tableOf_42 dX12_fewestTables_252 rfl ?_
    exact J253 k43 hk43 t_tableOf_42 t_usedBy_39 t_taken v1 v2 v3 v4_40 hf
  have J163 : ∀ (k43 : (Nat → Int32) → (Nat → Int32) → (Nat → Int32) → Int32 → Int32 → Int32 → Int32 → Option (Int32 × (Nat → Int32) × (Nat → Int32) × (Nat → Int32))) (hk43 : ∀ (t_tableOf : (Nat → Int32)) (t_usedBy : (Nat → Int32)) (t_taken : (Nat → Int32)) (v1 : Int32) (v2 : Int32) (v3 : Int32) (v4 : Int32), k43 t_tableOf t_usedBy t_taken v1 v2 v3 v4 = some res → G 0 0 (wd_X12_fewestTables cI cZ h_t h_t_w h_t_isKept h_t_text h_t_statuses h_t_ways h_t_feels h_t_next h_t_came h_t_deep h_t_sizes h_t_tableOf h_t_usedBy h_t_taken h_t_sixOf t_texted t_above t_below t_at t_start t_number t_went t_h t_sizes t_tableOf t_usedBy t_taken) [(0, .ref h_t), (1, .int v1), (2, .int v2), (3, .int v3), (4, .int v4)] 43 []) (t_tableOf : (Nat → Int32)) (t_usedBy : (Nat → Int32)) (t_taken : (Nat → Int32)) (v1 : Int32) (v2 : Int32) (v3 : Int32) (v4 : Int32) (v5 : Int32), f_X12_fewestTables_163 t_sizes k43 t_tableOf t_usedBy t_taken v1 v2 v3 v4 v5 = some res → G 0 0 (wd_X12_fewestTables cI cZ h_t h_t_w h_t_isKept h_t_text h_t_statuses h_t_ways h_t_feels h_t_next h_t_came h_t_deep h_t_sizes h_t_tableOf h_t_usedBy h_t_taken h_t_sixOf t_texted t_above t_below t_at t_start t_number t_went t_h t_sizes t_tableOf t_usedBy t_taken) [(0, .ref h_t), (1, .int v1), (2, .int v2), (3, .int v3), (4, .int v4), (5, .int v5)] 163 [] := by
    intro k43 hk43 t_tableOf t_usedBy t_taken v1 v2 v3 v4 v5 hf
    unfold f_X12_fewestTables_163 at hf
    refine g_iload X dX12_fewestTables_163 5 rfl ?_
    refine g_aload_n X dX12_fewestTables_165 rfl 0 rfl ?_
    refine g_get (C := RX12) (T := TX12) (N := 22) (ci := 8) (v := (.ref h_t_usedBy)) X iw_X12_fewestTables_X12 0 rfl rfl 18 (by decide) lk_X12_fewestTables_51 rfl dX12_fewestTables_166 ?_
    refine g_iload X dX12_fewestTables_169 4 rfl ?_
    obtain ⟨hb_26, hf⟩ := chk_out hf
    refine g_iald X 3 rfl hb_26 dX12_fewestTables_171 ?_
    refine g_icmp_le (tgt := 181) X dX12_fewestTables_172 (by decide) (fun hc_27 => ?_) (fun hc_27 => ?_)
    · replace hf := ite_t hc_27 hf
      refine g_aload_n X dX12_fewestTables_181 rfl 0 rfl ?_
      refine g_get (C := RX12) (T := TX12) (N := 22) (ci := 8) (v := (.ref h_t_tableOf)) X iw_X12_fewestTables_X12 0 rfl rfl 17 (by decide) lk_X12_fewestTables_48 rfl dX12_fewestTables_182 ?_
      refine g_iload X dX12_fewestTables_185 4 rfl ?_
      refine g_iload X dX12_fewestTables_187 5 rfl ?_
      obtain ⟨hb_28, hf⟩ := chk_out hf
      obtain ⟨t_tableOf_29, et_tableOf_29, hf⟩ := bnd_out hf
      refine g_iast (ws' := (wd_X12_fewestTables cI cZ h_t h_t_w h_t_isKept h_t_text h_t_statuses h_t_ways h_t_feels h_t_next h_t_came h_t_deep h_t_sizes h_t_tableOf h_t_usedBy h_t_taken h_t_sixOf t_texted t_above t_below t_at t_start t_number t_went t_h t_sizes t_tableOf_29 t_usedBy t_taken)) X 2 rfl hb_28 et_tableOf_29 dX12_fewestTables_189 rfl ?_
      refine g_aload_n X dX12_fewestTables_190 rfl 0 rfl ?_
      refine g_get (C := RX12) (T := TX12) (N := 22) (ci := 8) (v := (.ref h_t_taken)) X iw_X12_fewestTables_X12 0 rfl rfl 19 (by decide) lk_X12_fewestTables_54 rfl dX12_fewestTables_191 ?_
      refine g_iload X dX12_fewestTables_194 5 rfl ?_
      refine g_dup2_11 X dX12_fewestTables_196 rfl rfl ?_
      obtain ⟨hb_30, hf⟩ := chk_out hf
      refine g_iald X 4 rfl hb_30 dX12_fewestTables_197 ?_
      refine g_aload_n X dX12_fewestTables_198 rfl 0 rfl ?_
      refine g_get (C := RX12) (T := TX12) (N := 22) (ci := 8) (v := (.ref h_t_sizes)) X iw_X12_fewestTables_X12 0 rfl rfl 16 (by decide) lk_X12_fewestTables_45 rfl dX12_fewestTables_199 ?_
      refine g_iload X dX12_fewestTables_202 4 rfl ?_
      obtain ⟨hb_31, hf⟩ := chk_out hf
      refine g_iald X 1 rfl hb_31 dX12_fewestTables_204 ?_
      refine g_iadd X dX12_fewestTables_205 ?_
      obtain ⟨hb_32, hf⟩ := chk_out hf
      obtain ⟨t_taken_33, et_taken_33, hf⟩ := bnd_out hf
      refine g_iast (ws' := (wd_X12_fewestTables cI cZ h_t h_t_w h_t_isKept h_t_text h_t_statuses h_t_ways h_t_feels h_t_next h_t_came h_t_deep h_t_sizes h_t_tableOf h_t_usedBy h_t_taken h_t_sixOf t_texted t_above t_below t_at t_start t_number t_went t_h t_sizes t_tableOf_29 t_usedBy t_taken_33)) X 4 rfl hb_32 et_taken_33 dX12_fewestTables_206 rfl ?_
      refine g_aload_n X dX12_fewestTables_207 rfl 0 rfl ?_
      refine g_get (C := RX12) (T := TX12) (N := 22) (ci := 8) (v := (.ref h_t_usedBy)) X iw_X12_fewestTables_X12 0 rfl rfl 18 (by decide) lk_X12_fewestTables_51 rfl dX12_fewestTables_208 ?_
      refine g_iload X dX12_fewestTables_211 4 rfl ?_
      refine g_iconst (v := 1) X dX12_fewestTables_213 (by decide) ?_
      refine g_iadd X dX12_fewestTables_214 ?_
      refine g_iload X dX12_fewestTables_215 5 rfl ?_
      refine g_aload_n X dX12_fewestTables_217 rfl 0 rfl ?_
      refine g_get (C := RX12) (T := TX12) (N := 22) (ci := 8) (v := (.ref h_t_usedBy)) X iw_X12_fewestTables_X12 0 rfl rfl 18 (by decide) lk_X12_fewestTables_51 rfl dX12_fewestTables_218 ?_
      refine g_iload X dX12_fewestTables_221 4 rfl ?_
      obtain ⟨hb_34, hf⟩ := chk_out hf
      refine g_iald X 3 rfl hb_34 dX12_fewestTables_223 ?_
      refine g_icmp_ne (tgt := 234) X dX12_fewestTables_224 (by decide) (fun hc_35 => ?_) (fun hc_35 => ?_)
      · replace hf := ite_f hc_35 hf
        refine g_aload_n X dX12_fewestTables_234 rfl 0 rfl ?_
        refine g_get (C := RX12) (T := TX12) (N := 22) (ci := 8) (v := (.ref h_t_usedBy)) X iw_X12_fewestTables_X12 0 rfl rfl 18 (by decide) lk_X12_fewestTables_51 rfl dX12_fewestTables_235 ?_
        refine g_iload X dX12_fewestTables_238 4 rfl ?_
        obtain ⟨hb_36, hf⟩ := chk_out hf
        refine g_iald X 3 rfl hb_36 dX12_fewestTables_240 ?_
        refine g_lv X (lv' := [(0, .ref h_t), (1, .int v1), (2, .int v2), (3, .int v3), (4, .int v4)]) [0, 1, 2, 3, 4] rfl ?_
        exact J241 k43 hk43 t_tableOf_29 t_usedBy t_taken_33 v1 v2 v3 v4 (v4 + 1) (t_usedBy v4.toNatClampNeg) hf
      · replace hf := ite_t hc_35 hf
        refine g_iload X dX12_fewestTables_227 5 rfl ?_
        refine g_iconst (v := 1) X dX12_fewestTables_229 (by decide) ?_
        refine g_iadd X dX12_fewestTables_230 ?_
        refine g_goto (tgt := 241) X dX12_fewestTables_231 (by decide) ?_
        refine g_lv X (lv' := [(0, .ref h_t), (1, .int v1), (2, .int v2), (3, .int v3), (4, .int v4)]) [0, 1, 2, 3, 4] rfl ?_
        exact J241 k43 hk43 t_tableOf_29 t_usedBy t_taken_33 v1 v2 v3 v4 (v4 + 1) (v5 + 1) hf
    · replace hf := ite_f hc_27 hf
      obtain ⟨v4_37, ev4_37, hf⟩ := bnd_out hf
      refine g_iinc (v := v4_37) (lv' := [(0, .ref h_t), (1, .int v1), (2, .int v2), (3, .int v3), (4, .int v4_37), (5, .int v5)]) X dX12_fewestTables_175 4 rfl (by rw [ev4_37]; rfl) (Nat.le_of_ble_eq_true rfl) [1, 2, 3, 4, 0, 5] rfl ?_
      refine g_goto (tgt := 253) X dX12_fewestTables_178 (by decide) ?_
      refine g_lv X (lv' := [(0, .ref h_t), (1, .int v1), (2, .int v2), (3, .int v3), (4, .int v4_37)]) [0, 1, 2, 3, 4] rfl ?_
      exact J253 k43 hk43 t_tableOf t_usedBy t_taken v1 v2 v3 v4_37 hf
  have J126 : ∀ (k43 : (Nat → Int32) → (Nat → Int32) → (Nat → Int32) → Int32 → Int32 → Int32 → Int32 → Option (Int32 × (Nat → Int32) × (Nat → Int32) × (Nat → Int32))) (hk43 : ∀ (t_tableOf : (Nat → Int32)) (t_usedBy : (Nat → Int32)) (t_taken : (Nat → Int32)) (v1 : Int32) (v2 : Int32) (v3 : Int32) (v4 : Int32), k43 t_tableOf t_usedBy t_taken v1 v2 v3 v4 = some res → G 0 0 (wd_X12_fewestTables cI cZ h_t h_t_w h_t_isKept h_t_text h_t_statuses h_t_ways h_t_feels h_t_next h_t_came h_t_deep h_t_sizes h_t_tableOf h_t_usedBy h_t_taken h_t_sixOf t_texted t_above t_below t_at t_start t_number t_went t_h t_sizes t_tableOf t_usedBy t_taken) [(0, .ref h_t), (1, .int v1), (2, .int v2), (3, .int v3), (4, .int v4)] 43 []) (n : Nat) (t_tableOf : (Nat → Int32)) (t_usedBy : (Nat → Int32)) (t_taken : (Nat → Int32)) (v1 : Int32) (v2 : Int32) (v3 : Int32) (v4 : Int32) (v5 : Int32), f_X12_fewestTables_126 t_sizes k43 n t_tableOf t_usedBy t_taken v1 v2 v3 v4 v5 = some res → G 0 0 (wd_X12_fewestTables cI cZ h_t h_t_w h_t_isKept h_t_text h_t_statuses h_t_ways h_t_feels h_t_next h_t_came h_t_deep h_t_sizes h_t_tableOf h_t_usedBy h_t_taken h_t_sixOf t_texted t_above t_below t_at t_start t_number t_went t_h t_sizes t_tableOf t_usedBy t_taken) [(0, .ref h_t), (1, .int v1), (2, .int v2), (3, .int v3), (4, .int v4), (5, .int v5)] 126 [] := by
    intro k43 hk43 n
    induction n with
    | zero => intro t_tableOf t_usedBy t_taken v1 v2 v3 v4 v5 hf; rw [f_X12_fewestTables_126] at hf; cases hf
    | succ n ih =>
      intro t_tableOf t_usedBy t_taken v1 v2 v3 v4 v5 hf
      rw [f_X12_fewestTables_126] at hf
      refine g_iload X dX12_fewestTables_126 5 rfl ?_
      refine g_aload_n X dX12_fewestTables_128 rfl 0 rfl ?_
      refine g_get (C := RX12) (T := TX12) (N := 22) (ci := 8) (v := (.ref h_t_usedBy)) X iw_X12_fewestTables_X12 0 rfl rfl 18 (by decide) lk_X12_fewestTables_51 rfl dX12_fewestTables_129 ?_
      refine g_iload X dX12_fewestTables_132 4 rfl ?_
      obtain ⟨hb_20, hf⟩ := chk_out hf
      refine g_iald X 3 rfl hb_20 dX12_fewestTables_134 ?_
      refine g_icmp_gt (tgt := 163) X dX12_fewestTables_135 (by decide) (fun hc_21 => ?_) (fun hc_21 => ?_)
      · replace hf := ite_t hc_21 hf
        exact J163 k43 hk43 t_tableOf t_usedBy t_taken v1 v2 v3 v4 v5 hf
      · replace hf := ite_f hc_21 hf
        refine g_aload_n X dX12_fewestTables_138 rfl 0 rfl ?_
        refine g_get (C := RX12) (T := TX12) (N := 22) (ci := 8) (v := (.ref h_t_taken)) X iw_X12_fewestTables_X12 0 rfl rfl 19 (by decide) lk_X12_fewestTables_54 rfl dX12_fewestTables_139 ?_
        refine g_iload X dX12_fewestTables_142 5 rfl ?_
        obtain ⟨hb_22, hf⟩ := chk_out hf
        refine g_iald X 4 rfl hb_22 dX12_fewestTables_144 ?_
        refine g_aload_n X dX12_fewestTables_145 rfl 0 rfl ?_
        refine g_get (C := RX12) (T := TX12) (N := 22) (ci := 8) (v := (.ref h_t_sizes)) X iw_X12_fewestTables_X12 0 rfl rfl 16 (by decide) lk_X12_fewestTables_45 rfl dX12_fewestTables_146 ?_
        refine g_iload X dX12_fewestTables_149 4 rfl ?_
        obtain ⟨hb_23, hf⟩ := chk_out hf
        refine g_iald X 1 rfl hb_23 dX12_fewestTables_151 ?_
        refine g_iadd X dX12_fewestTables_152 ?_
        refine g_iload_n X dX12_fewestTables_153 rfl 2 rfl ?_
        refine g_icmp_le (tgt := 163) X dX12_fewestTables_154 (by decide) (fun hc_24 => ?_) (fun hc_24 => ?_)
        · replace hf := ite_t hc_24 hf
          exact J163 k43 hk43 t_tableOf t_usedBy t_taken v1 v2 v3 v4 v5 hf
        · replace hf := ite_f hc_24 hf
          obtain ⟨v5_25, ev5_25, hf⟩ := bnd_out hf
          refine g_iinc (v := v5_25) (lv' := [(0, .ref h_t), (1, .int v1), (2, .int v2), (3, .int v3), (4, .int v4), (5, .int v5_25)]) X dX12_fewestTables_157 5 rfl (by rw [ev5_25]; rfl) (Nat.le_of_ble_eq_true rfl) [1, 2, 3, 4, 5, 0] rfl ?_
          refine g_goto (tgt := 126) X dX12_fewestTables_160 (by decide) ?_
          exact ih t_tableOf t_usedBy t_taken v1 v2 v3 v4 v5_25 hf
  have J115 : ∀ (k43 : (Nat → Int32) → (Nat → Int32) → (Nat → Int32) → Int32 → Int32 → Int32 → Int32 → Option (Int32 × (Nat → Int32) × (Nat → Int32) × (Nat → Int32))) (hk43 : ∀ (t_tableOf : (Nat → Int32)) (t_usedBy : (Nat → Int32)) (t_taken : (Nat → Int32)) (v1 : Int32) (v2 : Int32) (v3 : Int32) (v4 : Int32), k43 t_tableOf t_usedBy t_taken v1 v2 v3 v4 = some res → G 0 0 (wd_X12_fewestTables cI cZ h_t h_t_w h_t_isKept h_t_text h_t_statuses h_t_ways h_t_feels h_t_next h_t_came h_t_deep h_t_sizes h_t_tableOf h_t_usedBy h_t_taken h_t_sixOf t_texted t_above t_below t_at t_start t_number t_went t_h t_sizes t_tableOf t_usedBy t_taken) [(0, .ref h_t), (1, .int v1), (2, .int v2), (3, .int v3), (4, .int v4)] 43 []) (t_tableOf : (Nat → Int32)) (t_usedBy : (Nat → Int32)) (t_taken : (Nat → Int32)) (v1 : Int32) (v2 : Int32) (v3 : Int32) (v4 : Int32), f_X12_fewestTables_115 t_sizes k43 t_tableOf t_usedBy t_taken v1 v2 v3 v4 = some res → G 0 0 (wd_X12_fewestTables cI cZ h_t h_t_w h_t_isKept h_t_text h_t_statuses h_t_ways h_t_feels h_t_next h_t_came h_t_deep h_t_sizes h_t_tableOf h_t_usedBy h_t_taken h_t_sixOf t_texted t_above t_below t_at t_start t_number t_went t_h t_sizes t_tableOf t_usedBy t_taken) [(0, .ref h_t), (1, .int v1), (2, .int v2), (3, .int v3), (4, .int v4)] 115 [] := by
    intro k43 hk43 t_tableOf t_usedBy t_taken v1 v2 v3 v4 hf
    unfold f_X12_fewestTables_115 at hf
    refine g_aload_n X dX12_fewestTables_115 rfl 0 rfl ?_
    refine g_get (C := RX12) (T := TX12) (N := 22) (ci := 8) (v := (.ref h_t_tableOf)) X iw_X12_fewestTables_X12 0 rfl rfl 17 (by decide) lk_X12_fewestTables_48 rfl dX12_fewestTables_116 ?_
    refine g_iload X dX12_fewestTables_119 4 rfl ?_
    obtain ⟨hb_18, hf⟩ := chk_out hf
    refine g_iald X 2 rfl hb_18 dX12_fewestTables_121 ?_
    refine g_iconst (v := 1) X dX12_fewestTables_122 (by decide) ?_
    refine g_iadd X dX12_fewestTables_123 ?_
    obtain ⟨v5_19, ev5_19, hf⟩ := bnd_out hf
    refine g_nmI X ev5_19 ?_
    refine g_istore (lv' := [(0, .ref h_t), (1, .int v1), (2, .int v2), (3, .int v3), (4, .int v4), (5, .int v5_19)]) X dX12_fewestTables_124 (Nat.le_of_ble_eq_true rfl) [1, 2, 3, 4, 5, 0] rfl ?_
    exact J126 k43 hk43 FU t_tableOf t_usedBy t_taken v1 v2 v3 v4 v5_19 hf
  have J43 : ∀ (n : Nat) (t_tableOf : (Nat → Int32)) (t_usedBy : (Nat → Int32)) (t_taken : (Nat → Int32)) (v1 : Int32) (v2 : Int32) (v3 : Int32) (v4 : Int32), f_X12_fewestTables_43 t_sizes n t_tableOf t_usedBy t_taken v1 v2 v3 v4 = some res → G 0 0 (wd_X12_fewestTables cI cZ h_t h_t_w h_t_isKept h_t_text h_t_statuses h_t_ways h_t_feels h_t_next h_t_came h_t_deep h_t_sizes h_t_tableOf h_t_usedBy h_t_taken h_t_sixOf t_texted t_above t_below t_at t_start t_number t_went t_h t_sizes t_tableOf t_usedBy t_taken) [(0, .ref h_t), (1, .int v1), (2, .int v2), (3, .int v3), (4, .int v4)] 43 [] := by
    intro n
    induction n with
    | zero => intro t_tableOf t_usedBy t_taken v1 v2 v3 v4 hf; rw [f_X12_fewestTables_43] at hf; cases hf
    | succ n ih =>
      intro t_tableOf t_usedBy t_taken v1 v2 v3 v4 hf
      rw [f_X12_fewestTables_43] at hf
      refine g_iload X dX12_fewestTables_43 4 rfl ?_
      refine g_if_lt (tgt := 256) X dX12_fewestTables_45 (by decide) (fun hc_5 => ?_) (fun hc_5 => ?_)
      · replace hf := ite_t hc_5 hf
        refine g_iload_n X dX12_fewestTables_256 rfl 3 rfl ?_
        exact hR _ _ _ _ dX12_fewestTables_257 (kV_in (u := (v3, t_tableOf, t_usedBy, t_taken)) hf)
      · replace hf := ite_f hc_5 hf
        refine g_iload X dX12_fewestTables_48 4 rfl ?_
        refine g_iload_n X dX12_fewestTables_50 rfl 1 rfl ?_
        refine g_icmp_ne (tgt := 83) X dX12_fewestTables_51 (by decide) (fun hc_6 => ?_) (fun hc_6 => ?_)
        · replace hf := ite_f hc_6 hf
          refine g_aload_n X dX12_fewestTables_83 rfl 0 rfl ?_
          refine g_get (C := RX12) (T := TX12) (N := 22) (ci := 8) (v := (.ref h_t_tableOf)) X iw_X12_fewestTables_X12 0 rfl rfl 17 (by decide) lk_X12_fewestTables_48 rfl dX12_fewestTables_84 ?_
          refine g_iload X dX12_fewestTables_87 4 rfl ?_
          obtain ⟨hb_7, hf⟩ := chk_out hf
          refine g_iald X 2 rfl hb_7 dX12_fewestTables_89 ?_
          refine g_if_lt (tgt := 115) X dX12_fewestTables_90 (by decide) (fun hc_8 => ?_) (fun hc_8 => ?_)
          · replace hf := ite_t hc_8 hf
            exact J115 (f_X12_fewestTables_43 t_sizes n) ih t_tableOf t_usedBy t_taken v1 v2 v3 v4 hf
          · replace hf := ite_f hc_8 hf
            refine g_aload_n X dX12_fewestTables_93 rfl 0 rfl ?_
            refine g_get (C := RX12) (T := TX12) (N := 22) (ci := 8) (v := (.ref h_t_taken)) X iw_X12_fewestTables_X12 0 rfl rfl 19 (by decide) lk_X12_fewestTables_54 rfl dX12_fewestTables_94 ?_
            refine g_aload_n X dX12_fewestTables_97 rfl 0 rfl ?_
            refine g_get (C := RX12) (T := TX12) (N := 22) (ci := 8) (v := (.ref h_t_tableOf)) X iw_X12_fewestTables_X12 0 rfl rfl 17 (by decide) lk_X12_fewestTables_48 rfl dX12_fewestTables_98 ?_
            refine g_iload X dX12_fewestTables_101 4 rfl ?_
            obtain ⟨hb_9, hf⟩ := chk_out hf
            refine g_iald X 2 rfl hb_9 dX12_fewestTables_103 ?_
            refine g_dup2_11 X dX12_fewestTables_104 rfl rfl ?_
            obtain ⟨hb_10, hf⟩ := chk_out hf
            refine g_iald X 4 rfl hb_10 dX12_fewestTables_105 ?_
            refine g_aload_n X dX12_fewestTables_106 rfl 0 rfl ?_
            refine g_get (C := RX12) (T := TX12) (N := 22) (ci := 8) (v := (.ref h_t_sizes)) X iw_X12_fewestTables_X12 0 rfl rfl 16 (by decide) lk_X12_fewestTables_45 rfl dX12_fewestTables_107 ?_
            refine g_iload X dX12_fewestTables_110 4 rfl ?_
            obtain ⟨hb_11, hf⟩ := chk_out hf
            refine g_iald X 1 rfl hb_11 dX12_fewestTables_112 ?_
            refine g_isub X dX12_fewestTables_113 ?_
            obtain ⟨hb_12, hf⟩ := chk_out hf
            obtain ⟨t_taken_13, et_taken_13, hf⟩ := bnd_out hf
            refine g_iast (ws' := (wd_X12_fewestTables cI cZ h_t h_t_w h_t_isKept h_t_text h_t_statuses h_t_ways h_t_feels h_t_next h_t_came h_t_deep h_t_sizes h_t_tableOf h_t_usedBy h_t_taken h_t_sixOf t_texted t_above t_below t_at t_start t_number t_went t_h t_sizes t_tableOf t_usedBy t_taken_13)) X 4 rfl hb_12 et_taken_13 dX12_fewestTables_114 rfl ?_
            exact J115 (f_X12_fewestTables_43 t_sizes n) ih t_tableOf t_usedBy t_taken_13 v1 v2 v3 v4 hf
        · replace hf := ite_t hc_6 hf
          refine g_aload_n X dX12_fewestTables_54 rfl 0 rfl ?_
          refine g_get (C := RX12) (T := TX12) (N := 22) (ci := 8) (v := (.ref h_t_usedBy)) X iw_X12_fewestTables_X12 0 rfl rfl 18 (by decide) lk_X12_fewestTables_51 rfl dX12_fewestTables_55 ?_
          refine g_iload X dX12_fewestTables_58 4 rfl ?_
          obtain ⟨hb_14, hf⟩ := chk_out hf
          refine g_iald X 3 rfl hb_14 dX12_fewestTables_60 ?_
          refine g_iload_n X dX12_fewestTables_61 rfl 3 rfl ?_
          refine g_icmp_ge (tgt := 75) X dX12_fewestTables_62 (by decide) (fun hc_15 => ?_) (fun hc_15 => ?_)
          · replace hf := ite_t hc_15 hf
            refine g_iload_n X dX12_fewestTables_75 rfl 3 rfl ?_
            refine g_lv X (lv' := [(0, .ref h_t), (1, .int v1), (2, .int v2), (4, .int v4)]) [0, 1, 2, 4] rfl ?_
            exact J76 (f_X12_fewestTables_43 t_sizes n) ih t_tableOf t_usedBy t_taken v1 v2 v4 v3 hf
          · replace hf := ite_f hc_15 hf
            refine g_aload_n X dX12_fewestTables_65 rfl 0 rfl ?_
            refine g_get (C := RX12) (T := TX12) (N := 22) (ci := 8) (v := (.ref h_t_usedBy)) X iw_X12_fewestTables_X12 0 rfl rfl 18 (by decide) lk_X12_fewestTables_51 rfl dX12_fewestTables_66 ?_
            refine g_iload X dX12_fewestTables_69 4 rfl ?_
            obtain ⟨hb_16, hf⟩ := chk_out hf
            refine g_iald X 3 rfl hb_16 dX12_fewestTables_71 ?_
            refine g_goto (tgt := 76) X dX12_fewestTables_72 (by decide) ?_
            refine g_lv X (lv' := [(0, .ref h_t), (1, .int v1), (2, .int v2), (4, .int v4)]) [0, 1, 2, 4] rfl ?_
            exact J76 (f_X12_fewestTables_43 t_sizes n) ih t_tableOf t_usedBy t_taken v1 v2 v4 (t_usedBy v4.toNatClampNeg) hf
  have J22 : ∀ (n : Nat) (t_tableOf : (Nat → Int32)) (t_usedBy : (Nat → Int32)) (t_taken : (Nat → Int32)) (v1 : Int32) (v2 : Int32) (v3 : Int32) (v4 : Int32) (v5 : Int32), f_X12_fewestTables_22 t_sizes n t_tableOf t_usedBy t_taken v1 v2 v3 v4 v5 = some res → G 0 0 (wd_X12_fewestTables cI cZ h_t h_t_w h_t_isKept h_t_text h_t_statuses h_t_ways h_t_feels h_t_next h_t_came h_t_deep h_t_sizes h_t_tableOf h_t_usedBy h_t_taken h_t_sixOf t_texted t_above t_below t_at t_start t_number t_went t_h t_sizes t_tableOf t_usedBy t_taken) [(0, .ref h_t), (1, .int v1), (2, .int v2), (3, .int v3), (4, .int v4), (5, .int v5)] 22 [] := by
    intro n
    induction n with
    | zero => intro t_tableOf t_usedBy t_taken v1 v2 v3 v4 v5 hf; rw [f_X12_fewestTables_22] at hf; cases hf
    | succ n ih =>
      intro t_tableOf t_usedBy t_taken v1 v2 v3 v4 v5 hf
      rw [f_X12_fewestTables_22] at hf
      refine g_iload X dX12_fewestTables_22 5 rfl ?_
      refine g_bipush (v := 8) X dX12_fewestTables_24 (by decide) ?_
      refine g_icmp_ge (tgt := 43) X dX12_fewestTables_26 (by decide) (fun hc_1 => ?_) (fun hc_1 => ?_)
      · replace hf := ite_t hc_1 hf
        refine g_lv X (lv' := [(0, .ref h_t), (1, .int v1), (2, .int v2), (3, .int v3), (4, .int v4)]) [0, 1, 2, 3, 4] rfl ?_
        exact J43 FU t_tableOf t_usedBy t_taken v1 v2 v3 v4 hf
      · replace hf := ite_f hc_1 hf
        refine g_aload_n X dX12_fewestTables_29 rfl 0 rfl ?_
        refine g_get (C := RX12) (T := TX12) (N := 22) (ci := 8) (v := (.ref h_t_taken)) X iw_X12_fewestTables_X12 0 rfl rfl 19 (by decide) lk_X12_fewestTables_54 rfl dX12_fewestTables_30 ?_
        refine g_iload X dX12_fewestTables_33 5 rfl ?_
        refine g_iconst (v := 0) X dX12_fewestTables_35 (by decide) ?_
        obtain ⟨hb_2, hf⟩ := chk_out hf
        obtain ⟨t_taken_3, et_taken_3, hf⟩ := bnd_out hf
        refine g_iast (ws' := (wd_X12_fewestTables cI cZ h_t h_t_w h_t_isKept h_t_text h_t_statuses h_t_ways h_t_feels h_t_next h_t_came h_t_deep h_t_sizes h_t_tableOf h_t_usedBy h_t_taken h_t_sixOf t_texted t_above t_below t_at t_start t_number t_went t_h t_sizes t_tableOf t_usedBy t_taken_3)) X 4 rfl hb_2 et_taken_3 dX12_fewestTables_36 rfl ?_
        obtain ⟨v5_4, ev5_4, hf⟩ := bnd_out hf
        refine g_iinc (v := v5_4) (lv' := [(0, .ref h_t), (1, .int v1), (2, .int v2), (3, .int v3), (4, .int v4), (5, .int v5_4)]) X dX12_fewestTables_37 5 rfl (by rw [ev5_4]; rfl) (Nat.le_of_ble_eq_true rfl) [1, 2, 3, 4, 5, 0] rfl ?_
        refine g_goto (tgt := 22) X dX12_fewestTables_40 (by decide) ?_
        exact ih t_tableOf t_usedBy t_taken_3 v1 v2 v3 v4 v5_4 hf
  refine g_iload_n X dX12_fewestTables_0 rfl 1 rfl ?_
  refine g_istore_n (lv' := [(0, .ref h_t), (1, .int v1), (2, .int v2), (3, .int v1)]) X dX12_fewestTables_1 rfl (Nat.le_of_ble_eq_true rfl) [1, 2, 3, 0] rfl ?_
  refine g_iconst (v := 0) X dX12_fewestTables_2 (by decide) ?_
  refine g_istore (lv' := [(0, .ref h_t), (1, .int v1), (2, .int v2), (3, .int v1), (4, .int 0)]) X dX12_fewestTables_3 (Nat.le_of_ble_eq_true rfl) [1, 2, 3, 4, 0] rfl ?_
  refine g_aload_n X dX12_fewestTables_5 rfl 0 rfl ?_
  refine g_get (C := RX12) (T := TX12) (N := 22) (ci := 8) (v := (.ref h_t_tableOf)) X iw_X12_fewestTables_X12 0 rfl rfl 17 (by decide) lk_X12_fewestTables_48 rfl dX12_fewestTables_6 ?_
  refine g_iconst (v := 0) X dX12_fewestTables_9 (by decide) ?_
  refine g_iconst (v := (-1)) X dX12_fewestTables_10 (by decide) ?_
  obtain ⟨hb_43, hf⟩ := chk_out hf
  obtain ⟨t_tableOf_44, et_tableOf_44, hf⟩ := bnd_out hf
  refine g_iast (ws' := (wd_X12_fewestTables cI cZ h_t h_t_w h_t_isKept h_t_text h_t_statuses h_t_ways h_t_feels h_t_next h_t_came h_t_deep h_t_sizes h_t_tableOf h_t_usedBy h_t_taken h_t_sixOf t_texted t_above t_below t_at t_start t_number t_went t_h t_sizes t_tableOf_44 t_usedBy t_taken)) X 2 rfl hb_43 et_tableOf_44 dX12_fewestTables_11 rfl ?_
  refine g_aload_n X dX12_fewestTables_12 rfl 0 rfl ?_
  refine g_get (C := RX12) (T := TX12) (N := 22) (ci := 8) (v := (.ref h_t_usedBy)) X iw_X12_fewestTables_X12 0 rfl rfl 18 (by decide) lk_X12_fewestTables_51 rfl dX12_fewestTables_13 ?_
  refine g_iconst (v := 0) X dX12_fewestTables_16 (by decide) ?_
  refine g_iconst (v := 0) X dX12_fewestTables_17 (by decide) ?_
  obtain ⟨hb_45, hf⟩ := chk_out hf
  obtain ⟨t_usedBy_46, et_usedBy_46, hf⟩ := bnd_out hf
  refine g_iast (ws' := (wd_X12_fewestTables cI cZ h_t h_t_w h_t_isKept h_t_text h_t_statuses h_t_ways h_t_feels h_t_next h_t_came h_t_deep h_t_sizes h_t_tableOf h_t_usedBy h_t_taken h_t_sixOf t_texted t_above t_below t_at t_start t_number t_went t_h t_sizes t_tableOf_44 t_usedBy_46 t_taken)) X 3 rfl hb_45 et_usedBy_46 dX12_fewestTables_18 rfl ?_
  refine g_iconst (v := 0) X dX12_fewestTables_19 (by decide) ?_
  refine g_istore (lv' := [(0, .ref h_t), (1, .int v1), (2, .int v2), (3, .int v1), (4, .int 0), (5, .int 0)]) X dX12_fewestTables_20 (Nat.le_of_ble_eq_true rfl) [1, 2, 3, 4, 5, 0] rfl ?_
  exact J22 FU t_tableOf_44 t_usedBy_46 t_taken v1 v2 v1 0 0 hf
def wd_X12_lunch (cI cZ : ClassId) (h_t : Nat) (h_t_w : Nat) (h_t_isKept : Nat) (h_t_text : Nat) (h_t_statuses : Nat) (h_t_ways : Nat) (h_t_feels : Nat) (h_t_next : Nat) (h_t_came : Nat) (h_t_deep : Nat) (h_t_sizes : Nat) (h_t_tableOf : Nat) (h_t_usedBy : Nat) (h_t_taken : Nat) (h_t_sixOf : Nat) (t_texted : Int32) (t_above : Int64) (t_below : Int64) (t_at : Int32) (t_start : Int32) (t_number : Int32) (t_went : Int32) (t_h : Int64) (t_w : (Nat → Int32)) (t_statuses : (Nat → Int32)) (t_sizes : (Nat → Int32)) (t_tableOf : (Nat → Int32)) (t_usedBy : (Nat → Int32)) (t_taken : (Nat → Int32)) : va_W := [(h_t, .inr (8, [.ref h_t_w, .ref h_t_isKept, .ref h_t_text, .int t_texted, .long t_above, .long t_below, .ref h_t_statuses, .int t_at, .int t_start, .int t_number, .ref h_t_ways, .int t_went, .ref h_t_feels, .ref h_t_next, .ref h_t_came, .ref h_t_deep, .ref h_t_sizes, .ref h_t_tableOf, .ref h_t_usedBy, .ref h_t_taken, .ref h_t_sixOf, .long t_h])), (h_t_w, .inl (cI, 1251, .inl t_w)), (h_t_statuses, .inl (cI, 3, .inl t_statuses)), (h_t_sizes, .inl (cI, 7, .inl t_sizes)), (h_t_tableOf, .inl (cI, 8, .inl t_tableOf)), (h_t_usedBy, .inl (cI, 8, .inl t_usedBy)), (h_t_taken, .inl (cI, 8, .inl t_taken))]
abbrev rm_X12_lunch : Room := { frames := 2, cells := 0, slots := 0, locals := 47 }
theorem hv_X12_lunch : yX12_lunch.cls = RX12 ∧ yX12_lunch.cls ≠ "java/lang/invoke/MethodHandle" ∧ yX12_lunch.cls ≠ "java/lang/invoke/VarHandle" ∧ (parseMethodDescriptor yX12_lunch.desc).map (fun d => d.parameters.length) = some 1 := by decide +kernel
theorem iw_X12_lunch_X12 : ∀ w ∈ u_ws RX12 TX12 22, w ∈ wsX12_lunch := by decide +kernel
theorem lk_X12_lunch_7 : Cond.fieldLink RX12 7 "ClerkChainsModel" "w" "[I" ∈ wsX12_lunch := by decide +kernel
theorem lk_X12_lunch_45 : Cond.fieldLink RX12 45 "ClerkChainsModel" "sizes" "[I" ∈ wsX12_lunch := by decide +kernel
theorem lk_X12_lunch_256 : Cond.constantLong RX12 256 7 ∈ wsX12_lunch := by decide +kernel
set_option maxHeartbeats 4000000 in
set_option maxRecDepth 100000 in
theorem c_X12_lunch (l : Launch) (D : va_G) (cI cZ : ClassId) (h_t : Nat) (h_t_w : Nat) (h_t_isKept : Nat) (h_t_text : Nat) (h_t_statuses : Nat) (h_t_ways : Nat) (h_t_feels : Nat) (h_t_next : Nat) (h_t_came : Nat) (h_t_deep : Nat) (h_t_sizes : Nat) (h_t_tableOf : Nat) (h_t_usedBy : Nat) (h_t_taken : Nat) (h_t_sixOf : Nat) (t_texted : Int32) (t_above : Int64) (t_below : Int64) (t_at : Int32) (t_start : Int32) (t_number : Int32) (t_went : Int32) (t_h : Int64) (t_w : (Nat → Int32)) (t_statuses : (Nat → Int32)) (t_sizes : (Nat → Int32)) (t_tableOf : (Nat → Int32)) (t_usedBy : (Nat → Int32)) (t_taken : (Nat → Int32)) (v1 : Int32) (res : Int32 × (Nat → Int32) × (Nat → Int32) × (Nat → Int32) × (Nat → Int32) × (Nat → Int32)) (hf : f_X12_lunch t_w t_statuses t_sizes t_tableOf t_usedBy t_taken v1 = some res) : MetG l yX12_lunch wsX12_lunch rm_X12_lunch D cI cZ none [.ref h_t, .int v1] (wd_X12_lunch cI cZ h_t h_t_w h_t_isKept h_t_text h_t_statuses h_t_ways h_t_feels h_t_next h_t_came h_t_deep h_t_sizes h_t_tableOf h_t_usedBy h_t_taken h_t_sixOf t_texted t_above t_below t_at t_start t_number t_went t_h t_w t_statuses t_sizes t_tableOf t_usedBy t_taken) (kV res (fun u => some (.int u.1)) (fun u => (wd_X12_lunch cI cZ h_t h_t_w h_t_isKept h_t_text h_t_statuses h_t_ways h_t_feels h_t_next h_t_came h_t_deep h_t_sizes h_t_tableOf h_t_usedBy h_t_taken h_t_sixOf t_texted t_above t_below t_at t_start t_number t_went t_h t_w (u.2.1) (u.2.2.1) (u.2.2.2.1) (u.2.2.2.2.1) (u.2.2.2.2.2)))) := by
  refine metG_of (cc := cX12_lunch) (maxL := 4) (ret := (some .int)) (own := RX12) (lv0 := [(0, .ref h_t), (1, .int v1)]) (ini := false) (by decide) rfl (Nat.le_of_ble_eq_true rfl) rfl rfl (fun h => by cases h) (fun G X hR => ?_)
  replace hR := rt_int hR
  unfold f_X12_lunch at hf
  have J64 : ∀ (k23 : (Nat → Int32) → (Nat → Int32) → (Nat → Int32) → (Nat → Int32) → (Nat → Int32) → Int32 → Int32 → Int32 → Option (Int32 × (Nat → Int32) × (Nat → Int32) × (Nat → Int32) × (Nat → Int32) × (Nat → Int32))) (hk23 : ∀ (t_statuses : (Nat → Int32)) (t_sizes : (Nat → Int32)) (t_tableOf : (Nat → Int32)) (t_usedBy : (Nat → Int32)) (t_taken : (Nat → Int32)) (v1 : Int32) (v2 : Int32) (v3 : Int32), k23 t_statuses t_sizes t_tableOf t_usedBy t_taken v1 v2 v3 = some res → G 0 0 (wd_X12_lunch cI cZ h_t h_t_w h_t_isKept h_t_text h_t_statuses h_t_ways h_t_feels h_t_next h_t_came h_t_deep h_t_sizes h_t_tableOf h_t_usedBy h_t_taken h_t_sixOf t_texted t_above t_below t_at t_start t_number t_went t_h t_w t_statuses t_sizes t_tableOf t_usedBy t_taken) [(0, .ref h_t), (1, .int v1), (2, .int v2), (3, .int v3)] 23 []) (t_statuses : (Nat → Int32)) (t_sizes : (Nat → Int32)) (t_tableOf : (Nat → Int32)) (t_usedBy : (Nat → Int32)) (t_taken : (Nat → Int32)) (v1 : Int32) (v2 : Int32) (v3 : Int32), f_X12_lunch_64 t_w k23 t_statuses t_sizes t_tableOf t_usedBy t_taken v1 v2 v3 = some res → G 0 0 (wd_X12_lunch cI cZ h_t h_t_w h_t_isKept h_t_text h_t_statuses h_t_ways h_t_feels h_t_next h_t_came h_t_deep h_t_sizes h_t_tableOf h_t_usedBy h_t_taken h_t_sixOf t_texted t_above t_below t_at t_start t_number t_went t_h t_w t_statuses t_sizes t_tableOf t_usedBy t_taken) [(0, .ref h_t), (1, .int v1), (2, .int v2), (3, .int v3)] 64 [] := by
    intro k23 hk23 t_statuses t_sizes t_tableOf t_usedBy t_taken v1 v2 v3 hf
    unfold f_X12_lunch_64 at hf
    obtain ⟨v3_12, ev3_12, hf⟩ := bnd_out hf
    refine g_iinc (v := v3_12) (lv' := [(0, .ref h_t), (1, .int v1), (2, .int v2), (3, .int v3_12)]) X dX12_lunch_64 3 rfl (by rw [ev3_12]; rfl) (Nat.le_of_ble_eq_true rfl) [1, 2, 3, 0] rfl ?_
    refine g_goto (tgt := 23) X dX12_lunch_67 (by decide) ?_
    exact hk23 t_statuses t_sizes t_tableOf t_usedBy t_taken v1 v2 v3_12 hf
  have J95 : ∀ (t_statuses : (Nat → Int32)) (t_sizes : (Nat → Int32)) (t_tableOf : (Nat → Int32)) (t_usedBy : (Nat → Int32)) (t_taken : (Nat → Int32)) (v1 : Int32) (v2 : Int32), f_X12_lunch_95 t_w t_statuses t_sizes t_tableOf t_usedBy t_taken v1 v2 = some res → G 0 0 (wd_X12_lunch cI cZ h_t h_t_w h_t_isKept h_t_text h_t_statuses h_t_ways h_t_feels h_t_next h_t_came h_t_deep h_t_sizes h_t_tableOf h_t_usedBy h_t_taken h_t_sixOf t_texted t_above t_below t_at t_start t_number t_went t_h t_w t_statuses t_sizes t_tableOf t_usedBy t_taken) [(0, .ref h_t), (1, .int v1), (2, .int v2)] 95 [] := by
    intro t_statuses t_sizes t_tableOf t_usedBy t_taken v1 v2 hf
    unfold f_X12_lunch_95 at hf
    refine g_aload_n X dX12_lunch_95 rfl 0 rfl ?_
    refine g_iload_n X dX12_lunch_96 rfl 2 rfl ?_
    refine g_iload_n X dX12_lunch_97 rfl 1 rfl ?_
    obtain ⟨r_17, t_tableOf_18, t_usedBy_19, t_taken_20, hk_21, hf⟩ := ob4_out hf
    refine g_cVW (st := []) (st1 := [.int r_17]) (C := RX12) (ci := 8) (q0 := 0) (ws' := (wd_X12_lunch cI cZ h_t h_t_w h_t_isKept h_t_text h_t_statuses h_t_ways h_t_feels h_t_next h_t_came h_t_deep h_t_sizes h_t_tableOf h_t_usedBy h_t_taken h_t_sixOf t_texted t_above t_below t_at t_start t_number t_went t_h t_w t_statuses t_sizes t_tableOf_18 t_usedBy_19 t_taken_20)) X (c_X12_fewestTables l D cI cZ h_t h_t_w h_t_isKept h_t_text h_t_statuses h_t_ways h_t_feels h_t_next h_t_came h_t_deep h_t_sizes h_t_tableOf h_t_usedBy h_t_taken h_t_sixOf t_texted t_above t_below t_at t_start t_number t_went t_h t_sizes t_tableOf t_usedBy t_taken v2 v1 _ hk_21) (Or.inl rfl) 2 gX12_lunch_X12_fewestTables rfl hv_X12_fewestTables ⟨Nat.le_of_ble_eq_true rfl, Nat.le_of_ble_eq_true rfl⟩ rfl rfl (Nat.le_of_ble_eq_true rfl) ⟨rfl, rfl⟩ (Nat.zero_le _) (Nat.zero_le _) rfl rfl rfl dX12_lunch_98 [0, 3, 4, 5, 6] rfl rfl [1, 2] rfl rfl (by decide) [2, 0, 1, 3, 4, 5, 6] rfl rfl rfl ?_
    exact hR _ _ _ _ dX12_lunch_101 (kV_in (u := (r_17, t_statuses, t_sizes, t_tableOf_18, t_usedBy_19, t_taken_20)) hf)
  have J72 : ∀ (n : Nat) (t_statuses : (Nat → Int32)) (t_sizes : (Nat → Int32)) (t_tableOf : (Nat → Int32)) (t_usedBy : (Nat → Int32)) (t_taken : (Nat → Int32)) (v1 : Int32) (v2 : Int32) (v3 : Int32), f_X12_lunch_72 t_w n t_statuses t_sizes t_tableOf t_usedBy t_taken v1 v2 v3 = some res → G 0 0 (wd_X12_lunch cI cZ h_t h_t_w h_t_isKept h_t_text h_t_statuses h_t_ways h_t_feels h_t_next h_t_came h_t_deep h_t_sizes h_t_tableOf h_t_usedBy h_t_taken h_t_sixOf t_texted t_above t_below t_at t_start t_number t_went t_h t_w t_statuses t_sizes t_tableOf t_usedBy t_taken) [(0, .ref h_t), (1, .int v1), (2, .int v2), (3, .int v3)] 72 [] := by
    intro n
    induction n with
    | zero => intro t_statuses t_sizes t_tableOf t_usedBy t_taken v1 v2 v3 hf; rw [f_X12_lunch_72] at hf; cases hf
    | succ n ih =>
      intro t_statuses t_sizes t_tableOf t_usedBy t_taken v1 v2 v3 hf
      rw [f_X12_lunch_72] at hf
      refine g_iload_n X dX12_lunch_72 rfl 3 rfl ?_
      refine g_iload_n X dX12_lunch_73 rfl 2 rfl ?_
      refine g_icmp_ge (tgt := 95) X dX12_lunch_74 (by decide) (fun hc_13 => ?_) (fun hc_13 => ?_)
      · replace hf := ite_t hc_13 hf
        refine g_lv X (lv' := [(0, .ref h_t), (1, .int v1), (2, .int v2)]) [0, 1, 2] rfl ?_
        exact J95 t_statuses t_sizes t_tableOf t_usedBy t_taken v1 v2 hf
      · replace hf := ite_f hc_13 hf
        refine g_aload_n X dX12_lunch_77 rfl 0 rfl ?_
        refine g_get (C := RX12) (T := TX12) (N := 22) (ci := 8) (v := (.ref h_t_sizes)) X iw_X12_lunch_X12 0 rfl rfl 16 (by decide) lk_X12_lunch_45 rfl dX12_lunch_78 ?_
        refine g_iload_n X dX12_lunch_81 rfl 3 rfl ?_
        obtain ⟨hb_14, hf⟩ := chk_out hf
        refine g_iald X 3 rfl hb_14 dX12_lunch_82 ?_
        refine g_iload_n X dX12_lunch_83 rfl 1 rfl ?_
        refine g_icmp_le (tgt := 89) X dX12_lunch_84 (by decide) (fun hc_15 => ?_) (fun hc_15 => ?_)
        · replace hf := ite_t hc_15 hf
          obtain ⟨v3_16, ev3_16, hf⟩ := bnd_out hf
          refine g_iinc (v := v3_16) (lv' := [(0, .ref h_t), (1, .int v1), (2, .int v2), (3, .int v3_16)]) X dX12_lunch_89 3 rfl (by rw [ev3_16]; rfl) (Nat.le_of_ble_eq_true rfl) [1, 2, 3, 0] rfl ?_
          refine g_goto (tgt := 72) X dX12_lunch_92 (by decide) ?_
          exact ih t_statuses t_sizes t_tableOf t_usedBy t_taken v1 v2 v3_16 hf
        · replace hf := ite_f hc_15 hf
          refine g_iconst (v := (-1)) X dX12_lunch_87 (by decide) ?_
          exact hR _ _ _ _ dX12_lunch_88 (kV_in (u := ((-1), t_statuses, t_sizes, t_tableOf, t_usedBy, t_taken)) hf)
  have J70 : ∀ (t_statuses : (Nat → Int32)) (t_sizes : (Nat → Int32)) (t_tableOf : (Nat → Int32)) (t_usedBy : (Nat → Int32)) (t_taken : (Nat → Int32)) (v1 : Int32) (v2 : Int32), f_X12_lunch_70 t_w t_statuses t_sizes t_tableOf t_usedBy t_taken v1 v2 = some res → G 0 0 (wd_X12_lunch cI cZ h_t h_t_w h_t_isKept h_t_text h_t_statuses h_t_ways h_t_feels h_t_next h_t_came h_t_deep h_t_sizes h_t_tableOf h_t_usedBy h_t_taken h_t_sixOf t_texted t_above t_below t_at t_start t_number t_went t_h t_w t_statuses t_sizes t_tableOf t_usedBy t_taken) [(0, .ref h_t), (1, .int v1), (2, .int v2)] 70 [] := by
    intro t_statuses t_sizes t_tableOf t_usedBy t_taken v1 v2 hf
    unfold f_X12_lunch_70 at hf
    refine g_iconst (v := 0) X dX12_lunch_70 (by decide) ?_
    refine g_istore_n (lv' := [(0, .ref h_t), (1, .int v1), (2, .int v2), (3, .int 0)]) X dX12_lunch_71 rfl (Nat.le_of_ble_eq_true rfl) [1, 2, 3, 0] rfl ?_
    exact J72 FU t_statuses t_sizes t_tableOf t_usedBy t_taken v1 v2 0 hf
  have J23 : ∀ (n : Nat) (t_statuses : (Nat → Int32)) (t_sizes : (Nat → Int32)) (t_tableOf : (Nat → Int32)) (t_usedBy : (Nat → Int32)) (t_taken : (Nat → Int32)) (v1 : Int32) (v2 : Int32) (v3 : Int32), f_X12_lunch_23 t_w n t_statuses t_sizes t_tableOf t_usedBy t_taken v1 v2 v3 = some res → G 0 0 (wd_X12_lunch cI cZ h_t h_t_w h_t_isKept h_t_text h_t_statuses h_t_ways h_t_feels h_t_next h_t_came h_t_deep h_t_sizes h_t_tableOf h_t_usedBy h_t_taken h_t_sixOf t_texted t_above t_below t_at t_start t_number t_went t_h t_w t_statuses t_sizes t_tableOf t_usedBy t_taken) [(0, .ref h_t), (1, .int v1), (2, .int v2), (3, .int v3)] 23 [] := by
    intro n
    induction n with
    | zero => intro t_statuses t_sizes t_tableOf t_usedBy t_taken v1 v2 v3 hf; rw [f_X12_lunch_23] at hf; cases hf
    | succ n ih =>
      intro t_statuses t_sizes t_tableOf t_usedBy t_taken v1 v2 v3 hf
      rw [f_X12_lunch_23] at hf
      refine g_iload_n X dX12_lunch_23 rfl 3 rfl ?_
      refine g_aload_n X dX12_lunch_24 rfl 0 rfl ?_
      refine g_get (C := RX12) (T := TX12) (N := 22) (ci := 8) (v := (.ref h_t_w)) X iw_X12_lunch_X12 0 rfl rfl 0 (by decide) lk_X12_lunch_7 rfl dX12_lunch_25 ?_
      refine g_iconst (v := 0) X dX12_lunch_28 (by decide) ?_
      obtain ⟨hb_1, hf⟩ := chk_out hf
      refine g_iald X 1 rfl hb_1 dX12_lunch_29 ?_
      refine g_icmp_ge (tgt := 70) X dX12_lunch_30 (by decide) (fun hc_2 => ?_) (fun hc_2 => ?_)
      · replace hf := ite_t hc_2 hf
        refine g_lv X (lv' := [(0, .ref h_t), (1, .int v1), (2, .int v2)]) [0, 1, 2] rfl ?_
        exact J70 t_statuses t_sizes t_tableOf t_usedBy t_taken v1 v2 hf
      · replace hf := ite_f hc_2 hf
        refine g_aload_n X dX12_lunch_33 rfl 0 rfl ?_
        refine g_get (C := RX12) (T := TX12) (N := 22) (ci := 8) (v := (.ref h_t_w)) X iw_X12_lunch_X12 0 rfl rfl 0 (by decide) lk_X12_lunch_7 rfl dX12_lunch_34 ?_
        refine g_bipush (v := 31) X dX12_lunch_37 (by decide) ?_
        refine g_iload_n X dX12_lunch_39 rfl 3 rfl ?_
        refine g_iadd X dX12_lunch_40 ?_
        obtain ⟨hb_3, hf⟩ := chk_out hf
        refine g_iald X 1 rfl hb_3 dX12_lunch_41 ?_
        refine g_iconst (v := (-1)) X dX12_lunch_42 (by decide) ?_
        refine g_icmp_ne (tgt := 64) X dX12_lunch_43 (by decide) (fun hc_4 => ?_) (fun hc_4 => ?_)
        · replace hf := ite_f hc_4 hf
          exact J64 (f_X12_lunch_23 t_w n) ih t_statuses t_sizes t_tableOf t_usedBy t_taken v1 v2 v3 hf
        · replace hf := ite_t hc_4 hf
          refine g_aload_n X dX12_lunch_46 rfl 0 rfl ?_
          refine g_get (C := RX12) (T := TX12) (N := 22) (ci := 8) (v := (.ref h_t_sizes)) X iw_X12_lunch_X12 0 rfl rfl 16 (by decide) lk_X12_lunch_45 rfl dX12_lunch_47 ?_
          refine g_iload_n X dX12_lunch_50 rfl 2 rfl ?_
          refine g_aload_n X dX12_lunch_51 rfl 0 rfl ?_
          refine g_iconst (v := 0) X dX12_lunch_52 (by decide) ?_
          refine g_iload_n X dX12_lunch_53 rfl 3 rfl ?_
          obtain ⟨r_5, hk_6, hf⟩ := ob1_out hf
          refine g_cVR (st := [.int v2, .ref h_t_sizes]) (st1 := [.int r_5, .int v2, .ref h_t_sizes]) (C := RX12) (ci := 8) (q0 := 0) X (c_X12_stringOf l D cI cZ h_t h_t_w h_t_isKept h_t_text h_t_statuses h_t_ways h_t_feels h_t_next h_t_came h_t_deep h_t_sizes h_t_tableOf h_t_usedBy h_t_taken h_t_sixOf t_texted t_above t_below t_at t_start t_number t_went t_h t_w 0 v3 _ hk_6) (Or.inl rfl) 2 gX12_lunch_X12_stringOf rfl hv_X12_stringOf ⟨Nat.le_of_ble_eq_true rfl, Nat.le_of_ble_eq_true rfl⟩ rfl rfl (Nat.le_of_ble_eq_true rfl) ⟨rfl, rfl⟩ (Nat.zero_le _) (Nat.zero_le _) rfl rfl rfl dX12_lunch_54 [0, 1] rfl rfl rfl ?_
          obtain ⟨r_7, hk_8, hf⟩ := ob1_out hf
          refine g_cSR (st := [.int v2, .ref h_t_sizes]) (st1 := [.int r_7, .int v2, .ref h_t_sizes]) X (c_X12_ones l D cI cZ r_5 _ hk_8) (Or.inl rfl) 1 gX12_lunch_X12_ones rfl hs_X12_ones ⟨Nat.le_of_ble_eq_true rfl, Nat.le_of_ble_eq_true rfl⟩ rfl rfl (Nat.le_of_ble_eq_true rfl) ⟨rfl, rfl⟩ (Nat.zero_le _) (Nat.zero_le _) dX12_lunch_57 [] rfl rfl rfl ?_
          obtain ⟨hb_9, hf⟩ := chk_out hf
          obtain ⟨t_sizes_10, et_sizes_10, hf⟩ := bnd_out hf
          refine g_iast (ws' := (wd_X12_lunch cI cZ h_t h_t_w h_t_isKept h_t_text h_t_statuses h_t_ways h_t_feels h_t_next h_t_came h_t_deep h_t_sizes h_t_tableOf h_t_usedBy h_t_taken h_t_sixOf t_texted t_above t_below t_at t_start t_number t_went t_h t_w t_statuses t_sizes_10 t_tableOf t_usedBy t_taken)) X 3 rfl hb_9 et_sizes_10 dX12_lunch_60 rfl ?_
          obtain ⟨v2_11, ev2_11, hf⟩ := bnd_out hf
          refine g_iinc (v := v2_11) (lv' := [(0, .ref h_t), (1, .int v1), (2, .int v2_11), (3, .int v3)]) X dX12_lunch_61 2 rfl (by rw [ev2_11]; rfl) (Nat.le_of_ble_eq_true rfl) [1, 2, 0, 3] rfl ?_
          exact J64 (f_X12_lunch_23 t_w n) ih t_statuses t_sizes_10 t_tableOf t_usedBy t_taken v1 v2_11 v3 hf
  refine g_iload_n X dX12_lunch_0 rfl 1 rfl ?_
  refine g_i2l X dX12_lunch_1 ?_
  refine g_lconst (v := 1) X dX12_lunch_2 (by decide) ?_
  refine g_ldc2 (v := 7) X dX12_lunch_3 lk_X12_lunch_256 ?_
  obtain ⟨r_22, hk_23, hf⟩ := ob1_out hf
  refine g_cSR (st := []) (st1 := [.int r_22]) X (c_X12_in l D cI cZ (v1.toInt64) 1 7 _ hk_23) (Or.inl rfl) 3 gX12_lunch_X12_in rfl hs_X12_in ⟨Nat.le_of_ble_eq_true rfl, Nat.le_of_ble_eq_true rfl⟩ rfl rfl (Nat.le_of_ble_eq_true rfl) ⟨rfl, rfl⟩ (Nat.zero_le _) (Nat.zero_le _) dX12_lunch_6 [] rfl rfl rfl ?_
  refine g_if_ne (tgt := 19) X dX12_lunch_9 (by decide) (fun hc_24 => ?_) (fun hc_24 => ?_)
  · replace hf := ite_f hc_24 hf
    refine g_iconst (v := 0) X dX12_lunch_19 (by decide) ?_
    refine g_istore_n (lv' := [(0, .ref h_t), (1, .int v1), (2, .int 0)]) X dX12_lunch_20 rfl (Nat.le_of_ble_eq_true rfl) [1, 2, 0] rfl ?_
    refine g_iconst (v := 0) X dX12_lunch_21 (by decide) ?_
    refine g_istore_n (lv' := [(0, .ref h_t), (1, .int v1), (2, .int 0), (3, .int 0)]) X dX12_lunch_22 rfl (Nat.le_of_ble_eq_true rfl) [1, 2, 3, 0] rfl ?_
    exact J23 FU t_statuses t_sizes t_tableOf t_usedBy t_taken v1 0 0 hf
  · replace hf := ite_t hc_24 hf
    refine g_aload_n X dX12_lunch_12 rfl 0 rfl ?_
    refine g_bipush (v := (-2)) X dX12_lunch_13 (by decide) ?_
    obtain ⟨r_25, t_statuses_26, hk_27, hf⟩ := ob2_out hf
    refine g_cVW (st := []) (st1 := [.int r_25]) (C := RX12) (ci := 8) (q0 := 0) (ws' := (wd_X12_lunch cI cZ h_t h_t_w h_t_isKept h_t_text h_t_statuses h_t_ways h_t_feels h_t_next h_t_came h_t_deep h_t_sizes h_t_tableOf h_t_usedBy h_t_taken h_t_sixOf t_texted t_above t_below t_at t_start t_number t_went t_h t_w t_statuses_26 t_sizes t_tableOf t_usedBy t_taken)) X (c_X12_bad l D cI cZ h_t h_t_w h_t_isKept h_t_text h_t_statuses h_t_ways h_t_feels h_t_next h_t_came h_t_deep h_t_sizes h_t_tableOf h_t_usedBy h_t_taken h_t_sixOf t_texted t_above t_below t_at t_start t_number t_went t_h t_statuses (-2) _ hk_27) (Or.inl rfl) 1 gX12_lunch_X12_bad rfl hv_X12_bad ⟨Nat.le_of_ble_eq_true rfl, Nat.le_of_ble_eq_true rfl⟩ rfl rfl (Nat.le_of_ble_eq_true rfl) ⟨rfl, rfl⟩ (Nat.zero_le _) (Nat.zero_le _) rfl rfl rfl dX12_lunch_15 [0, 2] rfl rfl [1, 3, 4, 5, 6] rfl rfl (by decide) [5, 0, 6, 1, 2, 3, 4] rfl rfl rfl ?_
    exact hR _ _ _ _ dX12_lunch_18 (kV_in (u := (r_25, t_statuses_26, t_sizes, t_tableOf, t_usedBy, t_taken)) hf)
def wd_X12_free (cI cZ : ClassId) (h_t : Nat) (h_t_w : Nat) (h_t_isKept : Nat) (h_t_text : Nat) (h_t_statuses : Nat) (h_t_ways : Nat) (h_t_feels : Nat) (h_t_next : Nat) (h_t_came : Nat) (h_t_deep : Nat) (h_t_sizes : Nat) (h_t_tableOf : Nat) (h_t_usedBy : Nat) (h_t_taken : Nat) (h_t_sixOf : Nat) (t_texted : Int32) (t_above : Int64) (t_below : Int64) (t_at : Int32) (t_start : Int32) (t_number : Int32) (t_went : Int32) (t_h : Int64) (t_w : (Nat → Int32)) (t_statuses : (Nat → Int32)) : va_W := [(h_t, .inr (8, [.ref h_t_w, .ref h_t_isKept, .ref h_t_text, .int t_texted, .long t_above, .long t_below, .ref h_t_statuses, .int t_at, .int t_start, .int t_number, .ref h_t_ways, .int t_went, .ref h_t_feels, .ref h_t_next, .ref h_t_came, .ref h_t_deep, .ref h_t_sizes, .ref h_t_tableOf, .ref h_t_usedBy, .ref h_t_taken, .ref h_t_sixOf, .long t_h])), (h_t_w, .inl (cI, 1251, .inl t_w)), (h_t_statuses, .inl (cI, 3, .inl t_statuses))]
abbrev rm_X12_free : Room := { frames := 2, cells := 0, slots := 0, locals := 47 }
theorem hv_X12_free : yX12_free.cls = RX12 ∧ yX12_free.cls ≠ "java/lang/invoke/MethodHandle" ∧ yX12_free.cls ≠ "java/lang/invoke/VarHandle" ∧ (parseMethodDescriptor yX12_free.desc).map (fun d => d.parameters.length) = some 1 := by decide +kernel
theorem iw_X12_free_X12 : ∀ w ∈ u_ws RX12 TX12 22, w ∈ wsX12_free := by decide +kernel
theorem lk_X12_free_7 : Cond.fieldLink RX12 7 "ClerkChainsModel" "w" "[I" ∈ wsX12_free := by decide +kernel
theorem lk_X12_free_261 : Cond.constantLong RX12 261 63 ∈ wsX12_free := by decide +kernel
set_option maxHeartbeats 4000000 in
set_option maxRecDepth 100000 in
theorem c_X12_free (l : Launch) (D : va_G) (cI cZ : ClassId) (h_t : Nat) (h_t_w : Nat) (h_t_isKept : Nat) (h_t_text : Nat) (h_t_statuses : Nat) (h_t_ways : Nat) (h_t_feels : Nat) (h_t_next : Nat) (h_t_came : Nat) (h_t_deep : Nat) (h_t_sizes : Nat) (h_t_tableOf : Nat) (h_t_usedBy : Nat) (h_t_taken : Nat) (h_t_sixOf : Nat) (t_texted : Int32) (t_above : Int64) (t_below : Int64) (t_at : Int32) (t_start : Int32) (t_number : Int32) (t_went : Int32) (t_h : Int64) (t_w : (Nat → Int32)) (t_statuses : (Nat → Int32)) (v1 : Int32) (res : Int32 × (Nat → Int32) × (Nat → Int32)) (hf : f_X12_free t_w t_statuses v1 = some res) : MetG l yX12_free wsX12_free rm_X12_free D cI cZ none [.ref h_t, .int v1] (wd_X12_free cI cZ h_t h_t_w h_t_isKept h_t_text h_t_statuses h_t_ways h_t_feels h_t_next h_t_came h_t_deep h_t_sizes h_t_tableOf h_t_usedBy h_t_taken h_t_sixOf t_texted t_above t_below t_at t_start t_number t_went t_h t_w t_statuses) (kV res (fun u => some (.int u.1)) (fun u => (wd_X12_free cI cZ h_t h_t_w h_t_isKept h_t_text h_t_statuses h_t_ways h_t_feels h_t_next h_t_came h_t_deep h_t_sizes h_t_tableOf h_t_usedBy h_t_taken h_t_sixOf t_texted t_above t_below t_at t_start t_number t_went t_h (u.2.1) (u.2.2)))) := by
  refine metG_of (cc := cX12_free) (maxL := 6) (ret := (some .int)) (own := RX12) (lv0 := [(0, .ref h_t), (1, .int v1)]) (ini := false) (by decide) rfl (Nat.le_of_ble_eq_true rfl) rfl rfl (fun h => by cases h) (fun G X hR => ?_)
  replace hR := rt_int hR
  unfold f_X12_free at hf
  have J105 : ∀ (k23 : (Nat → Int32) → (Nat → Int32) → Int32 → Int32 → Int32 → Option (Int32 × (Nat → Int32) × (Nat → Int32))) (hk23 : ∀ (t_w : (Nat → Int32)) (t_statuses : (Nat → Int32)) (v1 : Int32) (v2 : Int32) (v3 : Int32), k23 t_w t_statuses v1 v2 v3 = some res → G 0 0 (wd_X12_free cI cZ h_t h_t_w h_t_isKept h_t_text h_t_statuses h_t_ways h_t_feels h_t_next h_t_came h_t_deep h_t_sizes h_t_tableOf h_t_usedBy h_t_taken h_t_sixOf t_texted t_above t_below t_at t_start t_number t_went t_h t_w t_statuses) [(0, .ref h_t), (1, .int v1), (2, .int v2), (3, .int v3)] 23 []) (k61 : (Nat → Int32) → (Nat → Int32) → Int32 → Int32 → Int32 → Int32 → Int32 → Option (Int32 × (Nat → Int32) × (Nat → Int32))) (hk61 : ∀ (t_w : (Nat → Int32)) (t_statuses : (Nat → Int32)) (v1 : Int32) (v2 : Int32) (v3 : Int32) (v4 : Int32) (v5 : Int32), k61 t_w t_statuses v1 v2 v3 v4 v5 = some res → G 0 0 (wd_X12_free cI cZ h_t h_t_w h_t_isKept h_t_text h_t_statuses h_t_ways h_t_feels h_t_next h_t_came h_t_deep h_t_sizes h_t_tableOf h_t_usedBy h_t_taken h_t_sixOf t_texted t_above t_below t_at t_start t_number t_went t_h t_w t_statuses) [(0, .ref h_t), (1, .int v1), (2, .int v2), (3, .int v3), (4, .int v4), (5, .int v5)] 61 []) (t_w : (Nat → Int32)) (t_statuses : (Nat → Int32)) (v1 : Int32) (v2 : Int32) (v3 : Int32) (v5 : Int32) (s0 : Int32), f_X12_free_105 k23 k61 t_w t_statuses v1 v2 v3 v5 s0 = some res → G 0 0 (wd_X12_free cI cZ h_t h_t_w h_t_isKept h_t_text h_t_statuses h_t_ways h_t_feels h_t_next h_t_came h_t_deep h_t_sizes h_t_tableOf h_t_usedBy h_t_taken h_t_sixOf t_texted t_above t_below t_at t_start t_number t_went t_h t_w t_statuses) [(0, .ref h_t), (1, .int v1), (2, .int v2), (3, .int v3), (5, .int v5)] 105 [.int s0] := by
    intro k23 hk23 k61 hk61 t_w t_statuses v1 v2 v3 v5 s0 hf
    unfold f_X12_free_105 at hf
    refine g_istore (lv' := [(0, .ref h_t), (1, .int v1), (2, .int v2), (3, .int v3), (4, .int s0), (5, .int v5)]) X dX12_free_105 (Nat.le_of_ble_eq_true rfl) [1, 2, 3, 4, 0, 5] rfl ?_
    obtain ⟨v5_17, ev5_17, hf⟩ := bnd_out hf
    refine g_iinc (v := v5_17) (lv' := [(0, .ref h_t), (1, .int v1), (2, .int v2), (3, .int v3), (4, .int s0), (5, .int v5_17)]) X dX12_free_107 5 rfl (by rw [ev5_17]; rfl) (Nat.le_of_ble_eq_true rfl) [1, 2, 3, 4, 5, 0] rfl ?_
    refine g_goto (tgt := 61) X dX12_free_110 (by decide) ?_
    exact hk61 t_w t_statuses v1 v2 v3 s0 v5_17 hf
  have J100 : ∀ (k23 : (Nat → Int32) → (Nat → Int32) → Int32 → Int32 → Int32 → Option (Int32 × (Nat → Int32) × (Nat → Int32))) (hk23 : ∀ (t_w : (Nat → Int32)) (t_statuses : (Nat → Int32)) (v1 : Int32) (v2 : Int32) (v3 : Int32), k23 t_w t_statuses v1 v2 v3 = some res → G 0 0 (wd_X12_free cI cZ h_t h_t_w h_t_isKept h_t_text h_t_statuses h_t_ways h_t_feels h_t_next h_t_came h_t_deep h_t_sizes h_t_tableOf h_t_usedBy h_t_taken h_t_sixOf t_texted t_above t_below t_at t_start t_number t_went t_h t_w t_statuses) [(0, .ref h_t), (1, .int v1), (2, .int v2), (3, .int v3)] 23 []) (k61 : (Nat → Int32) → (Nat → Int32) → Int32 → Int32 → Int32 → Int32 → Int32 → Option (Int32 × (Nat → Int32) × (Nat → Int32))) (hk61 : ∀ (t_w : (Nat → Int32)) (t_statuses : (Nat → Int32)) (v1 : Int32) (v2 : Int32) (v3 : Int32) (v4 : Int32) (v5 : Int32), k61 t_w t_statuses v1 v2 v3 v4 v5 = some res → G 0 0 (wd_X12_free cI cZ h_t h_t_w h_t_isKept h_t_text h_t_statuses h_t_ways h_t_feels h_t_next h_t_came h_t_deep h_t_sizes h_t_tableOf h_t_usedBy h_t_taken h_t_sixOf t_texted t_above t_below t_at t_start t_number t_went t_h t_w t_statuses) [(0, .ref h_t), (1, .int v1), (2, .int v2), (3, .int v3), (4, .int v4), (5, .int v5)] 61 []) (t_w : (Nat → Int32)) (t_statuses : (Nat → Int32)) (v1 : Int32) (v2 : Int32) (v3 : Int32) (v5 : Int32), f_X12_free_100 k23 k61 t_w t_statuses v1 v2 v3 v5 = some res → G 0 0 (wd_X12_free cI cZ h_t h_t_w h_t_isKept h_t_text h_t_statuses h_t_ways h_t_feels h_t_next h_t_came h_t_deep h_t_sizes h_t_tableOf h_t_usedBy h_t_taken h_t_sixOf t_texted t_above t_below t_at t_start t_number t_went t_h t_w t_statuses) [(0, .ref h_t), (1, .int v1), (2, .int v2), (3, .int v3), (5, .int v5)] 100 [] := by
    intro k23 hk23 k61 hk61 t_w t_statuses v1 v2 v3 v5 hf
    unfold f_X12_free_100 at hf
    refine g_iconst (v := 1) X dX12_free_100 (by decide) ?_
    refine g_goto (tgt := 105) X dX12_free_101 (by decide) ?_
    exact J105 k23 hk23 k61 hk61 t_w t_statuses v1 v2 v3 v5 1 hf
  have J104 : ∀ (k23 : (Nat → Int32) → (Nat → Int32) → Int32 → Int32 → Int32 → Option (Int32 × (Nat → Int32) × (Nat → Int32))) (hk23 : ∀ (t_w : (Nat → Int32)) (t_statuses : (Nat → Int32)) (v1 : Int32) (v2 : Int32) (v3 : Int32), k23 t_w t_statuses v1 v2 v3 = some res → G 0 0 (wd_X12_free cI cZ h_t h_t_w h_t_isKept h_t_text h_t_statuses h_t_ways h_t_feels h_t_next h_t_came h_t_deep h_t_sizes h_t_tableOf h_t_usedBy h_t_taken h_t_sixOf t_texted t_above t_below t_at t_start t_number t_went t_h t_w t_statuses) [(0, .ref h_t), (1, .int v1), (2, .int v2), (3, .int v3)] 23 []) (k61 : (Nat → Int32) → (Nat → Int32) → Int32 → Int32 → Int32 → Int32 → Int32 → Option (Int32 × (Nat → Int32) × (Nat → Int32))) (hk61 : ∀ (t_w : (Nat → Int32)) (t_statuses : (Nat → Int32)) (v1 : Int32) (v2 : Int32) (v3 : Int32) (v4 : Int32) (v5 : Int32), k61 t_w t_statuses v1 v2 v3 v4 v5 = some res → G 0 0 (wd_X12_free cI cZ h_t h_t_w h_t_isKept h_t_text h_t_statuses h_t_ways h_t_feels h_t_next h_t_came h_t_deep h_t_sizes h_t_tableOf h_t_usedBy h_t_taken h_t_sixOf t_texted t_above t_below t_at t_start t_number t_went t_h t_w t_statuses) [(0, .ref h_t), (1, .int v1), (2, .int v2), (3, .int v3), (4, .int v4), (5, .int v5)] 61 []) (t_w : (Nat → Int32)) (t_statuses : (Nat → Int32)) (v1 : Int32) (v2 : Int32) (v3 : Int32) (v5 : Int32), f_X12_free_104 k23 k61 t_w t_statuses v1 v2 v3 v5 = some res → G 0 0 (wd_X12_free cI cZ h_t h_t_w h_t_isKept h_t_text h_t_statuses h_t_ways h_t_feels h_t_next h_t_came h_t_deep h_t_sizes h_t_tableOf h_t_usedBy h_t_taken h_t_sixOf t_texted t_above t_below t_at t_start t_number t_went t_h t_w t_statuses) [(0, .ref h_t), (1, .int v1), (2, .int v2), (3, .int v3), (5, .int v5)] 104 [] := by
    intro k23 hk23 k61 hk61 t_w t_statuses v1 v2 v3 v5 hf
    unfold f_X12_free_104 at hf
    refine g_iconst (v := 0) X dX12_free_104 (by decide) ?_
    exact J105 k23 hk23 k61 hk61 t_w t_statuses v1 v2 v3 v5 0 hf
  have J169 : ∀ (k23 : (Nat → Int32) → (Nat → Int32) → Int32 → Int32 → Int32 → Option (Int32 × (Nat → Int32) × (Nat → Int32))) (hk23 : ∀ (t_w : (Nat → Int32)) (t_statuses : (Nat → Int32)) (v1 : Int32) (v2 : Int32) (v3 : Int32), k23 t_w t_statuses v1 v2 v3 = some res → G 0 0 (wd_X12_free cI cZ h_t h_t_w h_t_isKept h_t_text h_t_statuses h_t_ways h_t_feels h_t_next h_t_came h_t_deep h_t_sizes h_t_tableOf h_t_usedBy h_t_taken h_t_sixOf t_texted t_above t_below t_at t_start t_number t_went t_h t_w t_statuses) [(0, .ref h_t), (1, .int v1), (2, .int v2), (3, .int v3)] 23 []) (k125 : (Nat → Int32) → (Nat → Int32) → Int32 → Int32 → Int32 → Int32 → Int32 → Option (Int32 × (Nat → Int32) × (Nat → Int32))) (hk125 : ∀ (t_w : (Nat → Int32)) (t_statuses : (Nat → Int32)) (v1 : Int32) (v2 : Int32) (v3 : Int32) (v4 : Int32) (v5 : Int32), k125 t_w t_statuses v1 v2 v3 v4 v5 = some res → G 0 0 (wd_X12_free cI cZ h_t h_t_w h_t_isKept h_t_text h_t_statuses h_t_ways h_t_feels h_t_next h_t_came h_t_deep h_t_sizes h_t_tableOf h_t_usedBy h_t_taken h_t_sixOf t_texted t_above t_below t_at t_start t_number t_went t_h t_w t_statuses) [(0, .ref h_t), (1, .int v1), (2, .int v2), (3, .int v3), (4, .int v4), (5, .int v5)] 125 []) (t_w : (Nat → Int32)) (t_statuses : (Nat → Int32)) (v1 : Int32) (v2 : Int32) (v3 : Int32) (v4 : Int32) (v5 : Int32) (s1 : Int32) (s2 : Int32), f_X12_free_169 k23 k125 t_w t_statuses v1 v2 v3 v4 v5 s1 s2 = some res → G 0 0 (wd_X12_free cI cZ h_t h_t_w h_t_isKept h_t_text h_t_statuses h_t_ways h_t_feels h_t_next h_t_came h_t_deep h_t_sizes h_t_tableOf h_t_usedBy h_t_taken h_t_sixOf t_texted t_above t_below t_at t_start t_number t_went t_h t_w t_statuses) [(0, .ref h_t), (1, .int v1), (2, .int v2), (3, .int v3), (4, .int v4), (5, .int v5)] 169 [.int s2, .int s1, .ref h_t_w] := by
    intro k23 hk23 k125 hk125 t_w t_statuses v1 v2 v3 v4 v5 s1 s2 hf
    unfold f_X12_free_169 at hf
    obtain ⟨hb_27, hf⟩ := chk_out hf
    obtain ⟨t_w_28, et_w_28, hf⟩ := bnd_out hf
    refine g_iast (ws' := (wd_X12_free cI cZ h_t h_t_w h_t_isKept h_t_text h_t_statuses h_t_ways h_t_feels h_t_next h_t_came h_t_deep h_t_sizes h_t_tableOf h_t_usedBy h_t_taken h_t_sixOf t_texted t_above t_below t_at t_start t_number t_went t_h t_w_28 t_statuses)) X 1 rfl hb_27 et_w_28 dX12_free_169 rfl ?_
    obtain ⟨v5_29, ev5_29, hf⟩ := bnd_out hf
    refine g_iinc (v := v5_29) (lv' := [(0, .ref h_t), (1, .int v1), (2, .int v2), (3, .int v3), (4, .int v4), (5, .int v5_29)]) X dX12_free_170 5 rfl (by rw [ev5_29]; rfl) (Nat.le_of_ble_eq_true rfl) [1, 2, 3, 4, 5, 0] rfl ?_
    refine g_goto (tgt := 125) X dX12_free_173 (by decide) ?_
    exact hk125 t_w_28 t_statuses v1 v2 v3 v4 v5_29 hf
  have J220 : ∀ (k23 : (Nat → Int32) → (Nat → Int32) → Int32 → Int32 → Int32 → Option (Int32 × (Nat → Int32) × (Nat → Int32))) (hk23 : ∀ (t_w : (Nat → Int32)) (t_statuses : (Nat → Int32)) (v1 : Int32) (v2 : Int32) (v3 : Int32), k23 t_w t_statuses v1 v2 v3 = some res → G 0 0 (wd_X12_free cI cZ h_t h_t_w h_t_isKept h_t_text h_t_statuses h_t_ways h_t_feels h_t_next h_t_came h_t_deep h_t_sizes h_t_tableOf h_t_usedBy h_t_taken h_t_sixOf t_texted t_above t_below t_at t_start t_number t_went t_h t_w t_statuses) [(0, .ref h_t), (1, .int v1), (2, .int v2), (3, .int v3)] 23 []) (k179 : (Nat → Int32) → (Nat → Int32) → Int32 → Int32 → Int32 → Int32 → Int32 → Option (Int32 × (Nat → Int32) × (Nat → Int32))) (hk179 : ∀ (t_w : (Nat → Int32)) (t_statuses : (Nat → Int32)) (v1 : Int32) (v2 : Int32) (v3 : Int32) (v4 : Int32) (v5 : Int32), k179 t_w t_statuses v1 v2 v3 v4 v5 = some res → G 0 0 (wd_X12_free cI cZ h_t h_t_w h_t_isKept h_t_text h_t_statuses h_t_ways h_t_feels h_t_next h_t_came h_t_deep h_t_sizes h_t_tableOf h_t_usedBy h_t_taken h_t_sixOf t_texted t_above t_below t_at t_start t_number t_went t_h t_w t_statuses) [(0, .ref h_t), (1, .int v1), (2, .int v2), (3, .int v3), (4, .int v4), (5, .int v5)] 179 []) (t_w : (Nat → Int32)) (t_statuses : (Nat → Int32)) (v1 : Int32) (v2 : Int32) (v3 : Int32) (v5 : Int32) (s0 : Int32), f_X12_free_220 k23 k179 t_w t_statuses v1 v2 v3 v5 s0 = some res → G 0 0 (wd_X12_free cI cZ h_t h_t_w h_t_isKept h_t_text h_t_statuses h_t_ways h_t_feels h_t_next h_t_came h_t_deep h_t_sizes h_t_tableOf h_t_usedBy h_t_taken h_t_sixOf t_texted t_above t_below t_at t_start t_number t_went t_h t_w t_statuses) [(0, .ref h_t), (1, .int v1), (2, .int v2), (3, .int v3), (5, .int v5)] 220 [.int s0] := by
    intro k23 hk23 k179 hk179 t_w t_statuses v1 v2 v3 v5 s0 hf
    unfold f_X12_free_220 at hf
    refine g_istore (lv' := [(0, .ref h_t), (1, .int v1), (2, .int v2), (3, .int v3), (4, .int s0), (5, .int v5)]) X dX12_free_220 (Nat.le_of_ble_eq_true rfl) [1, 2, 3, 4, 0, 5] rfl ?_
    obtain ⟨v5_38, ev5_38, hf⟩ := bnd_out hf
    refine g_iinc (v := v5_38) (lv' := [(0, .ref h_t), (1, .int v1), (2, .int v2), (3, .int v3), (4, .int s0), (5, .int v5_38)]) X dX12_free_222 5 rfl (by rw [ev5_38]; rfl) (Nat.le_of_ble_eq_true rfl) [1, 2, 3, 4, 5, 0] rfl ?_
    refine g_goto (tgt := 179) X dX12_free_225 (by decide) ?_
    exact hk179 t_w t_statuses v1 v2 v3 s0 v5_38 hf
  have J219 : ∀ (k23 : (Nat → Int32) → (Nat → Int32) → Int32 → Int32 → Int32 → Option (Int32 × (Nat → Int32) × (Nat → Int32))) (hk23 : ∀ (t_w : (Nat → Int32)) (t_statuses : (Nat → Int32)) (v1 : Int32) (v2 : Int32) (v3 : Int32), k23 t_w t_statuses v1 v2 v3 = some res → G 0 0 (wd_X12_free cI cZ h_t h_t_w h_t_isKept h_t_text h_t_statuses h_t_ways h_t_feels h_t_next h_t_came h_t_deep h_t_sizes h_t_tableOf h_t_usedBy h_t_taken h_t_sixOf t_texted t_above t_below t_at t_start t_number t_went t_h t_w t_statuses) [(0, .ref h_t), (1, .int v1), (2, .int v2), (3, .int v3)] 23 []) (k179 : (Nat → Int32) → (Nat → Int32) → Int32 → Int32 → Int32 → Int32 → Int32 → Option (Int32 × (Nat → Int32) × (Nat → Int32))) (hk179 : ∀ (t_w : (Nat → Int32)) (t_statuses : (Nat → Int32)) (v1 : Int32) (v2 : Int32) (v3 : Int32) (v4 : Int32) (v5 : Int32), k179 t_w t_statuses v1 v2 v3 v4 v5 = some res → G 0 0 (wd_X12_free cI cZ h_t h_t_w h_t_isKept h_t_text h_t_statuses h_t_ways h_t_feels h_t_next h_t_came h_t_deep h_t_sizes h_t_tableOf h_t_usedBy h_t_taken h_t_sixOf t_texted t_above t_below t_at t_start t_number t_went t_h t_w t_statuses) [(0, .ref h_t), (1, .int v1), (2, .int v2), (3, .int v3), (4, .int v4), (5, .int v5)] 179 []) (t_w : (Nat → Int32)) (t_statuses : (Nat → Int32)) (v1 : Int32) (v2 : Int32) (v3 : Int32) (v5 : Int32), f_X12_free_219 k23 k179 t_w t_statuses v1 v2 v3 v5 = some res → G 0 0 (wd_X12_free cI cZ h_t h_t_w h_t_isKept h_t_text h_t_statuses h_t_ways h_t_feels h_t_next h_t_came h_t_deep h_t_sizes h_t_tableOf h_t_usedBy h_t_taken h_t_sixOf t_texted t_above t_below t_at t_start t_number t_went t_h t_w t_statuses) [(0, .ref h_t), (1, .int v1), (2, .int v2), (3, .int v3), (5, .int v5)] 219 [] := by
    intro k23 hk23 k179 hk179 t_w t_statuses v1 v2 v3 v5 hf
    unfold f_X12_free_219 at hf
    refine g_iconst (v := 0) X dX12_free_219 (by decide) ?_
    exact J220 k23 hk23 k179 hk179 t_w t_statuses v1 v2 v3 v5 0 hf
  have J239 : ∀ (k23 : (Nat → Int32) → (Nat → Int32) → Int32 → Int32 → Int32 → Option (Int32 × (Nat → Int32) × (Nat → Int32))) (hk23 : ∀ (t_w : (Nat → Int32)) (t_statuses : (Nat → Int32)) (v1 : Int32) (v2 : Int32) (v3 : Int32), k23 t_w t_statuses v1 v2 v3 = some res → G 0 0 (wd_X12_free cI cZ h_t h_t_w h_t_isKept h_t_text h_t_statuses h_t_ways h_t_feels h_t_next h_t_came h_t_deep h_t_sizes h_t_tableOf h_t_usedBy h_t_taken h_t_sixOf t_texted t_above t_below t_at t_start t_number t_went t_h t_w t_statuses) [(0, .ref h_t), (1, .int v1), (2, .int v2), (3, .int v3)] 23 []) (t_w : (Nat → Int32)) (t_statuses : (Nat → Int32)) (v1 : Int32) (v2 : Int32) (v3 : Int32), f_X12_free_239 k23 t_w t_statuses v1 v2 v3 = some res → G 0 0 (wd_X12_free cI cZ h_t h_t_w h_t_isKept h_t_text h_t_statuses h_t_ways h_t_feels h_t_next h_t_came h_t_deep h_t_sizes h_t_tableOf h_t_usedBy h_t_taken h_t_sixOf t_texted t_above t_below t_at t_start t_number t_went t_h t_w t_statuses) [(0, .ref h_t), (1, .int v1), (2, .int v2), (3, .int v3)] 239 [] := by
    intro k23 hk23 t_w t_statuses v1 v2 v3 hf
    unfold f_X12_free_239 at hf
    obtain ⟨v3_40, ev3_40, hf⟩ := bnd_out hf
    refine g_iinc (v := v3_40) (lv' := [(0, .ref h_t), (1, .int v1), (2, .int v2), (3, .int v3_40)]) X dX12_free_239 3 rfl (by rw [ev3_40]; rfl) (Nat.le_of_ble_eq_true rfl) [1, 2, 3, 0] rfl ?_
    refine g_goto (tgt := 23) X dX12_free_242 (by decide) ?_
    exact hk23 t_w t_statuses v1 v2 v3_40 hf
  have J238 : ∀ (k23 : (Nat → Int32) → (Nat → Int32) → Int32 → Int32 → Int32 → Option (Int32 × (Nat → Int32) × (Nat → Int32))) (hk23 : ∀ (t_w : (Nat → Int32)) (t_statuses : (Nat → Int32)) (v1 : Int32) (v2 : Int32) (v3 : Int32), k23 t_w t_statuses v1 v2 v3 = some res → G 0 0 (wd_X12_free cI cZ h_t h_t_w h_t_isKept h_t_text h_t_statuses h_t_ways h_t_feels h_t_next h_t_came h_t_deep h_t_sizes h_t_tableOf h_t_usedBy h_t_taken h_t_sixOf t_texted t_above t_below t_at t_start t_number t_went t_h t_w t_statuses) [(0, .ref h_t), (1, .int v1), (2, .int v2), (3, .int v3)] 23 []) (t_w : (Nat → Int32)) (t_statuses : (Nat → Int32)) (v1 : Int32) (v3 : Int32) (s0 : Int32), f_X12_free_238 k23 t_w t_statuses v1 v3 s0 = some res → G 0 0 (wd_X12_free cI cZ h_t h_t_w h_t_isKept h_t_text h_t_statuses h_t_ways h_t_feels h_t_next h_t_came h_t_deep h_t_sizes h_t_tableOf h_t_usedBy h_t_taken h_t_sixOf t_texted t_above t_below t_at t_start t_number t_went t_h t_w t_statuses) [(0, .ref h_t), (1, .int v1), (3, .int v3)] 238 [.int s0] := by
    intro k23 hk23 t_w t_statuses v1 v3 s0 hf
    unfold f_X12_free_238 at hf
    refine g_istore_n (lv' := [(0, .ref h_t), (1, .int v1), (2, .int s0), (3, .int v3)]) X dX12_free_238 rfl (Nat.le_of_ble_eq_true rfl) [1, 2, 0, 3] rfl ?_
    exact J239 k23 hk23 t_w t_statuses v1 s0 v3 hf
  have J228 : ∀ (k23 : (Nat → Int32) → (Nat → Int32) → Int32 → Int32 → Int32 → Option (Int32 × (Nat → Int32) × (Nat → Int32))) (hk23 : ∀ (t_w : (Nat → Int32)) (t_statuses : (Nat → Int32)) (v1 : Int32) (v2 : Int32) (v3 : Int32), k23 t_w t_statuses v1 v2 v3 = some res → G 0 0 (wd_X12_free cI cZ h_t h_t_w h_t_isKept h_t_text h_t_statuses h_t_ways h_t_feels h_t_next h_t_came h_t_deep h_t_sizes h_t_tableOf h_t_usedBy h_t_taken h_t_sixOf t_texted t_above t_below t_at t_start t_number t_went t_h t_w t_statuses) [(0, .ref h_t), (1, .int v1), (2, .int v2), (3, .int v3)] 23 []) (t_w : (Nat → Int32)) (t_statuses : (Nat → Int32)) (v1 : Int32) (v2 : Int32) (v3 : Int32) (v4 : Int32), f_X12_free_228 k23 t_w t_statuses v1 v2 v3 v4 = some res → G 0 0 (wd_X12_free cI cZ h_t h_t_w h_t_isKept h_t_text h_t_statuses h_t_ways h_t_feels h_t_next h_t_came h_t_deep h_t_sizes h_t_tableOf h_t_usedBy h_t_taken h_t_sixOf t_texted t_above t_below t_at t_start t_number t_went t_h t_w t_statuses) [(0, .ref h_t), (1, .int v1), (2, .int v2), (3, .int v3), (4, .int v4)] 228 [] := by
    intro k23 hk23 t_w t_statuses v1 v2 v3 v4 hf
    unfold f_X12_free_228 at hf
    refine g_iload X dX12_free_228 4 rfl ?_
    refine g_if_eq (tgt := 237) X dX12_free_230 (by decide) (fun hc_39 => ?_) (fun hc_39 => ?_)
    · replace hf := ite_t hc_39 hf
      refine g_iload_n X dX12_free_237 rfl 2 rfl ?_
      refine g_lv X (lv' := [(0, .ref h_t), (1, .int v1), (3, .int v3)]) [0, 1, 3] rfl ?_
      exact J238 k23 hk23 t_w t_statuses v1 v3 v2 hf
    · replace hf := ite_f hc_39 hf
      refine g_iload_n X dX12_free_233 rfl 3 rfl ?_
      refine g_goto (tgt := 238) X dX12_free_234 (by decide) ?_
      refine g_lv X (lv' := [(0, .ref h_t), (1, .int v1), (3, .int v3)]) [0, 1, 3] rfl ?_
      exact J238 k23 hk23 t_w t_statuses v1 v3 v3 hf
  have J179 : ∀ (k23 : (Nat → Int32) → (Nat → Int32) → Int32 → Int32 → Int32 → Option (Int32 × (Nat → Int32) × (Nat → Int32))) (hk23 : ∀ (t_w : (Nat → Int32)) (t_statuses : (Nat → Int32)) (v1 : Int32) (v2 : Int32) (v3 : Int32), k23 t_w t_statuses v1 v2 v3 = some res → G 0 0 (wd_X12_free cI cZ h_t h_t_w h_t_isKept h_t_text h_t_statuses h_t_ways h_t_feels h_t_next h_t_came h_t_deep h_t_sizes h_t_tableOf h_t_usedBy h_t_taken h_t_sixOf t_texted t_above t_below t_at t_start t_number t_went t_h t_w t_statuses) [(0, .ref h_t), (1, .int v1), (2, .int v2), (3, .int v3)] 23 []) (n : Nat) (t_w : (Nat → Int32)) (t_statuses : (Nat → Int32)) (v1 : Int32) (v2 : Int32) (v3 : Int32) (v4 : Int32) (v5 : Int32), f_X12_free_179 k23 n t_w t_statuses v1 v2 v3 v4 v5 = some res → G 0 0 (wd_X12_free cI cZ h_t h_t_w h_t_isKept h_t_text h_t_statuses h_t_ways h_t_feels h_t_next h_t_came h_t_deep h_t_sizes h_t_tableOf h_t_usedBy h_t_taken h_t_sixOf t_texted t_above t_below t_at t_start t_number t_went t_h t_w t_statuses) [(0, .ref h_t), (1, .int v1), (2, .int v2), (3, .int v3), (4, .int v4), (5, .int v5)] 179 [] := by
    intro k23 hk23 n
    induction n with
    | zero => intro t_w t_statuses v1 v2 v3 v4 v5 hf; rw [f_X12_free_179] at hf; cases hf
    | succ n ih =>
      intro t_w t_statuses v1 v2 v3 v4 v5 hf
      rw [f_X12_free_179] at hf
      refine g_iload X dX12_free_179 5 rfl ?_
      refine g_aload_n X dX12_free_181 rfl 0 rfl ?_
      refine g_get (C := RX12) (T := TX12) (N := 22) (ci := 8) (v := (.ref h_t_w)) X iw_X12_free_X12 0 rfl rfl 0 (by decide) lk_X12_free_7 rfl dX12_free_182 ?_
      refine g_iconst (v := 0) X dX12_free_185 (by decide) ?_
      obtain ⟨hb_30, hf⟩ := chk_out hf
      refine g_iald X 1 rfl hb_30 dX12_free_186 ?_
      refine g_icmp_ge (tgt := 228) X dX12_free_187 (by decide) (fun hc_31 => ?_) (fun hc_31 => ?_)
      · replace hf := ite_t hc_31 hf
        refine g_lv X (lv' := [(0, .ref h_t), (1, .int v1), (2, .int v2), (3, .int v3), (4, .int v4)]) [0, 1, 2, 3, 4] rfl ?_
        exact J228 k23 hk23 t_w t_statuses v1 v2 v3 v4 hf
      · replace hf := ite_f hc_31 hf
        refine g_iload X dX12_free_190 4 rfl ?_
        refine g_if_eq (tgt := 219) X dX12_free_192 (by decide) (fun hc_32 => ?_) (fun hc_32 => ?_)
        · replace hf := ite_t hc_32 hf
          refine g_lv X (lv' := [(0, .ref h_t), (1, .int v1), (2, .int v2), (3, .int v3), (5, .int v5)]) [0, 1, 2, 3, 5] rfl ?_
          exact J219 k23 hk23 (f_X12_free_179 k23 n) ih t_w t_statuses v1 v2 v3 v5 hf
        · replace hf := ite_f hc_32 hf
          refine g_aload_n X dX12_free_195 rfl 0 rfl ?_
          refine g_sipush (v := 1204) X dX12_free_196 (by decide) ?_
          refine g_aload_n X dX12_free_199 rfl 0 rfl ?_
          refine g_sipush (v := 1204) X dX12_free_200 (by decide) ?_
          refine g_iload X dX12_free_203 5 rfl ?_
          obtain ⟨r_33, hk_34, hf⟩ := ob1_out hf
          refine g_cVR (st := [.int 1204, .ref h_t]) (st1 := [.int r_33, .int 1204, .ref h_t]) (C := RX12) (ci := 8) (q0 := 0) X (c_X12_stringOf l D cI cZ h_t h_t_w h_t_isKept h_t_text h_t_statuses h_t_ways h_t_feels h_t_next h_t_came h_t_deep h_t_sizes h_t_tableOf h_t_usedBy h_t_taken h_t_sixOf t_texted t_above t_below t_at t_start t_number t_went t_h t_w 1204 v5 _ hk_34) (Or.inl rfl) 2 gX12_free_X12_stringOf rfl hv_X12_stringOf ⟨Nat.le_of_ble_eq_true rfl, Nat.le_of_ble_eq_true rfl⟩ rfl rfl (Nat.le_of_ble_eq_true rfl) ⟨rfl, rfl⟩ (Nat.zero_le _) (Nat.zero_le _) rfl rfl rfl dX12_free_205 [0, 1] rfl rfl rfl ?_
          obtain ⟨r_35, hk_36, hf⟩ := ob1_out hf
          refine g_cVR (st := []) (st1 := [.int r_35]) (C := RX12) (ci := 8) (q0 := 0) X (c_X12_weighs l D cI cZ h_t h_t_w h_t_isKept h_t_text h_t_statuses h_t_ways h_t_feels h_t_next h_t_came h_t_deep h_t_sizes h_t_tableOf h_t_usedBy h_t_taken h_t_sixOf t_texted t_above t_below t_at t_start t_number t_went t_h t_w 1204 r_33 _ hk_36) (Or.inl rfl) 2 gX12_free_X12_weighs rfl hv_X12_weighs ⟨Nat.le_of_ble_eq_true rfl, Nat.le_of_ble_eq_true rfl⟩ rfl rfl (Nat.le_of_ble_eq_true rfl) ⟨rfl, rfl⟩ (Nat.zero_le _) (Nat.zero_le _) rfl rfl rfl dX12_free_208 [0, 1] rfl rfl rfl ?_
          refine g_iload_n X dX12_free_211 rfl 1 rfl ?_
          refine g_icmp_gt (tgt := 219) X dX12_free_212 (by decide) (fun hc_37 => ?_) (fun hc_37 => ?_)
          · replace hf := ite_t hc_37 hf
            refine g_lv X (lv' := [(0, .ref h_t), (1, .int v1), (2, .int v2), (3, .int v3), (5, .int v5)]) [0, 1, 2, 3, 5] rfl ?_
            exact J219 k23 hk23 (f_X12_free_179 k23 n) ih t_w t_statuses v1 v2 v3 v5 hf
          · replace hf := ite_f hc_37 hf
            refine g_iconst (v := 1) X dX12_free_215 (by decide) ?_
            refine g_goto (tgt := 220) X dX12_free_216 (by decide) ?_
            refine g_lv X (lv' := [(0, .ref h_t), (1, .int v1), (2, .int v2), (3, .int v3), (5, .int v5)]) [0, 1, 2, 3, 5] rfl ?_
            exact J220 k23 hk23 (f_X12_free_179 k23 n) ih t_w t_statuses v1 v2 v3 v5 1 hf
  have J176 : ∀ (k23 : (Nat → Int32) → (Nat → Int32) → Int32 → Int32 → Int32 → Option (Int32 × (Nat → Int32) × (Nat → Int32))) (hk23 : ∀ (t_w : (Nat → Int32)) (t_statuses : (Nat → Int32)) (v1 : Int32) (v2 : Int32) (v3 : Int32), k23 t_w t_statuses v1 v2 v3 = some res → G 0 0 (wd_X12_free cI cZ h_t h_t_w h_t_isKept h_t_text h_t_statuses h_t_ways h_t_feels h_t_next h_t_came h_t_deep h_t_sizes h_t_tableOf h_t_usedBy h_t_taken h_t_sixOf t_texted t_above t_below t_at t_start t_number t_went t_h t_w t_statuses) [(0, .ref h_t), (1, .int v1), (2, .int v2), (3, .int v3)] 23 []) (t_w : (Nat → Int32)) (t_statuses : (Nat → Int32)) (v1 : Int32) (v2 : Int32) (v3 : Int32) (v4 : Int32), f_X12_free_176 k23 t_w t_statuses v1 v2 v3 v4 = some res → G 0 0 (wd_X12_free cI cZ h_t h_t_w h_t_isKept h_t_text h_t_statuses h_t_ways h_t_feels h_t_next h_t_came h_t_deep h_t_sizes h_t_tableOf h_t_usedBy h_t_taken h_t_sixOf t_texted t_above t_below t_at t_start t_number t_went t_h t_w t_statuses) [(0, .ref h_t), (1, .int v1), (2, .int v2), (3, .int v3), (4, .int v4)] 176 [] := by
    intro k23 hk23 t_w t_statuses v1 v2 v3 v4 hf
    unfold f_X12_free_176 at hf
    refine g_iconst (v := 0) X dX12_free_176 (by decide) ?_
    refine g_istore (lv' := [(0, .ref h_t), (1, .int v1), (2, .int v2), (3, .int v3), (4, .int v4), (5, .int 0)]) X dX12_free_177 (Nat.le_of_ble_eq_true rfl) [1, 2, 3, 4, 5, 0] rfl ?_
    exact J179 k23 hk23 FU t_w t_statuses v1 v2 v3 v4 0 hf
  have J125 : ∀ (k23 : (Nat → Int32) → (Nat → Int32) → Int32 → Int32 → Int32 → Option (Int32 × (Nat → Int32) × (Nat → Int32))) (hk23 : ∀ (t_w : (Nat → Int32)) (t_statuses : (Nat → Int32)) (v1 : Int32) (v2 : Int32) (v3 : Int32), k23 t_w t_statuses v1 v2 v3 = some res → G 0 0 (wd_X12_free cI cZ h_t h_t_w h_t_isKept h_t_text h_t_statuses h_t_ways h_t_feels h_t_next h_t_came h_t_deep h_t_sizes h_t_tableOf h_t_usedBy h_t_taken h_t_sixOf t_texted t_above t_below t_at t_start t_number t_went t_h t_w t_statuses) [(0, .ref h_t), (1, .int v1), (2, .int v2), (3, .int v3)] 23 []) (n : Nat) (t_w : (Nat → Int32)) (t_statuses : (Nat → Int32)) (v1 : Int32) (v2 : Int32) (v3 : Int32) (v4 : Int32) (v5 : Int32), f_X12_free_125 k23 n t_w t_statuses v1 v2 v3 v4 v5 = some res → G 0 0 (wd_X12_free cI cZ h_t h_t_w h_t_isKept h_t_text h_t_statuses h_t_ways h_t_feels h_t_next h_t_came h_t_deep h_t_sizes h_t_tableOf h_t_usedBy h_t_taken h_t_sixOf t_texted t_above t_below t_at t_start t_number t_went t_h t_w t_statuses) [(0, .ref h_t), (1, .int v1), (2, .int v2), (3, .int v3), (4, .int v4), (5, .int v5)] 125 [] := by
    intro k23 hk23 n
    induction n with
    | zero => intro t_w t_statuses v1 v2 v3 v4 v5 hf; rw [f_X12_free_125] at hf; cases hf
    | succ n ih =>
      intro t_w t_statuses v1 v2 v3 v4 v5 hf
      rw [f_X12_free_125] at hf
      refine g_iload X dX12_free_125 5 rfl ?_
      refine g_aload_n X dX12_free_127 rfl 0 rfl ?_
      refine g_get (C := RX12) (T := TX12) (N := 22) (ci := 8) (v := (.ref h_t_w)) X iw_X12_free_X12 0 rfl rfl 0 (by decide) lk_X12_free_7 rfl dX12_free_128 ?_
      refine g_iconst (v := 0) X dX12_free_131 (by decide) ?_
      obtain ⟨hb_21, hf⟩ := chk_out hf
      refine g_iald X 1 rfl hb_21 dX12_free_132 ?_
      refine g_icmp_ge (tgt := 176) X dX12_free_133 (by decide) (fun hc_22 => ?_) (fun hc_22 => ?_)
      · replace hf := ite_t hc_22 hf
        refine g_lv X (lv' := [(0, .ref h_t), (1, .int v1), (2, .int v2), (3, .int v3), (4, .int v4)]) [0, 1, 2, 3, 4] rfl ?_
        exact J176 k23 hk23 t_w t_statuses v1 v2 v3 v4 hf
      · replace hf := ite_f hc_22 hf
        refine g_aload_n X dX12_free_136 rfl 0 rfl ?_
        refine g_get (C := RX12) (T := TX12) (N := 22) (ci := 8) (v := (.ref h_t_w)) X iw_X12_free_X12 0 rfl rfl 0 (by decide) lk_X12_free_7 rfl dX12_free_137 ?_
        refine g_sipush (v := 1235) X dX12_free_140 (by decide) ?_
        refine g_iload X dX12_free_143 5 rfl ?_
        refine g_iadd X dX12_free_145 ?_
        refine g_iload_n X dX12_free_146 rfl 3 rfl ?_
        refine g_iload X dX12_free_147 5 rfl ?_
        obtain ⟨r_23, hk_24, hf⟩ := ob1_out hf
        refine g_cSR (st := [.int (1235 + v5), .ref h_t_w]) (st1 := [.int r_23, .int (1235 + v5), .ref h_t_w]) X (c_X12_has l D cI cZ v3 v5 _ hk_24) (Or.inl rfl) 2 gX12_free_X12_has rfl hs_X12_has ⟨Nat.le_of_ble_eq_true rfl, Nat.le_of_ble_eq_true rfl⟩ rfl rfl (Nat.le_of_ble_eq_true rfl) ⟨rfl, rfl⟩ (Nat.zero_le _) (Nat.zero_le _) dX12_free_149 [] rfl rfl rfl ?_
        refine g_if_eq (tgt := 159) X dX12_free_152 (by decide) (fun hc_25 => ?_) (fun hc_25 => ?_)
        · replace hf := ite_t hc_25 hf
          refine g_aload_n X dX12_free_159 rfl 0 rfl ?_
          refine g_get (C := RX12) (T := TX12) (N := 22) (ci := 8) (v := (.ref h_t_w)) X iw_X12_free_X12 0 rfl rfl 0 (by decide) lk_X12_free_7 rfl dX12_free_160 ?_
          refine g_bipush (v := 31) X dX12_free_163 (by decide) ?_
          refine g_iload X dX12_free_165 5 rfl ?_
          refine g_iadd X dX12_free_167 ?_
          obtain ⟨hb_26, hf⟩ := chk_out hf
          refine g_iald X 1 rfl hb_26 dX12_free_168 ?_
          exact J169 k23 hk23 (f_X12_free_125 k23 n) ih t_w t_statuses v1 v2 v3 v4 v5 (1235 + v5) (t_w (31 + v5).toNatClampNeg) hf
        · replace hf := ite_f hc_25 hf
          refine g_iconst (v := (-1)) X dX12_free_155 (by decide) ?_
          refine g_goto (tgt := 169) X dX12_free_156 (by decide) ?_
          exact J169 k23 hk23 (f_X12_free_125 k23 n) ih t_w t_statuses v1 v2 v3 v4 v5 (1235 + v5) (-1) hf
  have J113 : ∀ (k23 : (Nat → Int32) → (Nat → Int32) → Int32 → Int32 → Int32 → Option (Int32 × (Nat → Int32) × (Nat → Int32))) (hk23 : ∀ (t_w : (Nat → Int32)) (t_statuses : (Nat → Int32)) (v1 : Int32) (v2 : Int32) (v3 : Int32), k23 t_w t_statuses v1 v2 v3 = some res → G 0 0 (wd_X12_free cI cZ h_t h_t_w h_t_isKept h_t_text h_t_statuses h_t_ways h_t_feels h_t_next h_t_came h_t_deep h_t_sizes h_t_tableOf h_t_usedBy h_t_taken h_t_sixOf t_texted t_above t_below t_at t_start t_number t_went t_h t_w t_statuses) [(0, .ref h_t), (1, .int v1), (2, .int v2), (3, .int v3)] 23 []) (t_w : (Nat → Int32)) (t_statuses : (Nat → Int32)) (v1 : Int32) (v2 : Int32) (v3 : Int32) (v4 : Int32), f_X12_free_113 k23 t_w t_statuses v1 v2 v3 v4 = some res → G 0 0 (wd_X12_free cI cZ h_t h_t_w h_t_isKept h_t_text h_t_statuses h_t_ways h_t_feels h_t_next h_t_came h_t_deep h_t_sizes h_t_tableOf h_t_usedBy h_t_taken h_t_sixOf t_texted t_above t_below t_at t_start t_number t_went t_h t_w t_statuses) [(0, .ref h_t), (1, .int v1), (2, .int v2), (3, .int v3), (4, .int v4)] 113 [] := by
    intro k23 hk23 t_w t_statuses v1 v2 v3 v4 hf
    unfold f_X12_free_113 at hf
    refine g_iload X dX12_free_113 4 rfl ?_
    refine g_if_eq (tgt := 239) X dX12_free_115 (by decide) (fun hc_18 => ?_) (fun hc_18 => ?_)
    · replace hf := ite_t hc_18 hf
      refine g_lv X (lv' := [(0, .ref h_t), (1, .int v1), (2, .int v2), (3, .int v3)]) [0, 1, 2, 3] rfl ?_
      exact J239 k23 hk23 t_w t_statuses v1 v2 v3 hf
    · replace hf := ite_f hc_18 hf
      refine g_aload_n X dX12_free_118 rfl 0 rfl ?_
      obtain ⟨t_w_19, hk_20, hf⟩ := ob1_out hf
      refine g_cVW (st := []) (st1 := []) (C := RX12) (ci := 8) (q0 := 0) (ws' := (wd_X12_free cI cZ h_t h_t_w h_t_isKept h_t_text h_t_statuses h_t_ways h_t_feels h_t_next h_t_came h_t_deep h_t_sizes h_t_tableOf h_t_usedBy h_t_taken h_t_sixOf t_texted t_above t_below t_at t_start t_number t_went t_h t_w_19 t_statuses)) X (c_X12_tries l D cI cZ h_t h_t_w h_t_isKept h_t_text h_t_statuses h_t_ways h_t_feels h_t_next h_t_came h_t_deep h_t_sizes h_t_tableOf h_t_usedBy h_t_taken h_t_sixOf t_texted t_above t_below t_at t_start t_number t_went t_h t_w _ hk_20) (Or.inl rfl) 0 gX12_free_X12_tries rfl hv_X12_tries ⟨Nat.le_of_ble_eq_true rfl, Nat.le_of_ble_eq_true rfl⟩ rfl rfl (Nat.le_of_ble_eq_true rfl) ⟨rfl, rfl⟩ (Nat.zero_le _) (Nat.zero_le _) rfl rfl rfl dX12_free_119 [0, 1] rfl rfl [2] rfl rfl (by decide) [1, 2, 0] rfl rfl rfl ?_
      refine g_iconst (v := 0) X dX12_free_122 (by decide) ?_
      refine g_istore (lv' := [(0, .ref h_t), (1, .int v1), (2, .int v2), (3, .int v3), (4, .int v4), (5, .int 0)]) X dX12_free_123 (Nat.le_of_ble_eq_true rfl) [1, 2, 3, 4, 5, 0] rfl ?_
      exact J125 k23 hk23 FU t_w_19 t_statuses v1 v2 v3 v4 0 hf
  have J61 : ∀ (k23 : (Nat → Int32) → (Nat → Int32) → Int32 → Int32 → Int32 → Option (Int32 × (Nat → Int32) × (Nat → Int32))) (hk23 : ∀ (t_w : (Nat → Int32)) (t_statuses : (Nat → Int32)) (v1 : Int32) (v2 : Int32) (v3 : Int32), k23 t_w t_statuses v1 v2 v3 = some res → G 0 0 (wd_X12_free cI cZ h_t h_t_w h_t_isKept h_t_text h_t_statuses h_t_ways h_t_feels h_t_next h_t_came h_t_deep h_t_sizes h_t_tableOf h_t_usedBy h_t_taken h_t_sixOf t_texted t_above t_below t_at t_start t_number t_went t_h t_w t_statuses) [(0, .ref h_t), (1, .int v1), (2, .int v2), (3, .int v3)] 23 []) (n : Nat) (t_w : (Nat → Int32)) (t_statuses : (Nat → Int32)) (v1 : Int32) (v2 : Int32) (v3 : Int32) (v4 : Int32) (v5 : Int32), f_X12_free_61 k23 n t_w t_statuses v1 v2 v3 v4 v5 = some res → G 0 0 (wd_X12_free cI cZ h_t h_t_w h_t_isKept h_t_text h_t_statuses h_t_ways h_t_feels h_t_next h_t_came h_t_deep h_t_sizes h_t_tableOf h_t_usedBy h_t_taken h_t_sixOf t_texted t_above t_below t_at t_start t_number t_went t_h t_w t_statuses) [(0, .ref h_t), (1, .int v1), (2, .int v2), (3, .int v3), (4, .int v4), (5, .int v5)] 61 [] := by
    intro k23 hk23 n
    induction n with
    | zero => intro t_w t_statuses v1 v2 v3 v4 v5 hf; rw [f_X12_free_61] at hf; cases hf
    | succ n ih =>
      intro t_w t_statuses v1 v2 v3 v4 v5 hf
      rw [f_X12_free_61] at hf
      refine g_iload X dX12_free_61 5 rfl ?_
      refine g_aload_n X dX12_free_63 rfl 0 rfl ?_
      refine g_get (C := RX12) (T := TX12) (N := 22) (ci := 8) (v := (.ref h_t_w)) X iw_X12_free_X12 0 rfl rfl 0 (by decide) lk_X12_free_7 rfl dX12_free_64 ?_
      refine g_iconst (v := 0) X dX12_free_67 (by decide) ?_
      obtain ⟨hb_9, hf⟩ := chk_out hf
      refine g_iald X 1 rfl hb_9 dX12_free_68 ?_
      refine g_icmp_ge (tgt := 113) X dX12_free_69 (by decide) (fun hc_10 => ?_) (fun hc_10 => ?_)
      · replace hf := ite_t hc_10 hf
        refine g_lv X (lv' := [(0, .ref h_t), (1, .int v1), (2, .int v2), (3, .int v3), (4, .int v4)]) [0, 1, 2, 3, 4] rfl ?_
        exact J113 k23 hk23 t_w t_statuses v1 v2 v3 v4 hf
      · replace hf := ite_f hc_10 hf
        refine g_iload X dX12_free_72 4 rfl ?_
        refine g_if_eq (tgt := 104) X dX12_free_74 (by decide) (fun hc_11 => ?_) (fun hc_11 => ?_)
        · replace hf := ite_t hc_11 hf
          refine g_lv X (lv' := [(0, .ref h_t), (1, .int v1), (2, .int v2), (3, .int v3), (5, .int v5)]) [0, 1, 2, 3, 5] rfl ?_
          exact J104 k23 hk23 (f_X12_free_61 k23 n) ih t_w t_statuses v1 v2 v3 v5 hf
        · replace hf := ite_f hc_11 hf
          refine g_iload_n X dX12_free_77 rfl 3 rfl ?_
          refine g_iload X dX12_free_78 5 rfl ?_
          obtain ⟨r_12, hk_13, hf⟩ := ob1_out hf
          refine g_cSR (st := []) (st1 := [.int r_12]) X (c_X12_has l D cI cZ v3 v5 _ hk_13) (Or.inl rfl) 2 gX12_free_X12_has rfl hs_X12_has ⟨Nat.le_of_ble_eq_true rfl, Nat.le_of_ble_eq_true rfl⟩ rfl rfl (Nat.le_of_ble_eq_true rfl) ⟨rfl, rfl⟩ (Nat.zero_le _) (Nat.zero_le _) dX12_free_80 [] rfl rfl rfl ?_
          refine g_if_eq (tgt := 100) X dX12_free_83 (by decide) (fun hc_14 => ?_) (fun hc_14 => ?_)
          · replace hf := ite_t hc_14 hf
            refine g_lv X (lv' := [(0, .ref h_t), (1, .int v1), (2, .int v2), (3, .int v3), (5, .int v5)]) [0, 1, 2, 3, 5] rfl ?_
            exact J100 k23 hk23 (f_X12_free_61 k23 n) ih t_w t_statuses v1 v2 v3 v5 hf
          · replace hf := ite_f hc_14 hf
            refine g_aload_n X dX12_free_86 rfl 0 rfl ?_
            refine g_get (C := RX12) (T := TX12) (N := 22) (ci := 8) (v := (.ref h_t_w)) X iw_X12_free_X12 0 rfl rfl 0 (by decide) lk_X12_free_7 rfl dX12_free_87 ?_
            refine g_bipush (v := 31) X dX12_free_90 (by decide) ?_
            refine g_iload X dX12_free_92 5 rfl ?_
            refine g_iadd X dX12_free_94 ?_
            obtain ⟨hb_15, hf⟩ := chk_out hf
            refine g_iald X 1 rfl hb_15 dX12_free_95 ?_
            refine g_iconst (v := (-1)) X dX12_free_96 (by decide) ?_
            refine g_icmp_eq (tgt := 104) X dX12_free_97 (by decide) (fun hc_16 => ?_) (fun hc_16 => ?_)
            · replace hf := ite_t hc_16 hf
              refine g_lv X (lv' := [(0, .ref h_t), (1, .int v1), (2, .int v2), (3, .int v3), (5, .int v5)]) [0, 1, 2, 3, 5] rfl ?_
              exact J104 k23 hk23 (f_X12_free_61 k23 n) ih t_w t_statuses v1 v2 v3 v5 hf
            · replace hf := ite_f hc_16 hf
              refine g_lv X (lv' := [(0, .ref h_t), (1, .int v1), (2, .int v2), (3, .int v3), (5, .int v5)]) [0, 1, 2, 3, 5] rfl ?_
              exact J100 k23 hk23 (f_X12_free_61 k23 n) ih t_w t_statuses v1 v2 v3 v5 hf
  have J56 : ∀ (k23 : (Nat → Int32) → (Nat → Int32) → Int32 → Int32 → Int32 → Option (Int32 × (Nat → Int32) × (Nat → Int32))) (hk23 : ∀ (t_w : (Nat → Int32)) (t_statuses : (Nat → Int32)) (v1 : Int32) (v2 : Int32) (v3 : Int32), k23 t_w t_statuses v1 v2 v3 = some res → G 0 0 (wd_X12_free cI cZ h_t h_t_w h_t_isKept h_t_text h_t_statuses h_t_ways h_t_feels h_t_next h_t_came h_t_deep h_t_sizes h_t_tableOf h_t_usedBy h_t_taken h_t_sixOf t_texted t_above t_below t_at t_start t_number t_went t_h t_w t_statuses) [(0, .ref h_t), (1, .int v1), (2, .int v2), (3, .int v3)] 23 []) (t_w : (Nat → Int32)) (t_statuses : (Nat → Int32)) (v1 : Int32) (v2 : Int32) (v3 : Int32) (s0 : Int32), f_X12_free_56 k23 t_w t_statuses v1 v2 v3 s0 = some res → G 0 0 (wd_X12_free cI cZ h_t h_t_w h_t_isKept h_t_text h_t_statuses h_t_ways h_t_feels h_t_next h_t_came h_t_deep h_t_sizes h_t_tableOf h_t_usedBy h_t_taken h_t_sixOf t_texted t_above t_below t_at t_start t_number t_went t_h t_w t_statuses) [(0, .ref h_t), (1, .int v1), (2, .int v2), (3, .int v3)] 56 [.int s0] := by
    intro k23 hk23 t_w t_statuses v1 v2 v3 s0 hf
    unfold f_X12_free_56 at hf
    refine g_istore (lv' := [(0, .ref h_t), (1, .int v1), (2, .int v2), (3, .int v3), (4, .int s0)]) X dX12_free_56 (Nat.le_of_ble_eq_true rfl) [1, 2, 3, 4, 0] rfl ?_
    refine g_iconst (v := 0) X dX12_free_58 (by decide) ?_
    refine g_istore (lv' := [(0, .ref h_t), (1, .int v1), (2, .int v2), (3, .int v3), (4, .int s0), (5, .int 0)]) X dX12_free_59 (Nat.le_of_ble_eq_true rfl) [1, 2, 3, 4, 5, 0] rfl ?_
    exact J61 k23 hk23 FU t_w t_statuses v1 v2 v3 s0 0 hf
  have J51 : ∀ (k23 : (Nat → Int32) → (Nat → Int32) → Int32 → Int32 → Int32 → Option (Int32 × (Nat → Int32) × (Nat → Int32))) (hk23 : ∀ (t_w : (Nat → Int32)) (t_statuses : (Nat → Int32)) (v1 : Int32) (v2 : Int32) (v3 : Int32), k23 t_w t_statuses v1 v2 v3 = some res → G 0 0 (wd_X12_free cI cZ h_t h_t_w h_t_isKept h_t_text h_t_statuses h_t_ways h_t_feels h_t_next h_t_came h_t_deep h_t_sizes h_t_tableOf h_t_usedBy h_t_taken h_t_sixOf t_texted t_above t_below t_at t_start t_number t_went t_h t_w t_statuses) [(0, .ref h_t), (1, .int v1), (2, .int v2), (3, .int v3)] 23 []) (t_w : (Nat → Int32)) (t_statuses : (Nat → Int32)) (v1 : Int32) (v2 : Int32) (v3 : Int32), f_X12_free_51 k23 t_w t_statuses v1 v2 v3 = some res → G 0 0 (wd_X12_free cI cZ h_t h_t_w h_t_isKept h_t_text h_t_statuses h_t_ways h_t_feels h_t_next h_t_came h_t_deep h_t_sizes h_t_tableOf h_t_usedBy h_t_taken h_t_sixOf t_texted t_above t_below t_at t_start t_number t_went t_h t_w t_statuses) [(0, .ref h_t), (1, .int v1), (2, .int v2), (3, .int v3)] 51 [] := by
    intro k23 hk23 t_w t_statuses v1 v2 v3 hf
    unfold f_X12_free_51 at hf
    refine g_iconst (v := 1) X dX12_free_51 (by decide) ?_
    refine g_goto (tgt := 56) X dX12_free_52 (by decide) ?_
    exact J56 k23 hk23 t_w t_statuses v1 v2 v3 1 hf
  have J23 : ∀ (n : Nat) (t_w : (Nat → Int32)) (t_statuses : (Nat → Int32)) (v1 : Int32) (v2 : Int32) (v3 : Int32), f_X12_free_23 n t_w t_statuses v1 v2 v3 = some res → G 0 0 (wd_X12_free cI cZ h_t h_t_w h_t_isKept h_t_text h_t_statuses h_t_ways h_t_feels h_t_next h_t_came h_t_deep h_t_sizes h_t_tableOf h_t_usedBy h_t_taken h_t_sixOf t_texted t_above t_below t_at t_start t_number t_went t_h t_w t_statuses) [(0, .ref h_t), (1, .int v1), (2, .int v2), (3, .int v3)] 23 [] := by
    intro n
    induction n with
    | zero => intro t_w t_statuses v1 v2 v3 hf; rw [f_X12_free_23] at hf; cases hf
    | succ n ih =>
      intro t_w t_statuses v1 v2 v3 hf
      rw [f_X12_free_23] at hf
      refine g_iload_n X dX12_free_23 rfl 3 rfl ?_
      refine g_iconst (v := 1) X dX12_free_24 (by decide) ?_
      refine g_aload_n X dX12_free_25 rfl 0 rfl ?_
      refine g_get (C := RX12) (T := TX12) (N := 22) (ci := 8) (v := (.ref h_t_w)) X iw_X12_free_X12 0 rfl rfl 0 (by decide) lk_X12_free_7 rfl dX12_free_26 ?_
      refine g_iconst (v := 0) X dX12_free_29 (by decide) ?_
      obtain ⟨hb_1, hf⟩ := chk_out hf
      refine g_iald X 1 rfl hb_1 dX12_free_30 ?_
      refine g_ishl X dX12_free_31 ?_
      refine g_icmp_ge (tgt := 245) X dX12_free_32 (by decide) (fun hc_2 => ?_) (fun hc_2 => ?_)
      · replace hf := ite_t hc_2 hf
        refine g_iload_n X dX12_free_245 rfl 2 rfl ?_
        exact hR _ _ _ _ dX12_free_246 (kV_in (u := (v2, t_w, t_statuses)) hf)
      · replace hf := ite_f hc_2 hf
        refine g_iload_n X dX12_free_35 rfl 2 rfl ?_
        refine g_iconst (v := (-1)) X dX12_free_36 (by decide) ?_
        refine g_icmp_eq (tgt := 51) X dX12_free_37 (by decide) (fun hc_3 => ?_) (fun hc_3 => ?_)
        · replace hf := ite_t hc_3 hf
          exact J51 (f_X12_free_23 n) ih t_w t_statuses v1 v2 v3 hf
        · replace hf := ite_f hc_3 hf
          refine g_iload_n X dX12_free_40 rfl 3 rfl ?_
          obtain ⟨r_4, hk_5, hf⟩ := ob1_out hf
          refine g_cSR (st := []) (st1 := [.int r_4]) X (c_X12_ones l D cI cZ v3 _ hk_5) (Or.inl rfl) 1 gX12_free_X12_ones rfl hs_X12_ones ⟨Nat.le_of_ble_eq_true rfl, Nat.le_of_ble_eq_true rfl⟩ rfl rfl (Nat.le_of_ble_eq_true rfl) ⟨rfl, rfl⟩ (Nat.zero_le _) (Nat.zero_le _) dX12_free_41 [] rfl rfl rfl ?_
          refine g_iload_n X dX12_free_44 rfl 2 rfl ?_
          obtain ⟨r_6, hk_7, hf⟩ := ob1_out hf
          refine g_cSR (st := [.int r_4]) (st1 := [.int r_6, .int r_4]) X (c_X12_ones l D cI cZ v2 _ hk_7) (Or.inl rfl) 1 gX12_free_X12_ones rfl hs_X12_ones ⟨Nat.le_of_ble_eq_true rfl, Nat.le_of_ble_eq_true rfl⟩ rfl rfl (Nat.le_of_ble_eq_true rfl) ⟨rfl, rfl⟩ (Nat.zero_le _) (Nat.zero_le _) dX12_free_45 [] rfl rfl rfl ?_
          refine g_icmp_ge (tgt := 55) X dX12_free_48 (by decide) (fun hc_8 => ?_) (fun hc_8 => ?_)
          · replace hf := ite_t hc_8 hf
            refine g_iconst (v := 0) X dX12_free_55 (by decide) ?_
            exact J56 (f_X12_free_23 n) ih t_w t_statuses v1 v2 v3 0 hf
          · replace hf := ite_f hc_8 hf
            exact J51 (f_X12_free_23 n) ih t_w t_statuses v1 v2 v3 hf
  refine g_iload_n X dX12_free_0 rfl 1 rfl ?_
  refine g_i2l X dX12_free_1 ?_
  refine g_lconst (v := 1) X dX12_free_2 (by decide) ?_
  refine g_ldc2 (v := 63) X dX12_free_3 lk_X12_free_261 ?_
  obtain ⟨r_41, hk_42, hf⟩ := ob1_out hf
  refine g_cSR (st := []) (st1 := [.int r_41]) X (c_X12_in l D cI cZ (v1.toInt64) 1 63 _ hk_42) (Or.inl rfl) 3 gX12_free_X12_in rfl hs_X12_in ⟨Nat.le_of_ble_eq_true rfl, Nat.le_of_ble_eq_true rfl⟩ rfl rfl (Nat.le_of_ble_eq_true rfl) ⟨rfl, rfl⟩ (Nat.zero_le _) (Nat.zero_le _) dX12_free_6 [] rfl rfl rfl ?_
  refine g_if_ne (tgt := 19) X dX12_free_9 (by decide) (fun hc_43 => ?_) (fun hc_43 => ?_)
  · replace hf := ite_f hc_43 hf
    refine g_iconst (v := (-1)) X dX12_free_19 (by decide) ?_
    refine g_istore_n (lv' := [(0, .ref h_t), (1, .int v1), (2, .int (-1))]) X dX12_free_20 rfl (Nat.le_of_ble_eq_true rfl) [1, 2, 0] rfl ?_
    refine g_iconst (v := 0) X dX12_free_21 (by decide) ?_
    refine g_istore_n (lv' := [(0, .ref h_t), (1, .int v1), (2, .int (-1)), (3, .int 0)]) X dX12_free_22 rfl (Nat.le_of_ble_eq_true rfl) [1, 2, 3, 0] rfl ?_
    exact J23 FU t_w t_statuses v1 (-1) 0 hf
  · replace hf := ite_t hc_43 hf
    refine g_aload_n X dX12_free_12 rfl 0 rfl ?_
    refine g_bipush (v := (-2)) X dX12_free_13 (by decide) ?_
    obtain ⟨r_44, t_statuses_45, hk_46, hf⟩ := ob2_out hf
    refine g_cVW (st := []) (st1 := [.int r_44]) (C := RX12) (ci := 8) (q0 := 0) (ws' := (wd_X12_free cI cZ h_t h_t_w h_t_isKept h_t_text h_t_statuses h_t_ways h_t_feels h_t_next h_t_came h_t_deep h_t_sizes h_t_tableOf h_t_usedBy h_t_taken h_t_sixOf t_texted t_above t_below t_at t_start t_number t_went t_h t_w t_statuses_45)) X (c_X12_bad l D cI cZ h_t h_t_w h_t_isKept h_t_text h_t_statuses h_t_ways h_t_feels h_t_next h_t_came h_t_deep h_t_sizes h_t_tableOf h_t_usedBy h_t_taken h_t_sixOf t_texted t_above t_below t_at t_start t_number t_went t_h t_statuses (-2) _ hk_46) (Or.inl rfl) 1 gX12_free_X12_bad rfl hv_X12_bad ⟨Nat.le_of_ble_eq_true rfl, Nat.le_of_ble_eq_true rfl⟩ rfl rfl (Nat.le_of_ble_eq_true rfl) ⟨rfl, rfl⟩ (Nat.zero_le _) (Nat.zero_le _) rfl rfl rfl dX12_free_15 [0, 2] rfl rfl [1] rfl rfl (by decide) [1, 0, 2] rfl rfl rfl ?_
    exact hR _ _ _ _ dX12_free_18 (kV_in (u := (r_44, t_w, t_statuses_45)) hf)
def wd_X12_caughtBy (cI cZ : ClassId) (h_t : Nat) (h_t_w : Nat) (h_t_isKept : Nat) (h_t_text : Nat) (h_t_statuses : Nat) (h_t_ways : Nat) (h_t_feels : Nat) (h_t_next : Nat) (h_t_came : Nat) (h_t_deep : Nat) (h_t_sizes : Nat) (h_t_tableOf : Nat) (h_t_usedBy : Nat) (h_t_taken : Nat) (h_t_sixOf : Nat) (t_texted : Int32) (t_above : Int64) (t_below : Int64) (t_at : Int32) (t_start : Int32) (t_number : Int32) (t_went : Int32) (t_h : Int64) (t_w : (Nat → Int32)) : va_W := [(h_t, .inr (8, [.ref h_t_w, .ref h_t_isKept, .ref h_t_text, .int t_texted, .long t_above, .long t_below, .ref h_t_statuses, .int t_at, .int t_start, .int t_number, .ref h_t_ways, .int t_went, .ref h_t_feels, .ref h_t_next, .ref h_t_came, .ref h_t_deep, .ref h_t_sizes, .ref h_t_tableOf, .ref h_t_usedBy, .ref h_t_taken, .ref h_t_sixOf, .long t_h])), (h_t_w, .inl (cI, 1251, .inl t_w))]
abbrev rm_X12_caughtBy : Room := { frames := 1, cells := 0, slots := 0, locals := 24 }
theorem hv_X12_caughtBy : yX12_caughtBy.cls = RX12 ∧ yX12_caughtBy.cls ≠ "java/lang/invoke/MethodHandle" ∧ yX12_caughtBy.cls ≠ "java/lang/invoke/VarHandle" ∧ (parseMethodDescriptor yX12_caughtBy.desc).map (fun d => d.parameters.length) = some 1 := by decide +kernel
theorem iw_X12_caughtBy_X12 : ∀ w ∈ u_ws RX12 TX12 22, w ∈ wsX12_caughtBy := by decide +kernel
theorem lk_X12_caughtBy_7 : Cond.fieldLink RX12 7 "ClerkChainsModel" "w" "[I" ∈ wsX12_caughtBy := by decide +kernel
set_option maxHeartbeats 4000000 in
set_option maxRecDepth 100000 in
theorem c_X12_caughtBy (l : Launch) (D : va_G) (cI cZ : ClassId) (h_t : Nat) (h_t_w : Nat) (h_t_isKept : Nat) (h_t_text : Nat) (h_t_statuses : Nat) (h_t_ways : Nat) (h_t_feels : Nat) (h_t_next : Nat) (h_t_came : Nat) (h_t_deep : Nat) (h_t_sizes : Nat) (h_t_tableOf : Nat) (h_t_usedBy : Nat) (h_t_taken : Nat) (h_t_sixOf : Nat) (t_texted : Int32) (t_above : Int64) (t_below : Int64) (t_at : Int32) (t_start : Int32) (t_number : Int32) (t_went : Int32) (t_h : Int64) (t_w : (Nat → Int32)) (v1 : Int32) (res : Int32) (hf : f_X12_caughtBy t_w v1 = some res) : MetR l yX12_caughtBy wsX12_caughtBy rm_X12_caughtBy D cI cZ none [.ref h_t, .int v1] (wd_X12_caughtBy cI cZ h_t h_t_w h_t_isKept h_t_text h_t_statuses h_t_ways h_t_feels h_t_next h_t_came h_t_deep h_t_sizes h_t_tableOf h_t_usedBy h_t_taken h_t_sixOf t_texted t_above t_below t_at t_start t_number t_went t_h t_w) (kR res (fun u => some (.int u))) := by
  refine metR_of (cc := cX12_caughtBy) (maxL := 4) (ret := (some .int)) (own := RX12) (lv0 := [(0, .ref h_t), (1, .int v1)]) (by decide) rfl (Nat.le_of_ble_eq_true rfl) rfl rfl (fun G X hR => ?_)
  replace hR := rt_int hR
  unfold f_X12_caughtBy at hf
  have J42 : ∀ (k4 : Int32 → Int32 → Int32 → Option (Int32)) (hk4 : ∀ (v1 : Int32) (v2 : Int32) (v3 : Int32), k4 v1 v2 v3 = some res → G 0 0 (wd_X12_caughtBy cI cZ h_t h_t_w h_t_isKept h_t_text h_t_statuses h_t_ways h_t_feels h_t_next h_t_came h_t_deep h_t_sizes h_t_tableOf h_t_usedBy h_t_taken h_t_sixOf t_texted t_above t_below t_at t_start t_number t_went t_h t_w) [(0, .ref h_t), (1, .int v1), (2, .int v2), (3, .int v3)] 4 []) (v1 : Int32) (v3 : Int32) (s0 : Int32) (s1 : Int32), f_X12_caughtBy_42 t_w k4 v1 v3 s0 s1 = some res → G 0 0 (wd_X12_caughtBy cI cZ h_t h_t_w h_t_isKept h_t_text h_t_statuses h_t_ways h_t_feels h_t_next h_t_came h_t_deep h_t_sizes h_t_tableOf h_t_usedBy h_t_taken h_t_sixOf t_texted t_above t_below t_at t_start t_number t_went t_h t_w) [(0, .ref h_t), (1, .int v1), (3, .int v3)] 42 [.int s1, .int s0] := by
    intro k4 hk4 v1 v3 s0 s1 hf
    unfold f_X12_caughtBy_42 at hf
    refine g_ior X dX12_caughtBy_42 ?_
    obtain ⟨v2_9, ev2_9, hf⟩ := bnd_out hf
    refine g_nmI X ev2_9 ?_
    refine g_istore_n (lv' := [(0, .ref h_t), (1, .int v1), (2, .int v2_9), (3, .int v3)]) X dX12_caughtBy_43 rfl (Nat.le_of_ble_eq_true rfl) [1, 2, 0, 3] rfl ?_
    obtain ⟨v3_10, ev3_10, hf⟩ := bnd_out hf
    refine g_iinc (v := v3_10) (lv' := [(0, .ref h_t), (1, .int v1), (2, .int v2_9), (3, .int v3_10)]) X dX12_caughtBy_44 3 rfl (by rw [ev3_10]; rfl) (Nat.le_of_ble_eq_true rfl) [1, 2, 3, 0] rfl ?_
    refine g_goto (tgt := 4) X dX12_caughtBy_47 (by decide) ?_
    exact hk4 v1 v2_9 v3_10 hf
  have J41 : ∀ (k4 : Int32 → Int32 → Int32 → Option (Int32)) (hk4 : ∀ (v1 : Int32) (v2 : Int32) (v3 : Int32), k4 v1 v2 v3 = some res → G 0 0 (wd_X12_caughtBy cI cZ h_t h_t_w h_t_isKept h_t_text h_t_statuses h_t_ways h_t_feels h_t_next h_t_came h_t_deep h_t_sizes h_t_tableOf h_t_usedBy h_t_taken h_t_sixOf t_texted t_above t_below t_at t_start t_number t_went t_h t_w) [(0, .ref h_t), (1, .int v1), (2, .int v2), (3, .int v3)] 4 []) (v1 : Int32) (v3 : Int32) (s0 : Int32), f_X12_caughtBy_41 t_w k4 v1 v3 s0 = some res → G 0 0 (wd_X12_caughtBy cI cZ h_t h_t_w h_t_isKept h_t_text h_t_statuses h_t_ways h_t_feels h_t_next h_t_came h_t_deep h_t_sizes h_t_tableOf h_t_usedBy h_t_taken h_t_sixOf t_texted t_above t_below t_at t_start t_number t_went t_h t_w) [(0, .ref h_t), (1, .int v1), (3, .int v3)] 41 [.int s0] := by
    intro k4 hk4 v1 v3 s0 hf
    unfold f_X12_caughtBy_41 at hf
    refine g_iconst (v := 0) X dX12_caughtBy_41 (by decide) ?_
    exact J42 k4 hk4 v1 v3 s0 0 hf
  have J4 : ∀ (n : Nat) (v1 : Int32) (v2 : Int32) (v3 : Int32), f_X12_caughtBy_4 t_w n v1 v2 v3 = some res → G 0 0 (wd_X12_caughtBy cI cZ h_t h_t_w h_t_isKept h_t_text h_t_statuses h_t_ways h_t_feels h_t_next h_t_came h_t_deep h_t_sizes h_t_tableOf h_t_usedBy h_t_taken h_t_sixOf t_texted t_above t_below t_at t_start t_number t_went t_h t_w) [(0, .ref h_t), (1, .int v1), (2, .int v2), (3, .int v3)] 4 [] := by
    intro n
    induction n with
    | zero => intro v1 v2 v3 hf; rw [f_X12_caughtBy_4] at hf; cases hf
    | succ n ih =>
      intro v1 v2 v3 hf
      rw [f_X12_caughtBy_4] at hf
      refine g_iload_n X dX12_caughtBy_4 rfl 3 rfl ?_
      refine g_aload_n X dX12_caughtBy_5 rfl 0 rfl ?_
      refine g_get (C := RX12) (T := TX12) (N := 22) (ci := 8) (v := (.ref h_t_w)) X iw_X12_caughtBy_X12 0 rfl rfl 0 (by decide) lk_X12_caughtBy_7 rfl dX12_caughtBy_6 ?_
      refine g_iconst (v := 0) X dX12_caughtBy_9 (by decide) ?_
      obtain ⟨hb_1, hf⟩ := chk_out hf
      refine g_iald X 1 rfl hb_1 dX12_caughtBy_10 ?_
      refine g_icmp_ge (tgt := 50) X dX12_caughtBy_11 (by decide) (fun hc_2 => ?_) (fun hc_2 => ?_)
      · replace hf := ite_t hc_2 hf
        refine g_iload_n X dX12_caughtBy_50 rfl 2 rfl ?_
        exact hR _ _ _ _ dX12_caughtBy_51 (kR_in (u := v2) hf)
      · replace hf := ite_f hc_2 hf
        refine g_iload_n X dX12_caughtBy_14 rfl 2 rfl ?_
        refine g_aload_n X dX12_caughtBy_15 rfl 0 rfl ?_
        refine g_iconst (v := 0) X dX12_caughtBy_16 (by decide) ?_
        refine g_iload_n X dX12_caughtBy_17 rfl 1 rfl ?_
        refine g_iload_n X dX12_caughtBy_18 rfl 3 rfl ?_
        obtain ⟨r_3, hk_4, hf⟩ := ob1_out hf
        refine g_cVR (st := [.int v2]) (st1 := [.int r_3, .int v2]) (C := RX12) (ci := 8) (q0 := 0) X (c_X12_isOver l D cI cZ h_t h_t_w h_t_isKept h_t_text h_t_statuses h_t_ways h_t_feels h_t_next h_t_came h_t_deep h_t_sizes h_t_tableOf h_t_usedBy h_t_taken h_t_sixOf t_texted t_above t_below t_at t_start t_number t_went t_h t_w 0 v1 v3 _ hk_4) (Or.inl rfl) 3 gX12_caughtBy_X12_isOver rfl hv_X12_isOver ⟨Nat.le_of_ble_eq_true rfl, Nat.le_of_ble_eq_true rfl⟩ rfl rfl (Nat.le_of_ble_eq_true rfl) ⟨rfl, rfl⟩ (Nat.zero_le _) (Nat.zero_le _) rfl rfl rfl dX12_caughtBy_19 [0, 1] rfl rfl rfl ?_
        refine g_if_ne (tgt := 41) X dX12_caughtBy_22 (by decide) (fun hc_5 => ?_) (fun hc_5 => ?_)
        · replace hf := ite_f hc_5 hf
          refine g_lv X (lv' := [(0, .ref h_t), (1, .int v1), (3, .int v3)]) [0, 1, 3] rfl ?_
          exact J41 (f_X12_caughtBy_4 t_w n) ih v1 v3 v2 hf
        · replace hf := ite_t hc_5 hf
          refine g_aload_n X dX12_caughtBy_25 rfl 0 rfl ?_
          refine g_iconst (v := 0) X dX12_caughtBy_26 (by decide) ?_
          refine g_iload_n X dX12_caughtBy_27 rfl 3 rfl ?_
          obtain ⟨r_6, hk_7, hf⟩ := ob1_out hf
          refine g_cVR (st := [.int v2]) (st1 := [.int r_6, .int v2]) (C := RX12) (ci := 8) (q0 := 0) X (c_X12_onIt l D cI cZ h_t h_t_w h_t_isKept h_t_text h_t_statuses h_t_ways h_t_feels h_t_next h_t_came h_t_deep h_t_sizes h_t_tableOf h_t_usedBy h_t_taken h_t_sixOf t_texted t_above t_below t_at t_start t_number t_went t_h t_w 0 v3 _ hk_7) (Or.inl rfl) 2 gX12_caughtBy_X12_onIt rfl hv_X12_onIt ⟨Nat.le_of_ble_eq_true rfl, Nat.le_of_ble_eq_true rfl⟩ rfl rfl (Nat.le_of_ble_eq_true rfl) ⟨rfl, rfl⟩ (Nat.zero_le _) (Nat.zero_le _) rfl rfl rfl dX12_caughtBy_28 [0, 1] rfl rfl rfl ?_
          refine g_iconst (v := 2) X dX12_caughtBy_31 (by decide) ?_
          refine g_icmp_ge (tgt := 41) X dX12_caughtBy_32 (by decide) (fun hc_8 => ?_) (fun hc_8 => ?_)
          · replace hf := ite_t hc_8 hf
            refine g_lv X (lv' := [(0, .ref h_t), (1, .int v1), (3, .int v3)]) [0, 1, 3] rfl ?_
            exact J41 (f_X12_caughtBy_4 t_w n) ih v1 v3 v2 hf
          · replace hf := ite_f hc_8 hf
            refine g_iconst (v := 1) X dX12_caughtBy_35 (by decide) ?_
            refine g_iload_n X dX12_caughtBy_36 rfl 3 rfl ?_
            refine g_ishl X dX12_caughtBy_37 ?_
            refine g_goto (tgt := 42) X dX12_caughtBy_38 (by decide) ?_
            refine g_lv X (lv' := [(0, .ref h_t), (1, .int v1), (3, .int v3)]) [0, 1, 3] rfl ?_
            exact J42 (f_X12_caughtBy_4 t_w n) ih v1 v3 v2 (1 <<< (v3 &&& 31)) hf
  refine g_iconst (v := 0) X dX12_caughtBy_0 (by decide) ?_
  refine g_istore_n (lv' := [(0, .ref h_t), (1, .int v1), (2, .int 0)]) X dX12_caughtBy_1 rfl (Nat.le_of_ble_eq_true rfl) [1, 2, 0] rfl ?_
  refine g_iconst (v := 0) X dX12_caughtBy_2 (by decide) ?_
  refine g_istore_n (lv' := [(0, .ref h_t), (1, .int v1), (2, .int 0), (3, .int 0)]) X dX12_caughtBy_3 rfl (Nat.le_of_ble_eq_true rfl) [1, 2, 3, 0] rfl ?_
  exact J4 FU v1 0 0 hf
def wd_X12_caught (cI cZ : ClassId) (h_t : Nat) (h_t_w : Nat) (h_t_isKept : Nat) (h_t_text : Nat) (h_t_statuses : Nat) (h_t_ways : Nat) (h_t_feels : Nat) (h_t_next : Nat) (h_t_came : Nat) (h_t_deep : Nat) (h_t_sizes : Nat) (h_t_tableOf : Nat) (h_t_usedBy : Nat) (h_t_taken : Nat) (h_t_sixOf : Nat) (t_texted : Int32) (t_above : Int64) (t_below : Int64) (t_at : Int32) (t_start : Int32) (t_number : Int32) (t_went : Int32) (t_h : Int64) (t_w : (Nat → Int32)) (t_statuses : (Nat → Int32)) : va_W := [(h_t, .inr (8, [.ref h_t_w, .ref h_t_isKept, .ref h_t_text, .int t_texted, .long t_above, .long t_below, .ref h_t_statuses, .int t_at, .int t_start, .int t_number, .ref h_t_ways, .int t_went, .ref h_t_feels, .ref h_t_next, .ref h_t_came, .ref h_t_deep, .ref h_t_sizes, .ref h_t_tableOf, .ref h_t_usedBy, .ref h_t_taken, .ref h_t_sixOf, .long t_h])), (h_t_w, .inl (cI, 1251, .inl t_w)), (h_t_statuses, .inl (cI, 3, .inl t_statuses))]
abbrev rm_X12_caught : Room := { frames := 2, cells := 0, slots := 0, locals := 47 }
theorem hv_X12_caught : yX12_caught.cls = RX12 ∧ yX12_caught.cls ≠ "java/lang/invoke/MethodHandle" ∧ yX12_caught.cls ≠ "java/lang/invoke/VarHandle" ∧ (parseMethodDescriptor yX12_caught.desc).map (fun d => d.parameters.length) = some 1 := by decide +kernel
theorem iw_X12_caught_X12 : ∀ w ∈ u_ws RX12 TX12 22, w ∈ wsX12_caught := by decide +kernel
theorem lk_X12_caught_7 : Cond.fieldLink RX12 7 "ClerkChainsModel" "w" "[I" ∈ wsX12_caught := by decide +kernel
set_option maxHeartbeats 4000000 in
set_option maxRecDepth 100000 in
theorem c_X12_caught (l : Launch) (D : va_G) (cI cZ : ClassId) (h_t : Nat) (h_t_w : Nat) (h_t_isKept : Nat) (h_t_text : Nat) (h_t_statuses : Nat) (h_t_ways : Nat) (h_t_feels : Nat) (h_t_next : Nat) (h_t_came : Nat) (h_t_deep : Nat) (h_t_sizes : Nat) (h_t_tableOf : Nat) (h_t_usedBy : Nat) (h_t_taken : Nat) (h_t_sixOf : Nat) (t_texted : Int32) (t_above : Int64) (t_below : Int64) (t_at : Int32) (t_start : Int32) (t_number : Int32) (t_went : Int32) (t_h : Int64) (t_w : (Nat → Int32)) (t_statuses : (Nat → Int32)) (v1 : Int32) (res : Int32 × (Nat → Int32)) (hf : f_X12_caught t_w t_statuses v1 = some res) : MetG l yX12_caught wsX12_caught rm_X12_caught D cI cZ none [.ref h_t, .int v1] (wd_X12_caught cI cZ h_t h_t_w h_t_isKept h_t_text h_t_statuses h_t_ways h_t_feels h_t_next h_t_came h_t_deep h_t_sizes h_t_tableOf h_t_usedBy h_t_taken h_t_sixOf t_texted t_above t_below t_at t_start t_number t_went t_h t_w t_statuses) (kV res (fun u => some (.int u.1)) (fun u => (wd_X12_caught cI cZ h_t h_t_w h_t_isKept h_t_text h_t_statuses h_t_ways h_t_feels h_t_next h_t_came h_t_deep h_t_sizes h_t_tableOf h_t_usedBy h_t_taken h_t_sixOf t_texted t_above t_below t_at t_start t_number t_went t_h t_w (u.2)))) := by
  refine metG_of (cc := cX12_caught) (maxL := 2) (ret := (some .int)) (own := RX12) (lv0 := [(0, .ref h_t), (1, .int v1)]) (ini := false) (by decide) rfl (Nat.le_of_ble_eq_true rfl) rfl rfl (fun h => by cases h) (fun G X hR => ?_)
  replace hR := rt_int hR
  unfold f_X12_caught at hf
  refine g_aload_n X dX12_caught_0 rfl 0 rfl ?_
  refine g_iload_n X dX12_caught_1 rfl 1 rfl ?_
  obtain ⟨r_1, hk_2, hf⟩ := ob1_out hf
  refine g_cVR (st := []) (st1 := [.int r_1]) (C := RX12) (ci := 8) (q0 := 0) X (c_X12_isClerk l D cI cZ h_t h_t_w h_t_isKept h_t_text h_t_statuses h_t_ways h_t_feels h_t_next h_t_came h_t_deep h_t_sizes h_t_tableOf h_t_usedBy h_t_taken h_t_sixOf t_texted t_above t_below t_at t_start t_number t_went t_h t_w v1 _ hk_2) (Or.inl rfl) 1 gX12_caught_X12_isClerk rfl hv_X12_isClerk ⟨Nat.le_of_ble_eq_true rfl, Nat.le_of_ble_eq_true rfl⟩ rfl rfl (Nat.le_of_ble_eq_true rfl) ⟨rfl, rfl⟩ (Nat.zero_le _) (Nat.zero_le _) rfl rfl rfl dX12_caught_2 [0, 1] rfl rfl rfl ?_
  refine g_if_ne (tgt := 15) X dX12_caught_5 (by decide) (fun hc_3 => ?_) (fun hc_3 => ?_)
  · replace hf := ite_f hc_3 hf
    refine g_aload_n X dX12_caught_15 rfl 0 rfl ?_
    refine g_get (C := RX12) (T := TX12) (N := 22) (ci := 8) (v := (.ref h_t_w)) X iw_X12_caught_X12 0 rfl rfl 0 (by decide) lk_X12_caught_7 rfl dX12_caught_16 ?_
    refine g_bipush (v := 31) X dX12_caught_19 (by decide) ?_
    refine g_iload_n X dX12_caught_21 rfl 1 rfl ?_
    refine g_iadd X dX12_caught_22 ?_
    obtain ⟨hb_4, hf⟩ := chk_out hf
    refine g_iald X 1 rfl hb_4 dX12_caught_23 ?_
    refine g_iconst (v := (-1)) X dX12_caught_24 (by decide) ?_
    refine g_icmp_eq (tgt := 35) X dX12_caught_25 (by decide) (fun hc_5 => ?_) (fun hc_5 => ?_)
    · replace hf := ite_t hc_5 hf
      refine g_aload_n X dX12_caught_35 rfl 0 rfl ?_
      refine g_iload_n X dX12_caught_36 rfl 1 rfl ?_
      obtain ⟨r_6, hk_7, hf⟩ := ob1_out hf
      refine g_cVR (st := []) (st1 := [.int r_6]) (C := RX12) (ci := 8) (q0 := 0) X (c_X12_caughtBy l D cI cZ h_t h_t_w h_t_isKept h_t_text h_t_statuses h_t_ways h_t_feels h_t_next h_t_came h_t_deep h_t_sizes h_t_tableOf h_t_usedBy h_t_taken h_t_sixOf t_texted t_above t_below t_at t_start t_number t_went t_h t_w v1 _ hk_7) (Or.inl rfl) 1 gX12_caught_X12_caughtBy rfl hv_X12_caughtBy ⟨Nat.le_of_ble_eq_true rfl, Nat.le_of_ble_eq_true rfl⟩ rfl rfl (Nat.le_of_ble_eq_true rfl) ⟨rfl, rfl⟩ (Nat.zero_le _) (Nat.zero_le _) rfl rfl rfl dX12_caught_37 [0, 1] rfl rfl rfl ?_
      exact hR _ _ _ _ dX12_caught_40 (kV_in (u := (r_6, t_statuses)) hf)
    · replace hf := ite_f hc_5 hf
      refine g_aload_n X dX12_caught_28 rfl 0 rfl ?_
      obtain ⟨r_8, t_statuses_9, hk_10, hf⟩ := ob2_out hf
      refine g_cVW (st := []) (st1 := [.int r_8]) (C := RX12) (ci := 8) (q0 := 0) (ws' := (wd_X12_caught cI cZ h_t h_t_w h_t_isKept h_t_text h_t_statuses h_t_ways h_t_feels h_t_next h_t_came h_t_deep h_t_sizes h_t_tableOf h_t_usedBy h_t_taken h_t_sixOf t_texted t_above t_below t_at t_start t_number t_went t_h t_w t_statuses_9)) X (c_X12_no l D cI cZ h_t h_t_w h_t_isKept h_t_text h_t_statuses h_t_ways h_t_feels h_t_next h_t_came h_t_deep h_t_sizes h_t_tableOf h_t_usedBy h_t_taken h_t_sixOf t_texted t_above t_below t_at t_start t_number t_went t_h t_statuses _ hk_10) (Or.inl rfl) 0 gX12_caught_X12_no rfl hv_X12_no ⟨Nat.le_of_ble_eq_true rfl, Nat.le_of_ble_eq_true rfl⟩ rfl rfl (Nat.le_of_ble_eq_true rfl) ⟨rfl, rfl⟩ (Nat.zero_le _) (Nat.zero_le _) rfl rfl rfl dX12_caught_29 [0, 2] rfl rfl [1] rfl rfl (by decide) [1, 0, 2] rfl rfl rfl ?_
      refine g_goto (tgt := 40) X dX12_caught_32 (by decide) ?_
      exact hR _ _ _ _ dX12_caught_40 (kV_in (u := (r_8, t_statuses_9)) hf)
  · replace hf := ite_t hc_3 hf
    refine g_aload_n X dX12_caught_8 rfl 0 rfl ?_
    refine g_bipush (v := (-2)) X dX12_caught_9 (by decide) ?_
    obtain ⟨r_11, t_statuses_12, hk_13, hf⟩ := ob2_out hf
    refine g_cVW (st := []) (st1 := [.int r_11]) (C := RX12) (ci := 8) (q0 := 0) (ws' := (wd_X12_caught cI cZ h_t h_t_w h_t_isKept h_t_text h_t_statuses h_t_ways h_t_feels h_t_next h_t_came h_t_deep h_t_sizes h_t_tableOf h_t_usedBy h_t_taken h_t_sixOf t_texted t_above t_below t_at t_start t_number t_went t_h t_w t_statuses_12)) X (c_X12_bad l D cI cZ h_t h_t_w h_t_isKept h_t_text h_t_statuses h_t_ways h_t_feels h_t_next h_t_came h_t_deep h_t_sizes h_t_tableOf h_t_usedBy h_t_taken h_t_sixOf t_texted t_above t_below t_at t_start t_number t_went t_h t_statuses (-2) _ hk_13) (Or.inl rfl) 1 gX12_caught_X12_bad rfl hv_X12_bad ⟨Nat.le_of_ble_eq_true rfl, Nat.le_of_ble_eq_true rfl⟩ rfl rfl (Nat.le_of_ble_eq_true rfl) ⟨rfl, rfl⟩ (Nat.zero_le _) (Nat.zero_le _) rfl rfl rfl dX12_caught_11 [0, 2] rfl rfl [1] rfl rfl (by decide) [1, 0, 2] rfl rfl rfl ?_
    exact hR _ _ _ _ dX12_caught_14 (kV_in (u := (r_11, t_statuses_12)) hf)
def wd_X12_told (cI cZ : ClassId) (h_t : Nat) (h_t_w : Nat) (h_t_isKept : Nat) (h_t_text : Nat) (h_t_statuses : Nat) (h_t_ways : Nat) (h_t_feels : Nat) (h_t_next : Nat) (h_t_came : Nat) (h_t_deep : Nat) (h_t_sizes : Nat) (h_t_tableOf : Nat) (h_t_usedBy : Nat) (h_t_taken : Nat) (h_t_sixOf : Nat) (t_texted : Int32) (t_above : Int64) (t_below : Int64) (t_at : Int32) (t_start : Int32) (t_number : Int32) (t_went : Int32) (t_h : Int64) (t_w : (Nat → Int32)) (t_statuses : (Nat → Int32)) : va_W := [(h_t, .inr (8, [.ref h_t_w, .ref h_t_isKept, .ref h_t_text, .int t_texted, .long t_above, .long t_below, .ref h_t_statuses, .int t_at, .int t_start, .int t_number, .ref h_t_ways, .int t_went, .ref h_t_feels, .ref h_t_next, .ref h_t_came, .ref h_t_deep, .ref h_t_sizes, .ref h_t_tableOf, .ref h_t_usedBy, .ref h_t_taken, .ref h_t_sixOf, .long t_h])), (h_t_w, .inl (cI, 1251, .inl t_w)), (h_t_statuses, .inl (cI, 3, .inl t_statuses))]
abbrev rm_X12_told : Room := { frames := 2, cells := 0, slots := 0, locals := 46 }
theorem hv_X12_told : yX12_told.cls = RX12 ∧ yX12_told.cls ≠ "java/lang/invoke/MethodHandle" ∧ yX12_told.cls ≠ "java/lang/invoke/VarHandle" ∧ (parseMethodDescriptor yX12_told.desc).map (fun d => d.parameters.length) = some 4 := by decide +kernel
theorem lk_X12_told_233 : Cond.constantLong RX12 233 20 ∈ wsX12_told := by decide +kernel
theorem iw_X12_told_X12 : ∀ w ∈ u_ws RX12 TX12 22, w ∈ wsX12_told := by decide +kernel
theorem lk_X12_told_7 : Cond.fieldLink RX12 7 "ClerkChainsModel" "w" "[I" ∈ wsX12_told := by decide +kernel
set_option maxHeartbeats 4000000 in
set_option maxRecDepth 100000 in
theorem c_X12_told (l : Launch) (D : va_G) (cI cZ : ClassId) (h_t : Nat) (h_t_w : Nat) (h_t_isKept : Nat) (h_t_text : Nat) (h_t_statuses : Nat) (h_t_ways : Nat) (h_t_feels : Nat) (h_t_next : Nat) (h_t_came : Nat) (h_t_deep : Nat) (h_t_sizes : Nat) (h_t_tableOf : Nat) (h_t_usedBy : Nat) (h_t_taken : Nat) (h_t_sixOf : Nat) (t_texted : Int32) (t_above : Int64) (t_below : Int64) (t_at : Int32) (t_start : Int32) (t_number : Int32) (t_went : Int32) (t_h : Int64) (t_w : (Nat → Int32)) (t_statuses : (Nat → Int32)) (v1 : Int32) (v2 : Int32) (v3 : Int32) (v4 : Int32) (res : Int32 × (Nat → Int32) × (Nat → Int32)) (hf : f_X12_told t_w t_statuses v1 v2 v3 v4 = some res) : MetG l yX12_told wsX12_told rm_X12_told D cI cZ none [.ref h_t, .int v1, .int v2, .int v3, .int v4] (wd_X12_told cI cZ h_t h_t_w h_t_isKept h_t_text h_t_statuses h_t_ways h_t_feels h_t_next h_t_came h_t_deep h_t_sizes h_t_tableOf h_t_usedBy h_t_taken h_t_sixOf t_texted t_above t_below t_at t_start t_number t_went t_h t_w t_statuses) (kV res (fun u => some (.int u.1)) (fun u => (wd_X12_told cI cZ h_t h_t_w h_t_isKept h_t_text h_t_statuses h_t_ways h_t_feels h_t_next h_t_came h_t_deep h_t_sizes h_t_tableOf h_t_usedBy h_t_taken h_t_sixOf t_texted t_above t_below t_at t_start t_number t_went t_h (u.2.1) (u.2.2)))) := by
  refine metG_of (cc := cX12_told) (maxL := 6) (ret := (some .int)) (own := RX12) (lv0 := [(0, .ref h_t), (1, .int v1), (2, .int v2), (3, .int v3), (4, .int v4)]) (ini := false) (by decide) rfl (Nat.le_of_ble_eq_true rfl) rfl rfl (fun h => by cases h) (fun G X hR => ?_)
  replace hR := rt_int hR
  unfold f_X12_told at hf
  have J41 : ∀ (t_w : (Nat → Int32)) (t_statuses : (Nat → Int32)), f_X12_told_41 t_w t_statuses = some res → G 0 0 (wd_X12_told cI cZ h_t h_t_w h_t_isKept h_t_text h_t_statuses h_t_ways h_t_feels h_t_next h_t_came h_t_deep h_t_sizes h_t_tableOf h_t_usedBy h_t_taken h_t_sixOf t_texted t_above t_below t_at t_start t_number t_went t_h t_w t_statuses) [(0, .ref h_t)] 41 [] := by
    intro t_w t_statuses hf
    unfold f_X12_told_41 at hf
    refine g_aload_n X dX12_told_41 rfl 0 rfl ?_
    refine g_bipush (v := (-2)) X dX12_told_42 (by decide) ?_
    obtain ⟨r_1, t_statuses_2, hk_3, hf⟩ := ob2_out hf
    refine g_cVW (st := []) (st1 := [.int r_1]) (C := RX12) (ci := 8) (q0 := 0) (ws' := (wd_X12_told cI cZ h_t h_t_w h_t_isKept h_t_text h_t_statuses h_t_ways h_t_feels h_t_next h_t_came h_t_deep h_t_sizes h_t_tableOf h_t_usedBy h_t_taken h_t_sixOf t_texted t_above t_below t_at t_start t_number t_went t_h t_w t_statuses_2)) X (c_X12_bad l D cI cZ h_t h_t_w h_t_isKept h_t_text h_t_statuses h_t_ways h_t_feels h_t_next h_t_came h_t_deep h_t_sizes h_t_tableOf h_t_usedBy h_t_taken h_t_sixOf t_texted t_above t_below t_at t_start t_number t_went t_h t_statuses (-2) _ hk_3) (Or.inl rfl) 1 gX12_told_X12_bad rfl hv_X12_bad ⟨Nat.le_of_ble_eq_true rfl, Nat.le_of_ble_eq_true rfl⟩ rfl rfl (Nat.le_of_ble_eq_true rfl) ⟨rfl, rfl⟩ (Nat.zero_le _) (Nat.zero_le _) rfl rfl rfl dX12_told_44 [0, 2] rfl rfl [1] rfl rfl (by decide) [1, 0, 2] rfl rfl rfl ?_
    exact hR _ _ _ _ dX12_told_47 (kV_in (u := (r_1, t_w, t_statuses_2)) hf)
  refine g_aload_n X dX12_told_0 rfl 0 rfl ?_
  refine g_iload_n X dX12_told_1 rfl 1 rfl ?_
  obtain ⟨r_4, hk_5, hf⟩ := ob1_out hf
  refine g_cVR (st := []) (st1 := [.int r_4]) (C := RX12) (ci := 8) (q0 := 0) X (c_X12_isClerk l D cI cZ h_t h_t_w h_t_isKept h_t_text h_t_statuses h_t_ways h_t_feels h_t_next h_t_came h_t_deep h_t_sizes h_t_tableOf h_t_usedBy h_t_taken h_t_sixOf t_texted t_above t_below t_at t_start t_number t_went t_h t_w v1 _ hk_5) (Or.inl rfl) 1 gX12_told_X12_isClerk rfl hv_X12_isClerk ⟨Nat.le_of_ble_eq_true rfl, Nat.le_of_ble_eq_true rfl⟩ rfl rfl (Nat.le_of_ble_eq_true rfl) ⟨rfl, rfl⟩ (Nat.zero_le _) (Nat.zero_le _) rfl rfl rfl dX12_told_2 [0, 1] rfl rfl rfl ?_
  refine g_if_eq (tgt := 41) X dX12_told_5 (by decide) (fun hc_6 => ?_) (fun hc_6 => ?_)
  · replace hf := ite_t hc_6 hf
    refine g_lv X (lv' := [(0, .ref h_t)]) [0] rfl ?_
    exact J41 t_w t_statuses hf
  · replace hf := ite_f hc_6 hf
    refine g_iload_n X dX12_told_8 rfl 2 rfl ?_
    refine g_i2l X dX12_told_9 ?_
    refine g_lconst (v := 1) X dX12_told_10 (by decide) ?_
    refine g_ldc2 (v := 20) X dX12_told_11 lk_X12_told_233 ?_
    obtain ⟨r_7, hk_8, hf⟩ := ob1_out hf
    refine g_cSR (st := []) (st1 := [.int r_7]) X (c_X12_in l D cI cZ (v2.toInt64) 1 20 _ hk_8) (Or.inl rfl) 3 gX12_told_X12_in rfl hs_X12_in ⟨Nat.le_of_ble_eq_true rfl, Nat.le_of_ble_eq_true rfl⟩ rfl rfl (Nat.le_of_ble_eq_true rfl) ⟨rfl, rfl⟩ (Nat.zero_le _) (Nat.zero_le _) dX12_told_14 [] rfl rfl rfl ?_
    refine g_if_eq (tgt := 41) X dX12_told_17 (by decide) (fun hc_9 => ?_) (fun hc_9 => ?_)
    · replace hf := ite_t hc_9 hf
      refine g_lv X (lv' := [(0, .ref h_t)]) [0] rfl ?_
      exact J41 t_w t_statuses hf
    · replace hf := ite_f hc_9 hf
      refine g_aload_n X dX12_told_20 rfl 0 rfl ?_
      refine g_iload_n X dX12_told_21 rfl 3 rfl ?_
      obtain ⟨r_10, hk_11, hf⟩ := ob1_out hf
      refine g_cVR (st := []) (st1 := [.int r_10]) (C := RX12) (ci := 8) (q0 := 0) X (c_X12_isClerk l D cI cZ h_t h_t_w h_t_isKept h_t_text h_t_statuses h_t_ways h_t_feels h_t_next h_t_came h_t_deep h_t_sizes h_t_tableOf h_t_usedBy h_t_taken h_t_sixOf t_texted t_above t_below t_at t_start t_number t_went t_h t_w v3 _ hk_11) (Or.inl rfl) 1 gX12_told_X12_isClerk rfl hv_X12_isClerk ⟨Nat.le_of_ble_eq_true rfl, Nat.le_of_ble_eq_true rfl⟩ rfl rfl (Nat.le_of_ble_eq_true rfl) ⟨rfl, rfl⟩ (Nat.zero_le _) (Nat.zero_le _) rfl rfl rfl dX12_told_22 [0, 1] rfl rfl rfl ?_
      refine g_if_eq (tgt := 41) X dX12_told_25 (by decide) (fun hc_12 => ?_) (fun hc_12 => ?_)
      · replace hf := ite_t hc_12 hf
        refine g_lv X (lv' := [(0, .ref h_t)]) [0] rfl ?_
        exact J41 t_w t_statuses hf
      · replace hf := ite_f hc_12 hf
        refine g_iload X dX12_told_28 4 rfl ?_
        refine g_i2l X dX12_told_30 ?_
        refine g_lconst (v := 0) X dX12_told_31 (by decide) ?_
        refine g_ldc2 (v := 20) X dX12_told_32 lk_X12_told_233 ?_
        obtain ⟨r_13, hk_14, hf⟩ := ob1_out hf
        refine g_cSR (st := []) (st1 := [.int r_13]) X (c_X12_in l D cI cZ (v4.toInt64) 0 20 _ hk_14) (Or.inl rfl) 3 gX12_told_X12_in rfl hs_X12_in ⟨Nat.le_of_ble_eq_true rfl, Nat.le_of_ble_eq_true rfl⟩ rfl rfl (Nat.le_of_ble_eq_true rfl) ⟨rfl, rfl⟩ (Nat.zero_le _) (Nat.zero_le _) dX12_told_35 [] rfl rfl rfl ?_
        refine g_if_ne (tgt := 48) X dX12_told_38 (by decide) (fun hc_15 => ?_) (fun hc_15 => ?_)
        · replace hf := ite_f hc_15 hf
          refine g_aload_n X dX12_told_48 rfl 0 rfl ?_
          refine g_get (C := RX12) (T := TX12) (N := 22) (ci := 8) (v := (.ref h_t_w)) X iw_X12_told_X12 0 rfl rfl 0 (by decide) lk_X12_told_7 rfl dX12_told_49 ?_
          refine g_bipush (v := 47) X dX12_told_52 (by decide) ?_
          obtain ⟨hb_16, hf⟩ := chk_out hf
          refine g_iald X 1 rfl hb_16 dX12_told_54 ?_
          refine g_iconst (v := 5) X dX12_told_55 (by decide) ?_
          refine g_icmp_ne (tgt := 64) X dX12_told_56 (by decide) (fun hc_17 => ?_) (fun hc_17 => ?_)
          · replace hf := ite_f hc_17 hf
            refine g_bipush (v := 48) X dX12_told_64 (by decide) ?_
            refine g_iconst (v := 4) X dX12_told_66 (by decide) ?_
            refine g_aload_n X dX12_told_67 rfl 0 rfl ?_
            refine g_get (C := RX12) (T := TX12) (N := 22) (ci := 8) (v := (.ref h_t_w)) X iw_X12_told_X12 0 rfl rfl 0 (by decide) lk_X12_told_7 rfl dX12_told_68 ?_
            refine g_bipush (v := 47) X dX12_told_71 (by decide) ?_
            obtain ⟨hb_18, hf⟩ := chk_out hf
            refine g_iald X 1 rfl hb_18 dX12_told_73 ?_
            refine g_imul X dX12_told_74 ?_
            refine g_iadd X dX12_told_75 ?_
            obtain ⟨v5_19, ev5_19, hf⟩ := bnd_out hf
            refine g_nmI X ev5_19 ?_
            refine g_istore (lv' := [(0, .ref h_t), (1, .int v1), (2, .int v2), (3, .int v3), (4, .int v4), (5, .int v5_19)]) X dX12_told_76 (Nat.le_of_ble_eq_true rfl) [1, 2, 3, 4, 5, 0] rfl ?_
            refine g_aload_n X dX12_told_78 rfl 0 rfl ?_
            refine g_get (C := RX12) (T := TX12) (N := 22) (ci := 8) (v := (.ref h_t_w)) X iw_X12_told_X12 0 rfl rfl 0 (by decide) lk_X12_told_7 rfl dX12_told_79 ?_
            refine g_iload X dX12_told_82 5 rfl ?_
            refine g_iload_n X dX12_told_84 rfl 1 rfl ?_
            obtain ⟨hb_20, hf⟩ := chk_out hf
            obtain ⟨t_w_21, et_w_21, hf⟩ := bnd_out hf
            refine g_iast (ws' := (wd_X12_told cI cZ h_t h_t_w h_t_isKept h_t_text h_t_statuses h_t_ways h_t_feels h_t_next h_t_came h_t_deep h_t_sizes h_t_tableOf h_t_usedBy h_t_taken h_t_sixOf t_texted t_above t_below t_at t_start t_number t_went t_h t_w_21 t_statuses)) X 1 rfl hb_20 et_w_21 dX12_told_85 rfl ?_
            refine g_aload_n X dX12_told_86 rfl 0 rfl ?_
            refine g_get (C := RX12) (T := TX12) (N := 22) (ci := 8) (v := (.ref h_t_w)) X iw_X12_told_X12 0 rfl rfl 0 (by decide) lk_X12_told_7 rfl dX12_told_87 ?_
            refine g_iload X dX12_told_90 5 rfl ?_
            refine g_iconst (v := 1) X dX12_told_92 (by decide) ?_
            refine g_iadd X dX12_told_93 ?_
            refine g_iload_n X dX12_told_94 rfl 2 rfl ?_
            obtain ⟨hb_22, hf⟩ := chk_out hf
            obtain ⟨t_w_23, et_w_23, hf⟩ := bnd_out hf
            refine g_iast (ws' := (wd_X12_told cI cZ h_t h_t_w h_t_isKept h_t_text h_t_statuses h_t_ways h_t_feels h_t_next h_t_came h_t_deep h_t_sizes h_t_tableOf h_t_usedBy h_t_taken h_t_sixOf t_texted t_above t_below t_at t_start t_number t_went t_h t_w_23 t_statuses)) X 1 rfl hb_22 et_w_23 dX12_told_95 rfl ?_
            refine g_aload_n X dX12_told_96 rfl 0 rfl ?_
            refine g_get (C := RX12) (T := TX12) (N := 22) (ci := 8) (v := (.ref h_t_w)) X iw_X12_told_X12 0 rfl rfl 0 (by decide) lk_X12_told_7 rfl dX12_told_97 ?_
            refine g_iload X dX12_told_100 5 rfl ?_
            refine g_iconst (v := 2) X dX12_told_102 (by decide) ?_
            refine g_iadd X dX12_told_103 ?_
            refine g_iload_n X dX12_told_104 rfl 3 rfl ?_
            obtain ⟨hb_24, hf⟩ := chk_out hf
            obtain ⟨t_w_25, et_w_25, hf⟩ := bnd_out hf
            refine g_iast (ws' := (wd_X12_told cI cZ h_t h_t_w h_t_isKept h_t_text h_t_statuses h_t_ways h_t_feels h_t_next h_t_came h_t_deep h_t_sizes h_t_tableOf h_t_usedBy h_t_taken h_t_sixOf t_texted t_above t_below t_at t_start t_number t_went t_h t_w_25 t_statuses)) X 1 rfl hb_24 et_w_25 dX12_told_105 rfl ?_
            refine g_aload_n X dX12_told_106 rfl 0 rfl ?_
            refine g_get (C := RX12) (T := TX12) (N := 22) (ci := 8) (v := (.ref h_t_w)) X iw_X12_told_X12 0 rfl rfl 0 (by decide) lk_X12_told_7 rfl dX12_told_107 ?_
            refine g_iload X dX12_told_110 5 rfl ?_
            refine g_iconst (v := 3) X dX12_told_112 (by decide) ?_
            refine g_iadd X dX12_told_113 ?_
            refine g_iload X dX12_told_114 4 rfl ?_
            obtain ⟨hb_26, hf⟩ := chk_out hf
            obtain ⟨t_w_27, et_w_27, hf⟩ := bnd_out hf
            refine g_iast (ws' := (wd_X12_told cI cZ h_t h_t_w h_t_isKept h_t_text h_t_statuses h_t_ways h_t_feels h_t_next h_t_came h_t_deep h_t_sizes h_t_tableOf h_t_usedBy h_t_taken h_t_sixOf t_texted t_above t_below t_at t_start t_number t_went t_h t_w_27 t_statuses)) X 1 rfl hb_26 et_w_27 dX12_told_116 rfl ?_
            refine g_aload_n X dX12_told_117 rfl 0 rfl ?_
            refine g_get (C := RX12) (T := TX12) (N := 22) (ci := 8) (v := (.ref h_t_w)) X iw_X12_told_X12 0 rfl rfl 0 (by decide) lk_X12_told_7 rfl dX12_told_118 ?_
            refine g_bipush (v := 47) X dX12_told_121 (by decide) ?_
            refine g_dup2_11 X dX12_told_123 rfl rfl ?_
            obtain ⟨hb_28, hf⟩ := chk_out hf
            refine g_iald X 1 rfl hb_28 dX12_told_124 ?_
            refine g_iconst (v := 1) X dX12_told_125 (by decide) ?_
            refine g_iadd X dX12_told_126 ?_
            obtain ⟨hb_29, hf⟩ := chk_out hf
            obtain ⟨t_w_30, et_w_30, hf⟩ := bnd_out hf
            refine g_iast (ws' := (wd_X12_told cI cZ h_t h_t_w h_t_isKept h_t_text h_t_statuses h_t_ways h_t_feels h_t_next h_t_came h_t_deep h_t_sizes h_t_tableOf h_t_usedBy h_t_taken h_t_sixOf t_texted t_above t_below t_at t_start t_number t_went t_h t_w_30 t_statuses)) X 1 rfl hb_29 et_w_30 dX12_told_127 rfl ?_
            refine g_aload_n X dX12_told_128 rfl 0 rfl ?_
            refine g_get (C := RX12) (T := TX12) (N := 22) (ci := 8) (v := (.ref h_t_w)) X iw_X12_told_X12 0 rfl rfl 0 (by decide) lk_X12_told_7 rfl dX12_told_129 ?_
            refine g_bipush (v := 47) X dX12_told_132 (by decide) ?_
            obtain ⟨hb_31, hf⟩ := chk_out hf
            refine g_iald X 1 rfl hb_31 dX12_told_134 ?_
            exact hR _ _ _ _ dX12_told_135 (kV_in (u := (t_w_30 (47 : Int32).toNatClampNeg, t_w_30, t_statuses)) hf)
          · replace hf := ite_t hc_17 hf
            refine g_aload_n X dX12_told_59 rfl 0 rfl ?_
            obtain ⟨r_32, t_statuses_33, hk_34, hf⟩ := ob2_out hf
            refine g_cVW (st := []) (st1 := [.int r_32]) (C := RX12) (ci := 8) (q0 := 0) (ws' := (wd_X12_told cI cZ h_t h_t_w h_t_isKept h_t_text h_t_statuses h_t_ways h_t_feels h_t_next h_t_came h_t_deep h_t_sizes h_t_tableOf h_t_usedBy h_t_taken h_t_sixOf t_texted t_above t_below t_at t_start t_number t_went t_h t_w t_statuses_33)) X (c_X12_full l D cI cZ h_t h_t_w h_t_isKept h_t_text h_t_statuses h_t_ways h_t_feels h_t_next h_t_came h_t_deep h_t_sizes h_t_tableOf h_t_usedBy h_t_taken h_t_sixOf t_texted t_above t_below t_at t_start t_number t_went t_h t_statuses _ hk_34) (Or.inl rfl) 0 gX12_told_X12_full rfl hv_X12_full ⟨Nat.le_of_ble_eq_true rfl, Nat.le_of_ble_eq_true rfl⟩ rfl rfl (Nat.le_of_ble_eq_true rfl) ⟨rfl, rfl⟩ (Nat.zero_le _) (Nat.zero_le _) rfl rfl rfl dX12_told_60 [0, 2] rfl rfl [1] rfl rfl (by decide) [1, 0, 2] rfl rfl rfl ?_
            exact hR _ _ _ _ dX12_told_63 (kV_in (u := (r_32, t_w, t_statuses_33)) hf)
        · replace hf := ite_t hc_15 hf
          refine g_lv X (lv' := [(0, .ref h_t)]) [0] rfl ?_
          exact J41 t_w t_statuses hf
def wd_X12_areSo (cI cZ : ClassId) (h_t : Nat) (h_t_w : Nat) (h_t_isKept : Nat) (h_t_text : Nat) (h_t_statuses : Nat) (h_t_ways : Nat) (h_t_feels : Nat) (h_t_next : Nat) (h_t_came : Nat) (h_t_deep : Nat) (h_t_sizes : Nat) (h_t_tableOf : Nat) (h_t_usedBy : Nat) (h_t_taken : Nat) (h_t_sixOf : Nat) (t_texted : Int32) (t_above : Int64) (t_below : Int64) (t_at : Int32) (t_start : Int32) (t_number : Int32) (t_went : Int32) (t_h : Int64) (t_w : (Nat → Int32)) (t_feels : (Nat → Int32)) (t_next : (Nat → Int32)) (t_came : (Nat → Int32)) : va_W := [(h_t, .inr (8, [.ref h_t_w, .ref h_t_isKept, .ref h_t_text, .int t_texted, .long t_above, .long t_below, .ref h_t_statuses, .int t_at, .int t_start, .int t_number, .ref h_t_ways, .int t_went, .ref h_t_feels, .ref h_t_next, .ref h_t_came, .ref h_t_deep, .ref h_t_sizes, .ref h_t_tableOf, .ref h_t_usedBy, .ref h_t_taken, .ref h_t_sixOf, .long t_h])), (h_t_w, .inl (cI, 1251, .inl t_w)), (h_t_feels, .inl (cI, 7, .inl t_feels)), (h_t_next, .inl (cI, 7, .inl t_next)), (h_t_came, .inl (cI, 7, .inl t_came))]
abbrev rm_X12_areSo : Room := { frames := 3, cells := 0, slots := 0, locals := 72 }
theorem hv_X12_areSo : yX12_areSo.cls = RX12 ∧ yX12_areSo.cls ≠ "java/lang/invoke/MethodHandle" ∧ yX12_areSo.cls ≠ "java/lang/invoke/VarHandle" ∧ (parseMethodDescriptor yX12_areSo.desc).map (fun d => d.parameters.length) = some 0 := by decide +kernel
theorem iw_X12_areSo_X12 : ∀ w ∈ u_ws RX12 TX12 22, w ∈ wsX12_areSo := by decide +kernel
theorem lk_X12_areSo_7 : Cond.fieldLink RX12 7 "ClerkChainsModel" "w" "[I" ∈ wsX12_areSo := by decide +kernel
theorem lk_X12_areSo_33 : Cond.fieldLink RX12 33 "ClerkChainsModel" "feels" "[I" ∈ wsX12_areSo := by decide +kernel
set_option maxHeartbeats 4000000 in
set_option maxRecDepth 100000 in
theorem c_X12_areSo (l : Launch) (D : va_G) (cI cZ : ClassId) (h_t : Nat) (h_t_w : Nat) (h_t_isKept : Nat) (h_t_text : Nat) (h_t_statuses : Nat) (h_t_ways : Nat) (h_t_feels : Nat) (h_t_next : Nat) (h_t_came : Nat) (h_t_deep : Nat) (h_t_sizes : Nat) (h_t_tableOf : Nat) (h_t_usedBy : Nat) (h_t_taken : Nat) (h_t_sixOf : Nat) (t_texted : Int32) (t_above : Int64) (t_below : Int64) (t_at : Int32) (t_start : Int32) (t_number : Int32) (t_went : Int32) (t_h : Int64) (t_w : (Nat → Int32)) (t_feels : (Nat → Int32)) (t_next : (Nat → Int32)) (t_came : (Nat → Int32)) (res : Int32 × (Nat → Int32) × (Nat → Int32) × (Nat → Int32)) (hf : f_X12_areSo t_w t_feels t_next t_came = some res) : MetG l yX12_areSo wsX12_areSo rm_X12_areSo D cI cZ none [.ref h_t] (wd_X12_areSo cI cZ h_t h_t_w h_t_isKept h_t_text h_t_statuses h_t_ways h_t_feels h_t_next h_t_came h_t_deep h_t_sizes h_t_tableOf h_t_usedBy h_t_taken h_t_sixOf t_texted t_above t_below t_at t_start t_number t_went t_h t_w t_feels t_next t_came) (kV res (fun u => some (.int u.1)) (fun u => (wd_X12_areSo cI cZ h_t h_t_w h_t_isKept h_t_text h_t_statuses h_t_ways h_t_feels h_t_next h_t_came h_t_deep h_t_sizes h_t_tableOf h_t_usedBy h_t_taken h_t_sixOf t_texted t_above t_below t_at t_start t_number t_went t_h t_w (u.2.1) (u.2.2.1) (u.2.2.2)))) := by
  refine metG_of (cc := cX12_areSo) (maxL := 4) (ret := (some .boolean)) (own := RX12) (lv0 := [(0, .ref h_t)]) (ini := false) (by decide) rfl (Nat.le_of_ble_eq_true rfl) rfl rfl (fun h => by cases h) (fun G X hR => ?_)
  replace hR := rt_bool hR
  unfold f_X12_areSo at hf
  have J76 : ∀ (k4 : (Nat → Int32) → (Nat → Int32) → (Nat → Int32) → Int32 → Int32 → Option (Int32 × (Nat → Int32) × (Nat → Int32) × (Nat → Int32))) (hk4 : ∀ (t_feels : (Nat → Int32)) (t_next : (Nat → Int32)) (t_came : (Nat → Int32)) (v1 : Int32) (v2 : Int32), k4 t_feels t_next t_came v1 v2 = some res → G 0 0 (wd_X12_areSo cI cZ h_t h_t_w h_t_isKept h_t_text h_t_statuses h_t_ways h_t_feels h_t_next h_t_came h_t_deep h_t_sizes h_t_tableOf h_t_usedBy h_t_taken h_t_sixOf t_texted t_above t_below t_at t_start t_number t_went t_h t_w t_feels t_next t_came) [(0, .ref h_t), (1, .int v1), (2, .int v2)] 4 []) (t_feels : (Nat → Int32)) (t_next : (Nat → Int32)) (t_came : (Nat → Int32)) (v2 : Int32) (s0 : Int32), f_X12_areSo_76 t_w k4 t_feels t_next t_came v2 s0 = some res → G 0 0 (wd_X12_areSo cI cZ h_t h_t_w h_t_isKept h_t_text h_t_statuses h_t_ways h_t_feels h_t_next h_t_came h_t_deep h_t_sizes h_t_tableOf h_t_usedBy h_t_taken h_t_sixOf t_texted t_above t_below t_at t_start t_number t_went t_h t_w t_feels t_next t_came) [(0, .ref h_t), (2, .int v2)] 76 [.int s0] := by
    intro k4 hk4 t_feels t_next t_came v2 s0 hf
    unfold f_X12_areSo_76 at hf
    refine g_istore_n (lv' := [(0, .ref h_t), (1, .int s0), (2, .int v2)]) X dX12_areSo_76 rfl (Nat.le_of_ble_eq_true rfl) [1, 0, 2] rfl ?_
    obtain ⟨v2_16, ev2_16, hf⟩ := bnd_out hf
    refine g_iinc (v := v2_16) (lv' := [(0, .ref h_t), (1, .int s0), (2, .int v2_16)]) X dX12_areSo_77 2 rfl (by rw [ev2_16]; rfl) (Nat.le_of_ble_eq_true rfl) [1, 2, 0] rfl ?_
    refine g_goto (tgt := 4) X dX12_areSo_80 (by decide) ?_
    exact hk4 t_feels t_next t_came s0 v2_16 hf
  have J75 : ∀ (k4 : (Nat → Int32) → (Nat → Int32) → (Nat → Int32) → Int32 → Int32 → Option (Int32 × (Nat → Int32) × (Nat → Int32) × (Nat → Int32))) (hk4 : ∀ (t_feels : (Nat → Int32)) (t_next : (Nat → Int32)) (t_came : (Nat → Int32)) (v1 : Int32) (v2 : Int32), k4 t_feels t_next t_came v1 v2 = some res → G 0 0 (wd_X12_areSo cI cZ h_t h_t_w h_t_isKept h_t_text h_t_statuses h_t_ways h_t_feels h_t_next h_t_came h_t_deep h_t_sizes h_t_tableOf h_t_usedBy h_t_taken h_t_sixOf t_texted t_above t_below t_at t_start t_number t_went t_h t_w t_feels t_next t_came) [(0, .ref h_t), (1, .int v1), (2, .int v2)] 4 []) (t_feels : (Nat → Int32)) (t_next : (Nat → Int32)) (t_came : (Nat → Int32)) (v2 : Int32), f_X12_areSo_75 t_w k4 t_feels t_next t_came v2 = some res → G 0 0 (wd_X12_areSo cI cZ h_t h_t_w h_t_isKept h_t_text h_t_statuses h_t_ways h_t_feels h_t_next h_t_came h_t_deep h_t_sizes h_t_tableOf h_t_usedBy h_t_taken h_t_sixOf t_texted t_above t_below t_at t_start t_number t_went t_h t_w t_feels t_next t_came) [(0, .ref h_t), (2, .int v2)] 75 [] := by
    intro k4 hk4 t_feels t_next t_came v2 hf
    unfold f_X12_areSo_75 at hf
    refine g_iconst (v := 0) X dX12_areSo_75 (by decide) ?_
    exact J76 k4 hk4 t_feels t_next t_came v2 0 hf
  have J4 : ∀ (n : Nat) (t_feels : (Nat → Int32)) (t_next : (Nat → Int32)) (t_came : (Nat → Int32)) (v1 : Int32) (v2 : Int32), f_X12_areSo_4 t_w n t_feels t_next t_came v1 v2 = some res → G 0 0 (wd_X12_areSo cI cZ h_t h_t_w h_t_isKept h_t_text h_t_statuses h_t_ways h_t_feels h_t_next h_t_came h_t_deep h_t_sizes h_t_tableOf h_t_usedBy h_t_taken h_t_sixOf t_texted t_above t_below t_at t_start t_number t_went t_h t_w t_feels t_next t_came) [(0, .ref h_t), (1, .int v1), (2, .int v2)] 4 [] := by
    intro n
    induction n with
    | zero => intro t_feels t_next t_came v1 v2 hf; rw [f_X12_areSo_4] at hf; cases hf
    | succ n ih =>
      intro t_feels t_next t_came v1 v2 hf
      rw [f_X12_areSo_4] at hf
      refine g_iload_n X dX12_areSo_4 rfl 2 rfl ?_
      refine g_aload_n X dX12_areSo_5 rfl 0 rfl ?_
      refine g_get (C := RX12) (T := TX12) (N := 22) (ci := 8) (v := (.ref h_t_w)) X iw_X12_areSo_X12 0 rfl rfl 0 (by decide) lk_X12_areSo_7 rfl dX12_areSo_6 ?_
      refine g_bipush (v := 47) X dX12_areSo_9 (by decide) ?_
      obtain ⟨hb_1, hf⟩ := chk_out hf
      refine g_iald X 1 rfl hb_1 dX12_areSo_11 ?_
      refine g_icmp_ge (tgt := 83) X dX12_areSo_12 (by decide) (fun hc_2 => ?_) (fun hc_2 => ?_)
      · replace hf := ite_t hc_2 hf
        refine g_iload_n X dX12_areSo_83 rfl 1 rfl ?_
        obtain ⟨hz_3, hf⟩ := chb_out hf
        exact hR _ _ _ _ hz_3 dX12_areSo_84 (kV_in (u := (v1, t_feels, t_next, t_came)) hf)
      · replace hf := ite_f hc_2 hf
        refine g_bipush (v := 48) X dX12_areSo_15 (by decide) ?_
        refine g_iconst (v := 4) X dX12_areSo_17 (by decide) ?_
        refine g_iload_n X dX12_areSo_18 rfl 2 rfl ?_
        refine g_imul X dX12_areSo_19 ?_
        refine g_iadd X dX12_areSo_20 ?_
        obtain ⟨v3_4, ev3_4, hf⟩ := bnd_out hf
        refine g_nmI X ev3_4 ?_
        refine g_istore_n (lv' := [(0, .ref h_t), (1, .int v1), (2, .int v2), (3, .int v3_4)]) X dX12_areSo_21 rfl (Nat.le_of_ble_eq_true rfl) [1, 2, 3, 0] rfl ?_
        refine g_aload_n X dX12_areSo_22 rfl 0 rfl ?_
        refine g_sipush (v := 1204) X dX12_areSo_23 (by decide) ?_
        refine g_aload_n X dX12_areSo_26 rfl 0 rfl ?_
        refine g_get (C := RX12) (T := TX12) (N := 22) (ci := 8) (v := (.ref h_t_w)) X iw_X12_areSo_X12 0 rfl rfl 0 (by decide) lk_X12_areSo_7 rfl dX12_areSo_27 ?_
        refine g_iload_n X dX12_areSo_30 rfl 3 rfl ?_
        obtain ⟨hb_5, hf⟩ := chk_out hf
        refine g_iald X 1 rfl hb_5 dX12_areSo_31 ?_
        refine g_aload_n X dX12_areSo_32 rfl 0 rfl ?_
        refine g_get (C := RX12) (T := TX12) (N := 22) (ci := 8) (v := (.ref h_t_w)) X iw_X12_areSo_X12 0 rfl rfl 0 (by decide) lk_X12_areSo_7 rfl dX12_areSo_33 ?_
        refine g_iload_n X dX12_areSo_36 rfl 3 rfl ?_
        refine g_iconst (v := 1) X dX12_areSo_37 (by decide) ?_
        refine g_iadd X dX12_areSo_38 ?_
        obtain ⟨hb_6, hf⟩ := chk_out hf
        refine g_iald X 1 rfl hb_6 dX12_areSo_39 ?_
        obtain ⟨t_feels_7, t_next_8, t_came_9, hk_10, hf⟩ := ob3_out hf
        refine g_cVW (st := []) (st1 := []) (C := RX12) (ci := 8) (q0 := 0) (ws' := (wd_X12_areSo cI cZ h_t h_t_w h_t_isKept h_t_text h_t_statuses h_t_ways h_t_feels h_t_next h_t_came h_t_deep h_t_sizes h_t_tableOf h_t_usedBy h_t_taken h_t_sixOf t_texted t_above t_below t_at t_start t_number t_went t_h t_w t_feels_7 t_next_8 t_came_9)) X (c_X12_tugs l D cI cZ h_t h_t_w h_t_isKept h_t_text h_t_statuses h_t_ways h_t_feels h_t_next h_t_came h_t_deep h_t_sizes h_t_tableOf h_t_usedBy h_t_taken h_t_sixOf t_texted t_above t_below t_at t_start t_number t_went t_h t_w t_feels t_next t_came 1204 (t_w v3_4.toNatClampNeg) (t_w (v3_4 + 1).toNatClampNeg) _ hk_10) (Or.inl rfl) 3 gX12_areSo_X12_tugs rfl hv_X12_tugs ⟨Nat.le_of_ble_eq_true rfl, Nat.le_of_ble_eq_true rfl⟩ rfl rfl (Nat.le_of_ble_eq_true rfl) ⟨rfl, rfl⟩ (Nat.zero_le _) (Nat.zero_le _) rfl rfl rfl dX12_areSo_40 [0, 1, 2, 3, 4] rfl rfl [] rfl rfl (by decide) [0, 1, 2, 3, 4] rfl rfl rfl ?_
        refine g_iload_n X dX12_areSo_43 rfl 1 rfl ?_
        refine g_if_eq (tgt := 75) X dX12_areSo_44 (by decide) (fun hc_11 => ?_) (fun hc_11 => ?_)
        · replace hf := ite_t hc_11 hf
          refine g_lv X (lv' := [(0, .ref h_t), (2, .int v2)]) [0, 2] rfl ?_
          exact J75 (f_X12_areSo_4 t_w n) ih t_feels_7 t_next_8 t_came_9 v2 hf
        · replace hf := ite_f hc_11 hf
          refine g_aload_n X dX12_areSo_47 rfl 0 rfl ?_
          refine g_get (C := RX12) (T := TX12) (N := 22) (ci := 8) (v := (.ref h_t_feels)) X iw_X12_areSo_X12 0 rfl rfl 12 (by decide) lk_X12_areSo_33 rfl dX12_areSo_48 ?_
          refine g_aload_n X dX12_areSo_51 rfl 0 rfl ?_
          refine g_get (C := RX12) (T := TX12) (N := 22) (ci := 8) (v := (.ref h_t_w)) X iw_X12_areSo_X12 0 rfl rfl 0 (by decide) lk_X12_areSo_7 rfl dX12_areSo_52 ?_
          refine g_iload_n X dX12_areSo_55 rfl 3 rfl ?_
          refine g_iconst (v := 2) X dX12_areSo_56 (by decide) ?_
          refine g_iadd X dX12_areSo_57 ?_
          obtain ⟨hb_12, hf⟩ := chk_out hf
          refine g_iald X 1 rfl hb_12 dX12_areSo_58 ?_
          obtain ⟨hb_13, hf⟩ := chk_out hf
          refine g_iald X 2 rfl hb_13 dX12_areSo_59 ?_
          refine g_aload_n X dX12_areSo_60 rfl 0 rfl ?_
          refine g_get (C := RX12) (T := TX12) (N := 22) (ci := 8) (v := (.ref h_t_w)) X iw_X12_areSo_X12 0 rfl rfl 0 (by decide) lk_X12_areSo_7 rfl dX12_areSo_61 ?_
          refine g_iload_n X dX12_areSo_64 rfl 3 rfl ?_
          refine g_iconst (v := 3) X dX12_areSo_65 (by decide) ?_
          refine g_iadd X dX12_areSo_66 ?_
          obtain ⟨hb_14, hf⟩ := chk_out hf
          refine g_iald X 1 rfl hb_14 dX12_areSo_67 ?_
          refine g_icmp_ne (tgt := 75) X dX12_areSo_68 (by decide) (fun hc_15 => ?_) (fun hc_15 => ?_)
          · replace hf := ite_f hc_15 hf
            refine g_lv X (lv' := [(0, .ref h_t), (2, .int v2)]) [0, 2] rfl ?_
            exact J75 (f_X12_areSo_4 t_w n) ih t_feels_7 t_next_8 t_came_9 v2 hf
          · replace hf := ite_t hc_15 hf
            refine g_iconst (v := 1) X dX12_areSo_71 (by decide) ?_
            refine g_goto (tgt := 76) X dX12_areSo_72 (by decide) ?_
            refine g_lv X (lv' := [(0, .ref h_t), (2, .int v2)]) [0, 2] rfl ?_
            exact J76 (f_X12_areSo_4 t_w n) ih t_feels_7 t_next_8 t_came_9 v2 1 hf
  refine g_iconst (v := 1) X dX12_areSo_0 (by decide) ?_
  refine g_istore_n (lv' := [(0, .ref h_t), (1, .int 1)]) X dX12_areSo_1 rfl (Nat.le_of_ble_eq_true rfl) [1, 0] rfl ?_
  refine g_iconst (v := 0) X dX12_areSo_2 (by decide) ?_
  refine g_istore_n (lv' := [(0, .ref h_t), (1, .int 1), (2, .int 0)]) X dX12_areSo_3 rfl (Nat.le_of_ble_eq_true rfl) [1, 2, 0] rfl ?_
  exact J4 FU t_feels t_next t_came 1 0 hf
def wd_X12_found (cI cZ : ClassId) (h_t : Nat) (h_t_w : Nat) (h_t_isKept : Nat) (h_t_text : Nat) (h_t_statuses : Nat) (h_t_ways : Nat) (h_t_feels : Nat) (h_t_next : Nat) (h_t_came : Nat) (h_t_deep : Nat) (h_t_sizes : Nat) (h_t_tableOf : Nat) (h_t_usedBy : Nat) (h_t_taken : Nat) (h_t_sixOf : Nat) (t_texted : Int32) (t_above : Int64) (t_below : Int64) (t_at : Int32) (t_start : Int32) (t_number : Int32) (t_went : Int32) (t_h : Int64) (t_w : (Nat → Int32)) (t_statuses : (Nat → Int32)) (t_feels : (Nat → Int32)) (t_next : (Nat → Int32)) (t_came : (Nat → Int32)) : va_W := [(h_t, .inr (8, [.ref h_t_w, .ref h_t_isKept, .ref h_t_text, .int t_texted, .long t_above, .long t_below, .ref h_t_statuses, .int t_at, .int t_start, .int t_number, .ref h_t_ways, .int t_went, .ref h_t_feels, .ref h_t_next, .ref h_t_came, .ref h_t_deep, .ref h_t_sizes, .ref h_t_tableOf, .ref h_t_usedBy, .ref h_t_taken, .ref h_t_sixOf, .long t_h])), (h_t_w, .inl (cI, 1251, .inl t_w)), (h_t_statuses, .inl (cI, 3, .inl t_statuses)), (h_t_feels, .inl (cI, 7, .inl t_feels)), (h_t_next, .inl (cI, 7, .inl t_next)), (h_t_came, .inl (cI, 7, .inl t_came))]
abbrev rm_X12_found : Room := { frames := 4, cells := 0, slots := 0, locals := 95 }
theorem hv_X12_found : yX12_found.cls = RX12 ∧ yX12_found.cls ≠ "java/lang/invoke/MethodHandle" ∧ yX12_found.cls ≠ "java/lang/invoke/VarHandle" ∧ (parseMethodDescriptor yX12_found.desc).map (fun d => d.parameters.length) = some 1 := by decide +kernel
theorem iw_X12_found_X12 : ∀ w ∈ u_ws RX12 TX12 22, w ∈ wsX12_found := by decide +kernel
theorem lk_X12_found_7 : Cond.fieldLink RX12 7 "ClerkChainsModel" "w" "[I" ∈ wsX12_found := by decide +kernel
set_option maxHeartbeats 4000000 in
set_option maxRecDepth 100000 in
theorem c_X12_found (l : Launch) (D : va_G) (cI cZ : ClassId) (h_t : Nat) (h_t_w : Nat) (h_t_isKept : Nat) (h_t_text : Nat) (h_t_statuses : Nat) (h_t_ways : Nat) (h_t_feels : Nat) (h_t_next : Nat) (h_t_came : Nat) (h_t_deep : Nat) (h_t_sizes : Nat) (h_t_tableOf : Nat) (h_t_usedBy : Nat) (h_t_taken : Nat) (h_t_sixOf : Nat) (t_texted : Int32) (t_above : Int64) (t_below : Int64) (t_at : Int32) (t_start : Int32) (t_number : Int32) (t_went : Int32) (t_h : Int64) (t_w : (Nat → Int32)) (t_statuses : (Nat → Int32)) (t_feels : (Nat → Int32)) (t_next : (Nat → Int32)) (t_came : (Nat → Int32)) (v1 : Int32) (res : Int32 × (Nat → Int32) × (Nat → Int32) × (Nat → Int32) × (Nat → Int32) × (Nat → Int32)) (hf : f_X12_found t_w t_statuses t_feels t_next t_came v1 = some res) : MetG l yX12_found wsX12_found rm_X12_found D cI cZ none [.ref h_t, .int v1] (wd_X12_found cI cZ h_t h_t_w h_t_isKept h_t_text h_t_statuses h_t_ways h_t_feels h_t_next h_t_came h_t_deep h_t_sizes h_t_tableOf h_t_usedBy h_t_taken h_t_sixOf t_texted t_above t_below t_at t_start t_number t_went t_h t_w t_statuses t_feels t_next t_came) (kV res (fun u => some (.int u.1)) (fun u => (wd_X12_found cI cZ h_t h_t_w h_t_isKept h_t_text h_t_statuses h_t_ways h_t_feels h_t_next h_t_came h_t_deep h_t_sizes h_t_tableOf h_t_usedBy h_t_taken h_t_sixOf t_texted t_above t_below t_at t_start t_number t_went t_h (u.2.1) (u.2.2.1) (u.2.2.2.1) (u.2.2.2.2.1) (u.2.2.2.2.2)))) := by
  refine metG_of (cc := cX12_found) (maxL := 5) (ret := (some .int)) (own := RX12) (lv0 := [(0, .ref h_t), (1, .int v1)]) (ini := false) (by decide) rfl (Nat.le_of_ble_eq_true rfl) rfl rfl (fun h => by cases h) (fun G X hR => ?_)
  replace hR := rt_int hR
  unfold f_X12_found at hf
  have J98 : ∀ (k44 : (Nat → Int32) → (Nat → Int32) → (Nat → Int32) → (Nat → Int32) → (Nat → Int32) → Int32 → Int32 → Int32 → Int32 → Option (Int32 × (Nat → Int32) × (Nat → Int32) × (Nat → Int32) × (Nat → Int32) × (Nat → Int32))) (hk44 : ∀ (t_w : (Nat → Int32)) (t_statuses : (Nat → Int32)) (t_feels : (Nat → Int32)) (t_next : (Nat → Int32)) (t_came : (Nat → Int32)) (v1 : Int32) (v2 : Int32) (v3 : Int32) (v4 : Int32), k44 t_w t_statuses t_feels t_next t_came v1 v2 v3 v4 = some res → G 0 0 (wd_X12_found cI cZ h_t h_t_w h_t_isKept h_t_text h_t_statuses h_t_ways h_t_feels h_t_next h_t_came h_t_deep h_t_sizes h_t_tableOf h_t_usedBy h_t_taken h_t_sixOf t_texted t_above t_below t_at t_start t_number t_went t_h t_w t_statuses t_feels t_next t_came) [(0, .ref h_t), (1, .int v1), (2, .int v2), (3, .int v3), (4, .int v4)] 44 []) (t_w : (Nat → Int32)) (t_statuses : (Nat → Int32)) (t_feels : (Nat → Int32)) (t_next : (Nat → Int32)) (t_came : (Nat → Int32)) (v1 : Int32) (v2 : Int32) (v3 : Int32) (v4 : Int32), f_X12_found_98 k44 t_w t_statuses t_feels t_next t_came v1 v2 v3 v4 = some res → G 0 0 (wd_X12_found cI cZ h_t h_t_w h_t_isKept h_t_text h_t_statuses h_t_ways h_t_feels h_t_next h_t_came h_t_deep h_t_sizes h_t_tableOf h_t_usedBy h_t_taken h_t_sixOf t_texted t_above t_below t_at t_start t_number t_went t_h t_w t_statuses t_feels t_next t_came) [(0, .ref h_t), (1, .int v1), (2, .int v2), (3, .int v3), (4, .int v4)] 98 [] := by
    intro k44 hk44 t_w t_statuses t_feels t_next t_came v1 v2 v3 v4 hf
    unfold f_X12_found_98 at hf
    obtain ⟨v4_17, ev4_17, hf⟩ := bnd_out hf
    refine g_iinc (v := v4_17) (lv' := [(0, .ref h_t), (1, .int v1), (2, .int v2), (3, .int v3), (4, .int v4_17)]) X dX12_found_98 4 rfl (by rw [ev4_17]; rfl) (Nat.le_of_ble_eq_true rfl) [1, 2, 3, 4, 0] rfl ?_
    refine g_goto (tgt := 44) X dX12_found_101 (by decide) ?_
    exact hk44 t_w t_statuses t_feels t_next t_came v1 v2 v3 v4_17 hf
  have J96 : ∀ (k44 : (Nat → Int32) → (Nat → Int32) → (Nat → Int32) → (Nat → Int32) → (Nat → Int32) → Int32 → Int32 → Int32 → Int32 → Option (Int32 × (Nat → Int32) × (Nat → Int32) × (Nat → Int32) × (Nat → Int32) × (Nat → Int32))) (hk44 : ∀ (t_w : (Nat → Int32)) (t_statuses : (Nat → Int32)) (t_feels : (Nat → Int32)) (t_next : (Nat → Int32)) (t_came : (Nat → Int32)) (v1 : Int32) (v2 : Int32) (v3 : Int32) (v4 : Int32), k44 t_w t_statuses t_feels t_next t_came v1 v2 v3 v4 = some res → G 0 0 (wd_X12_found cI cZ h_t h_t_w h_t_isKept h_t_text h_t_statuses h_t_ways h_t_feels h_t_next h_t_came h_t_deep h_t_sizes h_t_tableOf h_t_usedBy h_t_taken h_t_sixOf t_texted t_above t_below t_at t_start t_number t_went t_h t_w t_statuses t_feels t_next t_came) [(0, .ref h_t), (1, .int v1), (2, .int v2), (3, .int v3), (4, .int v4)] 44 []) (t_w : (Nat → Int32)) (t_statuses : (Nat → Int32)) (t_feels : (Nat → Int32)) (t_next : (Nat → Int32)) (t_came : (Nat → Int32)) (v1 : Int32) (v2 : Int32) (v4 : Int32) (s0 : Int32) (s1 : Int32), f_X12_found_96 k44 t_w t_statuses t_feels t_next t_came v1 v2 v4 s0 s1 = some res → G 0 0 (wd_X12_found cI cZ h_t h_t_w h_t_isKept h_t_text h_t_statuses h_t_ways h_t_feels h_t_next h_t_came h_t_deep h_t_sizes h_t_tableOf h_t_usedBy h_t_taken h_t_sixOf t_texted t_above t_below t_at t_start t_number t_went t_h t_w t_statuses t_feels t_next t_came) [(0, .ref h_t), (1, .int v1), (2, .int v2), (4, .int v4)] 96 [.int s1, .int s0] := by
    intro k44 hk44 t_w t_statuses t_feels t_next t_came v1 v2 v4 s0 s1 hf
    unfold f_X12_found_96 at hf
    refine g_ior X dX12_found_96 ?_
    obtain ⟨v3_16, ev3_16, hf⟩ := bnd_out hf
    refine g_nmI X ev3_16 ?_
    refine g_istore_n (lv' := [(0, .ref h_t), (1, .int v1), (2, .int v2), (3, .int v3_16), (4, .int v4)]) X dX12_found_97 rfl (Nat.le_of_ble_eq_true rfl) [1, 2, 3, 0, 4] rfl ?_
    exact J98 k44 hk44 t_w t_statuses t_feels t_next t_came v1 v2 v3_16 v4 hf
  have J123 : ∀ (t_w : (Nat → Int32)) (t_statuses : (Nat → Int32)) (t_feels : (Nat → Int32)) (t_next : (Nat → Int32)) (t_came : (Nat → Int32)) (s0 : Int32) (s1 : Int32), f_X12_found_123 t_w t_statuses t_feels t_next t_came s0 s1 = some res → G 0 0 (wd_X12_found cI cZ h_t h_t_w h_t_isKept h_t_text h_t_statuses h_t_ways h_t_feels h_t_next h_t_came h_t_deep h_t_sizes h_t_tableOf h_t_usedBy h_t_taken h_t_sixOf t_texted t_above t_below t_at t_start t_number t_went t_h t_w t_statuses t_feels t_next t_came) [] 123 [.int s1, .int s0] := by
    intro t_w t_statuses t_feels t_next t_came s0 s1 hf
    unfold f_X12_found_123 at hf
    refine g_ior X dX12_found_123 ?_
    exact hR _ _ _ _ dX12_found_124 (kV_in (u := (s0 ||| s1, t_w, t_statuses, t_feels, t_next, t_came)) hf)
  have J104 : ∀ (t_w : (Nat → Int32)) (t_statuses : (Nat → Int32)) (t_feels : (Nat → Int32)) (t_next : (Nat → Int32)) (t_came : (Nat → Int32)) (v3 : Int32), f_X12_found_104 t_w t_statuses t_feels t_next t_came v3 = some res → G 0 0 (wd_X12_found cI cZ h_t h_t_w h_t_isKept h_t_text h_t_statuses h_t_ways h_t_feels h_t_next h_t_came h_t_deep h_t_sizes h_t_tableOf h_t_usedBy h_t_taken h_t_sixOf t_texted t_above t_below t_at t_start t_number t_went t_h t_w t_statuses t_feels t_next t_came) [(0, .ref h_t), (3, .int v3)] 104 [] := by
    intro t_w t_statuses t_feels t_next t_came v3 hf
    unfold f_X12_found_104 at hf
    refine g_aload_n X dX12_found_104 rfl 0 rfl ?_
    obtain ⟨t_w_18, hk_19, hf⟩ := ob1_out hf
    refine g_cVW (st := []) (st1 := []) (C := RX12) (ci := 8) (q0 := 0) (ws' := (wd_X12_found cI cZ h_t h_t_w h_t_isKept h_t_text h_t_statuses h_t_ways h_t_feels h_t_next h_t_came h_t_deep h_t_sizes h_t_tableOf h_t_usedBy h_t_taken h_t_sixOf t_texted t_above t_below t_at t_start t_number t_went t_h t_w_18 t_statuses t_feels t_next t_came)) X (c_X12_tries l D cI cZ h_t h_t_w h_t_isKept h_t_text h_t_statuses h_t_ways h_t_feels h_t_next h_t_came h_t_deep h_t_sizes h_t_tableOf h_t_usedBy h_t_taken h_t_sixOf t_texted t_above t_below t_at t_start t_number t_went t_h t_w _ hk_19) (Or.inl rfl) 0 gX12_found_X12_tries rfl hv_X12_tries ⟨Nat.le_of_ble_eq_true rfl, Nat.le_of_ble_eq_true rfl⟩ rfl rfl (Nat.le_of_ble_eq_true rfl) ⟨rfl, rfl⟩ (Nat.zero_le _) (Nat.zero_le _) rfl rfl rfl dX12_found_105 [0, 1] rfl rfl [2, 3, 4, 5] rfl rfl (by decide) [4, 5, 0, 1, 2, 3] rfl rfl rfl ?_
    refine g_iload_n X dX12_found_108 rfl 1 rfl ?_
    refine g_aload_n X dX12_found_109 rfl 0 rfl ?_
    obtain ⟨r_20, t_feels_21, t_next_22, t_came_23, hk_24, hf⟩ := ob4_out hf
    refine g_cVW (st := [.int v3]) (st1 := [.int r_20, .int v3]) (C := RX12) (ci := 8) (q0 := 0) (ws' := (wd_X12_found cI cZ h_t h_t_w h_t_isKept h_t_text h_t_statuses h_t_ways h_t_feels h_t_next h_t_came h_t_deep h_t_sizes h_t_tableOf h_t_usedBy h_t_taken h_t_sixOf t_texted t_above t_below t_at t_start t_number t_went t_h t_w_18 t_statuses t_feels_21 t_next_22 t_came_23)) X (c_X12_areSo l D cI cZ h_t h_t_w h_t_isKept h_t_text h_t_statuses h_t_ways h_t_feels h_t_next h_t_came h_t_deep h_t_sizes h_t_tableOf h_t_usedBy h_t_taken h_t_sixOf t_texted t_above t_below t_at t_start t_number t_went t_h t_w_18 t_feels t_next t_came _ hk_24) (Or.inl rfl) 0 gX12_found_X12_areSo rfl hv_X12_areSo ⟨Nat.le_of_ble_eq_true rfl, Nat.le_of_ble_eq_true rfl⟩ rfl rfl (Nat.le_of_ble_eq_true rfl) ⟨rfl, rfl⟩ (Nat.zero_le _) (Nat.zero_le _) rfl rfl rfl dX12_found_110 [0, 1, 3, 4, 5] rfl rfl [2] rfl rfl (by decide) [1, 2, 0, 3, 4, 5] rfl rfl rfl ?_
    refine g_if_eq (tgt := 122) X dX12_found_113 (by decide) (fun hc_25 => ?_) (fun hc_25 => ?_)
    · replace hf := ite_t hc_25 hf
      refine g_iconst (v := 0) X dX12_found_122 (by decide) ?_
      refine g_lv X (lv' := []) [] rfl ?_
      exact J123 t_w_18 t_statuses t_feels_21 t_next_22 t_came_23 v3 0 hf
    · replace hf := ite_f hc_25 hf
      refine g_sipush (v := 128) X dX12_found_116 (by decide) ?_
      refine g_goto (tgt := 123) X dX12_found_119 (by decide) ?_
      refine g_lv X (lv' := []) [] rfl ?_
      exact J123 t_w_18 t_statuses t_feels_21 t_next_22 t_came_23 v3 128 hf
  have J44 : ∀ (n : Nat) (t_w : (Nat → Int32)) (t_statuses : (Nat → Int32)) (t_feels : (Nat → Int32)) (t_next : (Nat → Int32)) (t_came : (Nat → Int32)) (v1 : Int32) (v2 : Int32) (v3 : Int32) (v4 : Int32), f_X12_found_44 n t_w t_statuses t_feels t_next t_came v1 v2 v3 v4 = some res → G 0 0 (wd_X12_found cI cZ h_t h_t_w h_t_isKept h_t_text h_t_statuses h_t_ways h_t_feels h_t_next h_t_came h_t_deep h_t_sizes h_t_tableOf h_t_usedBy h_t_taken h_t_sixOf t_texted t_above t_below t_at t_start t_number t_went t_h t_w t_statuses t_feels t_next t_came) [(0, .ref h_t), (1, .int v1), (2, .int v2), (3, .int v3), (4, .int v4)] 44 [] := by
    intro n
    induction n with
    | zero => intro t_w t_statuses t_feels t_next t_came v1 v2 v3 v4 hf; rw [f_X12_found_44] at hf; cases hf
    | succ n ih =>
      intro t_w t_statuses t_feels t_next t_came v1 v2 v3 v4 hf
      rw [f_X12_found_44] at hf
      refine g_iload X dX12_found_44 4 rfl ?_
      refine g_aload_n X dX12_found_46 rfl 0 rfl ?_
      refine g_get (C := RX12) (T := TX12) (N := 22) (ci := 8) (v := (.ref h_t_w)) X iw_X12_found_X12 0 rfl rfl 0 (by decide) lk_X12_found_7 rfl dX12_found_47 ?_
      refine g_iconst (v := 0) X dX12_found_50 (by decide) ?_
      obtain ⟨hb_1, hf⟩ := chk_out hf
      refine g_iald X 1 rfl hb_1 dX12_found_51 ?_
      refine g_icmp_ge (tgt := 104) X dX12_found_52 (by decide) (fun hc_2 => ?_) (fun hc_2 => ?_)
      · replace hf := ite_t hc_2 hf
        refine g_lv X (lv' := [(0, .ref h_t), (3, .int v3)]) [0, 3] rfl ?_
        exact J104 t_w t_statuses t_feels t_next t_came v3 hf
      · replace hf := ite_f hc_2 hf
        refine g_iload_n X dX12_found_55 rfl 2 rfl ?_
        refine g_iload X dX12_found_56 4 rfl ?_
        obtain ⟨r_3, hk_4, hf⟩ := ob1_out hf
        refine g_cSR (st := []) (st1 := [.int r_3]) X (c_X12_has l D cI cZ v2 v4 _ hk_4) (Or.inl rfl) 2 gX12_found_X12_has rfl hs_X12_has ⟨Nat.le_of_ble_eq_true rfl, Nat.le_of_ble_eq_true rfl⟩ rfl rfl (Nat.le_of_ble_eq_true rfl) ⟨rfl, rfl⟩ (Nat.zero_le _) (Nat.zero_le _) dX12_found_58 [] rfl rfl rfl ?_
        refine g_if_eq (tgt := 98) X dX12_found_61 (by decide) (fun hc_5 => ?_) (fun hc_5 => ?_)
        · replace hf := ite_t hc_5 hf
          exact J98 (f_X12_found_44 n) ih t_w t_statuses t_feels t_next t_came v1 v2 v3 v4 hf
        · replace hf := ite_f hc_5 hf
          refine g_aload_n X dX12_found_64 rfl 0 rfl ?_
          obtain ⟨t_w_6, hk_7, hf⟩ := ob1_out hf
          refine g_cVW (st := []) (st1 := []) (C := RX12) (ci := 8) (q0 := 0) (ws' := (wd_X12_found cI cZ h_t h_t_w h_t_isKept h_t_text h_t_statuses h_t_ways h_t_feels h_t_next h_t_came h_t_deep h_t_sizes h_t_tableOf h_t_usedBy h_t_taken h_t_sixOf t_texted t_above t_below t_at t_start t_number t_went t_h t_w_6 t_statuses t_feels t_next t_came)) X (c_X12_tries l D cI cZ h_t h_t_w h_t_isKept h_t_text h_t_statuses h_t_ways h_t_feels h_t_next h_t_came h_t_deep h_t_sizes h_t_tableOf h_t_usedBy h_t_taken h_t_sixOf t_texted t_above t_below t_at t_start t_number t_went t_h t_w _ hk_7) (Or.inl rfl) 0 gX12_found_X12_tries rfl hv_X12_tries ⟨Nat.le_of_ble_eq_true rfl, Nat.le_of_ble_eq_true rfl⟩ rfl rfl (Nat.le_of_ble_eq_true rfl) ⟨rfl, rfl⟩ (Nat.zero_le _) (Nat.zero_le _) rfl rfl rfl dX12_found_65 [0, 1] rfl rfl [2, 3, 4, 5] rfl rfl (by decide) [4, 5, 0, 1, 2, 3] rfl rfl rfl ?_
          refine g_aload_n X dX12_found_68 rfl 0 rfl ?_
          refine g_get (C := RX12) (T := TX12) (N := 22) (ci := 8) (v := (.ref h_t_w)) X iw_X12_found_X12 0 rfl rfl 0 (by decide) lk_X12_found_7 rfl dX12_found_69 ?_
          refine g_sipush (v := 1235) X dX12_found_72 (by decide) ?_
          refine g_iload_n X dX12_found_75 rfl 1 rfl ?_
          refine g_iadd X dX12_found_76 ?_
          refine g_iload X dX12_found_77 4 rfl ?_
          obtain ⟨hb_8, hf⟩ := chk_out hf
          obtain ⟨t_w_9, et_w_9, hf⟩ := bnd_out hf
          refine g_iast (ws' := (wd_X12_found cI cZ h_t h_t_w h_t_isKept h_t_text h_t_statuses h_t_ways h_t_feels h_t_next h_t_came h_t_deep h_t_sizes h_t_tableOf h_t_usedBy h_t_taken h_t_sixOf t_texted t_above t_below t_at t_start t_number t_went t_h t_w_9 t_statuses t_feels t_next t_came)) X 1 rfl hb_8 et_w_9 dX12_found_79 rfl ?_
          refine g_iload_n X dX12_found_80 rfl 3 rfl ?_
          refine g_aload_n X dX12_found_81 rfl 0 rfl ?_
          obtain ⟨r_10, t_feels_11, t_next_12, t_came_13, hk_14, hf⟩ := ob4_out hf
          refine g_cVW (st := [.int v3]) (st1 := [.int r_10, .int v3]) (C := RX12) (ci := 8) (q0 := 0) (ws' := (wd_X12_found cI cZ h_t h_t_w h_t_isKept h_t_text h_t_statuses h_t_ways h_t_feels h_t_next h_t_came h_t_deep h_t_sizes h_t_tableOf h_t_usedBy h_t_taken h_t_sixOf t_texted t_above t_below t_at t_start t_number t_went t_h t_w_9 t_statuses t_feels_11 t_next_12 t_came_13)) X (c_X12_areSo l D cI cZ h_t h_t_w h_t_isKept h_t_text h_t_statuses h_t_ways h_t_feels h_t_next h_t_came h_t_deep h_t_sizes h_t_tableOf h_t_usedBy h_t_taken h_t_sixOf t_texted t_above t_below t_at t_start t_number t_went t_h t_w_9 t_feels t_next t_came _ hk_14) (Or.inl rfl) 0 gX12_found_X12_areSo rfl hv_X12_areSo ⟨Nat.le_of_ble_eq_true rfl, Nat.le_of_ble_eq_true rfl⟩ rfl rfl (Nat.le_of_ble_eq_true rfl) ⟨rfl, rfl⟩ (Nat.zero_le _) (Nat.zero_le _) rfl rfl rfl dX12_found_82 [0, 1, 3, 4, 5] rfl rfl [2] rfl rfl (by decide) [1, 2, 0, 3, 4, 5] rfl rfl rfl ?_
          refine g_if_eq (tgt := 95) X dX12_found_85 (by decide) (fun hc_15 => ?_) (fun hc_15 => ?_)
          · replace hf := ite_t hc_15 hf
            refine g_iconst (v := 0) X dX12_found_95 (by decide) ?_
            refine g_lv X (lv' := [(0, .ref h_t), (1, .int v1), (2, .int v2), (4, .int v4)]) [0, 1, 2, 4] rfl ?_
            exact J96 (f_X12_found_44 n) ih t_w_9 t_statuses t_feels_11 t_next_12 t_came_13 v1 v2 v4 v3 0 hf
          · replace hf := ite_f hc_15 hf
            refine g_iconst (v := 1) X dX12_found_88 (by decide) ?_
            refine g_iload X dX12_found_89 4 rfl ?_
            refine g_ishl X dX12_found_91 ?_
            refine g_goto (tgt := 96) X dX12_found_92 (by decide) ?_
            refine g_lv X (lv' := [(0, .ref h_t), (1, .int v1), (2, .int v2), (4, .int v4)]) [0, 1, 2, 4] rfl ?_
            exact J96 (f_X12_found_44 n) ih t_w_9 t_statuses t_feels_11 t_next_12 t_came_13 v1 v2 v4 v3 (1 <<< (v4 &&& 31)) hf
  refine g_aload_n X dX12_found_0 rfl 0 rfl ?_
  refine g_iload_n X dX12_found_1 rfl 1 rfl ?_
  obtain ⟨r_26, hk_27, hf⟩ := ob1_out hf
  refine g_cVR (st := []) (st1 := [.int r_26]) (C := RX12) (ci := 8) (q0 := 0) X (c_X12_isClerk l D cI cZ h_t h_t_w h_t_isKept h_t_text h_t_statuses h_t_ways h_t_feels h_t_next h_t_came h_t_deep h_t_sizes h_t_tableOf h_t_usedBy h_t_taken h_t_sixOf t_texted t_above t_below t_at t_start t_number t_went t_h t_w v1 _ hk_27) (Or.inl rfl) 1 gX12_found_X12_isClerk rfl hv_X12_isClerk ⟨Nat.le_of_ble_eq_true rfl, Nat.le_of_ble_eq_true rfl⟩ rfl rfl (Nat.le_of_ble_eq_true rfl) ⟨rfl, rfl⟩ (Nat.zero_le _) (Nat.zero_le _) rfl rfl rfl dX12_found_2 [0, 1] rfl rfl rfl ?_
  refine g_if_ne (tgt := 15) X dX12_found_5 (by decide) (fun hc_28 => ?_) (fun hc_28 => ?_)
  · replace hf := ite_f hc_28 hf
    refine g_aload_n X dX12_found_15 rfl 0 rfl ?_
    refine g_get (C := RX12) (T := TX12) (N := 22) (ci := 8) (v := (.ref h_t_w)) X iw_X12_found_X12 0 rfl rfl 0 (by decide) lk_X12_found_7 rfl dX12_found_16 ?_
    refine g_bipush (v := 31) X dX12_found_19 (by decide) ?_
    refine g_iload_n X dX12_found_21 rfl 1 rfl ?_
    refine g_iadd X dX12_found_22 ?_
    obtain ⟨hb_29, hf⟩ := chk_out hf
    refine g_iald X 1 rfl hb_29 dX12_found_23 ?_
    refine g_iconst (v := (-1)) X dX12_found_24 (by decide) ?_
    refine g_icmp_eq (tgt := 33) X dX12_found_25 (by decide) (fun hc_30 => ?_) (fun hc_30 => ?_)
    · replace hf := ite_t hc_30 hf
      refine g_aload_n X dX12_found_33 rfl 0 rfl ?_
      refine g_iload_n X dX12_found_34 rfl 1 rfl ?_
      obtain ⟨r_31, hk_32, hf⟩ := ob1_out hf
      refine g_cVR (st := []) (st1 := [.int r_31]) (C := RX12) (ci := 8) (q0 := 0) X (c_X12_caughtBy l D cI cZ h_t h_t_w h_t_isKept h_t_text h_t_statuses h_t_ways h_t_feels h_t_next h_t_came h_t_deep h_t_sizes h_t_tableOf h_t_usedBy h_t_taken h_t_sixOf t_texted t_above t_below t_at t_start t_number t_went t_h t_w v1 _ hk_32) (Or.inl rfl) 1 gX12_found_X12_caughtBy rfl hv_X12_caughtBy ⟨Nat.le_of_ble_eq_true rfl, Nat.le_of_ble_eq_true rfl⟩ rfl rfl (Nat.le_of_ble_eq_true rfl) ⟨rfl, rfl⟩ (Nat.zero_le _) (Nat.zero_le _) rfl rfl rfl dX12_found_35 [0, 1] rfl rfl rfl ?_
      refine g_istore_n (lv' := [(0, .ref h_t), (1, .int v1), (2, .int r_31)]) X dX12_found_38 rfl (Nat.le_of_ble_eq_true rfl) [1, 2, 0] rfl ?_
      refine g_iconst (v := 0) X dX12_found_39 (by decide) ?_
      refine g_istore_n (lv' := [(0, .ref h_t), (1, .int v1), (2, .int r_31), (3, .int 0)]) X dX12_found_40 rfl (Nat.le_of_ble_eq_true rfl) [1, 2, 3, 0] rfl ?_
      refine g_iconst (v := 0) X dX12_found_41 (by decide) ?_
      refine g_istore (lv' := [(0, .ref h_t), (1, .int v1), (2, .int r_31), (3, .int 0), (4, .int 0)]) X dX12_found_42 (Nat.le_of_ble_eq_true rfl) [1, 2, 3, 4, 0] rfl ?_
      exact J44 FU t_w t_statuses t_feels t_next t_came v1 r_31 0 0 hf
    · replace hf := ite_f hc_30 hf
      refine g_aload_n X dX12_found_28 rfl 0 rfl ?_
      obtain ⟨r_33, t_statuses_34, hk_35, hf⟩ := ob2_out hf
      refine g_cVW (st := []) (st1 := [.int r_33]) (C := RX12) (ci := 8) (q0 := 0) (ws' := (wd_X12_found cI cZ h_t h_t_w h_t_isKept h_t_text h_t_statuses h_t_ways h_t_feels h_t_next h_t_came h_t_deep h_t_sizes h_t_tableOf h_t_usedBy h_t_taken h_t_sixOf t_texted t_above t_below t_at t_start t_number t_went t_h t_w t_statuses_34 t_feels t_next t_came)) X (c_X12_no l D cI cZ h_t h_t_w h_t_isKept h_t_text h_t_statuses h_t_ways h_t_feels h_t_next h_t_came h_t_deep h_t_sizes h_t_tableOf h_t_usedBy h_t_taken h_t_sixOf t_texted t_above t_below t_at t_start t_number t_went t_h t_statuses _ hk_35) (Or.inl rfl) 0 gX12_found_X12_no rfl hv_X12_no ⟨Nat.le_of_ble_eq_true rfl, Nat.le_of_ble_eq_true rfl⟩ rfl rfl (Nat.le_of_ble_eq_true rfl) ⟨rfl, rfl⟩ (Nat.zero_le _) (Nat.zero_le _) rfl rfl rfl dX12_found_29 [0, 2] rfl rfl [1, 3, 4, 5] rfl rfl (by decide) [4, 0, 5, 1, 2, 3] rfl rfl rfl ?_
      exact hR _ _ _ _ dX12_found_32 (kV_in (u := (r_33, t_w, t_statuses_34, t_feels, t_next, t_came)) hf)
  · replace hf := ite_t hc_28 hf
    refine g_aload_n X dX12_found_8 rfl 0 rfl ?_
    refine g_bipush (v := (-2)) X dX12_found_9 (by decide) ?_
    obtain ⟨r_36, t_statuses_37, hk_38, hf⟩ := ob2_out hf
    refine g_cVW (st := []) (st1 := [.int r_36]) (C := RX12) (ci := 8) (q0 := 0) (ws' := (wd_X12_found cI cZ h_t h_t_w h_t_isKept h_t_text h_t_statuses h_t_ways h_t_feels h_t_next h_t_came h_t_deep h_t_sizes h_t_tableOf h_t_usedBy h_t_taken h_t_sixOf t_texted t_above t_below t_at t_start t_number t_went t_h t_w t_statuses_37 t_feels t_next t_came)) X (c_X12_bad l D cI cZ h_t h_t_w h_t_isKept h_t_text h_t_statuses h_t_ways h_t_feels h_t_next h_t_came h_t_deep h_t_sizes h_t_tableOf h_t_usedBy h_t_taken h_t_sixOf t_texted t_above t_below t_at t_start t_number t_went t_h t_statuses (-2) _ hk_38) (Or.inl rfl) 1 gX12_found_X12_bad rfl hv_X12_bad ⟨Nat.le_of_ble_eq_true rfl, Nat.le_of_ble_eq_true rfl⟩ rfl rfl (Nat.le_of_ble_eq_true rfl) ⟨rfl, rfl⟩ (Nat.zero_le _) (Nat.zero_le _) rfl rfl rfl dX12_found_11 [0, 2] rfl rfl [1, 3, 4, 5] rfl rfl (by decide) [4, 0, 5, 1, 2, 3] rfl rfl rfl ?_
    exact hR _ _ _ _ dX12_found_14 (kV_in (u := (r_36, t_w, t_statuses_37, t_feels, t_next, t_came)) hf)
def wd_X12_note (cI cZ : ClassId) (h_t : Nat) (h_t_w : Nat) (h_t_isKept : Nat) (h_t_text : Nat) (h_t_statuses : Nat) (h_t_ways : Nat) (h_t_feels : Nat) (h_t_next : Nat) (h_t_came : Nat) (h_t_deep : Nat) (h_t_sizes : Nat) (h_t_tableOf : Nat) (h_t_usedBy : Nat) (h_t_taken : Nat) (h_t_sixOf : Nat) (t_texted : Int32) (t_above : Int64) (t_below : Int64) (t_at : Int32) (t_start : Int32) (t_number : Int32) (t_went : Int32) (t_h : Int64) (t_w : (Nat → Int32)) (t_statuses : (Nat → Int32)) : va_W := [(h_t, .inr (8, [.ref h_t_w, .ref h_t_isKept, .ref h_t_text, .int t_texted, .long t_above, .long t_below, .ref h_t_statuses, .int t_at, .int t_start, .int t_number, .ref h_t_ways, .int t_went, .ref h_t_feels, .ref h_t_next, .ref h_t_came, .ref h_t_deep, .ref h_t_sizes, .ref h_t_tableOf, .ref h_t_usedBy, .ref h_t_taken, .ref h_t_sixOf, .long t_h])), (h_t_w, .inl (cI, 1251, .inl t_w)), (h_t_statuses, .inl (cI, 3, .inl t_statuses))]
abbrev rm_X12_note : Room := { frames := 2, cells := 0, slots := 0, locals := 46 }
theorem hv_X12_note : yX12_note.cls = RX12 ∧ yX12_note.cls ≠ "java/lang/invoke/MethodHandle" ∧ yX12_note.cls ≠ "java/lang/invoke/VarHandle" ∧ (parseMethodDescriptor yX12_note.desc).map (fun d => d.parameters.length) = some 4 := by decide +kernel
theorem lk_X12_note_233 : Cond.constantLong RX12 233 20 ∈ wsX12_note := by decide +kernel
theorem lk_X12_note_269 : Cond.constantLong RX12 269 99 ∈ wsX12_note := by decide +kernel
theorem iw_X12_note_X12 : ∀ w ∈ u_ws RX12 TX12 22, w ∈ wsX12_note := by decide +kernel
theorem lk_X12_note_7 : Cond.fieldLink RX12 7 "ClerkChainsModel" "w" "[I" ∈ wsX12_note := by decide +kernel
set_option maxHeartbeats 4000000 in
set_option maxRecDepth 100000 in
theorem c_X12_note (l : Launch) (D : va_G) (cI cZ : ClassId) (h_t : Nat) (h_t_w : Nat) (h_t_isKept : Nat) (h_t_text : Nat) (h_t_statuses : Nat) (h_t_ways : Nat) (h_t_feels : Nat) (h_t_next : Nat) (h_t_came : Nat) (h_t_deep : Nat) (h_t_sizes : Nat) (h_t_tableOf : Nat) (h_t_usedBy : Nat) (h_t_taken : Nat) (h_t_sixOf : Nat) (t_texted : Int32) (t_above : Int64) (t_below : Int64) (t_at : Int32) (t_start : Int32) (t_number : Int32) (t_went : Int32) (t_h : Int64) (t_w : (Nat → Int32)) (t_statuses : (Nat → Int32)) (v1 : Int32) (v2 : Int32) (v3 : Int32) (v4 : Int32) (res : Int32 × (Nat → Int32) × (Nat → Int32)) (hf : f_X12_note t_w t_statuses v1 v2 v3 v4 = some res) : MetG l yX12_note wsX12_note rm_X12_note D cI cZ none [.ref h_t, .int v1, .int v2, .int v3, .int v4] (wd_X12_note cI cZ h_t h_t_w h_t_isKept h_t_text h_t_statuses h_t_ways h_t_feels h_t_next h_t_came h_t_deep h_t_sizes h_t_tableOf h_t_usedBy h_t_taken h_t_sixOf t_texted t_above t_below t_at t_start t_number t_went t_h t_w t_statuses) (kV res (fun u => some (.int u.1)) (fun u => (wd_X12_note cI cZ h_t h_t_w h_t_isKept h_t_text h_t_statuses h_t_ways h_t_feels h_t_next h_t_came h_t_deep h_t_sizes h_t_tableOf h_t_usedBy h_t_taken h_t_sixOf t_texted t_above t_below t_at t_start t_number t_went t_h (u.2.1) (u.2.2)))) := by
  refine metG_of (cc := cX12_note) (maxL := 6) (ret := (some .int)) (own := RX12) (lv0 := [(0, .ref h_t), (1, .int v1), (2, .int v2), (3, .int v3), (4, .int v4)]) (ini := false) (by decide) rfl (Nat.le_of_ble_eq_true rfl) rfl rfl (fun h => by cases h) (fun G X hR => ?_)
  replace hR := rt_int hR
  unfold f_X12_note at hf
  have J45 : ∀ (t_w : (Nat → Int32)) (t_statuses : (Nat → Int32)), f_X12_note_45 t_w t_statuses = some res → G 0 0 (wd_X12_note cI cZ h_t h_t_w h_t_isKept h_t_text h_t_statuses h_t_ways h_t_feels h_t_next h_t_came h_t_deep h_t_sizes h_t_tableOf h_t_usedBy h_t_taken h_t_sixOf t_texted t_above t_below t_at t_start t_number t_went t_h t_w t_statuses) [(0, .ref h_t)] 45 [] := by
    intro t_w t_statuses hf
    unfold f_X12_note_45 at hf
    refine g_aload_n X dX12_note_45 rfl 0 rfl ?_
    refine g_bipush (v := (-2)) X dX12_note_46 (by decide) ?_
    obtain ⟨r_1, t_statuses_2, hk_3, hf⟩ := ob2_out hf
    refine g_cVW (st := []) (st1 := [.int r_1]) (C := RX12) (ci := 8) (q0 := 0) (ws' := (wd_X12_note cI cZ h_t h_t_w h_t_isKept h_t_text h_t_statuses h_t_ways h_t_feels h_t_next h_t_came h_t_deep h_t_sizes h_t_tableOf h_t_usedBy h_t_taken h_t_sixOf t_texted t_above t_below t_at t_start t_number t_went t_h t_w t_statuses_2)) X (c_X12_bad l D cI cZ h_t h_t_w h_t_isKept h_t_text h_t_statuses h_t_ways h_t_feels h_t_next h_t_came h_t_deep h_t_sizes h_t_tableOf h_t_usedBy h_t_taken h_t_sixOf t_texted t_above t_below t_at t_start t_number t_went t_h t_statuses (-2) _ hk_3) (Or.inl rfl) 1 gX12_note_X12_bad rfl hv_X12_bad ⟨Nat.le_of_ble_eq_true rfl, Nat.le_of_ble_eq_true rfl⟩ rfl rfl (Nat.le_of_ble_eq_true rfl) ⟨rfl, rfl⟩ (Nat.zero_le _) (Nat.zero_le _) rfl rfl rfl dX12_note_48 [0, 2] rfl rfl [1] rfl rfl (by decide) [1, 0, 2] rfl rfl rfl ?_
    exact hR _ _ _ _ dX12_note_51 (kV_in (u := (r_1, t_w, t_statuses_2)) hf)
  refine g_aload_n X dX12_note_0 rfl 0 rfl ?_
  refine g_iload_n X dX12_note_1 rfl 1 rfl ?_
  obtain ⟨r_4, hk_5, hf⟩ := ob1_out hf
  refine g_cVR (st := []) (st1 := [.int r_4]) (C := RX12) (ci := 8) (q0 := 0) X (c_X12_isClerk l D cI cZ h_t h_t_w h_t_isKept h_t_text h_t_statuses h_t_ways h_t_feels h_t_next h_t_came h_t_deep h_t_sizes h_t_tableOf h_t_usedBy h_t_taken h_t_sixOf t_texted t_above t_below t_at t_start t_number t_went t_h t_w v1 _ hk_5) (Or.inl rfl) 1 gX12_note_X12_isClerk rfl hv_X12_isClerk ⟨Nat.le_of_ble_eq_true rfl, Nat.le_of_ble_eq_true rfl⟩ rfl rfl (Nat.le_of_ble_eq_true rfl) ⟨rfl, rfl⟩ (Nat.zero_le _) (Nat.zero_le _) rfl rfl rfl dX12_note_2 [0, 1] rfl rfl rfl ?_
  refine g_if_eq (tgt := 45) X dX12_note_5 (by decide) (fun hc_6 => ?_) (fun hc_6 => ?_)
  · replace hf := ite_t hc_6 hf
    refine g_lv X (lv' := [(0, .ref h_t)]) [0] rfl ?_
    exact J45 t_w t_statuses hf
  · replace hf := ite_f hc_6 hf
    refine g_iload_n X dX12_note_8 rfl 2 rfl ?_
    refine g_i2l X dX12_note_9 ?_
    refine g_lconst (v := 1) X dX12_note_10 (by decide) ?_
    refine g_ldc2 (v := 20) X dX12_note_11 lk_X12_note_233 ?_
    obtain ⟨r_7, hk_8, hf⟩ := ob1_out hf
    refine g_cSR (st := []) (st1 := [.int r_7]) X (c_X12_in l D cI cZ (v2.toInt64) 1 20 _ hk_8) (Or.inl rfl) 3 gX12_note_X12_in rfl hs_X12_in ⟨Nat.le_of_ble_eq_true rfl, Nat.le_of_ble_eq_true rfl⟩ rfl rfl (Nat.le_of_ble_eq_true rfl) ⟨rfl, rfl⟩ (Nat.zero_le _) (Nat.zero_le _) dX12_note_14 [] rfl rfl rfl ?_
    refine g_if_eq (tgt := 45) X dX12_note_17 (by decide) (fun hc_9 => ?_) (fun hc_9 => ?_)
    · replace hf := ite_t hc_9 hf
      refine g_lv X (lv' := [(0, .ref h_t)]) [0] rfl ?_
      exact J45 t_w t_statuses hf
    · replace hf := ite_f hc_9 hf
      refine g_iload_n X dX12_note_20 rfl 3 rfl ?_
      refine g_i2l X dX12_note_21 ?_
      refine g_lconst (v := 0) X dX12_note_22 (by decide) ?_
      refine g_ldc2 (v := 99) X dX12_note_23 lk_X12_note_269 ?_
      obtain ⟨r_10, hk_11, hf⟩ := ob1_out hf
      refine g_cSR (st := []) (st1 := [.int r_10]) X (c_X12_in l D cI cZ (v3.toInt64) 0 99 _ hk_11) (Or.inl rfl) 3 gX12_note_X12_in rfl hs_X12_in ⟨Nat.le_of_ble_eq_true rfl, Nat.le_of_ble_eq_true rfl⟩ rfl rfl (Nat.le_of_ble_eq_true rfl) ⟨rfl, rfl⟩ (Nat.zero_le _) (Nat.zero_le _) dX12_note_26 [] rfl rfl rfl ?_
      refine g_if_eq (tgt := 45) X dX12_note_29 (by decide) (fun hc_12 => ?_) (fun hc_12 => ?_)
      · replace hf := ite_t hc_12 hf
        refine g_lv X (lv' := [(0, .ref h_t)]) [0] rfl ?_
        exact J45 t_w t_statuses hf
      · replace hf := ite_f hc_12 hf
        refine g_iload X dX12_note_32 4 rfl ?_
        refine g_i2l X dX12_note_34 ?_
        refine g_lconst (v := 0) X dX12_note_35 (by decide) ?_
        refine g_ldc2 (v := 20) X dX12_note_36 lk_X12_note_233 ?_
        obtain ⟨r_13, hk_14, hf⟩ := ob1_out hf
        refine g_cSR (st := []) (st1 := [.int r_13]) X (c_X12_in l D cI cZ (v4.toInt64) 0 20 _ hk_14) (Or.inl rfl) 3 gX12_note_X12_in rfl hs_X12_in ⟨Nat.le_of_ble_eq_true rfl, Nat.le_of_ble_eq_true rfl⟩ rfl rfl (Nat.le_of_ble_eq_true rfl) ⟨rfl, rfl⟩ (Nat.zero_le _) (Nat.zero_le _) dX12_note_39 [] rfl rfl rfl ?_
        refine g_if_ne (tgt := 52) X dX12_note_42 (by decide) (fun hc_15 => ?_) (fun hc_15 => ?_)
        · replace hf := ite_f hc_15 hf
          refine g_aload_n X dX12_note_52 rfl 0 rfl ?_
          refine g_get (C := RX12) (T := TX12) (N := 22) (ci := 8) (v := (.ref h_t_w)) X iw_X12_note_X12 0 rfl rfl 0 (by decide) lk_X12_note_7 rfl dX12_note_53 ?_
          refine g_bipush (v := 68) X dX12_note_56 (by decide) ?_
          obtain ⟨hb_16, hf⟩ := chk_out hf
          refine g_iald X 1 rfl hb_16 dX12_note_58 ?_
          refine g_bipush (v := 6) X dX12_note_59 (by decide) ?_
          refine g_icmp_ne (tgt := 69) X dX12_note_61 (by decide) (fun hc_17 => ?_) (fun hc_17 => ?_)
          · replace hf := ite_f hc_17 hf
            refine g_bipush (v := 69) X dX12_note_69 (by decide) ?_
            refine g_iconst (v := 4) X dX12_note_71 (by decide) ?_
            refine g_aload_n X dX12_note_72 rfl 0 rfl ?_
            refine g_get (C := RX12) (T := TX12) (N := 22) (ci := 8) (v := (.ref h_t_w)) X iw_X12_note_X12 0 rfl rfl 0 (by decide) lk_X12_note_7 rfl dX12_note_73 ?_
            refine g_bipush (v := 68) X dX12_note_76 (by decide) ?_
            obtain ⟨hb_18, hf⟩ := chk_out hf
            refine g_iald X 1 rfl hb_18 dX12_note_78 ?_
            refine g_imul X dX12_note_79 ?_
            refine g_iadd X dX12_note_80 ?_
            obtain ⟨v5_19, ev5_19, hf⟩ := bnd_out hf
            refine g_nmI X ev5_19 ?_
            refine g_istore (lv' := [(0, .ref h_t), (1, .int v1), (2, .int v2), (3, .int v3), (4, .int v4), (5, .int v5_19)]) X dX12_note_81 (Nat.le_of_ble_eq_true rfl) [1, 2, 3, 4, 5, 0] rfl ?_
            refine g_aload_n X dX12_note_83 rfl 0 rfl ?_
            refine g_get (C := RX12) (T := TX12) (N := 22) (ci := 8) (v := (.ref h_t_w)) X iw_X12_note_X12 0 rfl rfl 0 (by decide) lk_X12_note_7 rfl dX12_note_84 ?_
            refine g_iload X dX12_note_87 5 rfl ?_
            refine g_iload_n X dX12_note_89 rfl 1 rfl ?_
            obtain ⟨hb_20, hf⟩ := chk_out hf
            obtain ⟨t_w_21, et_w_21, hf⟩ := bnd_out hf
            refine g_iast (ws' := (wd_X12_note cI cZ h_t h_t_w h_t_isKept h_t_text h_t_statuses h_t_ways h_t_feels h_t_next h_t_came h_t_deep h_t_sizes h_t_tableOf h_t_usedBy h_t_taken h_t_sixOf t_texted t_above t_below t_at t_start t_number t_went t_h t_w_21 t_statuses)) X 1 rfl hb_20 et_w_21 dX12_note_90 rfl ?_
            refine g_aload_n X dX12_note_91 rfl 0 rfl ?_
            refine g_get (C := RX12) (T := TX12) (N := 22) (ci := 8) (v := (.ref h_t_w)) X iw_X12_note_X12 0 rfl rfl 0 (by decide) lk_X12_note_7 rfl dX12_note_92 ?_
            refine g_iload X dX12_note_95 5 rfl ?_
            refine g_iconst (v := 1) X dX12_note_97 (by decide) ?_
            refine g_iadd X dX12_note_98 ?_
            refine g_iload_n X dX12_note_99 rfl 2 rfl ?_
            obtain ⟨hb_22, hf⟩ := chk_out hf
            obtain ⟨t_w_23, et_w_23, hf⟩ := bnd_out hf
            refine g_iast (ws' := (wd_X12_note cI cZ h_t h_t_w h_t_isKept h_t_text h_t_statuses h_t_ways h_t_feels h_t_next h_t_came h_t_deep h_t_sizes h_t_tableOf h_t_usedBy h_t_taken h_t_sixOf t_texted t_above t_below t_at t_start t_number t_went t_h t_w_23 t_statuses)) X 1 rfl hb_22 et_w_23 dX12_note_100 rfl ?_
            refine g_aload_n X dX12_note_101 rfl 0 rfl ?_
            refine g_get (C := RX12) (T := TX12) (N := 22) (ci := 8) (v := (.ref h_t_w)) X iw_X12_note_X12 0 rfl rfl 0 (by decide) lk_X12_note_7 rfl dX12_note_102 ?_
            refine g_iload X dX12_note_105 5 rfl ?_
            refine g_iconst (v := 2) X dX12_note_107 (by decide) ?_
            refine g_iadd X dX12_note_108 ?_
            refine g_iload_n X dX12_note_109 rfl 3 rfl ?_
            obtain ⟨hb_24, hf⟩ := chk_out hf
            obtain ⟨t_w_25, et_w_25, hf⟩ := bnd_out hf
            refine g_iast (ws' := (wd_X12_note cI cZ h_t h_t_w h_t_isKept h_t_text h_t_statuses h_t_ways h_t_feels h_t_next h_t_came h_t_deep h_t_sizes h_t_tableOf h_t_usedBy h_t_taken h_t_sixOf t_texted t_above t_below t_at t_start t_number t_went t_h t_w_25 t_statuses)) X 1 rfl hb_24 et_w_25 dX12_note_110 rfl ?_
            refine g_aload_n X dX12_note_111 rfl 0 rfl ?_
            refine g_get (C := RX12) (T := TX12) (N := 22) (ci := 8) (v := (.ref h_t_w)) X iw_X12_note_X12 0 rfl rfl 0 (by decide) lk_X12_note_7 rfl dX12_note_112 ?_
            refine g_iload X dX12_note_115 5 rfl ?_
            refine g_iconst (v := 3) X dX12_note_117 (by decide) ?_
            refine g_iadd X dX12_note_118 ?_
            refine g_iload X dX12_note_119 4 rfl ?_
            obtain ⟨hb_26, hf⟩ := chk_out hf
            obtain ⟨t_w_27, et_w_27, hf⟩ := bnd_out hf
            refine g_iast (ws' := (wd_X12_note cI cZ h_t h_t_w h_t_isKept h_t_text h_t_statuses h_t_ways h_t_feels h_t_next h_t_came h_t_deep h_t_sizes h_t_tableOf h_t_usedBy h_t_taken h_t_sixOf t_texted t_above t_below t_at t_start t_number t_went t_h t_w_27 t_statuses)) X 1 rfl hb_26 et_w_27 dX12_note_121 rfl ?_
            refine g_aload_n X dX12_note_122 rfl 0 rfl ?_
            refine g_get (C := RX12) (T := TX12) (N := 22) (ci := 8) (v := (.ref h_t_w)) X iw_X12_note_X12 0 rfl rfl 0 (by decide) lk_X12_note_7 rfl dX12_note_123 ?_
            refine g_bipush (v := 68) X dX12_note_126 (by decide) ?_
            refine g_dup2_11 X dX12_note_128 rfl rfl ?_
            obtain ⟨hb_28, hf⟩ := chk_out hf
            refine g_iald X 1 rfl hb_28 dX12_note_129 ?_
            refine g_iconst (v := 1) X dX12_note_130 (by decide) ?_
            refine g_iadd X dX12_note_131 ?_
            obtain ⟨hb_29, hf⟩ := chk_out hf
            obtain ⟨t_w_30, et_w_30, hf⟩ := bnd_out hf
            refine g_iast (ws' := (wd_X12_note cI cZ h_t h_t_w h_t_isKept h_t_text h_t_statuses h_t_ways h_t_feels h_t_next h_t_came h_t_deep h_t_sizes h_t_tableOf h_t_usedBy h_t_taken h_t_sixOf t_texted t_above t_below t_at t_start t_number t_went t_h t_w_30 t_statuses)) X 1 rfl hb_29 et_w_30 dX12_note_132 rfl ?_
            refine g_aload_n X dX12_note_133 rfl 0 rfl ?_
            refine g_get (C := RX12) (T := TX12) (N := 22) (ci := 8) (v := (.ref h_t_w)) X iw_X12_note_X12 0 rfl rfl 0 (by decide) lk_X12_note_7 rfl dX12_note_134 ?_
            refine g_bipush (v := 68) X dX12_note_137 (by decide) ?_
            obtain ⟨hb_31, hf⟩ := chk_out hf
            refine g_iald X 1 rfl hb_31 dX12_note_139 ?_
            exact hR _ _ _ _ dX12_note_140 (kV_in (u := (t_w_30 (68 : Int32).toNatClampNeg, t_w_30, t_statuses)) hf)
          · replace hf := ite_t hc_17 hf
            refine g_aload_n X dX12_note_64 rfl 0 rfl ?_
            obtain ⟨r_32, t_statuses_33, hk_34, hf⟩ := ob2_out hf
            refine g_cVW (st := []) (st1 := [.int r_32]) (C := RX12) (ci := 8) (q0 := 0) (ws' := (wd_X12_note cI cZ h_t h_t_w h_t_isKept h_t_text h_t_statuses h_t_ways h_t_feels h_t_next h_t_came h_t_deep h_t_sizes h_t_tableOf h_t_usedBy h_t_taken h_t_sixOf t_texted t_above t_below t_at t_start t_number t_went t_h t_w t_statuses_33)) X (c_X12_full l D cI cZ h_t h_t_w h_t_isKept h_t_text h_t_statuses h_t_ways h_t_feels h_t_next h_t_came h_t_deep h_t_sizes h_t_tableOf h_t_usedBy h_t_taken h_t_sixOf t_texted t_above t_below t_at t_start t_number t_went t_h t_statuses _ hk_34) (Or.inl rfl) 0 gX12_note_X12_full rfl hv_X12_full ⟨Nat.le_of_ble_eq_true rfl, Nat.le_of_ble_eq_true rfl⟩ rfl rfl (Nat.le_of_ble_eq_true rfl) ⟨rfl, rfl⟩ (Nat.zero_le _) (Nat.zero_le _) rfl rfl rfl dX12_note_65 [0, 2] rfl rfl [1] rfl rfl (by decide) [1, 0, 2] rfl rfl rfl ?_
            exact hR _ _ _ _ dX12_note_68 (kV_in (u := (r_32, t_w, t_statuses_33)) hf)
        · replace hf := ite_t hc_15 hf
          refine g_lv X (lv' := [(0, .ref h_t)]) [0] rfl ?_
          exact J45 t_w t_statuses hf
def wd_X12_mark (cI cZ : ClassId) (h_t : Nat) (h_t_w : Nat) (h_t_isKept : Nat) (h_t_text : Nat) (h_t_statuses : Nat) (h_t_ways : Nat) (h_t_feels : Nat) (h_t_next : Nat) (h_t_came : Nat) (h_t_deep : Nat) (h_t_sizes : Nat) (h_t_tableOf : Nat) (h_t_usedBy : Nat) (h_t_taken : Nat) (h_t_sixOf : Nat) (t_texted : Int32) (t_above : Int64) (t_below : Int64) (t_at : Int32) (t_start : Int32) (t_number : Int32) (t_went : Int32) (t_h : Int64) (t_w : (Nat → Int32)) (t_statuses : (Nat → Int32)) : va_W := [(h_t, .inr (8, [.ref h_t_w, .ref h_t_isKept, .ref h_t_text, .int t_texted, .long t_above, .long t_below, .ref h_t_statuses, .int t_at, .int t_start, .int t_number, .ref h_t_ways, .int t_went, .ref h_t_feels, .ref h_t_next, .ref h_t_came, .ref h_t_deep, .ref h_t_sizes, .ref h_t_tableOf, .ref h_t_usedBy, .ref h_t_taken, .ref h_t_sixOf, .long t_h])), (h_t_w, .inl (cI, 1251, .inl t_w)), (h_t_statuses, .inl (cI, 3, .inl t_statuses))]
abbrev rm_X12_mark : Room := { frames := 2, cells := 0, slots := 0, locals := 46 }
theorem hv_X12_mark : yX12_mark.cls = RX12 ∧ yX12_mark.cls ≠ "java/lang/invoke/MethodHandle" ∧ yX12_mark.cls ≠ "java/lang/invoke/VarHandle" ∧ (parseMethodDescriptor yX12_mark.desc).map (fun d => d.parameters.length) = some 5 := by decide +kernel
theorem lk_X12_mark_86 : Cond.constantLong RX12 86 9 ∈ wsX12_mark := by decide +kernel
theorem lk_X12_mark_84 : Cond.constantLong RX12 84 11 ∈ wsX12_mark := by decide +kernel
theorem lk_X12_mark_269 : Cond.constantLong RX12 269 99 ∈ wsX12_mark := by decide +kernel
theorem lk_X12_mark_274 : Cond.constantLong RX12 274 (-40) ∈ wsX12_mark := by decide +kernel
theorem lk_X12_mark_276 : Cond.constantLong RX12 276 40 ∈ wsX12_mark := by decide +kernel
theorem iw_X12_mark_X12 : ∀ w ∈ u_ws RX12 TX12 22, w ∈ wsX12_mark := by decide +kernel
theorem lk_X12_mark_7 : Cond.fieldLink RX12 7 "ClerkChainsModel" "w" "[I" ∈ wsX12_mark := by decide +kernel
set_option maxHeartbeats 4000000 in
set_option maxRecDepth 100000 in
theorem c_X12_mark (l : Launch) (D : va_G) (cI cZ : ClassId) (h_t : Nat) (h_t_w : Nat) (h_t_isKept : Nat) (h_t_text : Nat) (h_t_statuses : Nat) (h_t_ways : Nat) (h_t_feels : Nat) (h_t_next : Nat) (h_t_came : Nat) (h_t_deep : Nat) (h_t_sizes : Nat) (h_t_tableOf : Nat) (h_t_usedBy : Nat) (h_t_taken : Nat) (h_t_sixOf : Nat) (t_texted : Int32) (t_above : Int64) (t_below : Int64) (t_at : Int32) (t_start : Int32) (t_number : Int32) (t_went : Int32) (t_h : Int64) (t_w : (Nat → Int32)) (t_statuses : (Nat → Int32)) (v1 : Int32) (v2 : Int32) (v3 : Int32) (v4 : Int32) (v5 : Int32) (res : Int32 × (Nat → Int32) × (Nat → Int32)) (hf : f_X12_mark t_w t_statuses v1 v2 v3 v4 v5 = some res) : MetG l yX12_mark wsX12_mark rm_X12_mark D cI cZ none [.ref h_t, .int v1, .int v2, .int v3, .int v4, .int v5] (wd_X12_mark cI cZ h_t h_t_w h_t_isKept h_t_text h_t_statuses h_t_ways h_t_feels h_t_next h_t_came h_t_deep h_t_sizes h_t_tableOf h_t_usedBy h_t_taken h_t_sixOf t_texted t_above t_below t_at t_start t_number t_went t_h t_w t_statuses) (kV res (fun u => some (.int u.1)) (fun u => (wd_X12_mark cI cZ h_t h_t_w h_t_isKept h_t_text h_t_statuses h_t_ways h_t_feels h_t_next h_t_came h_t_deep h_t_sizes h_t_tableOf h_t_usedBy h_t_taken h_t_sixOf t_texted t_above t_below t_at t_start t_number t_went t_h (u.2.1) (u.2.2)))) := by
  refine metG_of (cc := cX12_mark) (maxL := 7) (ret := (some .int)) (own := RX12) (lv0 := [(0, .ref h_t), (1, .int v1), (2, .int v2), (3, .int v3), (4, .int v4), (5, .int v5)]) (ini := false) (by decide) rfl (Nat.le_of_ble_eq_true rfl) rfl rfl (fun h => by cases h) (fun G X hR => ?_)
  replace hR := rt_int hR
  unfold f_X12_mark at hf
  have J60 : ∀ (t_w : (Nat → Int32)) (t_statuses : (Nat → Int32)), f_X12_mark_60 t_w t_statuses = some res → G 0 0 (wd_X12_mark cI cZ h_t h_t_w h_t_isKept h_t_text h_t_statuses h_t_ways h_t_feels h_t_next h_t_came h_t_deep h_t_sizes h_t_tableOf h_t_usedBy h_t_taken h_t_sixOf t_texted t_above t_below t_at t_start t_number t_went t_h t_w t_statuses) [(0, .ref h_t)] 60 [] := by
    intro t_w t_statuses hf
    unfold f_X12_mark_60 at hf
    refine g_aload_n X dX12_mark_60 rfl 0 rfl ?_
    refine g_bipush (v := (-2)) X dX12_mark_61 (by decide) ?_
    obtain ⟨r_1, t_statuses_2, hk_3, hf⟩ := ob2_out hf
    refine g_cVW (st := []) (st1 := [.int r_1]) (C := RX12) (ci := 8) (q0 := 0) (ws' := (wd_X12_mark cI cZ h_t h_t_w h_t_isKept h_t_text h_t_statuses h_t_ways h_t_feels h_t_next h_t_came h_t_deep h_t_sizes h_t_tableOf h_t_usedBy h_t_taken h_t_sixOf t_texted t_above t_below t_at t_start t_number t_went t_h t_w t_statuses_2)) X (c_X12_bad l D cI cZ h_t h_t_w h_t_isKept h_t_text h_t_statuses h_t_ways h_t_feels h_t_next h_t_came h_t_deep h_t_sizes h_t_tableOf h_t_usedBy h_t_taken h_t_sixOf t_texted t_above t_below t_at t_start t_number t_went t_h t_statuses (-2) _ hk_3) (Or.inl rfl) 1 gX12_mark_X12_bad rfl hv_X12_bad ⟨Nat.le_of_ble_eq_true rfl, Nat.le_of_ble_eq_true rfl⟩ rfl rfl (Nat.le_of_ble_eq_true rfl) ⟨rfl, rfl⟩ (Nat.zero_le _) (Nat.zero_le _) rfl rfl rfl dX12_mark_63 [0, 2] rfl rfl [1] rfl rfl (by decide) [1, 0, 2] rfl rfl rfl ?_
    exact hR _ _ _ _ dX12_mark_66 (kV_in (u := (r_1, t_w, t_statuses_2)) hf)
  refine g_aload_n X dX12_mark_0 rfl 0 rfl ?_
  refine g_iload_n X dX12_mark_1 rfl 1 rfl ?_
  obtain ⟨r_4, hk_5, hf⟩ := ob1_out hf
  refine g_cVR (st := []) (st1 := [.int r_4]) (C := RX12) (ci := 8) (q0 := 0) X (c_X12_isMagnet l D cI cZ h_t h_t_w h_t_isKept h_t_text h_t_statuses h_t_ways h_t_feels h_t_next h_t_came h_t_deep h_t_sizes h_t_tableOf h_t_usedBy h_t_taken h_t_sixOf t_texted t_above t_below t_at t_start t_number t_went t_h t_w v1 _ hk_5) (Or.inl rfl) 1 gX12_mark_X12_isMagnet rfl hv_X12_isMagnet ⟨Nat.le_of_ble_eq_true rfl, Nat.le_of_ble_eq_true rfl⟩ rfl rfl (Nat.le_of_ble_eq_true rfl) ⟨rfl, rfl⟩ (Nat.zero_le _) (Nat.zero_le _) rfl rfl rfl dX12_mark_2 [0, 1] rfl rfl rfl ?_
  refine g_if_eq (tgt := 60) X dX12_mark_5 (by decide) (fun hc_6 => ?_) (fun hc_6 => ?_)
  · replace hf := ite_t hc_6 hf
    refine g_lv X (lv' := [(0, .ref h_t)]) [0] rfl ?_
    exact J60 t_w t_statuses hf
  · replace hf := ite_f hc_6 hf
    refine g_iload_n X dX12_mark_8 rfl 2 rfl ?_
    refine g_i2l X dX12_mark_9 ?_
    refine g_lconst (v := 1) X dX12_mark_10 (by decide) ?_
    refine g_ldc2 (v := 9) X dX12_mark_11 lk_X12_mark_86 ?_
    obtain ⟨r_7, hk_8, hf⟩ := ob1_out hf
    refine g_cSR (st := []) (st1 := [.int r_7]) X (c_X12_in l D cI cZ (v2.toInt64) 1 9 _ hk_8) (Or.inl rfl) 3 gX12_mark_X12_in rfl hs_X12_in ⟨Nat.le_of_ble_eq_true rfl, Nat.le_of_ble_eq_true rfl⟩ rfl rfl (Nat.le_of_ble_eq_true rfl) ⟨rfl, rfl⟩ (Nat.zero_le _) (Nat.zero_le _) dX12_mark_14 [] rfl rfl rfl ?_
    refine g_if_eq (tgt := 60) X dX12_mark_17 (by decide) (fun hc_9 => ?_) (fun hc_9 => ?_)
    · replace hf := ite_t hc_9 hf
      refine g_lv X (lv' := [(0, .ref h_t)]) [0] rfl ?_
      exact J60 t_w t_statuses hf
    · replace hf := ite_f hc_9 hf
      refine g_iload_n X dX12_mark_20 rfl 3 rfl ?_
      refine g_i2l X dX12_mark_21 ?_
      refine g_lconst (v := 0) X dX12_mark_22 (by decide) ?_
      refine g_ldc2 (v := 11) X dX12_mark_23 lk_X12_mark_84 ?_
      obtain ⟨r_10, hk_11, hf⟩ := ob1_out hf
      refine g_cSR (st := []) (st1 := [.int r_10]) X (c_X12_in l D cI cZ (v3.toInt64) 0 11 _ hk_11) (Or.inl rfl) 3 gX12_mark_X12_in rfl hs_X12_in ⟨Nat.le_of_ble_eq_true rfl, Nat.le_of_ble_eq_true rfl⟩ rfl rfl (Nat.le_of_ble_eq_true rfl) ⟨rfl, rfl⟩ (Nat.zero_le _) (Nat.zero_le _) dX12_mark_26 [] rfl rfl rfl ?_
      refine g_if_eq (tgt := 60) X dX12_mark_29 (by decide) (fun hc_12 => ?_) (fun hc_12 => ?_)
      · replace hf := ite_t hc_12 hf
        refine g_lv X (lv' := [(0, .ref h_t)]) [0] rfl ?_
        exact J60 t_w t_statuses hf
      · replace hf := ite_f hc_12 hf
        refine g_iload X dX12_mark_32 4 rfl ?_
        refine g_i2l X dX12_mark_34 ?_
        refine g_lconst (v := 0) X dX12_mark_35 (by decide) ?_
        refine g_ldc2 (v := 99) X dX12_mark_36 lk_X12_mark_269 ?_
        obtain ⟨r_13, hk_14, hf⟩ := ob1_out hf
        refine g_cSR (st := []) (st1 := [.int r_13]) X (c_X12_in l D cI cZ (v4.toInt64) 0 99 _ hk_14) (Or.inl rfl) 3 gX12_mark_X12_in rfl hs_X12_in ⟨Nat.le_of_ble_eq_true rfl, Nat.le_of_ble_eq_true rfl⟩ rfl rfl (Nat.le_of_ble_eq_true rfl) ⟨rfl, rfl⟩ (Nat.zero_le _) (Nat.zero_le _) dX12_mark_39 [] rfl rfl rfl ?_
        refine g_if_eq (tgt := 60) X dX12_mark_42 (by decide) (fun hc_15 => ?_) (fun hc_15 => ?_)
        · replace hf := ite_t hc_15 hf
          refine g_lv X (lv' := [(0, .ref h_t)]) [0] rfl ?_
          exact J60 t_w t_statuses hf
        · replace hf := ite_f hc_15 hf
          refine g_iload X dX12_mark_45 5 rfl ?_
          refine g_i2l X dX12_mark_47 ?_
          refine g_ldc2 (v := (-40)) X dX12_mark_48 lk_X12_mark_274 ?_
          refine g_ldc2 (v := 40) X dX12_mark_51 lk_X12_mark_276 ?_
          obtain ⟨r_16, hk_17, hf⟩ := ob1_out hf
          refine g_cSR (st := []) (st1 := [.int r_16]) X (c_X12_in l D cI cZ (v5.toInt64) (-40) 40 _ hk_17) (Or.inl rfl) 3 gX12_mark_X12_in rfl hs_X12_in ⟨Nat.le_of_ble_eq_true rfl, Nat.le_of_ble_eq_true rfl⟩ rfl rfl (Nat.le_of_ble_eq_true rfl) ⟨rfl, rfl⟩ (Nat.zero_le _) (Nat.zero_le _) dX12_mark_54 [] rfl rfl rfl ?_
          refine g_if_ne (tgt := 67) X dX12_mark_57 (by decide) (fun hc_18 => ?_) (fun hc_18 => ?_)
          · replace hf := ite_f hc_18 hf
            refine g_aload_n X dX12_mark_67 rfl 0 rfl ?_
            refine g_get (C := RX12) (T := TX12) (N := 22) (ci := 8) (v := (.ref h_t_w)) X iw_X12_mark_X12 0 rfl rfl 0 (by decide) lk_X12_mark_7 rfl dX12_mark_68 ?_
            refine g_bipush (v := 93) X dX12_mark_71 (by decide) ?_
            obtain ⟨hb_19, hf⟩ := chk_out hf
            refine g_iald X 1 rfl hb_19 dX12_mark_73 ?_
            refine g_bipush (v := 6) X dX12_mark_74 (by decide) ?_
            refine g_icmp_ne (tgt := 84) X dX12_mark_76 (by decide) (fun hc_20 => ?_) (fun hc_20 => ?_)
            · replace hf := ite_f hc_20 hf
              refine g_bipush (v := 94) X dX12_mark_84 (by decide) ?_
              refine g_iconst (v := 5) X dX12_mark_86 (by decide) ?_
              refine g_aload_n X dX12_mark_87 rfl 0 rfl ?_
              refine g_get (C := RX12) (T := TX12) (N := 22) (ci := 8) (v := (.ref h_t_w)) X iw_X12_mark_X12 0 rfl rfl 0 (by decide) lk_X12_mark_7 rfl dX12_mark_88 ?_
              refine g_bipush (v := 93) X dX12_mark_91 (by decide) ?_
              obtain ⟨hb_21, hf⟩ := chk_out hf
              refine g_iald X 1 rfl hb_21 dX12_mark_93 ?_
              refine g_imul X dX12_mark_94 ?_
              refine g_iadd X dX12_mark_95 ?_
              obtain ⟨v6_22, ev6_22, hf⟩ := bnd_out hf
              refine g_nmI X ev6_22 ?_
              refine g_istore (lv' := [(0, .ref h_t), (1, .int v1), (2, .int v2), (3, .int v3), (4, .int v4), (5, .int v5), (6, .int v6_22)]) X dX12_mark_96 (Nat.le_of_ble_eq_true rfl) [1, 2, 3, 4, 5, 6, 0] rfl ?_
              refine g_aload_n X dX12_mark_98 rfl 0 rfl ?_
              refine g_get (C := RX12) (T := TX12) (N := 22) (ci := 8) (v := (.ref h_t_w)) X iw_X12_mark_X12 0 rfl rfl 0 (by decide) lk_X12_mark_7 rfl dX12_mark_99 ?_
              refine g_iload X dX12_mark_102 6 rfl ?_
              refine g_iload_n X dX12_mark_104 rfl 1 rfl ?_
              obtain ⟨hb_23, hf⟩ := chk_out hf
              obtain ⟨t_w_24, et_w_24, hf⟩ := bnd_out hf
              refine g_iast (ws' := (wd_X12_mark cI cZ h_t h_t_w h_t_isKept h_t_text h_t_statuses h_t_ways h_t_feels h_t_next h_t_came h_t_deep h_t_sizes h_t_tableOf h_t_usedBy h_t_taken h_t_sixOf t_texted t_above t_below t_at t_start t_number t_went t_h t_w_24 t_statuses)) X 1 rfl hb_23 et_w_24 dX12_mark_105 rfl ?_
              refine g_aload_n X dX12_mark_106 rfl 0 rfl ?_
              refine g_get (C := RX12) (T := TX12) (N := 22) (ci := 8) (v := (.ref h_t_w)) X iw_X12_mark_X12 0 rfl rfl 0 (by decide) lk_X12_mark_7 rfl dX12_mark_107 ?_
              refine g_iload X dX12_mark_110 6 rfl ?_
              refine g_iconst (v := 1) X dX12_mark_112 (by decide) ?_
              refine g_iadd X dX12_mark_113 ?_
              refine g_iload_n X dX12_mark_114 rfl 2 rfl ?_
              obtain ⟨hb_25, hf⟩ := chk_out hf
              obtain ⟨t_w_26, et_w_26, hf⟩ := bnd_out hf
              refine g_iast (ws' := (wd_X12_mark cI cZ h_t h_t_w h_t_isKept h_t_text h_t_statuses h_t_ways h_t_feels h_t_next h_t_came h_t_deep h_t_sizes h_t_tableOf h_t_usedBy h_t_taken h_t_sixOf t_texted t_above t_below t_at t_start t_number t_went t_h t_w_26 t_statuses)) X 1 rfl hb_25 et_w_26 dX12_mark_115 rfl ?_
              refine g_aload_n X dX12_mark_116 rfl 0 rfl ?_
              refine g_get (C := RX12) (T := TX12) (N := 22) (ci := 8) (v := (.ref h_t_w)) X iw_X12_mark_X12 0 rfl rfl 0 (by decide) lk_X12_mark_7 rfl dX12_mark_117 ?_
              refine g_iload X dX12_mark_120 6 rfl ?_
              refine g_iconst (v := 2) X dX12_mark_122 (by decide) ?_
              refine g_iadd X dX12_mark_123 ?_
              refine g_iload_n X dX12_mark_124 rfl 3 rfl ?_
              obtain ⟨hb_27, hf⟩ := chk_out hf
              obtain ⟨t_w_28, et_w_28, hf⟩ := bnd_out hf
              refine g_iast (ws' := (wd_X12_mark cI cZ h_t h_t_w h_t_isKept h_t_text h_t_statuses h_t_ways h_t_feels h_t_next h_t_came h_t_deep h_t_sizes h_t_tableOf h_t_usedBy h_t_taken h_t_sixOf t_texted t_above t_below t_at t_start t_number t_went t_h t_w_28 t_statuses)) X 1 rfl hb_27 et_w_28 dX12_mark_125 rfl ?_
              refine g_aload_n X dX12_mark_126 rfl 0 rfl ?_
              refine g_get (C := RX12) (T := TX12) (N := 22) (ci := 8) (v := (.ref h_t_w)) X iw_X12_mark_X12 0 rfl rfl 0 (by decide) lk_X12_mark_7 rfl dX12_mark_127 ?_
              refine g_iload X dX12_mark_130 6 rfl ?_
              refine g_iconst (v := 3) X dX12_mark_132 (by decide) ?_
              refine g_iadd X dX12_mark_133 ?_
              refine g_iload X dX12_mark_134 4 rfl ?_
              obtain ⟨hb_29, hf⟩ := chk_out hf
              obtain ⟨t_w_30, et_w_30, hf⟩ := bnd_out hf
              refine g_iast (ws' := (wd_X12_mark cI cZ h_t h_t_w h_t_isKept h_t_text h_t_statuses h_t_ways h_t_feels h_t_next h_t_came h_t_deep h_t_sizes h_t_tableOf h_t_usedBy h_t_taken h_t_sixOf t_texted t_above t_below t_at t_start t_number t_went t_h t_w_30 t_statuses)) X 1 rfl hb_29 et_w_30 dX12_mark_136 rfl ?_
              refine g_aload_n X dX12_mark_137 rfl 0 rfl ?_
              refine g_get (C := RX12) (T := TX12) (N := 22) (ci := 8) (v := (.ref h_t_w)) X iw_X12_mark_X12 0 rfl rfl 0 (by decide) lk_X12_mark_7 rfl dX12_mark_138 ?_
              refine g_iload X dX12_mark_141 6 rfl ?_
              refine g_iconst (v := 4) X dX12_mark_143 (by decide) ?_
              refine g_iadd X dX12_mark_144 ?_
              refine g_iload X dX12_mark_145 5 rfl ?_
              obtain ⟨hb_31, hf⟩ := chk_out hf
              obtain ⟨t_w_32, et_w_32, hf⟩ := bnd_out hf
              refine g_iast (ws' := (wd_X12_mark cI cZ h_t h_t_w h_t_isKept h_t_text h_t_statuses h_t_ways h_t_feels h_t_next h_t_came h_t_deep h_t_sizes h_t_tableOf h_t_usedBy h_t_taken h_t_sixOf t_texted t_above t_below t_at t_start t_number t_went t_h t_w_32 t_statuses)) X 1 rfl hb_31 et_w_32 dX12_mark_147 rfl ?_
              refine g_aload_n X dX12_mark_148 rfl 0 rfl ?_
              refine g_get (C := RX12) (T := TX12) (N := 22) (ci := 8) (v := (.ref h_t_w)) X iw_X12_mark_X12 0 rfl rfl 0 (by decide) lk_X12_mark_7 rfl dX12_mark_149 ?_
              refine g_bipush (v := 93) X dX12_mark_152 (by decide) ?_
              refine g_dup2_11 X dX12_mark_154 rfl rfl ?_
              obtain ⟨hb_33, hf⟩ := chk_out hf
              refine g_iald X 1 rfl hb_33 dX12_mark_155 ?_
              refine g_iconst (v := 1) X dX12_mark_156 (by decide) ?_
              refine g_iadd X dX12_mark_157 ?_
              obtain ⟨hb_34, hf⟩ := chk_out hf
              obtain ⟨t_w_35, et_w_35, hf⟩ := bnd_out hf
              refine g_iast (ws' := (wd_X12_mark cI cZ h_t h_t_w h_t_isKept h_t_text h_t_statuses h_t_ways h_t_feels h_t_next h_t_came h_t_deep h_t_sizes h_t_tableOf h_t_usedBy h_t_taken h_t_sixOf t_texted t_above t_below t_at t_start t_number t_went t_h t_w_35 t_statuses)) X 1 rfl hb_34 et_w_35 dX12_mark_158 rfl ?_
              refine g_aload_n X dX12_mark_159 rfl 0 rfl ?_
              refine g_get (C := RX12) (T := TX12) (N := 22) (ci := 8) (v := (.ref h_t_w)) X iw_X12_mark_X12 0 rfl rfl 0 (by decide) lk_X12_mark_7 rfl dX12_mark_160 ?_
              refine g_bipush (v := 93) X dX12_mark_163 (by decide) ?_
              obtain ⟨hb_36, hf⟩ := chk_out hf
              refine g_iald X 1 rfl hb_36 dX12_mark_165 ?_
              exact hR _ _ _ _ dX12_mark_166 (kV_in (u := (t_w_35 (93 : Int32).toNatClampNeg, t_w_35, t_statuses)) hf)
            · replace hf := ite_t hc_20 hf
              refine g_aload_n X dX12_mark_79 rfl 0 rfl ?_
              obtain ⟨r_37, t_statuses_38, hk_39, hf⟩ := ob2_out hf
              refine g_cVW (st := []) (st1 := [.int r_37]) (C := RX12) (ci := 8) (q0 := 0) (ws' := (wd_X12_mark cI cZ h_t h_t_w h_t_isKept h_t_text h_t_statuses h_t_ways h_t_feels h_t_next h_t_came h_t_deep h_t_sizes h_t_tableOf h_t_usedBy h_t_taken h_t_sixOf t_texted t_above t_below t_at t_start t_number t_went t_h t_w t_statuses_38)) X (c_X12_full l D cI cZ h_t h_t_w h_t_isKept h_t_text h_t_statuses h_t_ways h_t_feels h_t_next h_t_came h_t_deep h_t_sizes h_t_tableOf h_t_usedBy h_t_taken h_t_sixOf t_texted t_above t_below t_at t_start t_number t_went t_h t_statuses _ hk_39) (Or.inl rfl) 0 gX12_mark_X12_full rfl hv_X12_full ⟨Nat.le_of_ble_eq_true rfl, Nat.le_of_ble_eq_true rfl⟩ rfl rfl (Nat.le_of_ble_eq_true rfl) ⟨rfl, rfl⟩ (Nat.zero_le _) (Nat.zero_le _) rfl rfl rfl dX12_mark_80 [0, 2] rfl rfl [1] rfl rfl (by decide) [1, 0, 2] rfl rfl rfl ?_
              exact hR _ _ _ _ dX12_mark_83 (kV_in (u := (r_37, t_w, t_statuses_38)) hf)
          · replace hf := ite_t hc_18 hf
            refine g_lv X (lv' := [(0, .ref h_t)]) [0] rfl ?_
            exact J60 t_w t_statuses hf
def wd_X12_forget (cI cZ : ClassId) (h_t : Nat) (h_t_w : Nat) (h_t_isKept : Nat) (h_t_text : Nat) (h_t_statuses : Nat) (h_t_ways : Nat) (h_t_feels : Nat) (h_t_next : Nat) (h_t_came : Nat) (h_t_deep : Nat) (h_t_sizes : Nat) (h_t_tableOf : Nat) (h_t_usedBy : Nat) (h_t_taken : Nat) (h_t_sixOf : Nat) (t_texted : Int32) (t_above : Int64) (t_below : Int64) (t_at : Int32) (t_start : Int32) (t_number : Int32) (t_went : Int32) (t_h : Int64) (t_w : (Nat → Int32)) (t_statuses : (Nat → Int32)) : va_W := [(h_t, .inr (8, [.ref h_t_w, .ref h_t_isKept, .ref h_t_text, .int t_texted, .long t_above, .long t_below, .ref h_t_statuses, .int t_at, .int t_start, .int t_number, .ref h_t_ways, .int t_went, .ref h_t_feels, .ref h_t_next, .ref h_t_came, .ref h_t_deep, .ref h_t_sizes, .ref h_t_tableOf, .ref h_t_usedBy, .ref h_t_taken, .ref h_t_sixOf, .long t_h])), (h_t_w, .inl (cI, 1251, .inl t_w)), (h_t_statuses, .inl (cI, 3, .inl t_statuses))]
abbrev rm_X12_forget : Room := { frames := 1, cells := 0, slots := 0, locals := 25 }
theorem hv_X12_forget : yX12_forget.cls = RX12 ∧ yX12_forget.cls ≠ "java/lang/invoke/MethodHandle" ∧ yX12_forget.cls ≠ "java/lang/invoke/VarHandle" ∧ (parseMethodDescriptor yX12_forget.desc).map (fun d => d.parameters.length) = some 1 := by decide +kernel
theorem iw_X12_forget_X12 : ∀ w ∈ u_ws RX12 TX12 22, w ∈ wsX12_forget := by decide +kernel
theorem lk_X12_forget_7 : Cond.fieldLink RX12 7 "ClerkChainsModel" "w" "[I" ∈ wsX12_forget := by decide +kernel
theorem lk_X12_forget_136 : Cond.constantLong RX12 136 2 ∈ wsX12_forget := by decide +kernel
set_option maxHeartbeats 4000000 in
set_option maxRecDepth 100000 in
theorem c_X12_forget (l : Launch) (D : va_G) (cI cZ : ClassId) (h_t : Nat) (h_t_w : Nat) (h_t_isKept : Nat) (h_t_text : Nat) (h_t_statuses : Nat) (h_t_ways : Nat) (h_t_feels : Nat) (h_t_next : Nat) (h_t_came : Nat) (h_t_deep : Nat) (h_t_sizes : Nat) (h_t_tableOf : Nat) (h_t_usedBy : Nat) (h_t_taken : Nat) (h_t_sixOf : Nat) (t_texted : Int32) (t_above : Int64) (t_below : Int64) (t_at : Int32) (t_start : Int32) (t_number : Int32) (t_went : Int32) (t_h : Int64) (t_w : (Nat → Int32)) (t_statuses : (Nat → Int32)) (v1 : Int32) (res : Int32 × (Nat → Int32) × (Nat → Int32)) (hf : f_X12_forget t_w t_statuses v1 = some res) : MetG l yX12_forget wsX12_forget rm_X12_forget D cI cZ none [.ref h_t, .int v1] (wd_X12_forget cI cZ h_t h_t_w h_t_isKept h_t_text h_t_statuses h_t_ways h_t_feels h_t_next h_t_came h_t_deep h_t_sizes h_t_tableOf h_t_usedBy h_t_taken h_t_sixOf t_texted t_above t_below t_at t_start t_number t_went t_h t_w t_statuses) (kV res (fun u => some (.int u.1)) (fun u => (wd_X12_forget cI cZ h_t h_t_w h_t_isKept h_t_text h_t_statuses h_t_ways h_t_feels h_t_next h_t_came h_t_deep h_t_sizes h_t_tableOf h_t_usedBy h_t_taken h_t_sixOf t_texted t_above t_below t_at t_start t_number t_went t_h (u.2.1) (u.2.2)))) := by
  refine metG_of (cc := cX12_forget) (maxL := 4) (ret := (some .int)) (own := RX12) (lv0 := [(0, .ref h_t), (1, .int v1)]) (ini := false) (by decide) rfl (Nat.le_of_ble_eq_true rfl) rfl rfl (fun h => by cases h) (fun G X hR => ?_)
  replace hR := rt_int hR
  unfold f_X12_forget at hf
  have J40 : ∀ (t_w : (Nat → Int32)) (t_statuses : (Nat → Int32)) (s0 : Int32), f_X12_forget_40 t_w t_statuses s0 = some res → G 0 0 (wd_X12_forget cI cZ h_t h_t_w h_t_isKept h_t_text h_t_statuses h_t_ways h_t_feels h_t_next h_t_came h_t_deep h_t_sizes h_t_tableOf h_t_usedBy h_t_taken h_t_sixOf t_texted t_above t_below t_at t_start t_number t_went t_h t_w t_statuses) [(0, .ref h_t)] 40 [.int s0] := by
    intro t_w t_statuses s0 hf
    unfold f_X12_forget_40 at hf
    refine g_istore_n (lv' := [(0, .ref h_t), (2, .int s0)]) X dX12_forget_40 rfl (Nat.le_of_ble_eq_true rfl) [1, 0] rfl ?_
    refine g_aload_n X dX12_forget_41 rfl 0 rfl ?_
    refine g_get (C := RX12) (T := TX12) (N := 22) (ci := 8) (v := (.ref h_t_w)) X iw_X12_forget_X12 0 rfl rfl 0 (by decide) lk_X12_forget_7 rfl dX12_forget_42 ?_
    refine g_iload_n X dX12_forget_45 rfl 1 rfl ?_
    obtain ⟨hb_1, hf⟩ := chk_out hf
    refine g_iald X 1 rfl hb_1 dX12_forget_46 ?_
    obtain ⟨v3_2, ev3_2, hf⟩ := bnd_out hf
    refine g_nmI X ev3_2 ?_
    refine g_istore_n (lv' := [(0, .ref h_t), (2, .int s0), (3, .int v3_2)]) X dX12_forget_47 rfl (Nat.le_of_ble_eq_true rfl) [1, 2, 0] rfl ?_
    refine g_aload_n X dX12_forget_48 rfl 0 rfl ?_
    refine g_get (C := RX12) (T := TX12) (N := 22) (ci := 8) (v := (.ref h_t_w)) X iw_X12_forget_X12 0 rfl rfl 0 (by decide) lk_X12_forget_7 rfl dX12_forget_49 ?_
    refine g_iload_n X dX12_forget_52 rfl 1 rfl ?_
    refine g_iconst (v := 0) X dX12_forget_53 (by decide) ?_
    obtain ⟨hb_3, hf⟩ := chk_out hf
    obtain ⟨t_w_4, et_w_4, hf⟩ := bnd_out hf
    refine g_iast (ws' := (wd_X12_forget cI cZ h_t h_t_w h_t_isKept h_t_text h_t_statuses h_t_ways h_t_feels h_t_next h_t_came h_t_deep h_t_sizes h_t_tableOf h_t_usedBy h_t_taken h_t_sixOf t_texted t_above t_below t_at t_start t_number t_went t_h t_w_4 t_statuses)) X 1 rfl hb_3 et_w_4 dX12_forget_54 rfl ?_
    refine g_iload_n X dX12_forget_55 rfl 2 rfl ?_
    exact hR _ _ _ _ dX12_forget_56 (kV_in (u := (v3_2, t_w_4, t_statuses)) hf)
  refine g_iload_n X dX12_forget_0 rfl 1 rfl ?_
  refine g_i2l X dX12_forget_1 ?_
  refine g_lconst (v := 0) X dX12_forget_2 (by decide) ?_
  refine g_ldc2 (v := 2) X dX12_forget_3 lk_X12_forget_136 ?_
  obtain ⟨r_5, hk_6, hf⟩ := ob1_out hf
  refine g_cSR (st := []) (st1 := [.int r_5]) X (c_X12_in l D cI cZ (v1.toInt64) 0 2 _ hk_6) (Or.inl rfl) 3 gX12_forget_X12_in rfl hs_X12_in ⟨Nat.le_of_ble_eq_true rfl, Nat.le_of_ble_eq_true rfl⟩ rfl rfl (Nat.le_of_ble_eq_true rfl) ⟨rfl, rfl⟩ (Nat.zero_le _) (Nat.zero_le _) dX12_forget_6 [] rfl rfl rfl ?_
  refine g_if_ne (tgt := 19) X dX12_forget_9 (by decide) (fun hc_7 => ?_) (fun hc_7 => ?_)
  · replace hf := ite_f hc_7 hf
    refine g_iload_n X dX12_forget_19 rfl 1 rfl ?_
    refine g_if_ne (tgt := 28) X dX12_forget_20 (by decide) (fun hc_8 => ?_) (fun hc_8 => ?_)
    · replace hf := ite_f hc_8 hf
      refine g_iload_n X dX12_forget_28 rfl 1 rfl ?_
      refine g_iconst (v := 1) X dX12_forget_29 (by decide) ?_
      refine g_icmp_ne (tgt := 38) X dX12_forget_30 (by decide) (fun hc_9 => ?_) (fun hc_9 => ?_)
      · replace hf := ite_f hc_9 hf
        refine g_bipush (v := 93) X dX12_forget_38 (by decide) ?_
        refine g_lv X (lv' := [(0, .ref h_t)]) [0] rfl ?_
        exact J40 t_w t_statuses 93 hf
      · replace hf := ite_t hc_9 hf
        refine g_bipush (v := 68) X dX12_forget_33 (by decide) ?_
        refine g_goto (tgt := 40) X dX12_forget_35 (by decide) ?_
        refine g_lv X (lv' := [(0, .ref h_t)]) [0] rfl ?_
        exact J40 t_w t_statuses 68 hf
    · replace hf := ite_t hc_8 hf
      refine g_bipush (v := 47) X dX12_forget_23 (by decide) ?_
      refine g_goto (tgt := 40) X dX12_forget_25 (by decide) ?_
      refine g_lv X (lv' := [(0, .ref h_t)]) [0] rfl ?_
      exact J40 t_w t_statuses 47 hf
  · replace hf := ite_t hc_7 hf
    refine g_aload_n X dX12_forget_12 rfl 0 rfl ?_
    refine g_bipush (v := (-2)) X dX12_forget_13 (by decide) ?_
    obtain ⟨r_10, t_statuses_11, hk_12, hf⟩ := ob2_out hf
    refine g_cVW (st := []) (st1 := [.int r_10]) (C := RX12) (ci := 8) (q0 := 0) (ws' := (wd_X12_forget cI cZ h_t h_t_w h_t_isKept h_t_text h_t_statuses h_t_ways h_t_feels h_t_next h_t_came h_t_deep h_t_sizes h_t_tableOf h_t_usedBy h_t_taken h_t_sixOf t_texted t_above t_below t_at t_start t_number t_went t_h t_w t_statuses_11)) X (c_X12_bad l D cI cZ h_t h_t_w h_t_isKept h_t_text h_t_statuses h_t_ways h_t_feels h_t_next h_t_came h_t_deep h_t_sizes h_t_tableOf h_t_usedBy h_t_taken h_t_sixOf t_texted t_above t_below t_at t_start t_number t_went t_h t_statuses (-2) _ hk_12) (Or.inl rfl) 1 gX12_forget_X12_bad rfl hv_X12_bad ⟨Nat.le_of_ble_eq_true rfl, Nat.le_of_ble_eq_true rfl⟩ rfl rfl (Nat.le_of_ble_eq_true rfl) ⟨rfl, rfl⟩ (Nat.zero_le _) (Nat.zero_le _) rfl rfl rfl dX12_forget_15 [0, 2] rfl rfl [1] rfl rfl (by decide) [1, 0, 2] rfl rfl rfl ?_
    exact hR _ _ _ _ dX12_forget_18 (kV_in (u := (r_10, t_w, t_statuses_11)) hf)
def wd_X12_kindsOf (cI cZ : ClassId) (h_t : Nat) (h_t_w : Nat) (h_t_isKept : Nat) (h_t_text : Nat) (h_t_statuses : Nat) (h_t_ways : Nat) (h_t_feels : Nat) (h_t_next : Nat) (h_t_came : Nat) (h_t_deep : Nat) (h_t_sizes : Nat) (h_t_tableOf : Nat) (h_t_usedBy : Nat) (h_t_taken : Nat) (h_t_sixOf : Nat) (t_texted : Int32) (t_above : Int64) (t_below : Int64) (t_at : Int32) (t_start : Int32) (t_number : Int32) (t_went : Int32) (t_h : Int64) (t_w : (Nat → Int32)) : va_W := [(h_t, .inr (8, [.ref h_t_w, .ref h_t_isKept, .ref h_t_text, .int t_texted, .long t_above, .long t_below, .ref h_t_statuses, .int t_at, .int t_start, .int t_number, .ref h_t_ways, .int t_went, .ref h_t_feels, .ref h_t_next, .ref h_t_came, .ref h_t_deep, .ref h_t_sizes, .ref h_t_tableOf, .ref h_t_usedBy, .ref h_t_taken, .ref h_t_sixOf, .long t_h])), (h_t_w, .inl (cI, 1251, .inl t_w))]
abbrev rm_X12_kindsOf : Room := { frames := 2, cells := 0, slots := 0, locals := 44 }
theorem hv_X12_kindsOf : yX12_kindsOf.cls = RX12 ∧ yX12_kindsOf.cls ≠ "java/lang/invoke/MethodHandle" ∧ yX12_kindsOf.cls ≠ "java/lang/invoke/VarHandle" ∧ (parseMethodDescriptor yX12_kindsOf.desc).map (fun d => d.parameters.length) = some 1 := by decide +kernel
theorem iw_X12_kindsOf_X12 : ∀ w ∈ u_ws RX12 TX12 22, w ∈ wsX12_kindsOf := by decide +kernel
theorem lk_X12_kindsOf_7 : Cond.fieldLink RX12 7 "ClerkChainsModel" "w" "[I" ∈ wsX12_kindsOf := by decide +kernel
set_option maxHeartbeats 4000000 in
set_option maxRecDepth 100000 in
theorem c_X12_kindsOf (l : Launch) (D : va_G) (cI cZ : ClassId) (h_t : Nat) (h_t_w : Nat) (h_t_isKept : Nat) (h_t_text : Nat) (h_t_statuses : Nat) (h_t_ways : Nat) (h_t_feels : Nat) (h_t_next : Nat) (h_t_came : Nat) (h_t_deep : Nat) (h_t_sizes : Nat) (h_t_tableOf : Nat) (h_t_usedBy : Nat) (h_t_taken : Nat) (h_t_sixOf : Nat) (t_texted : Int32) (t_above : Int64) (t_below : Int64) (t_at : Int32) (t_start : Int32) (t_number : Int32) (t_went : Int32) (t_h : Int64) (t_w : (Nat → Int32)) (v1 : Int32) (res : Int32) (hf : f_X12_kindsOf t_w v1 = some res) : MetR l yX12_kindsOf wsX12_kindsOf rm_X12_kindsOf D cI cZ none [.ref h_t, .int v1] (wd_X12_kindsOf cI cZ h_t h_t_w h_t_isKept h_t_text h_t_statuses h_t_ways h_t_feels h_t_next h_t_came h_t_deep h_t_sizes h_t_tableOf h_t_usedBy h_t_taken h_t_sixOf t_texted t_above t_below t_at t_start t_number t_went t_h t_w) (kR res (fun u => some (.int u))) := by
  refine metR_of (cc := cX12_kindsOf) (maxL := 7) (ret := (some .int)) (own := RX12) (lv0 := [(0, .ref h_t), (1, .int v1)]) (by decide) rfl (Nat.le_of_ble_eq_true rfl) rfl rfl (fun G X hR => ?_)
  replace hR := rt_int hR
  unfold f_X12_kindsOf at hf
  have J92 : ∀ (k4 : Int32 → Int32 → Int32 → Option (Int32)) (hk4 : ∀ (v1 : Int32) (v2 : Int32) (v3 : Int32), k4 v1 v2 v3 = some res → G 0 0 (wd_X12_kindsOf cI cZ h_t h_t_w h_t_isKept h_t_text h_t_statuses h_t_ways h_t_feels h_t_next h_t_came h_t_deep h_t_sizes h_t_tableOf h_t_usedBy h_t_taken h_t_sixOf t_texted t_above t_below t_at t_start t_number t_went t_h t_w) [(0, .ref h_t), (1, .int v1), (2, .int v2), (3, .int v3)] 4 []) (k16 : Int32 → Int32 → Int32 → Int32 → Int32 → Option (Int32)) (hk16 : ∀ (v1 : Int32) (v2 : Int32) (v3 : Int32) (v4 : Int32) (v5 : Int32), k16 v1 v2 v3 v4 v5 = some res → G 0 0 (wd_X12_kindsOf cI cZ h_t h_t_w h_t_isKept h_t_text h_t_statuses h_t_ways h_t_feels h_t_next h_t_came h_t_deep h_t_sizes h_t_tableOf h_t_usedBy h_t_taken h_t_sixOf t_texted t_above t_below t_at t_start t_number t_went t_h t_w) [(0, .ref h_t), (1, .int v1), (2, .int v2), (3, .int v3), (4, .int v4), (5, .int v5)] 16 []) (v1 : Int32) (v2 : Int32) (v3 : Int32) (v5 : Int32) (s0 : Int32), f_X12_kindsOf_92 t_w k4 k16 v1 v2 v3 v5 s0 = some res → G 0 0 (wd_X12_kindsOf cI cZ h_t h_t_w h_t_isKept h_t_text h_t_statuses h_t_ways h_t_feels h_t_next h_t_came h_t_deep h_t_sizes h_t_tableOf h_t_usedBy h_t_taken h_t_sixOf t_texted t_above t_below t_at t_start t_number t_went t_h t_w) [(0, .ref h_t), (1, .int v1), (2, .int v2), (3, .int v3), (5, .int v5)] 92 [.int s0] := by
    intro k4 hk4 k16 hk16 v1 v2 v3 v5 s0 hf
    unfold f_X12_kindsOf_92 at hf
    refine g_istore (lv' := [(0, .ref h_t), (1, .int v1), (2, .int v2), (3, .int v3), (4, .int s0), (5, .int v5)]) X dX12_kindsOf_92 (Nat.le_of_ble_eq_true rfl) [1, 2, 3, 4, 0, 5] rfl ?_
    obtain ⟨v5_14, ev5_14, hf⟩ := bnd_out hf
    refine g_iinc (v := v5_14) (lv' := [(0, .ref h_t), (1, .int v1), (2, .int v2), (3, .int v3), (4, .int s0), (5, .int v5_14)]) X dX12_kindsOf_94 5 rfl (by rw [ev5_14]; rfl) (Nat.le_of_ble_eq_true rfl) [1, 2, 3, 4, 5, 0] rfl ?_
    refine g_goto (tgt := 16) X dX12_kindsOf_97 (by decide) ?_
    exact hk16 v1 v2 v3 s0 v5_14 hf
  have J87 : ∀ (k4 : Int32 → Int32 → Int32 → Option (Int32)) (hk4 : ∀ (v1 : Int32) (v2 : Int32) (v3 : Int32), k4 v1 v2 v3 = some res → G 0 0 (wd_X12_kindsOf cI cZ h_t h_t_w h_t_isKept h_t_text h_t_statuses h_t_ways h_t_feels h_t_next h_t_came h_t_deep h_t_sizes h_t_tableOf h_t_usedBy h_t_taken h_t_sixOf t_texted t_above t_below t_at t_start t_number t_went t_h t_w) [(0, .ref h_t), (1, .int v1), (2, .int v2), (3, .int v3)] 4 []) (k16 : Int32 → Int32 → Int32 → Int32 → Int32 → Option (Int32)) (hk16 : ∀ (v1 : Int32) (v2 : Int32) (v3 : Int32) (v4 : Int32) (v5 : Int32), k16 v1 v2 v3 v4 v5 = some res → G 0 0 (wd_X12_kindsOf cI cZ h_t h_t_w h_t_isKept h_t_text h_t_statuses h_t_ways h_t_feels h_t_next h_t_came h_t_deep h_t_sizes h_t_tableOf h_t_usedBy h_t_taken h_t_sixOf t_texted t_above t_below t_at t_start t_number t_went t_h t_w) [(0, .ref h_t), (1, .int v1), (2, .int v2), (3, .int v3), (4, .int v4), (5, .int v5)] 16 []) (v1 : Int32) (v2 : Int32) (v3 : Int32) (v5 : Int32), f_X12_kindsOf_87 t_w k4 k16 v1 v2 v3 v5 = some res → G 0 0 (wd_X12_kindsOf cI cZ h_t h_t_w h_t_isKept h_t_text h_t_statuses h_t_ways h_t_feels h_t_next h_t_came h_t_deep h_t_sizes h_t_tableOf h_t_usedBy h_t_taken h_t_sixOf t_texted t_above t_below t_at t_start t_number t_went t_h t_w) [(0, .ref h_t), (1, .int v1), (2, .int v2), (3, .int v3), (5, .int v5)] 87 [] := by
    intro k4 hk4 k16 hk16 v1 v2 v3 v5 hf
    unfold f_X12_kindsOf_87 at hf
    refine g_iconst (v := 1) X dX12_kindsOf_87 (by decide) ?_
    refine g_goto (tgt := 92) X dX12_kindsOf_88 (by decide) ?_
    exact J92 k4 hk4 k16 hk16 v1 v2 v3 v5 1 hf
  have J91 : ∀ (k4 : Int32 → Int32 → Int32 → Option (Int32)) (hk4 : ∀ (v1 : Int32) (v2 : Int32) (v3 : Int32), k4 v1 v2 v3 = some res → G 0 0 (wd_X12_kindsOf cI cZ h_t h_t_w h_t_isKept h_t_text h_t_statuses h_t_ways h_t_feels h_t_next h_t_came h_t_deep h_t_sizes h_t_tableOf h_t_usedBy h_t_taken h_t_sixOf t_texted t_above t_below t_at t_start t_number t_went t_h t_w) [(0, .ref h_t), (1, .int v1), (2, .int v2), (3, .int v3)] 4 []) (k16 : Int32 → Int32 → Int32 → Int32 → Int32 → Option (Int32)) (hk16 : ∀ (v1 : Int32) (v2 : Int32) (v3 : Int32) (v4 : Int32) (v5 : Int32), k16 v1 v2 v3 v4 v5 = some res → G 0 0 (wd_X12_kindsOf cI cZ h_t h_t_w h_t_isKept h_t_text h_t_statuses h_t_ways h_t_feels h_t_next h_t_came h_t_deep h_t_sizes h_t_tableOf h_t_usedBy h_t_taken h_t_sixOf t_texted t_above t_below t_at t_start t_number t_went t_h t_w) [(0, .ref h_t), (1, .int v1), (2, .int v2), (3, .int v3), (4, .int v4), (5, .int v5)] 16 []) (v1 : Int32) (v2 : Int32) (v3 : Int32) (v5 : Int32), f_X12_kindsOf_91 t_w k4 k16 v1 v2 v3 v5 = some res → G 0 0 (wd_X12_kindsOf cI cZ h_t h_t_w h_t_isKept h_t_text h_t_statuses h_t_ways h_t_feels h_t_next h_t_came h_t_deep h_t_sizes h_t_tableOf h_t_usedBy h_t_taken h_t_sixOf t_texted t_above t_below t_at t_start t_number t_went t_h t_w) [(0, .ref h_t), (1, .int v1), (2, .int v2), (3, .int v3), (5, .int v5)] 91 [] := by
    intro k4 hk4 k16 hk16 v1 v2 v3 v5 hf
    unfold f_X12_kindsOf_91 at hf
    refine g_iconst (v := 0) X dX12_kindsOf_91 (by decide) ?_
    exact J92 k4 hk4 k16 hk16 v1 v2 v3 v5 0 hf
  have J113 : ∀ (k4 : Int32 → Int32 → Int32 → Option (Int32)) (hk4 : ∀ (v1 : Int32) (v2 : Int32) (v3 : Int32), k4 v1 v2 v3 = some res → G 0 0 (wd_X12_kindsOf cI cZ h_t h_t_w h_t_isKept h_t_text h_t_statuses h_t_ways h_t_feels h_t_next h_t_came h_t_deep h_t_sizes h_t_tableOf h_t_usedBy h_t_taken h_t_sixOf t_texted t_above t_below t_at t_start t_number t_went t_h t_w) [(0, .ref h_t), (1, .int v1), (2, .int v2), (3, .int v3)] 4 []) (v1 : Int32) (v3 : Int32) (s0 : Int32) (s1 : Int32), f_X12_kindsOf_113 t_w k4 v1 v3 s0 s1 = some res → G 0 0 (wd_X12_kindsOf cI cZ h_t h_t_w h_t_isKept h_t_text h_t_statuses h_t_ways h_t_feels h_t_next h_t_came h_t_deep h_t_sizes h_t_tableOf h_t_usedBy h_t_taken h_t_sixOf t_texted t_above t_below t_at t_start t_number t_went t_h t_w) [(0, .ref h_t), (1, .int v1), (3, .int v3)] 113 [.int s1, .int s0] := by
    intro k4 hk4 v1 v3 s0 s1 hf
    unfold f_X12_kindsOf_113 at hf
    refine g_ior X dX12_kindsOf_113 ?_
    obtain ⟨v2_16, ev2_16, hf⟩ := bnd_out hf
    refine g_nmI X ev2_16 ?_
    refine g_istore_n (lv' := [(0, .ref h_t), (1, .int v1), (2, .int v2_16), (3, .int v3)]) X dX12_kindsOf_114 rfl (Nat.le_of_ble_eq_true rfl) [1, 2, 0, 3] rfl ?_
    obtain ⟨v3_17, ev3_17, hf⟩ := bnd_out hf
    refine g_iinc (v := v3_17) (lv' := [(0, .ref h_t), (1, .int v1), (2, .int v2_16), (3, .int v3_17)]) X dX12_kindsOf_115 3 rfl (by rw [ev3_17]; rfl) (Nat.le_of_ble_eq_true rfl) [1, 2, 3, 0] rfl ?_
    refine g_goto (tgt := 4) X dX12_kindsOf_118 (by decide) ?_
    exact hk4 v1 v2_16 v3_17 hf
  have J100 : ∀ (k4 : Int32 → Int32 → Int32 → Option (Int32)) (hk4 : ∀ (v1 : Int32) (v2 : Int32) (v3 : Int32), k4 v1 v2 v3 = some res → G 0 0 (wd_X12_kindsOf cI cZ h_t h_t_w h_t_isKept h_t_text h_t_statuses h_t_ways h_t_feels h_t_next h_t_came h_t_deep h_t_sizes h_t_tableOf h_t_usedBy h_t_taken h_t_sixOf t_texted t_above t_below t_at t_start t_number t_went t_h t_w) [(0, .ref h_t), (1, .int v1), (2, .int v2), (3, .int v3)] 4 []) (v1 : Int32) (v2 : Int32) (v3 : Int32) (v4 : Int32), f_X12_kindsOf_100 t_w k4 v1 v2 v3 v4 = some res → G 0 0 (wd_X12_kindsOf cI cZ h_t h_t_w h_t_isKept h_t_text h_t_statuses h_t_ways h_t_feels h_t_next h_t_came h_t_deep h_t_sizes h_t_tableOf h_t_usedBy h_t_taken h_t_sixOf t_texted t_above t_below t_at t_start t_number t_went t_h t_w) [(0, .ref h_t), (1, .int v1), (2, .int v2), (3, .int v3), (4, .int v4)] 100 [] := by
    intro k4 hk4 v1 v2 v3 v4 hf
    unfold f_X12_kindsOf_100 at hf
    refine g_iload_n X dX12_kindsOf_100 rfl 2 rfl ?_
    refine g_iload X dX12_kindsOf_101 4 rfl ?_
    refine g_if_eq (tgt := 112) X dX12_kindsOf_103 (by decide) (fun hc_15 => ?_) (fun hc_15 => ?_)
    · replace hf := ite_t hc_15 hf
      refine g_iconst (v := 0) X dX12_kindsOf_112 (by decide) ?_
      refine g_lv X (lv' := [(0, .ref h_t), (1, .int v1), (3, .int v3)]) [0, 1, 3] rfl ?_
      exact J113 k4 hk4 v1 v3 v2 0 hf
    · replace hf := ite_f hc_15 hf
      refine g_iconst (v := 1) X dX12_kindsOf_106 (by decide) ?_
      refine g_iload_n X dX12_kindsOf_107 rfl 3 rfl ?_
      refine g_ishl X dX12_kindsOf_108 ?_
      refine g_goto (tgt := 113) X dX12_kindsOf_109 (by decide) ?_
      refine g_lv X (lv' := [(0, .ref h_t), (1, .int v1), (3, .int v3)]) [0, 1, 3] rfl ?_
      exact J113 k4 hk4 v1 v3 v2 (1 <<< (v3 &&& 31)) hf
  have J16 : ∀ (k4 : Int32 → Int32 → Int32 → Option (Int32)) (hk4 : ∀ (v1 : Int32) (v2 : Int32) (v3 : Int32), k4 v1 v2 v3 = some res → G 0 0 (wd_X12_kindsOf cI cZ h_t h_t_w h_t_isKept h_t_text h_t_statuses h_t_ways h_t_feels h_t_next h_t_came h_t_deep h_t_sizes h_t_tableOf h_t_usedBy h_t_taken h_t_sixOf t_texted t_above t_below t_at t_start t_number t_went t_h t_w) [(0, .ref h_t), (1, .int v1), (2, .int v2), (3, .int v3)] 4 []) (n : Nat) (v1 : Int32) (v2 : Int32) (v3 : Int32) (v4 : Int32) (v5 : Int32), f_X12_kindsOf_16 t_w k4 n v1 v2 v3 v4 v5 = some res → G 0 0 (wd_X12_kindsOf cI cZ h_t h_t_w h_t_isKept h_t_text h_t_statuses h_t_ways h_t_feels h_t_next h_t_came h_t_deep h_t_sizes h_t_tableOf h_t_usedBy h_t_taken h_t_sixOf t_texted t_above t_below t_at t_start t_number t_went t_h t_w) [(0, .ref h_t), (1, .int v1), (2, .int v2), (3, .int v3), (4, .int v4), (5, .int v5)] 16 [] := by
    intro k4 hk4 n
    induction n with
    | zero => intro v1 v2 v3 v4 v5 hf; rw [f_X12_kindsOf_16] at hf; cases hf
    | succ n ih =>
      intro v1 v2 v3 v4 v5 hf
      rw [f_X12_kindsOf_16] at hf
      refine g_iload X dX12_kindsOf_16 5 rfl ?_
      refine g_aload_n X dX12_kindsOf_18 rfl 0 rfl ?_
      refine g_get (C := RX12) (T := TX12) (N := 22) (ci := 8) (v := (.ref h_t_w)) X iw_X12_kindsOf_X12 0 rfl rfl 0 (by decide) lk_X12_kindsOf_7 rfl dX12_kindsOf_19 ?_
      refine g_bipush (v := 68) X dX12_kindsOf_22 (by decide) ?_
      obtain ⟨hb_2, hf⟩ := chk_out hf
      refine g_iald X 1 rfl hb_2 dX12_kindsOf_24 ?_
      refine g_icmp_ge (tgt := 100) X dX12_kindsOf_25 (by decide) (fun hc_3 => ?_) (fun hc_3 => ?_)
      · replace hf := ite_t hc_3 hf
        refine g_lv X (lv' := [(0, .ref h_t), (1, .int v1), (2, .int v2), (3, .int v3), (4, .int v4)]) [0, 1, 2, 3, 4] rfl ?_
        exact J100 k4 hk4 v1 v2 v3 v4 hf
      · replace hf := ite_f hc_3 hf
        refine g_bipush (v := 69) X dX12_kindsOf_28 (by decide) ?_
        refine g_iconst (v := 4) X dX12_kindsOf_30 (by decide) ?_
        refine g_iload X dX12_kindsOf_31 5 rfl ?_
        refine g_imul X dX12_kindsOf_33 ?_
        refine g_iadd X dX12_kindsOf_34 ?_
        obtain ⟨v6_4, ev6_4, hf⟩ := bnd_out hf
        refine g_nmI X ev6_4 ?_
        refine g_istore (lv' := [(0, .ref h_t), (1, .int v1), (2, .int v2), (3, .int v3), (4, .int v4), (5, .int v5), (6, .int v6_4)]) X dX12_kindsOf_35 (Nat.le_of_ble_eq_true rfl) [1, 2, 3, 4, 5, 6, 0] rfl ?_
        refine g_iload X dX12_kindsOf_37 4 rfl ?_
        refine g_if_eq (tgt := 91) X dX12_kindsOf_39 (by decide) (fun hc_5 => ?_) (fun hc_5 => ?_)
        · replace hf := ite_t hc_5 hf
          refine g_lv X (lv' := [(0, .ref h_t), (1, .int v1), (2, .int v2), (3, .int v3), (5, .int v5)]) [0, 1, 2, 3, 5] rfl ?_
          exact J91 k4 hk4 (f_X12_kindsOf_16 t_w k4 n) ih v1 v2 v3 v5 hf
        · replace hf := ite_f hc_5 hf
          refine g_aload_n X dX12_kindsOf_42 rfl 0 rfl ?_
          refine g_get (C := RX12) (T := TX12) (N := 22) (ci := 8) (v := (.ref h_t_w)) X iw_X12_kindsOf_X12 0 rfl rfl 0 (by decide) lk_X12_kindsOf_7 rfl dX12_kindsOf_43 ?_
          refine g_iload X dX12_kindsOf_46 6 rfl ?_
          obtain ⟨hb_6, hf⟩ := chk_out hf
          refine g_iald X 1 rfl hb_6 dX12_kindsOf_48 ?_
          refine g_iload_n X dX12_kindsOf_49 rfl 1 rfl ?_
          refine g_icmp_ne (tgt := 87) X dX12_kindsOf_50 (by decide) (fun hc_7 => ?_) (fun hc_7 => ?_)
          · replace hf := ite_f hc_7 hf
            refine g_lv X (lv' := [(0, .ref h_t), (1, .int v1), (2, .int v2), (3, .int v3), (5, .int v5)]) [0, 1, 2, 3, 5] rfl ?_
            exact J87 k4 hk4 (f_X12_kindsOf_16 t_w k4 n) ih v1 v2 v3 v5 hf
          · replace hf := ite_t hc_7 hf
            refine g_iload_n X dX12_kindsOf_53 rfl 3 rfl ?_
            refine g_aload_n X dX12_kindsOf_54 rfl 0 rfl ?_
            refine g_get (C := RX12) (T := TX12) (N := 22) (ci := 8) (v := (.ref h_t_w)) X iw_X12_kindsOf_X12 0 rfl rfl 0 (by decide) lk_X12_kindsOf_7 rfl dX12_kindsOf_55 ?_
            refine g_iload X dX12_kindsOf_58 6 rfl ?_
            refine g_iconst (v := 1) X dX12_kindsOf_60 (by decide) ?_
            refine g_iadd X dX12_kindsOf_61 ?_
            obtain ⟨hb_8, hf⟩ := chk_out hf
            refine g_iald X 1 rfl hb_8 dX12_kindsOf_62 ?_
            refine g_aload_n X dX12_kindsOf_63 rfl 0 rfl ?_
            refine g_get (C := RX12) (T := TX12) (N := 22) (ci := 8) (v := (.ref h_t_w)) X iw_X12_kindsOf_X12 0 rfl rfl 0 (by decide) lk_X12_kindsOf_7 rfl dX12_kindsOf_64 ?_
            refine g_iload X dX12_kindsOf_67 6 rfl ?_
            refine g_iconst (v := 2) X dX12_kindsOf_69 (by decide) ?_
            refine g_iadd X dX12_kindsOf_70 ?_
            obtain ⟨hb_9, hf⟩ := chk_out hf
            refine g_iald X 1 rfl hb_9 dX12_kindsOf_71 ?_
            obtain ⟨r_10, hk_11, hf⟩ := ob1_out hf
            refine g_cSR (st := []) (st1 := [.int r_10]) X (c_X12_goesOn l D cI cZ v3 (t_w (v6_4 + 1).toNatClampNeg) (t_w (v6_4 + 2).toNatClampNeg) _ hk_11) (Or.inl rfl) 3 gX12_kindsOf_X12_goesOn rfl hs_X12_goesOn ⟨Nat.le_of_ble_eq_true rfl, Nat.le_of_ble_eq_true rfl⟩ rfl rfl (Nat.le_of_ble_eq_true rfl) ⟨rfl, rfl⟩ (Nat.zero_le _) (Nat.zero_le _) dX12_kindsOf_72 [] rfl rfl rfl ?_
            refine g_aload_n X dX12_kindsOf_75 rfl 0 rfl ?_
            refine g_get (C := RX12) (T := TX12) (N := 22) (ci := 8) (v := (.ref h_t_w)) X iw_X12_kindsOf_X12 0 rfl rfl 0 (by decide) lk_X12_kindsOf_7 rfl dX12_kindsOf_76 ?_
            refine g_iload X dX12_kindsOf_79 6 rfl ?_
            refine g_iconst (v := 3) X dX12_kindsOf_81 (by decide) ?_
            refine g_iadd X dX12_kindsOf_82 ?_
            obtain ⟨hb_12, hf⟩ := chk_out hf
            refine g_iald X 1 rfl hb_12 dX12_kindsOf_83 ?_
            refine g_icmp_ne (tgt := 91) X dX12_kindsOf_84 (by decide) (fun hc_13 => ?_) (fun hc_13 => ?_)
            · replace hf := ite_f hc_13 hf
              refine g_lv X (lv' := [(0, .ref h_t), (1, .int v1), (2, .int v2), (3, .int v3), (5, .int v5)]) [0, 1, 2, 3, 5] rfl ?_
              exact J91 k4 hk4 (f_X12_kindsOf_16 t_w k4 n) ih v1 v2 v3 v5 hf
            · replace hf := ite_t hc_13 hf
              refine g_lv X (lv' := [(0, .ref h_t), (1, .int v1), (2, .int v2), (3, .int v3), (5, .int v5)]) [0, 1, 2, 3, 5] rfl ?_
              exact J87 k4 hk4 (f_X12_kindsOf_16 t_w k4 n) ih v1 v2 v3 v5 hf
  have J4 : ∀ (n : Nat) (v1 : Int32) (v2 : Int32) (v3 : Int32), f_X12_kindsOf_4 t_w n v1 v2 v3 = some res → G 0 0 (wd_X12_kindsOf cI cZ h_t h_t_w h_t_isKept h_t_text h_t_statuses h_t_ways h_t_feels h_t_next h_t_came h_t_deep h_t_sizes h_t_tableOf h_t_usedBy h_t_taken h_t_sixOf t_texted t_above t_below t_at t_start t_number t_went t_h t_w) [(0, .ref h_t), (1, .int v1), (2, .int v2), (3, .int v3)] 4 [] := by
    intro n
    induction n with
    | zero => intro v1 v2 v3 hf; rw [f_X12_kindsOf_4] at hf; cases hf
    | succ n ih =>
      intro v1 v2 v3 hf
      rw [f_X12_kindsOf_4] at hf
      refine g_iload_n X dX12_kindsOf_4 rfl 3 rfl ?_
      refine g_bipush (v := 6) X dX12_kindsOf_5 (by decide) ?_
      refine g_icmp_ge (tgt := 121) X dX12_kindsOf_7 (by decide) (fun hc_1 => ?_) (fun hc_1 => ?_)
      · replace hf := ite_t hc_1 hf
        refine g_iload_n X dX12_kindsOf_121 rfl 2 rfl ?_
        exact hR _ _ _ _ dX12_kindsOf_122 (kR_in (u := v2) hf)
      · replace hf := ite_f hc_1 hf
        refine g_iconst (v := 1) X dX12_kindsOf_10 (by decide) ?_
        refine g_istore (lv' := [(0, .ref h_t), (1, .int v1), (2, .int v2), (3, .int v3), (4, .int 1)]) X dX12_kindsOf_11 (Nat.le_of_ble_eq_true rfl) [1, 2, 3, 4, 0] rfl ?_
        refine g_iconst (v := 0) X dX12_kindsOf_13 (by decide) ?_
        refine g_istore (lv' := [(0, .ref h_t), (1, .int v1), (2, .int v2), (3, .int v3), (4, .int 1), (5, .int 0)]) X dX12_kindsOf_14 (Nat.le_of_ble_eq_true rfl) [1, 2, 3, 4, 5, 0] rfl ?_
        exact J16 (f_X12_kindsOf_4 t_w n) ih FU v1 v2 v3 1 0 hf
  refine g_iconst (v := 0) X dX12_kindsOf_0 (by decide) ?_
  refine g_istore_n (lv' := [(0, .ref h_t), (1, .int v1), (2, .int 0)]) X dX12_kindsOf_1 rfl (Nat.le_of_ble_eq_true rfl) [1, 2, 0] rfl ?_
  refine g_iconst (v := 0) X dX12_kindsOf_2 (by decide) ?_
  refine g_istore_n (lv' := [(0, .ref h_t), (1, .int v1), (2, .int 0), (3, .int 0)]) X dX12_kindsOf_3 rfl (Nat.le_of_ble_eq_true rfl) [1, 2, 3, 0] rfl ?_
  exact J4 FU v1 0 0 hf
def wd_X12_is (cI cZ : ClassId) (h_t : Nat) (h_t_w : Nat) (h_t_isKept : Nat) (h_t_text : Nat) (h_t_statuses : Nat) (h_t_ways : Nat) (h_t_feels : Nat) (h_t_next : Nat) (h_t_came : Nat) (h_t_deep : Nat) (h_t_sizes : Nat) (h_t_tableOf : Nat) (h_t_usedBy : Nat) (h_t_taken : Nat) (h_t_sixOf : Nat) (t_texted : Int32) (t_above : Int64) (t_below : Int64) (t_at : Int32) (t_start : Int32) (t_number : Int32) (t_went : Int32) (t_h : Int64) (t_w : (Nat → Int32)) (t_statuses : (Nat → Int32)) : va_W := [(h_t, .inr (8, [.ref h_t_w, .ref h_t_isKept, .ref h_t_text, .int t_texted, .long t_above, .long t_below, .ref h_t_statuses, .int t_at, .int t_start, .int t_number, .ref h_t_ways, .int t_went, .ref h_t_feels, .ref h_t_next, .ref h_t_came, .ref h_t_deep, .ref h_t_sizes, .ref h_t_tableOf, .ref h_t_usedBy, .ref h_t_taken, .ref h_t_sixOf, .long t_h])), (h_t_w, .inl (cI, 1251, .inl t_w)), (h_t_statuses, .inl (cI, 3, .inl t_statuses))]
abbrev rm_X12_is : Room := { frames := 3, cells := 0, slots := 0, locals := 70 }
theorem hv_X12_is : yX12_is.cls = RX12 ∧ yX12_is.cls ≠ "java/lang/invoke/MethodHandle" ∧ yX12_is.cls ≠ "java/lang/invoke/VarHandle" ∧ (parseMethodDescriptor yX12_is.desc).map (fun d => d.parameters.length) = some 1 := by decide +kernel
set_option maxHeartbeats 4000000 in
set_option maxRecDepth 100000 in
theorem c_X12_is (l : Launch) (D : va_G) (cI cZ : ClassId) (h_t : Nat) (h_t_w : Nat) (h_t_isKept : Nat) (h_t_text : Nat) (h_t_statuses : Nat) (h_t_ways : Nat) (h_t_feels : Nat) (h_t_next : Nat) (h_t_came : Nat) (h_t_deep : Nat) (h_t_sizes : Nat) (h_t_tableOf : Nat) (h_t_usedBy : Nat) (h_t_taken : Nat) (h_t_sixOf : Nat) (t_texted : Int32) (t_above : Int64) (t_below : Int64) (t_at : Int32) (t_start : Int32) (t_number : Int32) (t_went : Int32) (t_h : Int64) (t_w : (Nat → Int32)) (t_statuses : (Nat → Int32)) (v1 : Int32) (res : Int32 × (Nat → Int32)) (hf : f_X12_is t_w t_statuses v1 = some res) : MetG l yX12_is wsX12_is rm_X12_is D cI cZ none [.ref h_t, .int v1] (wd_X12_is cI cZ h_t h_t_w h_t_isKept h_t_text h_t_statuses h_t_ways h_t_feels h_t_next h_t_came h_t_deep h_t_sizes h_t_tableOf h_t_usedBy h_t_taken h_t_sixOf t_texted t_above t_below t_at t_start t_number t_went t_h t_w t_statuses) (kV res (fun u => some (.int u.1)) (fun u => (wd_X12_is cI cZ h_t h_t_w h_t_isKept h_t_text h_t_statuses h_t_ways h_t_feels h_t_next h_t_came h_t_deep h_t_sizes h_t_tableOf h_t_usedBy h_t_taken h_t_sixOf t_texted t_above t_below t_at t_start t_number t_went t_h t_w (u.2)))) := by
  refine metG_of (cc := cX12_is) (maxL := 2) (ret := (some .int)) (own := RX12) (lv0 := [(0, .ref h_t), (1, .int v1)]) (ini := false) (by decide) rfl (Nat.le_of_ble_eq_true rfl) rfl rfl (fun h => by cases h) (fun G X hR => ?_)
  replace hR := rt_int hR
  unfold f_X12_is at hf
  refine g_aload_n X dX12_is_0 rfl 0 rfl ?_
  refine g_iload_n X dX12_is_1 rfl 1 rfl ?_
  obtain ⟨r_1, hk_2, hf⟩ := ob1_out hf
  refine g_cVR (st := []) (st1 := [.int r_1]) (C := RX12) (ci := 8) (q0 := 0) X (c_X12_isClerk l D cI cZ h_t h_t_w h_t_isKept h_t_text h_t_statuses h_t_ways h_t_feels h_t_next h_t_came h_t_deep h_t_sizes h_t_tableOf h_t_usedBy h_t_taken h_t_sixOf t_texted t_above t_below t_at t_start t_number t_went t_h t_w v1 _ hk_2) (Or.inl rfl) 1 gX12_is_X12_isClerk rfl hv_X12_isClerk ⟨Nat.le_of_ble_eq_true rfl, Nat.le_of_ble_eq_true rfl⟩ rfl rfl (Nat.le_of_ble_eq_true rfl) ⟨rfl, rfl⟩ (Nat.zero_le _) (Nat.zero_le _) rfl rfl rfl dX12_is_2 [0, 1] rfl rfl rfl ?_
  refine g_if_eq (tgt := 16) X dX12_is_5 (by decide) (fun hc_3 => ?_) (fun hc_3 => ?_)
  · replace hf := ite_t hc_3 hf
    refine g_aload_n X dX12_is_16 rfl 0 rfl ?_
    refine g_bipush (v := (-2)) X dX12_is_17 (by decide) ?_
    obtain ⟨r_4, t_statuses_5, hk_6, hf⟩ := ob2_out hf
    refine g_cVW (st := []) (st1 := [.int r_4]) (C := RX12) (ci := 8) (q0 := 0) (ws' := (wd_X12_is cI cZ h_t h_t_w h_t_isKept h_t_text h_t_statuses h_t_ways h_t_feels h_t_next h_t_came h_t_deep h_t_sizes h_t_tableOf h_t_usedBy h_t_taken h_t_sixOf t_texted t_above t_below t_at t_start t_number t_went t_h t_w t_statuses_5)) X (c_X12_bad l D cI cZ h_t h_t_w h_t_isKept h_t_text h_t_statuses h_t_ways h_t_feels h_t_next h_t_came h_t_deep h_t_sizes h_t_tableOf h_t_usedBy h_t_taken h_t_sixOf t_texted t_above t_below t_at t_start t_number t_went t_h t_statuses (-2) _ hk_6) (Or.inl rfl) 1 gX12_is_X12_bad rfl hv_X12_bad ⟨Nat.le_of_ble_eq_true rfl, Nat.le_of_ble_eq_true rfl⟩ rfl rfl (Nat.le_of_ble_eq_true rfl) ⟨rfl, rfl⟩ (Nat.zero_le _) (Nat.zero_le _) rfl rfl rfl dX12_is_19 [0, 2] rfl rfl [1] rfl rfl (by decide) [1, 0, 2] rfl rfl rfl ?_
    exact hR _ _ _ _ dX12_is_22 (kV_in (u := (r_4, t_statuses_5)) hf)
  · replace hf := ite_f hc_3 hf
    refine g_aload_n X dX12_is_8 rfl 0 rfl ?_
    refine g_iload_n X dX12_is_9 rfl 1 rfl ?_
    obtain ⟨r_7, hk_8, hf⟩ := ob1_out hf
    refine g_cVR (st := []) (st1 := [.int r_7]) (C := RX12) (ci := 8) (q0 := 0) X (c_X12_kindsOf l D cI cZ h_t h_t_w h_t_isKept h_t_text h_t_statuses h_t_ways h_t_feels h_t_next h_t_came h_t_deep h_t_sizes h_t_tableOf h_t_usedBy h_t_taken h_t_sixOf t_texted t_above t_below t_at t_start t_number t_went t_h t_w v1 _ hk_8) (Or.inl rfl) 1 gX12_is_X12_kindsOf rfl hv_X12_kindsOf ⟨Nat.le_of_ble_eq_true rfl, Nat.le_of_ble_eq_true rfl⟩ rfl rfl (Nat.le_of_ble_eq_true rfl) ⟨rfl, rfl⟩ (Nat.zero_le _) (Nat.zero_le _) rfl rfl rfl dX12_is_10 [0, 1] rfl rfl rfl ?_
    refine g_goto (tgt := 22) X dX12_is_13 (by decide) ?_
    exact hR _ _ _ _ dX12_is_22 (kV_in (u := (r_7, t_statuses)) hf)
def wd_X12_greatest (cI cZ : ClassId) (h_t : Nat) (h_t_w : Nat) (h_t_isKept : Nat) (h_t_text : Nat) (h_t_statuses : Nat) (h_t_ways : Nat) (h_t_feels : Nat) (h_t_next : Nat) (h_t_came : Nat) (h_t_deep : Nat) (h_t_sizes : Nat) (h_t_tableOf : Nat) (h_t_usedBy : Nat) (h_t_taken : Nat) (h_t_sixOf : Nat) (t_texted : Int32) (t_above : Int64) (t_below : Int64) (t_at : Int32) (t_start : Int32) (t_number : Int32) (t_went : Int32) (t_h : Int64) (t_sixOf : (Nat → Int32)) : va_W := [(h_t, .inr (8, [.ref h_t_w, .ref h_t_isKept, .ref h_t_text, .int t_texted, .long t_above, .long t_below, .ref h_t_statuses, .int t_at, .int t_start, .int t_number, .ref h_t_ways, .int t_went, .ref h_t_feels, .ref h_t_next, .ref h_t_came, .ref h_t_deep, .ref h_t_sizes, .ref h_t_tableOf, .ref h_t_usedBy, .ref h_t_taken, .ref h_t_sixOf, .long t_h])), (h_t_sixOf, .inl (cI, 6, .inl t_sixOf))]
abbrev rm_X12_greatest : Room := { frames := 1, cells := 0, slots := 0, locals := 21 }
theorem hv_X12_greatest : yX12_greatest.cls = RX12 ∧ yX12_greatest.cls ≠ "java/lang/invoke/MethodHandle" ∧ yX12_greatest.cls ≠ "java/lang/invoke/VarHandle" ∧ (parseMethodDescriptor yX12_greatest.desc).map (fun d => d.parameters.length) = some 1 := by decide +kernel
theorem iw_X12_greatest_X12 : ∀ w ∈ u_ws RX12 TX12 22, w ∈ wsX12_greatest := by decide +kernel
theorem lk_X12_greatest_57 : Cond.fieldLink RX12 57 "ClerkChainsModel" "sixOf" "[I" ∈ wsX12_greatest := by decide +kernel
set_option maxHeartbeats 4000000 in
set_option maxRecDepth 100000 in
theorem c_X12_greatest (l : Launch) (D : va_G) (cI cZ : ClassId) (h_t : Nat) (h_t_w : Nat) (h_t_isKept : Nat) (h_t_text : Nat) (h_t_statuses : Nat) (h_t_ways : Nat) (h_t_feels : Nat) (h_t_next : Nat) (h_t_came : Nat) (h_t_deep : Nat) (h_t_sizes : Nat) (h_t_tableOf : Nat) (h_t_usedBy : Nat) (h_t_taken : Nat) (h_t_sixOf : Nat) (t_texted : Int32) (t_above : Int64) (t_below : Int64) (t_at : Int32) (t_start : Int32) (t_number : Int32) (t_went : Int32) (t_h : Int64) (t_sixOf : (Nat → Int32)) (v1 : Int32) (res : Int32) (hf : f_X12_greatest t_sixOf v1 = some res) : MetR l yX12_greatest wsX12_greatest rm_X12_greatest D cI cZ none [.ref h_t, .int v1] (wd_X12_greatest cI cZ h_t h_t_w h_t_isKept h_t_text h_t_statuses h_t_ways h_t_feels h_t_next h_t_came h_t_deep h_t_sizes h_t_tableOf h_t_usedBy h_t_taken h_t_sixOf t_texted t_above t_below t_at t_start t_number t_went t_h t_sixOf) (kR res (fun u => some (.int u))) := by
  refine metR_of (cc := cX12_greatest) (maxL := 6) (ret := (some .int)) (own := RX12) (lv0 := [(0, .ref h_t), (1, .int v1)]) (by decide) rfl (Nat.le_of_ble_eq_true rfl) rfl rfl (fun G X hR => ?_)
  replace hR := rt_int hR
  unfold f_X12_greatest at hf
  have J63 : ∀ (k4 : Int32 → Int32 → Int32 → Option (Int32)) (hk4 : ∀ (v1 : Int32) (v2 : Int32) (v3 : Int32), k4 v1 v2 v3 = some res → G 0 0 (wd_X12_greatest cI cZ h_t h_t_w h_t_isKept h_t_text h_t_statuses h_t_ways h_t_feels h_t_next h_t_came h_t_deep h_t_sizes h_t_tableOf h_t_usedBy h_t_taken h_t_sixOf t_texted t_above t_below t_at t_start t_number t_went t_h t_sixOf) [(0, .ref h_t), (1, .int v1), (2, .int v2), (3, .int v3)] 4 []) (k16 : Int32 → Int32 → Int32 → Int32 → Int32 → Option (Int32)) (hk16 : ∀ (v1 : Int32) (v2 : Int32) (v3 : Int32) (v4 : Int32) (v5 : Int32), k16 v1 v2 v3 v4 v5 = some res → G 0 0 (wd_X12_greatest cI cZ h_t h_t_w h_t_isKept h_t_text h_t_statuses h_t_ways h_t_feels h_t_next h_t_came h_t_deep h_t_sizes h_t_tableOf h_t_usedBy h_t_taken h_t_sixOf t_texted t_above t_below t_at t_start t_number t_went t_h t_sixOf) [(0, .ref h_t), (1, .int v1), (2, .int v2), (3, .int v3), (4, .int v4), (5, .int v5)] 16 []) (v1 : Int32) (v2 : Int32) (v3 : Int32) (v5 : Int32) (s0 : Int32) (s1 : Int32), f_X12_greatest_63 t_sixOf k4 k16 v1 v2 v3 v5 s0 s1 = some res → G 0 0 (wd_X12_greatest cI cZ h_t h_t_w h_t_isKept h_t_text h_t_statuses h_t_ways h_t_feels h_t_next h_t_came h_t_deep h_t_sizes h_t_tableOf h_t_usedBy h_t_taken h_t_sixOf t_texted t_above t_below t_at t_start t_number t_went t_h t_sixOf) [(0, .ref h_t), (1, .int v1), (2, .int v2), (3, .int v3), (5, .int v5)] 63 [.int s1, .int s0] := by
    intro k4 hk4 k16 hk16 v1 v2 v3 v5 s0 s1 hf
    unfold f_X12_greatest_63 at hf
    refine g_iadd X dX12_greatest_63 ?_
    obtain ⟨v4_12, ev4_12, hf⟩ := bnd_out hf
    refine g_nmI X ev4_12 ?_
    refine g_istore (lv' := [(0, .ref h_t), (1, .int v1), (2, .int v2), (3, .int v3), (4, .int v4_12), (5, .int v5)]) X dX12_greatest_64 (Nat.le_of_ble_eq_true rfl) [1, 2, 3, 4, 0, 5] rfl ?_
    obtain ⟨v5_13, ev5_13, hf⟩ := bnd_out hf
    refine g_iinc (v := v5_13) (lv' := [(0, .ref h_t), (1, .int v1), (2, .int v2), (3, .int v3), (4, .int v4_12), (5, .int v5_13)]) X dX12_greatest_66 5 rfl (by rw [ev5_13]; rfl) (Nat.le_of_ble_eq_true rfl) [1, 2, 3, 4, 5, 0] rfl ?_
    refine g_goto (tgt := 16) X dX12_greatest_69 (by decide) ?_
    exact hk16 v1 v2 v3 v4_12 v5_13 hf
  have J62 : ∀ (k4 : Int32 → Int32 → Int32 → Option (Int32)) (hk4 : ∀ (v1 : Int32) (v2 : Int32) (v3 : Int32), k4 v1 v2 v3 = some res → G 0 0 (wd_X12_greatest cI cZ h_t h_t_w h_t_isKept h_t_text h_t_statuses h_t_ways h_t_feels h_t_next h_t_came h_t_deep h_t_sizes h_t_tableOf h_t_usedBy h_t_taken h_t_sixOf t_texted t_above t_below t_at t_start t_number t_went t_h t_sixOf) [(0, .ref h_t), (1, .int v1), (2, .int v2), (3, .int v3)] 4 []) (k16 : Int32 → Int32 → Int32 → Int32 → Int32 → Option (Int32)) (hk16 : ∀ (v1 : Int32) (v2 : Int32) (v3 : Int32) (v4 : Int32) (v5 : Int32), k16 v1 v2 v3 v4 v5 = some res → G 0 0 (wd_X12_greatest cI cZ h_t h_t_w h_t_isKept h_t_text h_t_statuses h_t_ways h_t_feels h_t_next h_t_came h_t_deep h_t_sizes h_t_tableOf h_t_usedBy h_t_taken h_t_sixOf t_texted t_above t_below t_at t_start t_number t_went t_h t_sixOf) [(0, .ref h_t), (1, .int v1), (2, .int v2), (3, .int v3), (4, .int v4), (5, .int v5)] 16 []) (v1 : Int32) (v2 : Int32) (v3 : Int32) (v5 : Int32) (s0 : Int32), f_X12_greatest_62 t_sixOf k4 k16 v1 v2 v3 v5 s0 = some res → G 0 0 (wd_X12_greatest cI cZ h_t h_t_w h_t_isKept h_t_text h_t_statuses h_t_ways h_t_feels h_t_next h_t_came h_t_deep h_t_sizes h_t_tableOf h_t_usedBy h_t_taken h_t_sixOf t_texted t_above t_below t_at t_start t_number t_went t_h t_sixOf) [(0, .ref h_t), (1, .int v1), (2, .int v2), (3, .int v3), (5, .int v5)] 62 [.int s0] := by
    intro k4 hk4 k16 hk16 v1 v2 v3 v5 s0 hf
    unfold f_X12_greatest_62 at hf
    refine g_iconst (v := 0) X dX12_greatest_62 (by decide) ?_
    exact J63 k4 hk4 k16 hk16 v1 v2 v3 v5 s0 0 hf
  have J84 : ∀ (k4 : Int32 → Int32 → Int32 → Option (Int32)) (hk4 : ∀ (v1 : Int32) (v2 : Int32) (v3 : Int32), k4 v1 v2 v3 = some res → G 0 0 (wd_X12_greatest cI cZ h_t h_t_w h_t_isKept h_t_text h_t_statuses h_t_ways h_t_feels h_t_next h_t_came h_t_deep h_t_sizes h_t_tableOf h_t_usedBy h_t_taken h_t_sixOf t_texted t_above t_below t_at t_start t_number t_went t_h t_sixOf) [(0, .ref h_t), (1, .int v1), (2, .int v2), (3, .int v3)] 4 []) (v1 : Int32) (v3 : Int32) (s0 : Int32), f_X12_greatest_84 t_sixOf k4 v1 v3 s0 = some res → G 0 0 (wd_X12_greatest cI cZ h_t h_t_w h_t_isKept h_t_text h_t_statuses h_t_ways h_t_feels h_t_next h_t_came h_t_deep h_t_sizes h_t_tableOf h_t_usedBy h_t_taken h_t_sixOf t_texted t_above t_below t_at t_start t_number t_went t_h t_sixOf) [(0, .ref h_t), (1, .int v1), (3, .int v3)] 84 [.int s0] := by
    intro k4 hk4 v1 v3 s0 hf
    unfold f_X12_greatest_84 at hf
    refine g_istore_n (lv' := [(0, .ref h_t), (1, .int v1), (2, .int s0), (3, .int v3)]) X dX12_greatest_84 rfl (Nat.le_of_ble_eq_true rfl) [1, 2, 0, 3] rfl ?_
    obtain ⟨v3_15, ev3_15, hf⟩ := bnd_out hf
    refine g_iinc (v := v3_15) (lv' := [(0, .ref h_t), (1, .int v1), (2, .int s0), (3, .int v3_15)]) X dX12_greatest_85 3 rfl (by rw [ev3_15]; rfl) (Nat.le_of_ble_eq_true rfl) [1, 2, 3, 0] rfl ?_
    refine g_goto (tgt := 4) X dX12_greatest_88 (by decide) ?_
    exact hk4 v1 s0 v3_15 hf
  have J72 : ∀ (k4 : Int32 → Int32 → Int32 → Option (Int32)) (hk4 : ∀ (v1 : Int32) (v2 : Int32) (v3 : Int32), k4 v1 v2 v3 = some res → G 0 0 (wd_X12_greatest cI cZ h_t h_t_w h_t_isKept h_t_text h_t_statuses h_t_ways h_t_feels h_t_next h_t_came h_t_deep h_t_sizes h_t_tableOf h_t_usedBy h_t_taken h_t_sixOf t_texted t_above t_below t_at t_start t_number t_went t_h t_sixOf) [(0, .ref h_t), (1, .int v1), (2, .int v2), (3, .int v3)] 4 []) (v1 : Int32) (v2 : Int32) (v3 : Int32) (v4 : Int32), f_X12_greatest_72 t_sixOf k4 v1 v2 v3 v4 = some res → G 0 0 (wd_X12_greatest cI cZ h_t h_t_w h_t_isKept h_t_text h_t_statuses h_t_ways h_t_feels h_t_next h_t_came h_t_deep h_t_sizes h_t_tableOf h_t_usedBy h_t_taken h_t_sixOf t_texted t_above t_below t_at t_start t_number t_went t_h t_sixOf) [(0, .ref h_t), (1, .int v1), (2, .int v2), (3, .int v3), (4, .int v4)] 72 [] := by
    intro k4 hk4 v1 v2 v3 v4 hf
    unfold f_X12_greatest_72 at hf
    refine g_iload X dX12_greatest_72 4 rfl ?_
    refine g_iload_n X dX12_greatest_74 rfl 2 rfl ?_
    refine g_icmp_le (tgt := 83) X dX12_greatest_75 (by decide) (fun hc_14 => ?_) (fun hc_14 => ?_)
    · replace hf := ite_t hc_14 hf
      refine g_iload_n X dX12_greatest_83 rfl 2 rfl ?_
      refine g_lv X (lv' := [(0, .ref h_t), (1, .int v1), (3, .int v3)]) [0, 1, 3] rfl ?_
      exact J84 k4 hk4 v1 v3 v2 hf
    · replace hf := ite_f hc_14 hf
      refine g_iload X dX12_greatest_78 4 rfl ?_
      refine g_goto (tgt := 84) X dX12_greatest_80 (by decide) ?_
      refine g_lv X (lv' := [(0, .ref h_t), (1, .int v1), (3, .int v3)]) [0, 1, 3] rfl ?_
      exact J84 k4 hk4 v1 v3 v4 hf
  have J16 : ∀ (k4 : Int32 → Int32 → Int32 → Option (Int32)) (hk4 : ∀ (v1 : Int32) (v2 : Int32) (v3 : Int32), k4 v1 v2 v3 = some res → G 0 0 (wd_X12_greatest cI cZ h_t h_t_w h_t_isKept h_t_text h_t_statuses h_t_ways h_t_feels h_t_next h_t_came h_t_deep h_t_sizes h_t_tableOf h_t_usedBy h_t_taken h_t_sixOf t_texted t_above t_below t_at t_start t_number t_went t_h t_sixOf) [(0, .ref h_t), (1, .int v1), (2, .int v2), (3, .int v3)] 4 []) (n : Nat) (v1 : Int32) (v2 : Int32) (v3 : Int32) (v4 : Int32) (v5 : Int32), f_X12_greatest_16 t_sixOf k4 n v1 v2 v3 v4 v5 = some res → G 0 0 (wd_X12_greatest cI cZ h_t h_t_w h_t_isKept h_t_text h_t_statuses h_t_ways h_t_feels h_t_next h_t_came h_t_deep h_t_sizes h_t_tableOf h_t_usedBy h_t_taken h_t_sixOf t_texted t_above t_below t_at t_start t_number t_went t_h t_sixOf) [(0, .ref h_t), (1, .int v1), (2, .int v2), (3, .int v3), (4, .int v4), (5, .int v5)] 16 [] := by
    intro k4 hk4 n
    induction n with
    | zero => intro v1 v2 v3 v4 v5 hf; rw [f_X12_greatest_16] at hf; cases hf
    | succ n ih =>
      intro v1 v2 v3 v4 v5 hf
      rw [f_X12_greatest_16] at hf
      refine g_iload X dX12_greatest_16 5 rfl ?_
      refine g_bipush (v := 6) X dX12_greatest_18 (by decide) ?_
      refine g_icmp_ge (tgt := 72) X dX12_greatest_20 (by decide) (fun hc_2 => ?_) (fun hc_2 => ?_)
      · replace hf := ite_t hc_2 hf
        refine g_lv X (lv' := [(0, .ref h_t), (1, .int v1), (2, .int v2), (3, .int v3), (4, .int v4)]) [0, 1, 2, 3, 4] rfl ?_
        exact J72 k4 hk4 v1 v2 v3 v4 hf
      · replace hf := ite_f hc_2 hf
        refine g_iload X dX12_greatest_23 4 rfl ?_
        refine g_iload_n X dX12_greatest_25 rfl 1 rfl ?_
        refine g_iload_n X dX12_greatest_26 rfl 3 rfl ?_
        obtain ⟨r_3, hk_4, hf⟩ := ob1_out hf
        refine g_cSR (st := [.int v4]) (st1 := [.int r_3, .int v4]) X (c_X12_has l D cI cZ v1 v3 _ hk_4) (Or.inl rfl) 2 gX12_greatest_X12_has rfl hs_X12_has ⟨Nat.le_of_ble_eq_true rfl, Nat.le_of_ble_eq_true rfl⟩ rfl rfl (Nat.le_of_ble_eq_true rfl) ⟨rfl, rfl⟩ (Nat.zero_le _) (Nat.zero_le _) dX12_greatest_27 [] rfl rfl rfl ?_
        refine g_if_eq (tgt := 62) X dX12_greatest_30 (by decide) (fun hc_5 => ?_) (fun hc_5 => ?_)
        · replace hf := ite_t hc_5 hf
          refine g_lv X (lv' := [(0, .ref h_t), (1, .int v1), (2, .int v2), (3, .int v3), (5, .int v5)]) [0, 1, 2, 3, 5] rfl ?_
          exact J62 k4 hk4 (f_X12_greatest_16 t_sixOf k4 n) ih v1 v2 v3 v5 v4 hf
        · replace hf := ite_f hc_5 hf
          refine g_iload_n X dX12_greatest_33 rfl 1 rfl ?_
          refine g_iload X dX12_greatest_34 5 rfl ?_
          obtain ⟨r_6, hk_7, hf⟩ := ob1_out hf
          refine g_cSR (st := [.int v4]) (st1 := [.int r_6, .int v4]) X (c_X12_has l D cI cZ v1 v5 _ hk_7) (Or.inl rfl) 2 gX12_greatest_X12_has rfl hs_X12_has ⟨Nat.le_of_ble_eq_true rfl, Nat.le_of_ble_eq_true rfl⟩ rfl rfl (Nat.le_of_ble_eq_true rfl) ⟨rfl, rfl⟩ (Nat.zero_le _) (Nat.zero_le _) dX12_greatest_36 [] rfl rfl rfl ?_
          refine g_if_eq (tgt := 62) X dX12_greatest_39 (by decide) (fun hc_8 => ?_) (fun hc_8 => ?_)
          · replace hf := ite_t hc_8 hf
            refine g_lv X (lv' := [(0, .ref h_t), (1, .int v1), (2, .int v2), (3, .int v3), (5, .int v5)]) [0, 1, 2, 3, 5] rfl ?_
            exact J62 k4 hk4 (f_X12_greatest_16 t_sixOf k4 n) ih v1 v2 v3 v5 v4 hf
          · replace hf := ite_f hc_8 hf
            refine g_aload_n X dX12_greatest_42 rfl 0 rfl ?_
            refine g_get (C := RX12) (T := TX12) (N := 22) (ci := 8) (v := (.ref h_t_sixOf)) X iw_X12_greatest_X12 0 rfl rfl 20 (by decide) lk_X12_greatest_57 rfl dX12_greatest_43 ?_
            refine g_iload_n X dX12_greatest_46 rfl 3 rfl ?_
            obtain ⟨hb_9, hf⟩ := chk_out hf
            refine g_iald X 1 rfl hb_9 dX12_greatest_47 ?_
            refine g_aload_n X dX12_greatest_48 rfl 0 rfl ?_
            refine g_get (C := RX12) (T := TX12) (N := 22) (ci := 8) (v := (.ref h_t_sixOf)) X iw_X12_greatest_X12 0 rfl rfl 20 (by decide) lk_X12_greatest_57 rfl dX12_greatest_49 ?_
            refine g_iload X dX12_greatest_52 5 rfl ?_
            obtain ⟨hb_10, hf⟩ := chk_out hf
            refine g_iald X 1 rfl hb_10 dX12_greatest_54 ?_
            refine g_icmp_ne (tgt := 62) X dX12_greatest_55 (by decide) (fun hc_11 => ?_) (fun hc_11 => ?_)
            · replace hf := ite_f hc_11 hf
              refine g_lv X (lv' := [(0, .ref h_t), (1, .int v1), (2, .int v2), (3, .int v3), (5, .int v5)]) [0, 1, 2, 3, 5] rfl ?_
              exact J62 k4 hk4 (f_X12_greatest_16 t_sixOf k4 n) ih v1 v2 v3 v5 v4 hf
            · replace hf := ite_t hc_11 hf
              refine g_iconst (v := 1) X dX12_greatest_58 (by decide) ?_
              refine g_goto (tgt := 63) X dX12_greatest_59 (by decide) ?_
              refine g_lv X (lv' := [(0, .ref h_t), (1, .int v1), (2, .int v2), (3, .int v3), (5, .int v5)]) [0, 1, 2, 3, 5] rfl ?_
              exact J63 k4 hk4 (f_X12_greatest_16 t_sixOf k4 n) ih v1 v2 v3 v5 v4 1 hf
  have J4 : ∀ (n : Nat) (v1 : Int32) (v2 : Int32) (v3 : Int32), f_X12_greatest_4 t_sixOf n v1 v2 v3 = some res → G 0 0 (wd_X12_greatest cI cZ h_t h_t_w h_t_isKept h_t_text h_t_statuses h_t_ways h_t_feels h_t_next h_t_came h_t_deep h_t_sizes h_t_tableOf h_t_usedBy h_t_taken h_t_sixOf t_texted t_above t_below t_at t_start t_number t_went t_h t_sixOf) [(0, .ref h_t), (1, .int v1), (2, .int v2), (3, .int v3)] 4 [] := by
    intro n
    induction n with
    | zero => intro v1 v2 v3 hf; rw [f_X12_greatest_4] at hf; cases hf
    | succ n ih =>
      intro v1 v2 v3 hf
      rw [f_X12_greatest_4] at hf
      refine g_iload_n X dX12_greatest_4 rfl 3 rfl ?_
      refine g_bipush (v := 6) X dX12_greatest_5 (by decide) ?_
      refine g_icmp_ge (tgt := 91) X dX12_greatest_7 (by decide) (fun hc_1 => ?_) (fun hc_1 => ?_)
      · replace hf := ite_t hc_1 hf
        refine g_iload_n X dX12_greatest_91 rfl 2 rfl ?_
        exact hR _ _ _ _ dX12_greatest_92 (kR_in (u := v2) hf)
      · replace hf := ite_f hc_1 hf
        refine g_iconst (v := 0) X dX12_greatest_10 (by decide) ?_
        refine g_istore (lv' := [(0, .ref h_t), (1, .int v1), (2, .int v2), (3, .int v3), (4, .int 0)]) X dX12_greatest_11 (Nat.le_of_ble_eq_true rfl) [1, 2, 3, 4, 0] rfl ?_
        refine g_iconst (v := 0) X dX12_greatest_13 (by decide) ?_
        refine g_istore (lv' := [(0, .ref h_t), (1, .int v1), (2, .int v2), (3, .int v3), (4, .int 0), (5, .int 0)]) X dX12_greatest_14 (Nat.le_of_ble_eq_true rfl) [1, 2, 3, 4, 5, 0] rfl ?_
        exact J16 (f_X12_greatest_4 t_sixOf n) ih FU v1 v2 v3 0 0 hf
  refine g_iconst (v := 0) X dX12_greatest_0 (by decide) ?_
  refine g_istore_n (lv' := [(0, .ref h_t), (1, .int v1), (2, .int 0)]) X dX12_greatest_1 rfl (Nat.le_of_ble_eq_true rfl) [1, 2, 0] rfl ?_
  refine g_iconst (v := 0) X dX12_greatest_2 (by decide) ?_
  refine g_istore_n (lv' := [(0, .ref h_t), (1, .int v1), (2, .int 0), (3, .int 0)]) X dX12_greatest_3 rfl (Nat.le_of_ble_eq_true rfl) [1, 2, 3, 0] rfl ?_
  exact J4 FU v1 0 0 hf
def wd_X12_look (cI cZ : ClassId) (h_t : Nat) (h_t_w : Nat) (h_t_isKept : Nat) (h_t_text : Nat) (h_t_statuses : Nat) (h_t_ways : Nat) (h_t_feels : Nat) (h_t_next : Nat) (h_t_came : Nat) (h_t_deep : Nat) (h_t_sizes : Nat) (h_t_tableOf : Nat) (h_t_usedBy : Nat) (h_t_taken : Nat) (h_t_sixOf : Nat) (t_texted : Int32) (t_above : Int64) (t_below : Int64) (t_at : Int32) (t_start : Int32) (t_number : Int32) (t_went : Int32) (t_h : Int64) (t_w : (Nat → Int32)) (t_statuses : (Nat → Int32)) (t_sixOf : (Nat → Int32)) : va_W := [(h_t, .inr (8, [.ref h_t_w, .ref h_t_isKept, .ref h_t_text, .int t_texted, .long t_above, .long t_below, .ref h_t_statuses, .int t_at, .int t_start, .int t_number, .ref h_t_ways, .int t_went, .ref h_t_feels, .ref h_t_next, .ref h_t_came, .ref h_t_deep, .ref h_t_sizes, .ref h_t_tableOf, .ref h_t_usedBy, .ref h_t_taken, .ref h_t_sixOf, .long t_h])), (h_t_w, .inl (cI, 1251, .inl t_w)), (h_t_statuses, .inl (cI, 3, .inl t_statuses)), (h_t_sixOf, .inl (cI, 6, .inl t_sixOf))]
abbrev rm_X12_look : Room := { frames := 3, cells := 0, slots := 0, locals := 70 }
theorem hv_X12_look : yX12_look.cls = RX12 ∧ yX12_look.cls ≠ "java/lang/invoke/MethodHandle" ∧ yX12_look.cls ≠ "java/lang/invoke/VarHandle" ∧ (parseMethodDescriptor yX12_look.desc).map (fun d => d.parameters.length) = some 1 := by decide +kernel
theorem iw_X12_look_X12 : ∀ w ∈ u_ws RX12 TX12 22, w ∈ wsX12_look := by decide +kernel
theorem lk_X12_look_57 : Cond.fieldLink RX12 57 "ClerkChainsModel" "sixOf" "[I" ∈ wsX12_look := by decide +kernel
theorem lk_X12_look_281 : Cond.constant RX12 281 1000000 ∈ wsX12_look := by decide +kernel
set_option maxHeartbeats 4000000 in
set_option maxRecDepth 100000 in
theorem c_X12_look (l : Launch) (D : va_G) (cI cZ : ClassId) (h_t : Nat) (h_t_w : Nat) (h_t_isKept : Nat) (h_t_text : Nat) (h_t_statuses : Nat) (h_t_ways : Nat) (h_t_feels : Nat) (h_t_next : Nat) (h_t_came : Nat) (h_t_deep : Nat) (h_t_sizes : Nat) (h_t_tableOf : Nat) (h_t_usedBy : Nat) (h_t_taken : Nat) (h_t_sixOf : Nat) (t_texted : Int32) (t_above : Int64) (t_below : Int64) (t_at : Int32) (t_start : Int32) (t_number : Int32) (t_went : Int32) (t_h : Int64) (t_w : (Nat → Int32)) (t_statuses : (Nat → Int32)) (t_sixOf : (Nat → Int32)) (v1 : Int32) (res : Int32 × (Nat → Int32) × (Nat → Int32)) (hf : f_X12_look t_w t_statuses t_sixOf v1 = some res) : MetG l yX12_look wsX12_look rm_X12_look D cI cZ none [.ref h_t, .int v1] (wd_X12_look cI cZ h_t h_t_w h_t_isKept h_t_text h_t_statuses h_t_ways h_t_feels h_t_next h_t_came h_t_deep h_t_sizes h_t_tableOf h_t_usedBy h_t_taken h_t_sixOf t_texted t_above t_below t_at t_start t_number t_went t_h t_w t_statuses t_sixOf) (kV res (fun u => some (.int u.1)) (fun u => (wd_X12_look cI cZ h_t h_t_w h_t_isKept h_t_text h_t_statuses h_t_ways h_t_feels h_t_next h_t_came h_t_deep h_t_sizes h_t_tableOf h_t_usedBy h_t_taken h_t_sixOf t_texted t_above t_below t_at t_start t_number t_went t_h t_w (u.2.1) (u.2.2)))) := by
  refine metG_of (cc := cX12_look) (maxL := 7) (ret := (some .int)) (own := RX12) (lv0 := [(0, .ref h_t), (1, .int v1)]) (ini := false) (by decide) rfl (Nat.le_of_ble_eq_true rfl) rfl rfl (fun h => by cases h) (fun G X hR => ?_)
  replace hR := rt_int hR
  unfold f_X12_look at hf
  have J117 : ∀ (k32 : (Nat → Int32) → (Nat → Int32) → Int32 → Int32 → Int32 → Int32 → Option (Int32 × (Nat → Int32) × (Nat → Int32))) (hk32 : ∀ (t_statuses : (Nat → Int32)) (t_sixOf : (Nat → Int32)) (v2 : Int32) (v3 : Int32) (v4 : Int32) (v5 : Int32), k32 t_statuses t_sixOf v2 v3 v4 v5 = some res → G 0 0 (wd_X12_look cI cZ h_t h_t_w h_t_isKept h_t_text h_t_statuses h_t_ways h_t_feels h_t_next h_t_came h_t_deep h_t_sizes h_t_tableOf h_t_usedBy h_t_taken h_t_sixOf t_texted t_above t_below t_at t_start t_number t_went t_h t_w t_statuses t_sixOf) [(0, .ref h_t), (2, .int v2), (3, .int v3), (4, .int v4), (5, .int v5)] 32 []) (t_statuses : (Nat → Int32)) (t_sixOf : (Nat → Int32)) (v2 : Int32) (v3 : Int32) (v5 : Int32) (s0 : Int32), f_X12_look_117 t_w k32 t_statuses t_sixOf v2 v3 v5 s0 = some res → G 0 0 (wd_X12_look cI cZ h_t h_t_w h_t_isKept h_t_text h_t_statuses h_t_ways h_t_feels h_t_next h_t_came h_t_deep h_t_sizes h_t_tableOf h_t_usedBy h_t_taken h_t_sixOf t_texted t_above t_below t_at t_start t_number t_went t_h t_w t_statuses t_sixOf) [(0, .ref h_t), (2, .int v2), (3, .int v3), (5, .int v5)] 117 [.int s0] := by
    intro k32 hk32 t_statuses t_sixOf v2 v3 v5 s0 hf
    unfold f_X12_look_117 at hf
    refine g_istore (lv' := [(0, .ref h_t), (2, .int v2), (3, .int v3), (4, .int s0), (5, .int v5)]) X dX12_look_117 (Nat.le_of_ble_eq_true rfl) [1, 2, 3, 0, 4] rfl ?_
    obtain ⟨v5_15, ev5_15, hf⟩ := bnd_out hf
    refine g_iinc (v := v5_15) (lv' := [(0, .ref h_t), (2, .int v2), (3, .int v3), (4, .int s0), (5, .int v5_15)]) X dX12_look_119 4 rfl (by rw [ev5_15]; rfl) (Nat.le_of_ble_eq_true rfl) [1, 2, 3, 4, 0] rfl ?_
    refine g_goto (tgt := 32) X dX12_look_122 (by decide) ?_
    exact hk32 t_statuses t_sixOf v2 v3 s0 v5_15 hf
  have J102 : ∀ (k32 : (Nat → Int32) → (Nat → Int32) → Int32 → Int32 → Int32 → Int32 → Option (Int32 × (Nat → Int32) × (Nat → Int32))) (hk32 : ∀ (t_statuses : (Nat → Int32)) (t_sixOf : (Nat → Int32)) (v2 : Int32) (v3 : Int32) (v4 : Int32) (v5 : Int32), k32 t_statuses t_sixOf v2 v3 v4 v5 = some res → G 0 0 (wd_X12_look cI cZ h_t h_t_w h_t_isKept h_t_text h_t_statuses h_t_ways h_t_feels h_t_next h_t_came h_t_deep h_t_sizes h_t_tableOf h_t_usedBy h_t_taken h_t_sixOf t_texted t_above t_below t_at t_start t_number t_went t_h t_w t_statuses t_sixOf) [(0, .ref h_t), (2, .int v2), (3, .int v3), (4, .int v4), (5, .int v5)] 32 []) (t_statuses : (Nat → Int32)) (t_sixOf : (Nat → Int32)) (v2 : Int32) (v4 : Int32) (v5 : Int32) (v6 : Int32) (s0 : Int32), f_X12_look_102 t_w k32 t_statuses t_sixOf v2 v4 v5 v6 s0 = some res → G 0 0 (wd_X12_look cI cZ h_t h_t_w h_t_isKept h_t_text h_t_statuses h_t_ways h_t_feels h_t_next h_t_came h_t_deep h_t_sizes h_t_tableOf h_t_usedBy h_t_taken h_t_sixOf t_texted t_above t_below t_at t_start t_number t_went t_h t_w t_statuses t_sixOf) [(0, .ref h_t), (2, .int v2), (4, .int v4), (5, .int v5), (6, .int v6)] 102 [.int s0] := by
    intro k32 hk32 t_statuses t_sixOf v2 v4 v5 v6 s0 hf
    unfold f_X12_look_102 at hf
    refine g_istore_n (lv' := [(0, .ref h_t), (2, .int v2), (3, .int s0), (4, .int v4), (5, .int v5), (6, .int v6)]) X dX12_look_102 rfl (Nat.le_of_ble_eq_true rfl) [1, 2, 0, 3, 4, 5] rfl ?_
    refine g_iload X dX12_look_103 5 rfl ?_
    refine g_iload X dX12_look_105 3 rfl ?_
    refine g_icmp_ge (tgt := 115) X dX12_look_107 (by decide) (fun hc_14 => ?_) (fun hc_14 => ?_)
    · replace hf := ite_t hc_14 hf
      refine g_iload X dX12_look_115 3 rfl ?_
      refine g_lv X (lv' := [(0, .ref h_t), (2, .int v2), (3, .int s0), (5, .int v5)]) [0, 1, 2, 4] rfl ?_
      exact J117 k32 hk32 t_statuses t_sixOf v2 s0 v5 v4 hf
    · replace hf := ite_f hc_14 hf
      refine g_iload X dX12_look_110 5 rfl ?_
      refine g_goto (tgt := 117) X dX12_look_112 (by decide) ?_
      refine g_lv X (lv' := [(0, .ref h_t), (2, .int v2), (3, .int s0), (5, .int v5)]) [0, 1, 2, 4] rfl ?_
      exact J117 k32 hk32 t_statuses t_sixOf v2 s0 v5 v6 hf
  have J82 : ∀ (k32 : (Nat → Int32) → (Nat → Int32) → Int32 → Int32 → Int32 → Int32 → Option (Int32 × (Nat → Int32) × (Nat → Int32))) (hk32 : ∀ (t_statuses : (Nat → Int32)) (t_sixOf : (Nat → Int32)) (v2 : Int32) (v3 : Int32) (v4 : Int32) (v5 : Int32), k32 t_statuses t_sixOf v2 v3 v4 v5 = some res → G 0 0 (wd_X12_look cI cZ h_t h_t_w h_t_isKept h_t_text h_t_statuses h_t_ways h_t_feels h_t_next h_t_came h_t_deep h_t_sizes h_t_tableOf h_t_usedBy h_t_taken h_t_sixOf t_texted t_above t_below t_at t_start t_number t_went t_h t_w t_statuses t_sixOf) [(0, .ref h_t), (2, .int v2), (3, .int v3), (4, .int v4), (5, .int v5)] 32 []) (t_statuses : (Nat → Int32)) (t_sixOf : (Nat → Int32)) (v2 : Int32) (v3 : Int32) (v4 : Int32) (v5 : Int32), f_X12_look_82 t_w k32 t_statuses t_sixOf v2 v3 v4 v5 = some res → G 0 0 (wd_X12_look cI cZ h_t h_t_w h_t_isKept h_t_text h_t_statuses h_t_ways h_t_feels h_t_next h_t_came h_t_deep h_t_sizes h_t_tableOf h_t_usedBy h_t_taken h_t_sixOf t_texted t_above t_below t_at t_start t_number t_went t_h t_w t_statuses t_sixOf) [(0, .ref h_t), (2, .int v2), (3, .int v3), (4, .int v4), (5, .int v5)] 82 [] := by
    intro k32 hk32 t_statuses t_sixOf v2 v3 v4 v5 hf
    unfold f_X12_look_82 at hf
    refine g_aload_n X dX12_look_82 rfl 0 rfl ?_
    refine g_iload_n X dX12_look_83 rfl 1 rfl ?_
    obtain ⟨r_11, hk_12, hf⟩ := ob1_out hf
    refine g_cVR (st := []) (st1 := [.int r_11]) (C := RX12) (ci := 8) (q0 := 0) X (c_X12_greatest l D cI cZ h_t h_t_w h_t_isKept h_t_text h_t_statuses h_t_ways h_t_feels h_t_next h_t_came h_t_deep h_t_sizes h_t_tableOf h_t_usedBy h_t_taken h_t_sixOf t_texted t_above t_below t_at t_start t_number t_went t_h t_sixOf v2 _ hk_12) (Or.inl rfl) 1 gX12_look_X12_greatest rfl hv_X12_greatest ⟨Nat.le_of_ble_eq_true rfl, Nat.le_of_ble_eq_true rfl⟩ rfl rfl (Nat.le_of_ble_eq_true rfl) ⟨rfl, rfl⟩ (Nat.zero_le _) (Nat.zero_le _) rfl rfl rfl dX12_look_84 [0, 3] rfl rfl rfl ?_
    refine g_istore (lv' := [(0, .ref h_t), (2, .int v2), (3, .int v3), (4, .int v4), (5, .int v5), (6, .int r_11)]) X dX12_look_87 (Nat.le_of_ble_eq_true rfl) [1, 2, 3, 4, 5, 0] rfl ?_
    refine g_iload X dX12_look_89 5 rfl ?_
    refine g_iload X dX12_look_91 3 rfl ?_
    refine g_icmp_ge (tgt := 101) X dX12_look_93 (by decide) (fun hc_13 => ?_) (fun hc_13 => ?_)
    · replace hf := ite_t hc_13 hf
      refine g_iload_n X dX12_look_101 rfl 2 rfl ?_
      refine g_lv X (lv' := [(0, .ref h_t), (2, .int v2), (4, .int v4), (5, .int v5), (6, .int r_11)]) [0, 1, 3, 4, 5] rfl ?_
      exact J102 k32 hk32 t_statuses t_sixOf v2 v4 v5 r_11 v3 hf
    · replace hf := ite_f hc_13 hf
      refine g_iload X dX12_look_96 4 rfl ?_
      refine g_goto (tgt := 102) X dX12_look_98 (by decide) ?_
      refine g_lv X (lv' := [(0, .ref h_t), (2, .int v2), (4, .int v4), (5, .int v5), (6, .int r_11)]) [0, 1, 3, 4, 5] rfl ?_
      exact J102 k32 hk32 t_statuses t_sixOf v2 v4 v5 r_11 v5 hf
  have J47 : ∀ (k32 : (Nat → Int32) → (Nat → Int32) → Int32 → Int32 → Int32 → Int32 → Option (Int32 × (Nat → Int32) × (Nat → Int32))) (hk32 : ∀ (t_statuses : (Nat → Int32)) (t_sixOf : (Nat → Int32)) (v2 : Int32) (v3 : Int32) (v4 : Int32) (v5 : Int32), k32 t_statuses t_sixOf v2 v3 v4 v5 = some res → G 0 0 (wd_X12_look cI cZ h_t h_t_w h_t_isKept h_t_text h_t_statuses h_t_ways h_t_feels h_t_next h_t_came h_t_deep h_t_sizes h_t_tableOf h_t_usedBy h_t_taken h_t_sixOf t_texted t_above t_below t_at t_start t_number t_went t_h t_w t_statuses t_sixOf) [(0, .ref h_t), (2, .int v2), (3, .int v3), (4, .int v4), (5, .int v5)] 32 []) (n : Nat) (t_statuses : (Nat → Int32)) (t_sixOf : (Nat → Int32)) (v2 : Int32) (v3 : Int32) (v4 : Int32) (v5 : Int32) (v6 : Int32), f_X12_look_47 t_w k32 n t_statuses t_sixOf v2 v3 v4 v5 v6 = some res → G 0 0 (wd_X12_look cI cZ h_t h_t_w h_t_isKept h_t_text h_t_statuses h_t_ways h_t_feels h_t_next h_t_came h_t_deep h_t_sizes h_t_tableOf h_t_usedBy h_t_taken h_t_sixOf t_texted t_above t_below t_at t_start t_number t_went t_h t_w t_statuses t_sixOf) [(0, .ref h_t), (2, .int v2), (3, .int v3), (4, .int v4), (5, .int v5), (6, .int v6)] 47 [] := by
    intro k32 hk32 n
    induction n with
    | zero => intro t_statuses t_sixOf v2 v3 v4 v5 v6 hf; rw [f_X12_look_47] at hf; cases hf
    | succ n ih =>
      intro t_statuses t_sixOf v2 v3 v4 v5 v6 hf
      rw [f_X12_look_47] at hf
      refine g_iload X dX12_look_47 5 rfl ?_
      refine g_bipush (v := 6) X dX12_look_49 (by decide) ?_
      refine g_icmp_ge (tgt := 82) X dX12_look_51 (by decide) (fun hc_3 => ?_) (fun hc_3 => ?_)
      · replace hf := ite_t hc_3 hf
        refine g_lv X (lv' := [(0, .ref h_t), (2, .int v2), (3, .int v3), (4, .int v4), (5, .int v5)]) [0, 1, 2, 3, 4] rfl ?_
        exact J82 k32 hk32 t_statuses t_sixOf v2 v3 v4 v5 hf
      · replace hf := ite_f hc_3 hf
        refine g_aload_n X dX12_look_54 rfl 0 rfl ?_
        refine g_get (C := RX12) (T := TX12) (N := 22) (ci := 8) (v := (.ref h_t_sixOf)) X iw_X12_look_X12 0 rfl rfl 20 (by decide) lk_X12_look_57 rfl dX12_look_55 ?_
        refine g_iload X dX12_look_58 5 rfl ?_
        refine g_iload X dX12_look_60 5 rfl ?_
        refine g_iload X dX12_look_62 4 rfl ?_
        refine g_bipush (v := 10) X dX12_look_64 (by decide) ?_
        obtain ⟨hz_4, hf⟩ := chz_out hf
        refine g_idiv X dX12_look_66 hz_4 ?_
        refine g_iload X dX12_look_67 4 rfl ?_
        refine g_bipush (v := 10) X dX12_look_69 (by decide) ?_
        obtain ⟨hz_5, hf⟩ := chz_out hf
        refine g_irem X dX12_look_71 hz_5 ?_
        obtain ⟨r_6, hk_7, hf⟩ := ob1_out hf
        refine g_cSR (st := [.int v6, .ref h_t_sixOf]) (st1 := [.int r_6, .int v6, .ref h_t_sixOf]) X (c_X12_goesOn l D cI cZ v6 (v5 / 10) (v5 - v5 / 10 * 10) _ hk_7) (Or.inl rfl) 3 gX12_look_X12_goesOn rfl hs_X12_goesOn ⟨Nat.le_of_ble_eq_true rfl, Nat.le_of_ble_eq_true rfl⟩ rfl rfl (Nat.le_of_ble_eq_true rfl) ⟨rfl, rfl⟩ (Nat.zero_le _) (Nat.zero_le _) dX12_look_72 [] rfl rfl rfl ?_
        obtain ⟨hb_8, hf⟩ := chk_out hf
        obtain ⟨t_sixOf_9, et_sixOf_9, hf⟩ := bnd_out hf
        refine g_iast (ws' := (wd_X12_look cI cZ h_t h_t_w h_t_isKept h_t_text h_t_statuses h_t_ways h_t_feels h_t_next h_t_came h_t_deep h_t_sizes h_t_tableOf h_t_usedBy h_t_taken h_t_sixOf t_texted t_above t_below t_at t_start t_number t_went t_h t_w t_statuses t_sixOf_9)) X 3 rfl hb_8 et_sixOf_9 dX12_look_75 rfl ?_
        obtain ⟨v6_10, ev6_10, hf⟩ := bnd_out hf
        refine g_iinc (v := v6_10) (lv' := [(0, .ref h_t), (2, .int v2), (3, .int v3), (4, .int v4), (5, .int v5), (6, .int v6_10)]) X dX12_look_76 5 rfl (by rw [ev6_10]; rfl) (Nat.le_of_ble_eq_true rfl) [1, 2, 3, 4, 5, 0] rfl ?_
        refine g_goto (tgt := 47) X dX12_look_79 (by decide) ?_
        exact ih t_statuses t_sixOf_9 v2 v3 v4 v5 v6_10 hf
  have J32 : ∀ (n : Nat) (t_statuses : (Nat → Int32)) (t_sixOf : (Nat → Int32)) (v2 : Int32) (v3 : Int32) (v4 : Int32) (v5 : Int32), f_X12_look_32 t_w n t_statuses t_sixOf v2 v3 v4 v5 = some res → G 0 0 (wd_X12_look cI cZ h_t h_t_w h_t_isKept h_t_text h_t_statuses h_t_ways h_t_feels h_t_next h_t_came h_t_deep h_t_sizes h_t_tableOf h_t_usedBy h_t_taken h_t_sixOf t_texted t_above t_below t_at t_start t_number t_went t_h t_w t_statuses t_sixOf) [(0, .ref h_t), (2, .int v2), (3, .int v3), (4, .int v4), (5, .int v5)] 32 [] := by
    intro n
    induction n with
    | zero => intro t_statuses t_sixOf v2 v3 v4 v5 hf; rw [f_X12_look_32] at hf; cases hf
    | succ n ih =>
      intro t_statuses t_sixOf v2 v3 v4 v5 hf
      rw [f_X12_look_32] at hf
      refine g_iload X dX12_look_32 4 rfl ?_
      refine g_sipush (v := 210) X dX12_look_34 (by decide) ?_
      refine g_icmp_ge (tgt := 125) X dX12_look_37 (by decide) (fun hc_1 => ?_) (fun hc_1 => ?_)
      · replace hf := ite_t hc_1 hf
        refine g_iload_n X dX12_look_125 rfl 2 rfl ?_
        exact hR _ _ _ _ dX12_look_126 (kV_in (u := (v3, t_statuses, t_sixOf)) hf)
      · replace hf := ite_f hc_1 hf
        refine g_iload_n X dX12_look_40 rfl 1 rfl ?_
        refine g_if_le (tgt := 125) X dX12_look_41 (by decide) (fun hc_2 => ?_) (fun hc_2 => ?_)
        · replace hf := ite_t hc_2 hf
          refine g_iload_n X dX12_look_125 rfl 2 rfl ?_
          exact hR _ _ _ _ dX12_look_126 (kV_in (u := (v3, t_statuses, t_sixOf)) hf)
        · replace hf := ite_f hc_2 hf
          refine g_iconst (v := 0) X dX12_look_44 (by decide) ?_
          refine g_istore (lv' := [(0, .ref h_t), (2, .int v2), (3, .int v3), (4, .int v4), (5, .int v5), (6, .int 0)]) X dX12_look_45 (Nat.le_of_ble_eq_true rfl) [1, 2, 3, 4, 5, 0] rfl ?_
          exact J47 (f_X12_look_32 t_w n) ih FU t_statuses t_sixOf v2 v3 v4 v5 0 hf
  refine g_aload_n X dX12_look_0 rfl 0 rfl ?_
  refine g_iload_n X dX12_look_1 rfl 1 rfl ?_
  obtain ⟨r_16, hk_17, hf⟩ := ob1_out hf
  refine g_cVR (st := []) (st1 := [.int r_16]) (C := RX12) (ci := 8) (q0 := 0) X (c_X12_isClerk l D cI cZ h_t h_t_w h_t_isKept h_t_text h_t_statuses h_t_ways h_t_feels h_t_next h_t_came h_t_deep h_t_sizes h_t_tableOf h_t_usedBy h_t_taken h_t_sixOf t_texted t_above t_below t_at t_start t_number t_went t_h t_w v1 _ hk_17) (Or.inl rfl) 1 gX12_look_X12_isClerk rfl hv_X12_isClerk ⟨Nat.le_of_ble_eq_true rfl, Nat.le_of_ble_eq_true rfl⟩ rfl rfl (Nat.le_of_ble_eq_true rfl) ⟨rfl, rfl⟩ (Nat.zero_le _) (Nat.zero_le _) rfl rfl rfl dX12_look_2 [0, 1] rfl rfl rfl ?_
  refine g_if_ne (tgt := 15) X dX12_look_5 (by decide) (fun hc_18 => ?_) (fun hc_18 => ?_)
  · replace hf := ite_f hc_18 hf
    refine g_aload_n X dX12_look_15 rfl 0 rfl ?_
    refine g_iload_n X dX12_look_16 rfl 1 rfl ?_
    obtain ⟨r_19, hk_20, hf⟩ := ob1_out hf
    refine g_cVR (st := []) (st1 := [.int r_19]) (C := RX12) (ci := 8) (q0 := 0) X (c_X12_kindsOf l D cI cZ h_t h_t_w h_t_isKept h_t_text h_t_statuses h_t_ways h_t_feels h_t_next h_t_came h_t_deep h_t_sizes h_t_tableOf h_t_usedBy h_t_taken h_t_sixOf t_texted t_above t_below t_at t_start t_number t_went t_h t_w v1 _ hk_20) (Or.inl rfl) 1 gX12_look_X12_kindsOf rfl hv_X12_kindsOf ⟨Nat.le_of_ble_eq_true rfl, Nat.le_of_ble_eq_true rfl⟩ rfl rfl (Nat.le_of_ble_eq_true rfl) ⟨rfl, rfl⟩ (Nat.zero_le _) (Nat.zero_le _) rfl rfl rfl dX12_look_17 [0, 1] rfl rfl rfl ?_
    refine g_istore_n (lv' := [(0, .ref h_t), (1, .int v1), (2, .int r_19)]) X dX12_look_20 rfl (Nat.le_of_ble_eq_true rfl) [1, 2, 0] rfl ?_
    refine g_iconst (v := (-1)) X dX12_look_21 (by decide) ?_
    refine g_istore_n (lv' := [(0, .ref h_t), (1, .int v1), (2, .int r_19), (3, .int (-1))]) X dX12_look_22 rfl (Nat.le_of_ble_eq_true rfl) [1, 2, 3, 0] rfl ?_
    refine g_ldcw (v := 1000000) X dX12_look_23 lk_X12_look_281 ?_
    refine g_istore (lv' := [(0, .ref h_t), (1, .int v1), (2, .int r_19), (3, .int (-1)), (4, .int 1000000)]) X dX12_look_26 (Nat.le_of_ble_eq_true rfl) [1, 2, 3, 4, 0] rfl ?_
    refine g_bipush (v := 10) X dX12_look_28 (by decide) ?_
    refine g_istore (lv' := [(0, .ref h_t), (1, .int v1), (2, .int r_19), (3, .int (-1)), (4, .int 1000000), (5, .int 10)]) X dX12_look_30 (Nat.le_of_ble_eq_true rfl) [1, 2, 3, 4, 5, 0] rfl ?_
    refine g_lv X (lv' := [(0, .ref h_t), (2, .int r_19), (3, .int (-1)), (4, .int 1000000), (5, .int 10)]) [0, 2, 3, 4, 5] rfl ?_
    exact J32 FU t_statuses t_sixOf r_19 (-1) 1000000 10 hf
  · replace hf := ite_t hc_18 hf
    refine g_aload_n X dX12_look_8 rfl 0 rfl ?_
    refine g_bipush (v := (-2)) X dX12_look_9 (by decide) ?_
    obtain ⟨r_21, t_statuses_22, hk_23, hf⟩ := ob2_out hf
    refine g_cVW (st := []) (st1 := [.int r_21]) (C := RX12) (ci := 8) (q0 := 0) (ws' := (wd_X12_look cI cZ h_t h_t_w h_t_isKept h_t_text h_t_statuses h_t_ways h_t_feels h_t_next h_t_came h_t_deep h_t_sizes h_t_tableOf h_t_usedBy h_t_taken h_t_sixOf t_texted t_above t_below t_at t_start t_number t_went t_h t_w t_statuses_22 t_sixOf)) X (c_X12_bad l D cI cZ h_t h_t_w h_t_isKept h_t_text h_t_statuses h_t_ways h_t_feels h_t_next h_t_came h_t_deep h_t_sizes h_t_tableOf h_t_usedBy h_t_taken h_t_sixOf t_texted t_above t_below t_at t_start t_number t_went t_h t_statuses (-2) _ hk_23) (Or.inl rfl) 1 gX12_look_X12_bad rfl hv_X12_bad ⟨Nat.le_of_ble_eq_true rfl, Nat.le_of_ble_eq_true rfl⟩ rfl rfl (Nat.le_of_ble_eq_true rfl) ⟨rfl, rfl⟩ (Nat.zero_le _) (Nat.zero_le _) rfl rfl rfl dX12_look_11 [0, 2] rfl rfl [1, 3] rfl rfl (by decide) [2, 0, 3, 1] rfl rfl rfl ?_
    exact hR _ _ _ _ dX12_look_14 (kV_in (u := (r_21, t_statuses_22, t_sixOf)) hf)
def wd_X12_magnetsOf (cI cZ : ClassId) (h_t : Nat) (h_t_w : Nat) (h_t_isKept : Nat) (h_t_text : Nat) (h_t_statuses : Nat) (h_t_ways : Nat) (h_t_feels : Nat) (h_t_next : Nat) (h_t_came : Nat) (h_t_deep : Nat) (h_t_sizes : Nat) (h_t_tableOf : Nat) (h_t_usedBy : Nat) (h_t_taken : Nat) (h_t_sixOf : Nat) (t_texted : Int32) (t_above : Int64) (t_below : Int64) (t_at : Int32) (t_start : Int32) (t_number : Int32) (t_went : Int32) (t_h : Int64) (t_w : (Nat → Int32)) : va_W := [(h_t, .inr (8, [.ref h_t_w, .ref h_t_isKept, .ref h_t_text, .int t_texted, .long t_above, .long t_below, .ref h_t_statuses, .int t_at, .int t_start, .int t_number, .ref h_t_ways, .int t_went, .ref h_t_feels, .ref h_t_next, .ref h_t_came, .ref h_t_deep, .ref h_t_sizes, .ref h_t_tableOf, .ref h_t_usedBy, .ref h_t_taken, .ref h_t_sixOf, .long t_h])), (h_t_w, .inl (cI, 1251, .inl t_w))]
abbrev rm_X12_magnetsOf : Room := { frames := 3, cells := 0, slots := 0, locals := 65 }
theorem hv_X12_magnetsOf : yX12_magnetsOf.cls = RX12 ∧ yX12_magnetsOf.cls ≠ "java/lang/invoke/MethodHandle" ∧ yX12_magnetsOf.cls ≠ "java/lang/invoke/VarHandle" ∧ (parseMethodDescriptor yX12_magnetsOf.desc).map (fun d => d.parameters.length) = some 1 := by decide +kernel
theorem iw_X12_magnetsOf_X12 : ∀ w ∈ u_ws RX12 TX12 22, w ∈ wsX12_magnetsOf := by decide +kernel
theorem lk_X12_magnetsOf_7 : Cond.fieldLink RX12 7 "ClerkChainsModel" "w" "[I" ∈ wsX12_magnetsOf := by decide +kernel
set_option maxHeartbeats 4000000 in
set_option maxRecDepth 100000 in
theorem c_X12_magnetsOf (l : Launch) (D : va_G) (cI cZ : ClassId) (h_t : Nat) (h_t_w : Nat) (h_t_isKept : Nat) (h_t_text : Nat) (h_t_statuses : Nat) (h_t_ways : Nat) (h_t_feels : Nat) (h_t_next : Nat) (h_t_came : Nat) (h_t_deep : Nat) (h_t_sizes : Nat) (h_t_tableOf : Nat) (h_t_usedBy : Nat) (h_t_taken : Nat) (h_t_sixOf : Nat) (t_texted : Int32) (t_above : Int64) (t_below : Int64) (t_at : Int32) (t_start : Int32) (t_number : Int32) (t_went : Int32) (t_h : Int64) (t_w : (Nat → Int32)) (v1 : Int32) (res : Int32) (hf : f_X12_magnetsOf t_w v1 = some res) : MetR l yX12_magnetsOf wsX12_magnetsOf rm_X12_magnetsOf D cI cZ none [.ref h_t, .int v1] (wd_X12_magnetsOf cI cZ h_t h_t_w h_t_isKept h_t_text h_t_statuses h_t_ways h_t_feels h_t_next h_t_came h_t_deep h_t_sizes h_t_tableOf h_t_usedBy h_t_taken h_t_sixOf t_texted t_above t_below t_at t_start t_number t_went t_h t_w) (kR res (fun u => some (.int u))) := by
  refine metR_of (cc := cX12_magnetsOf) (maxL := 7) (ret := (some .int)) (own := RX12) (lv0 := [(0, .ref h_t), (1, .int v1)]) (by decide) rfl (Nat.le_of_ble_eq_true rfl) rfl rfl (fun G X hR => ?_)
  replace hR := rt_int hR
  unfold f_X12_magnetsOf at hf
  have J101 : ∀ (k4 : Int32 → Int32 → Int32 → Option (Int32)) (hk4 : ∀ (v1 : Int32) (v2 : Int32) (v3 : Int32), k4 v1 v2 v3 = some res → G 0 0 (wd_X12_magnetsOf cI cZ h_t h_t_w h_t_isKept h_t_text h_t_statuses h_t_ways h_t_feels h_t_next h_t_came h_t_deep h_t_sizes h_t_tableOf h_t_usedBy h_t_taken h_t_sixOf t_texted t_above t_below t_at t_start t_number t_went t_h t_w) [(0, .ref h_t), (1, .int v1), (2, .int v2), (3, .int v3)] 4 []) (k16 : Int32 → Int32 → Int32 → Int32 → Int32 → Option (Int32)) (hk16 : ∀ (v1 : Int32) (v2 : Int32) (v3 : Int32) (v4 : Int32) (v5 : Int32), k16 v1 v2 v3 v4 v5 = some res → G 0 0 (wd_X12_magnetsOf cI cZ h_t h_t_w h_t_isKept h_t_text h_t_statuses h_t_ways h_t_feels h_t_next h_t_came h_t_deep h_t_sizes h_t_tableOf h_t_usedBy h_t_taken h_t_sixOf t_texted t_above t_below t_at t_start t_number t_went t_h t_w) [(0, .ref h_t), (1, .int v1), (2, .int v2), (3, .int v3), (4, .int v4), (5, .int v5)] 16 []) (v1 : Int32) (v2 : Int32) (v3 : Int32) (v5 : Int32) (s0 : Int32), f_X12_magnetsOf_101 t_w k4 k16 v1 v2 v3 v5 s0 = some res → G 0 0 (wd_X12_magnetsOf cI cZ h_t h_t_w h_t_isKept h_t_text h_t_statuses h_t_ways h_t_feels h_t_next h_t_came h_t_deep h_t_sizes h_t_tableOf h_t_usedBy h_t_taken h_t_sixOf t_texted t_above t_below t_at t_start t_number t_went t_h t_w) [(0, .ref h_t), (1, .int v1), (2, .int v2), (3, .int v3), (5, .int v5)] 101 [.int s0] := by
    intro k4 hk4 k16 hk16 v1 v2 v3 v5 s0 hf
    unfold f_X12_magnetsOf_101 at hf
    refine g_istore (lv' := [(0, .ref h_t), (1, .int v1), (2, .int v2), (3, .int v3), (4, .int s0), (5, .int v5)]) X dX12_magnetsOf_101 (Nat.le_of_ble_eq_true rfl) [1, 2, 3, 4, 0, 5] rfl ?_
    obtain ⟨v5_15, ev5_15, hf⟩ := bnd_out hf
    refine g_iinc (v := v5_15) (lv' := [(0, .ref h_t), (1, .int v1), (2, .int v2), (3, .int v3), (4, .int s0), (5, .int v5_15)]) X dX12_magnetsOf_103 5 rfl (by rw [ev5_15]; rfl) (Nat.le_of_ble_eq_true rfl) [1, 2, 3, 4, 5, 0] rfl ?_
    refine g_goto (tgt := 16) X dX12_magnetsOf_106 (by decide) ?_
    exact hk16 v1 v2 v3 s0 v5_15 hf
  have J96 : ∀ (k4 : Int32 → Int32 → Int32 → Option (Int32)) (hk4 : ∀ (v1 : Int32) (v2 : Int32) (v3 : Int32), k4 v1 v2 v3 = some res → G 0 0 (wd_X12_magnetsOf cI cZ h_t h_t_w h_t_isKept h_t_text h_t_statuses h_t_ways h_t_feels h_t_next h_t_came h_t_deep h_t_sizes h_t_tableOf h_t_usedBy h_t_taken h_t_sixOf t_texted t_above t_below t_at t_start t_number t_went t_h t_w) [(0, .ref h_t), (1, .int v1), (2, .int v2), (3, .int v3)] 4 []) (k16 : Int32 → Int32 → Int32 → Int32 → Int32 → Option (Int32)) (hk16 : ∀ (v1 : Int32) (v2 : Int32) (v3 : Int32) (v4 : Int32) (v5 : Int32), k16 v1 v2 v3 v4 v5 = some res → G 0 0 (wd_X12_magnetsOf cI cZ h_t h_t_w h_t_isKept h_t_text h_t_statuses h_t_ways h_t_feels h_t_next h_t_came h_t_deep h_t_sizes h_t_tableOf h_t_usedBy h_t_taken h_t_sixOf t_texted t_above t_below t_at t_start t_number t_went t_h t_w) [(0, .ref h_t), (1, .int v1), (2, .int v2), (3, .int v3), (4, .int v4), (5, .int v5)] 16 []) (v1 : Int32) (v2 : Int32) (v3 : Int32) (v5 : Int32), f_X12_magnetsOf_96 t_w k4 k16 v1 v2 v3 v5 = some res → G 0 0 (wd_X12_magnetsOf cI cZ h_t h_t_w h_t_isKept h_t_text h_t_statuses h_t_ways h_t_feels h_t_next h_t_came h_t_deep h_t_sizes h_t_tableOf h_t_usedBy h_t_taken h_t_sixOf t_texted t_above t_below t_at t_start t_number t_went t_h t_w) [(0, .ref h_t), (1, .int v1), (2, .int v2), (3, .int v3), (5, .int v5)] 96 [] := by
    intro k4 hk4 k16 hk16 v1 v2 v3 v5 hf
    unfold f_X12_magnetsOf_96 at hf
    refine g_iconst (v := 1) X dX12_magnetsOf_96 (by decide) ?_
    refine g_goto (tgt := 101) X dX12_magnetsOf_97 (by decide) ?_
    exact J101 k4 hk4 k16 hk16 v1 v2 v3 v5 1 hf
  have J100 : ∀ (k4 : Int32 → Int32 → Int32 → Option (Int32)) (hk4 : ∀ (v1 : Int32) (v2 : Int32) (v3 : Int32), k4 v1 v2 v3 = some res → G 0 0 (wd_X12_magnetsOf cI cZ h_t h_t_w h_t_isKept h_t_text h_t_statuses h_t_ways h_t_feels h_t_next h_t_came h_t_deep h_t_sizes h_t_tableOf h_t_usedBy h_t_taken h_t_sixOf t_texted t_above t_below t_at t_start t_number t_went t_h t_w) [(0, .ref h_t), (1, .int v1), (2, .int v2), (3, .int v3)] 4 []) (k16 : Int32 → Int32 → Int32 → Int32 → Int32 → Option (Int32)) (hk16 : ∀ (v1 : Int32) (v2 : Int32) (v3 : Int32) (v4 : Int32) (v5 : Int32), k16 v1 v2 v3 v4 v5 = some res → G 0 0 (wd_X12_magnetsOf cI cZ h_t h_t_w h_t_isKept h_t_text h_t_statuses h_t_ways h_t_feels h_t_next h_t_came h_t_deep h_t_sizes h_t_tableOf h_t_usedBy h_t_taken h_t_sixOf t_texted t_above t_below t_at t_start t_number t_went t_h t_w) [(0, .ref h_t), (1, .int v1), (2, .int v2), (3, .int v3), (4, .int v4), (5, .int v5)] 16 []) (v1 : Int32) (v2 : Int32) (v3 : Int32) (v5 : Int32), f_X12_magnetsOf_100 t_w k4 k16 v1 v2 v3 v5 = some res → G 0 0 (wd_X12_magnetsOf cI cZ h_t h_t_w h_t_isKept h_t_text h_t_statuses h_t_ways h_t_feels h_t_next h_t_came h_t_deep h_t_sizes h_t_tableOf h_t_usedBy h_t_taken h_t_sixOf t_texted t_above t_below t_at t_start t_number t_went t_h t_w) [(0, .ref h_t), (1, .int v1), (2, .int v2), (3, .int v3), (5, .int v5)] 100 [] := by
    intro k4 hk4 k16 hk16 v1 v2 v3 v5 hf
    unfold f_X12_magnetsOf_100 at hf
    refine g_iconst (v := 0) X dX12_magnetsOf_100 (by decide) ?_
    exact J101 k4 hk4 k16 hk16 v1 v2 v3 v5 0 hf
  have J122 : ∀ (k4 : Int32 → Int32 → Int32 → Option (Int32)) (hk4 : ∀ (v1 : Int32) (v2 : Int32) (v3 : Int32), k4 v1 v2 v3 = some res → G 0 0 (wd_X12_magnetsOf cI cZ h_t h_t_w h_t_isKept h_t_text h_t_statuses h_t_ways h_t_feels h_t_next h_t_came h_t_deep h_t_sizes h_t_tableOf h_t_usedBy h_t_taken h_t_sixOf t_texted t_above t_below t_at t_start t_number t_went t_h t_w) [(0, .ref h_t), (1, .int v1), (2, .int v2), (3, .int v3)] 4 []) (v1 : Int32) (v3 : Int32) (s0 : Int32) (s1 : Int32), f_X12_magnetsOf_122 t_w k4 v1 v3 s0 s1 = some res → G 0 0 (wd_X12_magnetsOf cI cZ h_t h_t_w h_t_isKept h_t_text h_t_statuses h_t_ways h_t_feels h_t_next h_t_came h_t_deep h_t_sizes h_t_tableOf h_t_usedBy h_t_taken h_t_sixOf t_texted t_above t_below t_at t_start t_number t_went t_h t_w) [(0, .ref h_t), (1, .int v1), (3, .int v3)] 122 [.int s1, .int s0] := by
    intro k4 hk4 v1 v3 s0 s1 hf
    unfold f_X12_magnetsOf_122 at hf
    refine g_ior X dX12_magnetsOf_122 ?_
    obtain ⟨v2_17, ev2_17, hf⟩ := bnd_out hf
    refine g_nmI X ev2_17 ?_
    refine g_istore_n (lv' := [(0, .ref h_t), (1, .int v1), (2, .int v2_17), (3, .int v3)]) X dX12_magnetsOf_123 rfl (Nat.le_of_ble_eq_true rfl) [1, 2, 0, 3] rfl ?_
    obtain ⟨v3_18, ev3_18, hf⟩ := bnd_out hf
    refine g_iinc (v := v3_18) (lv' := [(0, .ref h_t), (1, .int v1), (2, .int v2_17), (3, .int v3_18)]) X dX12_magnetsOf_124 3 rfl (by rw [ev3_18]; rfl) (Nat.le_of_ble_eq_true rfl) [1, 2, 3, 0] rfl ?_
    refine g_goto (tgt := 4) X dX12_magnetsOf_127 (by decide) ?_
    exact hk4 v1 v2_17 v3_18 hf
  have J109 : ∀ (k4 : Int32 → Int32 → Int32 → Option (Int32)) (hk4 : ∀ (v1 : Int32) (v2 : Int32) (v3 : Int32), k4 v1 v2 v3 = some res → G 0 0 (wd_X12_magnetsOf cI cZ h_t h_t_w h_t_isKept h_t_text h_t_statuses h_t_ways h_t_feels h_t_next h_t_came h_t_deep h_t_sizes h_t_tableOf h_t_usedBy h_t_taken h_t_sixOf t_texted t_above t_below t_at t_start t_number t_went t_h t_w) [(0, .ref h_t), (1, .int v1), (2, .int v2), (3, .int v3)] 4 []) (v1 : Int32) (v2 : Int32) (v3 : Int32) (v4 : Int32), f_X12_magnetsOf_109 t_w k4 v1 v2 v3 v4 = some res → G 0 0 (wd_X12_magnetsOf cI cZ h_t h_t_w h_t_isKept h_t_text h_t_statuses h_t_ways h_t_feels h_t_next h_t_came h_t_deep h_t_sizes h_t_tableOf h_t_usedBy h_t_taken h_t_sixOf t_texted t_above t_below t_at t_start t_number t_went t_h t_w) [(0, .ref h_t), (1, .int v1), (2, .int v2), (3, .int v3), (4, .int v4)] 109 [] := by
    intro k4 hk4 v1 v2 v3 v4 hf
    unfold f_X12_magnetsOf_109 at hf
    refine g_iload_n X dX12_magnetsOf_109 rfl 2 rfl ?_
    refine g_iload X dX12_magnetsOf_110 4 rfl ?_
    refine g_if_eq (tgt := 121) X dX12_magnetsOf_112 (by decide) (fun hc_16 => ?_) (fun hc_16 => ?_)
    · replace hf := ite_t hc_16 hf
      refine g_iconst (v := 0) X dX12_magnetsOf_121 (by decide) ?_
      refine g_lv X (lv' := [(0, .ref h_t), (1, .int v1), (3, .int v3)]) [0, 1, 3] rfl ?_
      exact J122 k4 hk4 v1 v3 v2 0 hf
    · replace hf := ite_f hc_16 hf
      refine g_iconst (v := 1) X dX12_magnetsOf_115 (by decide) ?_
      refine g_iload_n X dX12_magnetsOf_116 rfl 3 rfl ?_
      refine g_ishl X dX12_magnetsOf_117 ?_
      refine g_goto (tgt := 122) X dX12_magnetsOf_118 (by decide) ?_
      refine g_lv X (lv' := [(0, .ref h_t), (1, .int v1), (3, .int v3)]) [0, 1, 3] rfl ?_
      exact J122 k4 hk4 v1 v3 v2 (1 <<< (v3 &&& 31)) hf
  have J16 : ∀ (k4 : Int32 → Int32 → Int32 → Option (Int32)) (hk4 : ∀ (v1 : Int32) (v2 : Int32) (v3 : Int32), k4 v1 v2 v3 = some res → G 0 0 (wd_X12_magnetsOf cI cZ h_t h_t_w h_t_isKept h_t_text h_t_statuses h_t_ways h_t_feels h_t_next h_t_came h_t_deep h_t_sizes h_t_tableOf h_t_usedBy h_t_taken h_t_sixOf t_texted t_above t_below t_at t_start t_number t_went t_h t_w) [(0, .ref h_t), (1, .int v1), (2, .int v2), (3, .int v3)] 4 []) (n : Nat) (v1 : Int32) (v2 : Int32) (v3 : Int32) (v4 : Int32) (v5 : Int32), f_X12_magnetsOf_16 t_w k4 n v1 v2 v3 v4 v5 = some res → G 0 0 (wd_X12_magnetsOf cI cZ h_t h_t_w h_t_isKept h_t_text h_t_statuses h_t_ways h_t_feels h_t_next h_t_came h_t_deep h_t_sizes h_t_tableOf h_t_usedBy h_t_taken h_t_sixOf t_texted t_above t_below t_at t_start t_number t_went t_h t_w) [(0, .ref h_t), (1, .int v1), (2, .int v2), (3, .int v3), (4, .int v4), (5, .int v5)] 16 [] := by
    intro k4 hk4 n
    induction n with
    | zero => intro v1 v2 v3 v4 v5 hf; rw [f_X12_magnetsOf_16] at hf; cases hf
    | succ n ih =>
      intro v1 v2 v3 v4 v5 hf
      rw [f_X12_magnetsOf_16] at hf
      refine g_iload X dX12_magnetsOf_16 5 rfl ?_
      refine g_aload_n X dX12_magnetsOf_18 rfl 0 rfl ?_
      refine g_get (C := RX12) (T := TX12) (N := 22) (ci := 8) (v := (.ref h_t_w)) X iw_X12_magnetsOf_X12 0 rfl rfl 0 (by decide) lk_X12_magnetsOf_7 rfl dX12_magnetsOf_19 ?_
      refine g_bipush (v := 93) X dX12_magnetsOf_22 (by decide) ?_
      obtain ⟨hb_2, hf⟩ := chk_out hf
      refine g_iald X 1 rfl hb_2 dX12_magnetsOf_24 ?_
      refine g_icmp_ge (tgt := 109) X dX12_magnetsOf_25 (by decide) (fun hc_3 => ?_) (fun hc_3 => ?_)
      · replace hf := ite_t hc_3 hf
        refine g_lv X (lv' := [(0, .ref h_t), (1, .int v1), (2, .int v2), (3, .int v3), (4, .int v4)]) [0, 1, 2, 3, 4] rfl ?_
        exact J109 k4 hk4 v1 v2 v3 v4 hf
      · replace hf := ite_f hc_3 hf
        refine g_bipush (v := 94) X dX12_magnetsOf_28 (by decide) ?_
        refine g_iconst (v := 5) X dX12_magnetsOf_30 (by decide) ?_
        refine g_iload X dX12_magnetsOf_31 5 rfl ?_
        refine g_imul X dX12_magnetsOf_33 ?_
        refine g_iadd X dX12_magnetsOf_34 ?_
        obtain ⟨v6_4, ev6_4, hf⟩ := bnd_out hf
        refine g_nmI X ev6_4 ?_
        refine g_istore (lv' := [(0, .ref h_t), (1, .int v1), (2, .int v2), (3, .int v3), (4, .int v4), (5, .int v5), (6, .int v6_4)]) X dX12_magnetsOf_35 (Nat.le_of_ble_eq_true rfl) [1, 2, 3, 4, 5, 6, 0] rfl ?_
        refine g_iload X dX12_magnetsOf_37 4 rfl ?_
        refine g_if_eq (tgt := 100) X dX12_magnetsOf_39 (by decide) (fun hc_5 => ?_) (fun hc_5 => ?_)
        · replace hf := ite_t hc_5 hf
          refine g_lv X (lv' := [(0, .ref h_t), (1, .int v1), (2, .int v2), (3, .int v3), (5, .int v5)]) [0, 1, 2, 3, 5] rfl ?_
          exact J100 k4 hk4 (f_X12_magnetsOf_16 t_w k4 n) ih v1 v2 v3 v5 hf
        · replace hf := ite_f hc_5 hf
          refine g_aload_n X dX12_magnetsOf_42 rfl 0 rfl ?_
          refine g_get (C := RX12) (T := TX12) (N := 22) (ci := 8) (v := (.ref h_t_w)) X iw_X12_magnetsOf_X12 0 rfl rfl 0 (by decide) lk_X12_magnetsOf_7 rfl dX12_magnetsOf_43 ?_
          refine g_iload X dX12_magnetsOf_46 6 rfl ?_
          obtain ⟨hb_6, hf⟩ := chk_out hf
          refine g_iald X 1 rfl hb_6 dX12_magnetsOf_48 ?_
          refine g_iload_n X dX12_magnetsOf_49 rfl 1 rfl ?_
          refine g_icmp_ne (tgt := 96) X dX12_magnetsOf_50 (by decide) (fun hc_7 => ?_) (fun hc_7 => ?_)
          · replace hf := ite_f hc_7 hf
            refine g_lv X (lv' := [(0, .ref h_t), (1, .int v1), (2, .int v2), (3, .int v3), (5, .int v5)]) [0, 1, 2, 3, 5] rfl ?_
            exact J96 k4 hk4 (f_X12_magnetsOf_16 t_w k4 n) ih v1 v2 v3 v5 hf
          · replace hf := ite_t hc_7 hf
            refine g_iload_n X dX12_magnetsOf_53 rfl 3 rfl ?_
            refine g_aload_n X dX12_magnetsOf_54 rfl 0 rfl ?_
            refine g_get (C := RX12) (T := TX12) (N := 22) (ci := 8) (v := (.ref h_t_w)) X iw_X12_magnetsOf_X12 0 rfl rfl 0 (by decide) lk_X12_magnetsOf_7 rfl dX12_magnetsOf_55 ?_
            refine g_iload X dX12_magnetsOf_58 6 rfl ?_
            refine g_iconst (v := 1) X dX12_magnetsOf_60 (by decide) ?_
            refine g_iadd X dX12_magnetsOf_61 ?_
            obtain ⟨hb_8, hf⟩ := chk_out hf
            refine g_iald X 1 rfl hb_8 dX12_magnetsOf_62 ?_
            refine g_aload_n X dX12_magnetsOf_63 rfl 0 rfl ?_
            refine g_get (C := RX12) (T := TX12) (N := 22) (ci := 8) (v := (.ref h_t_w)) X iw_X12_magnetsOf_X12 0 rfl rfl 0 (by decide) lk_X12_magnetsOf_7 rfl dX12_magnetsOf_64 ?_
            refine g_iload X dX12_magnetsOf_67 6 rfl ?_
            refine g_iconst (v := 2) X dX12_magnetsOf_69 (by decide) ?_
            refine g_iadd X dX12_magnetsOf_70 ?_
            obtain ⟨hb_9, hf⟩ := chk_out hf
            refine g_iald X 1 rfl hb_9 dX12_magnetsOf_71 ?_
            refine g_aload_n X dX12_magnetsOf_72 rfl 0 rfl ?_
            refine g_get (C := RX12) (T := TX12) (N := 22) (ci := 8) (v := (.ref h_t_w)) X iw_X12_magnetsOf_X12 0 rfl rfl 0 (by decide) lk_X12_magnetsOf_7 rfl dX12_magnetsOf_73 ?_
            refine g_iload X dX12_magnetsOf_76 6 rfl ?_
            refine g_iconst (v := 3) X dX12_magnetsOf_78 (by decide) ?_
            refine g_iadd X dX12_magnetsOf_79 ?_
            obtain ⟨hb_10, hf⟩ := chk_out hf
            refine g_iald X 1 rfl hb_10 dX12_magnetsOf_80 ?_
            obtain ⟨r_11, hk_12, hf⟩ := ob1_out hf
            refine g_cSR (st := []) (st1 := [.int r_11]) X (c_X12_pullOf l D cI cZ v3 (t_w (v6_4 + 1).toNatClampNeg) (t_w (v6_4 + 2).toNatClampNeg) (t_w (v6_4 + 3).toNatClampNeg) _ hk_12) (Or.inl rfl) 4 gX12_magnetsOf_X12_pullOf rfl hs_X12_pullOf ⟨Nat.le_of_ble_eq_true rfl, Nat.le_of_ble_eq_true rfl⟩ rfl rfl (Nat.le_of_ble_eq_true rfl) ⟨rfl, rfl⟩ (Nat.zero_le _) (Nat.zero_le _) dX12_magnetsOf_81 [] rfl rfl rfl ?_
            refine g_aload_n X dX12_magnetsOf_84 rfl 0 rfl ?_
            refine g_get (C := RX12) (T := TX12) (N := 22) (ci := 8) (v := (.ref h_t_w)) X iw_X12_magnetsOf_X12 0 rfl rfl 0 (by decide) lk_X12_magnetsOf_7 rfl dX12_magnetsOf_85 ?_
            refine g_iload X dX12_magnetsOf_88 6 rfl ?_
            refine g_iconst (v := 4) X dX12_magnetsOf_90 (by decide) ?_
            refine g_iadd X dX12_magnetsOf_91 ?_
            obtain ⟨hb_13, hf⟩ := chk_out hf
            refine g_iald X 1 rfl hb_13 dX12_magnetsOf_92 ?_
            refine g_icmp_ne (tgt := 100) X dX12_magnetsOf_93 (by decide) (fun hc_14 => ?_) (fun hc_14 => ?_)
            · replace hf := ite_f hc_14 hf
              refine g_lv X (lv' := [(0, .ref h_t), (1, .int v1), (2, .int v2), (3, .int v3), (5, .int v5)]) [0, 1, 2, 3, 5] rfl ?_
              exact J100 k4 hk4 (f_X12_magnetsOf_16 t_w k4 n) ih v1 v2 v3 v5 hf
            · replace hf := ite_t hc_14 hf
              refine g_lv X (lv' := [(0, .ref h_t), (1, .int v1), (2, .int v2), (3, .int v3), (5, .int v5)]) [0, 1, 2, 3, 5] rfl ?_
              exact J96 k4 hk4 (f_X12_magnetsOf_16 t_w k4 n) ih v1 v2 v3 v5 hf
  have J4 : ∀ (n : Nat) (v1 : Int32) (v2 : Int32) (v3 : Int32), f_X12_magnetsOf_4 t_w n v1 v2 v3 = some res → G 0 0 (wd_X12_magnetsOf cI cZ h_t h_t_w h_t_isKept h_t_text h_t_statuses h_t_ways h_t_feels h_t_next h_t_came h_t_deep h_t_sizes h_t_tableOf h_t_usedBy h_t_taken h_t_sixOf t_texted t_above t_below t_at t_start t_number t_went t_h t_w) [(0, .ref h_t), (1, .int v1), (2, .int v2), (3, .int v3)] 4 [] := by
    intro n
    induction n with
    | zero => intro v1 v2 v3 hf; rw [f_X12_magnetsOf_4] at hf; cases hf
    | succ n ih =>
      intro v1 v2 v3 hf
      rw [f_X12_magnetsOf_4] at hf
      refine g_iload_n X dX12_magnetsOf_4 rfl 3 rfl ?_
      refine g_bipush (v := 6) X dX12_magnetsOf_5 (by decide) ?_
      refine g_icmp_ge (tgt := 130) X dX12_magnetsOf_7 (by decide) (fun hc_1 => ?_) (fun hc_1 => ?_)
      · replace hf := ite_t hc_1 hf
        refine g_iload_n X dX12_magnetsOf_130 rfl 2 rfl ?_
        exact hR _ _ _ _ dX12_magnetsOf_131 (kR_in (u := v2) hf)
      · replace hf := ite_f hc_1 hf
        refine g_iconst (v := 1) X dX12_magnetsOf_10 (by decide) ?_
        refine g_istore (lv' := [(0, .ref h_t), (1, .int v1), (2, .int v2), (3, .int v3), (4, .int 1)]) X dX12_magnetsOf_11 (Nat.le_of_ble_eq_true rfl) [1, 2, 3, 4, 0] rfl ?_
        refine g_iconst (v := 0) X dX12_magnetsOf_13 (by decide) ?_
        refine g_istore (lv' := [(0, .ref h_t), (1, .int v1), (2, .int v2), (3, .int v3), (4, .int 1), (5, .int 0)]) X dX12_magnetsOf_14 (Nat.le_of_ble_eq_true rfl) [1, 2, 3, 4, 5, 0] rfl ?_
        exact J16 (f_X12_magnetsOf_4 t_w n) ih FU v1 v2 v3 1 0 hf
  refine g_iconst (v := 0) X dX12_magnetsOf_0 (by decide) ?_
  refine g_istore_n (lv' := [(0, .ref h_t), (1, .int v1), (2, .int 0)]) X dX12_magnetsOf_1 rfl (Nat.le_of_ble_eq_true rfl) [1, 2, 0] rfl ?_
  refine g_iconst (v := 0) X dX12_magnetsOf_2 (by decide) ?_
  refine g_istore_n (lv' := [(0, .ref h_t), (1, .int v1), (2, .int 0), (3, .int 0)]) X dX12_magnetsOf_3 rfl (Nat.le_of_ble_eq_true rfl) [1, 2, 3, 0] rfl ?_
  exact J4 FU v1 0 0 hf
def wd_X12_kinds (cI cZ : ClassId) (h_t : Nat) (h_t_w : Nat) (h_t_isKept : Nat) (h_t_text : Nat) (h_t_statuses : Nat) (h_t_ways : Nat) (h_t_feels : Nat) (h_t_next : Nat) (h_t_came : Nat) (h_t_deep : Nat) (h_t_sizes : Nat) (h_t_tableOf : Nat) (h_t_usedBy : Nat) (h_t_taken : Nat) (h_t_sixOf : Nat) (t_texted : Int32) (t_above : Int64) (t_below : Int64) (t_at : Int32) (t_start : Int32) (t_number : Int32) (t_went : Int32) (t_h : Int64) (t_w : (Nat → Int32)) (t_statuses : (Nat → Int32)) : va_W := [(h_t, .inr (8, [.ref h_t_w, .ref h_t_isKept, .ref h_t_text, .int t_texted, .long t_above, .long t_below, .ref h_t_statuses, .int t_at, .int t_start, .int t_number, .ref h_t_ways, .int t_went, .ref h_t_feels, .ref h_t_next, .ref h_t_came, .ref h_t_deep, .ref h_t_sizes, .ref h_t_tableOf, .ref h_t_usedBy, .ref h_t_taken, .ref h_t_sixOf, .long t_h])), (h_t_w, .inl (cI, 1251, .inl t_w)), (h_t_statuses, .inl (cI, 3, .inl t_statuses))]
abbrev rm_X12_kinds : Room := { frames := 4, cells := 0, slots := 0, locals := 91 }
theorem hv_X12_kinds : yX12_kinds.cls = RX12 ∧ yX12_kinds.cls ≠ "java/lang/invoke/MethodHandle" ∧ yX12_kinds.cls ≠ "java/lang/invoke/VarHandle" ∧ (parseMethodDescriptor yX12_kinds.desc).map (fun d => d.parameters.length) = some 1 := by decide +kernel
set_option maxHeartbeats 4000000 in
set_option maxRecDepth 100000 in
theorem c_X12_kinds (l : Launch) (D : va_G) (cI cZ : ClassId) (h_t : Nat) (h_t_w : Nat) (h_t_isKept : Nat) (h_t_text : Nat) (h_t_statuses : Nat) (h_t_ways : Nat) (h_t_feels : Nat) (h_t_next : Nat) (h_t_came : Nat) (h_t_deep : Nat) (h_t_sizes : Nat) (h_t_tableOf : Nat) (h_t_usedBy : Nat) (h_t_taken : Nat) (h_t_sixOf : Nat) (t_texted : Int32) (t_above : Int64) (t_below : Int64) (t_at : Int32) (t_start : Int32) (t_number : Int32) (t_went : Int32) (t_h : Int64) (t_w : (Nat → Int32)) (t_statuses : (Nat → Int32)) (v1 : Int32) (res : Int32 × (Nat → Int32)) (hf : f_X12_kinds t_w t_statuses v1 = some res) : MetG l yX12_kinds wsX12_kinds rm_X12_kinds D cI cZ none [.ref h_t, .int v1] (wd_X12_kinds cI cZ h_t h_t_w h_t_isKept h_t_text h_t_statuses h_t_ways h_t_feels h_t_next h_t_came h_t_deep h_t_sizes h_t_tableOf h_t_usedBy h_t_taken h_t_sixOf t_texted t_above t_below t_at t_start t_number t_went t_h t_w t_statuses) (kV res (fun u => some (.int u.1)) (fun u => (wd_X12_kinds cI cZ h_t h_t_w h_t_isKept h_t_text h_t_statuses h_t_ways h_t_feels h_t_next h_t_came h_t_deep h_t_sizes h_t_tableOf h_t_usedBy h_t_taken h_t_sixOf t_texted t_above t_below t_at t_start t_number t_went t_h t_w (u.2)))) := by
  refine metG_of (cc := cX12_kinds) (maxL := 2) (ret := (some .int)) (own := RX12) (lv0 := [(0, .ref h_t), (1, .int v1)]) (ini := false) (by decide) rfl (Nat.le_of_ble_eq_true rfl) rfl rfl (fun h => by cases h) (fun G X hR => ?_)
  replace hR := rt_int hR
  unfold f_X12_kinds at hf
  refine g_aload_n X dX12_kinds_0 rfl 0 rfl ?_
  refine g_iload_n X dX12_kinds_1 rfl 1 rfl ?_
  obtain ⟨r_1, hk_2, hf⟩ := ob1_out hf
  refine g_cVR (st := []) (st1 := [.int r_1]) (C := RX12) (ci := 8) (q0 := 0) X (c_X12_isMagnet l D cI cZ h_t h_t_w h_t_isKept h_t_text h_t_statuses h_t_ways h_t_feels h_t_next h_t_came h_t_deep h_t_sizes h_t_tableOf h_t_usedBy h_t_taken h_t_sixOf t_texted t_above t_below t_at t_start t_number t_went t_h t_w v1 _ hk_2) (Or.inl rfl) 1 gX12_kinds_X12_isMagnet rfl hv_X12_isMagnet ⟨Nat.le_of_ble_eq_true rfl, Nat.le_of_ble_eq_true rfl⟩ rfl rfl (Nat.le_of_ble_eq_true rfl) ⟨rfl, rfl⟩ (Nat.zero_le _) (Nat.zero_le _) rfl rfl rfl dX12_kinds_2 [0, 1] rfl rfl rfl ?_
  refine g_if_eq (tgt := 16) X dX12_kinds_5 (by decide) (fun hc_3 => ?_) (fun hc_3 => ?_)
  · replace hf := ite_t hc_3 hf
    refine g_aload_n X dX12_kinds_16 rfl 0 rfl ?_
    refine g_bipush (v := (-2)) X dX12_kinds_17 (by decide) ?_
    obtain ⟨r_4, t_statuses_5, hk_6, hf⟩ := ob2_out hf
    refine g_cVW (st := []) (st1 := [.int r_4]) (C := RX12) (ci := 8) (q0 := 0) (ws' := (wd_X12_kinds cI cZ h_t h_t_w h_t_isKept h_t_text h_t_statuses h_t_ways h_t_feels h_t_next h_t_came h_t_deep h_t_sizes h_t_tableOf h_t_usedBy h_t_taken h_t_sixOf t_texted t_above t_below t_at t_start t_number t_went t_h t_w t_statuses_5)) X (c_X12_bad l D cI cZ h_t h_t_w h_t_isKept h_t_text h_t_statuses h_t_ways h_t_feels h_t_next h_t_came h_t_deep h_t_sizes h_t_tableOf h_t_usedBy h_t_taken h_t_sixOf t_texted t_above t_below t_at t_start t_number t_went t_h t_statuses (-2) _ hk_6) (Or.inl rfl) 1 gX12_kinds_X12_bad rfl hv_X12_bad ⟨Nat.le_of_ble_eq_true rfl, Nat.le_of_ble_eq_true rfl⟩ rfl rfl (Nat.le_of_ble_eq_true rfl) ⟨rfl, rfl⟩ (Nat.zero_le _) (Nat.zero_le _) rfl rfl rfl dX12_kinds_19 [0, 2] rfl rfl [1] rfl rfl (by decide) [1, 0, 2] rfl rfl rfl ?_
    exact hR _ _ _ _ dX12_kinds_22 (kV_in (u := (r_4, t_statuses_5)) hf)
  · replace hf := ite_f hc_3 hf
    refine g_aload_n X dX12_kinds_8 rfl 0 rfl ?_
    refine g_iload_n X dX12_kinds_9 rfl 1 rfl ?_
    obtain ⟨r_7, hk_8, hf⟩ := ob1_out hf
    refine g_cVR (st := []) (st1 := [.int r_7]) (C := RX12) (ci := 8) (q0 := 0) X (c_X12_magnetsOf l D cI cZ h_t h_t_w h_t_isKept h_t_text h_t_statuses h_t_ways h_t_feels h_t_next h_t_came h_t_deep h_t_sizes h_t_tableOf h_t_usedBy h_t_taken h_t_sixOf t_texted t_above t_below t_at t_start t_number t_went t_h t_w v1 _ hk_8) (Or.inl rfl) 1 gX12_kinds_X12_magnetsOf rfl hv_X12_magnetsOf ⟨Nat.le_of_ble_eq_true rfl, Nat.le_of_ble_eq_true rfl⟩ rfl rfl (Nat.le_of_ble_eq_true rfl) ⟨rfl, rfl⟩ (Nat.zero_le _) (Nat.zero_le _) rfl rfl rfl dX12_kinds_10 [0, 1] rfl rfl rfl ?_
    refine g_goto (tgt := 22) X dX12_kinds_13 (by decide) ?_
    exact hR _ _ _ _ dX12_kinds_22 (kV_in (u := (r_7, t_statuses)) hf)
def wd_X12_ask (cI cZ : ClassId) (h_t : Nat) (h_t_w : Nat) (h_t_isKept : Nat) (h_t_text : Nat) (h_t_statuses : Nat) (h_t_ways : Nat) (h_t_feels : Nat) (h_t_next : Nat) (h_t_came : Nat) (h_t_deep : Nat) (h_t_sizes : Nat) (h_t_tableOf : Nat) (h_t_usedBy : Nat) (h_t_taken : Nat) (h_t_sixOf : Nat) (t_texted : Int32) (t_above : Int64) (t_below : Int64) (t_at : Int32) (t_start : Int32) (t_number : Int32) (t_went : Int32) (t_h : Int64) (t_w : (Nat → Int32)) (t_statuses : (Nat → Int32)) (t_sixOf : (Nat → Int32)) : va_W := [(h_t, .inr (8, [.ref h_t_w, .ref h_t_isKept, .ref h_t_text, .int t_texted, .long t_above, .long t_below, .ref h_t_statuses, .int t_at, .int t_start, .int t_number, .ref h_t_ways, .int t_went, .ref h_t_feels, .ref h_t_next, .ref h_t_came, .ref h_t_deep, .ref h_t_sizes, .ref h_t_tableOf, .ref h_t_usedBy, .ref h_t_taken, .ref h_t_sixOf, .long t_h])), (h_t_w, .inl (cI, 1251, .inl t_w)), (h_t_statuses, .inl (cI, 3, .inl t_statuses)), (h_t_sixOf, .inl (cI, 6, .inl t_sixOf))]
abbrev rm_X12_ask : Room := { frames := 4, cells := 0, slots := 0, locals := 91 }
theorem hv_X12_ask : yX12_ask.cls = RX12 ∧ yX12_ask.cls ≠ "java/lang/invoke/MethodHandle" ∧ yX12_ask.cls ≠ "java/lang/invoke/VarHandle" ∧ (parseMethodDescriptor yX12_ask.desc).map (fun d => d.parameters.length) = some 1 := by decide +kernel
theorem iw_X12_ask_X12 : ∀ w ∈ u_ws RX12 TX12 22, w ∈ wsX12_ask := by decide +kernel
theorem lk_X12_ask_57 : Cond.fieldLink RX12 57 "ClerkChainsModel" "sixOf" "[I" ∈ wsX12_ask := by decide +kernel
theorem lk_X12_ask_7 : Cond.fieldLink RX12 7 "ClerkChainsModel" "w" "[I" ∈ wsX12_ask := by decide +kernel
theorem lk_X12_ask_281 : Cond.constant RX12 281 1000000 ∈ wsX12_ask := by decide +kernel
set_option maxHeartbeats 4000000 in
set_option maxRecDepth 100000 in
theorem c_X12_ask (l : Launch) (D : va_G) (cI cZ : ClassId) (h_t : Nat) (h_t_w : Nat) (h_t_isKept : Nat) (h_t_text : Nat) (h_t_statuses : Nat) (h_t_ways : Nat) (h_t_feels : Nat) (h_t_next : Nat) (h_t_came : Nat) (h_t_deep : Nat) (h_t_sizes : Nat) (h_t_tableOf : Nat) (h_t_usedBy : Nat) (h_t_taken : Nat) (h_t_sixOf : Nat) (t_texted : Int32) (t_above : Int64) (t_below : Int64) (t_at : Int32) (t_start : Int32) (t_number : Int32) (t_went : Int32) (t_h : Int64) (t_w : (Nat → Int32)) (t_statuses : (Nat → Int32)) (t_sixOf : (Nat → Int32)) (v1 : Int32) (res : Int32 × (Nat → Int32) × (Nat → Int32)) (hf : f_X12_ask t_w t_statuses t_sixOf v1 = some res) : MetG l yX12_ask wsX12_ask rm_X12_ask D cI cZ none [.ref h_t, .int v1] (wd_X12_ask cI cZ h_t h_t_w h_t_isKept h_t_text h_t_statuses h_t_ways h_t_feels h_t_next h_t_came h_t_deep h_t_sizes h_t_tableOf h_t_usedBy h_t_taken h_t_sixOf t_texted t_above t_below t_at t_start t_number t_went t_h t_w t_statuses t_sixOf) (kV res (fun u => some (.int u.1)) (fun u => (wd_X12_ask cI cZ h_t h_t_w h_t_isKept h_t_text h_t_statuses h_t_ways h_t_feels h_t_next h_t_came h_t_deep h_t_sizes h_t_tableOf h_t_usedBy h_t_taken h_t_sixOf t_texted t_above t_below t_at t_start t_number t_went t_h t_w (u.2.1) (u.2.2)))) := by
  refine metG_of (cc := cX12_ask) (maxL := 8) (ret := (some .int)) (own := RX12) (lv0 := [(0, .ref h_t), (1, .int v1)]) (ini := false) (by decide) rfl (Nat.le_of_ble_eq_true rfl) rfl rfl (fun h => by cases h) (fun G X hR => ?_)
  replace hR := rt_int hR
  unfold f_X12_ask at hf
  have J133 : ∀ (k31 : (Nat → Int32) → (Nat → Int32) → Int32 → Int32 → Int32 → Int32 → Int32 → Option (Int32 × (Nat → Int32) × (Nat → Int32))) (hk31 : ∀ (t_statuses : (Nat → Int32)) (t_sixOf : (Nat → Int32)) (v1 : Int32) (v2 : Int32) (v3 : Int32) (v4 : Int32) (v5 : Int32), k31 t_statuses t_sixOf v1 v2 v3 v4 v5 = some res → G 0 0 (wd_X12_ask cI cZ h_t h_t_w h_t_isKept h_t_text h_t_statuses h_t_ways h_t_feels h_t_next h_t_came h_t_deep h_t_sizes h_t_tableOf h_t_usedBy h_t_taken h_t_sixOf t_texted t_above t_below t_at t_start t_number t_went t_h t_w t_statuses t_sixOf) [(0, .ref h_t), (1, .int v1), (2, .int v2), (3, .int v3), (4, .int v4), (5, .int v5)] 31 []) (k44 : (Nat → Int32) → (Nat → Int32) → Int32 → Int32 → Int32 → Int32 → Int32 → Int32 → Option (Int32 × (Nat → Int32) × (Nat → Int32))) (hk44 : ∀ (t_statuses : (Nat → Int32)) (t_sixOf : (Nat → Int32)) (v1 : Int32) (v2 : Int32) (v3 : Int32) (v4 : Int32) (v5 : Int32) (v6 : Int32), k44 t_statuses t_sixOf v1 v2 v3 v4 v5 v6 = some res → G 0 0 (wd_X12_ask cI cZ h_t h_t_w h_t_isKept h_t_text h_t_statuses h_t_ways h_t_feels h_t_next h_t_came h_t_deep h_t_sizes h_t_tableOf h_t_usedBy h_t_taken h_t_sixOf t_texted t_above t_below t_at t_start t_number t_went t_h t_w t_statuses t_sixOf) [(0, .ref h_t), (1, .int v1), (2, .int v2), (3, .int v3), (4, .int v4), (5, .int v5), (6, .int v6)] 44 []) (t_statuses : (Nat → Int32)) (t_sixOf : (Nat → Int32)) (v1 : Int32) (v2 : Int32) (v3 : Int32) (v5 : Int32) (v6 : Int32) (s0 : Int32), f_X12_ask_133 t_w k31 k44 t_statuses t_sixOf v1 v2 v3 v5 v6 s0 = some res → G 0 0 (wd_X12_ask cI cZ h_t h_t_w h_t_isKept h_t_text h_t_statuses h_t_ways h_t_feels h_t_next h_t_came h_t_deep h_t_sizes h_t_tableOf h_t_usedBy h_t_taken h_t_sixOf t_texted t_above t_below t_at t_start t_number t_went t_h t_w t_statuses t_sixOf) [(0, .ref h_t), (1, .int v1), (2, .int v2), (3, .int v3), (5, .int v5), (6, .int v6)] 133 [.int s0] := by
    intro k31 hk31 k44 hk44 t_statuses t_sixOf v1 v2 v3 v5 v6 s0 hf
    unfold f_X12_ask_133 at hf
    refine g_istore (lv' := [(0, .ref h_t), (1, .int v1), (2, .int v2), (3, .int v3), (4, .int s0), (5, .int v5), (6, .int v6)]) X dX12_ask_133 (Nat.le_of_ble_eq_true rfl) [1, 2, 3, 4, 0, 5, 6] rfl ?_
    obtain ⟨v6_15, ev6_15, hf⟩ := bnd_out hf
    refine g_iinc (v := v6_15) (lv' := [(0, .ref h_t), (1, .int v1), (2, .int v2), (3, .int v3), (4, .int s0), (5, .int v5), (6, .int v6_15)]) X dX12_ask_135 6 rfl (by rw [ev6_15]; rfl) (Nat.le_of_ble_eq_true rfl) [1, 2, 3, 4, 5, 6, 0] rfl ?_
    refine g_goto (tgt := 44) X dX12_ask_138 (by decide) ?_
    exact hk44 t_statuses t_sixOf v1 v2 v3 s0 v5 v6_15 hf
  have J118 : ∀ (k31 : (Nat → Int32) → (Nat → Int32) → Int32 → Int32 → Int32 → Int32 → Int32 → Option (Int32 × (Nat → Int32) × (Nat → Int32))) (hk31 : ∀ (t_statuses : (Nat → Int32)) (t_sixOf : (Nat → Int32)) (v1 : Int32) (v2 : Int32) (v3 : Int32) (v4 : Int32) (v5 : Int32), k31 t_statuses t_sixOf v1 v2 v3 v4 v5 = some res → G 0 0 (wd_X12_ask cI cZ h_t h_t_w h_t_isKept h_t_text h_t_statuses h_t_ways h_t_feels h_t_next h_t_came h_t_deep h_t_sizes h_t_tableOf h_t_usedBy h_t_taken h_t_sixOf t_texted t_above t_below t_at t_start t_number t_went t_h t_w t_statuses t_sixOf) [(0, .ref h_t), (1, .int v1), (2, .int v2), (3, .int v3), (4, .int v4), (5, .int v5)] 31 []) (k44 : (Nat → Int32) → (Nat → Int32) → Int32 → Int32 → Int32 → Int32 → Int32 → Int32 → Option (Int32 × (Nat → Int32) × (Nat → Int32))) (hk44 : ∀ (t_statuses : (Nat → Int32)) (t_sixOf : (Nat → Int32)) (v1 : Int32) (v2 : Int32) (v3 : Int32) (v4 : Int32) (v5 : Int32) (v6 : Int32), k44 t_statuses t_sixOf v1 v2 v3 v4 v5 v6 = some res → G 0 0 (wd_X12_ask cI cZ h_t h_t_w h_t_isKept h_t_text h_t_statuses h_t_ways h_t_feels h_t_next h_t_came h_t_deep h_t_sizes h_t_tableOf h_t_usedBy h_t_taken h_t_sixOf t_texted t_above t_below t_at t_start t_number t_went t_h t_w t_statuses t_sixOf) [(0, .ref h_t), (1, .int v1), (2, .int v2), (3, .int v3), (4, .int v4), (5, .int v5), (6, .int v6)] 44 []) (t_statuses : (Nat → Int32)) (t_sixOf : (Nat → Int32)) (v1 : Int32) (v2 : Int32) (v4 : Int32) (v5 : Int32) (v6 : Int32) (v7 : Int32) (s0 : Int32), f_X12_ask_118 t_w k31 k44 t_statuses t_sixOf v1 v2 v4 v5 v6 v7 s0 = some res → G 0 0 (wd_X12_ask cI cZ h_t h_t_w h_t_isKept h_t_text h_t_statuses h_t_ways h_t_feels h_t_next h_t_came h_t_deep h_t_sizes h_t_tableOf h_t_usedBy h_t_taken h_t_sixOf t_texted t_above t_below t_at t_start t_number t_went t_h t_w t_statuses t_sixOf) [(0, .ref h_t), (1, .int v1), (2, .int v2), (4, .int v4), (5, .int v5), (6, .int v6), (7, .int v7)] 118 [.int s0] := by
    intro k31 hk31 k44 hk44 t_statuses t_sixOf v1 v2 v4 v5 v6 v7 s0 hf
    unfold f_X12_ask_118 at hf
    refine g_istore_n (lv' := [(0, .ref h_t), (1, .int v1), (2, .int v2), (3, .int s0), (4, .int v4), (5, .int v5), (6, .int v6), (7, .int v7)]) X dX12_ask_118 rfl (Nat.le_of_ble_eq_true rfl) [1, 2, 3, 0, 4, 5, 6, 7] rfl ?_
    refine g_iload X dX12_ask_119 7 rfl ?_
    refine g_iload X dX12_ask_121 4 rfl ?_
    refine g_icmp_ge (tgt := 131) X dX12_ask_123 (by decide) (fun hc_14 => ?_) (fun hc_14 => ?_)
    · replace hf := ite_t hc_14 hf
      refine g_iload X dX12_ask_131 4 rfl ?_
      refine g_lv X (lv' := [(0, .ref h_t), (1, .int v1), (2, .int v2), (3, .int s0), (5, .int v5), (6, .int v6)]) [0, 1, 2, 3, 5, 6] rfl ?_
      exact J133 k31 hk31 k44 hk44 t_statuses t_sixOf v1 v2 s0 v5 v6 v4 hf
    · replace hf := ite_f hc_14 hf
      refine g_iload X dX12_ask_126 7 rfl ?_
      refine g_goto (tgt := 133) X dX12_ask_128 (by decide) ?_
      refine g_lv X (lv' := [(0, .ref h_t), (1, .int v1), (2, .int v2), (3, .int s0), (5, .int v5), (6, .int v6)]) [0, 1, 2, 3, 5, 6] rfl ?_
      exact J133 k31 hk31 k44 hk44 t_statuses t_sixOf v1 v2 s0 v5 v6 v7 hf
  have J92 : ∀ (k31 : (Nat → Int32) → (Nat → Int32) → Int32 → Int32 → Int32 → Int32 → Int32 → Option (Int32 × (Nat → Int32) × (Nat → Int32))) (hk31 : ∀ (t_statuses : (Nat → Int32)) (t_sixOf : (Nat → Int32)) (v1 : Int32) (v2 : Int32) (v3 : Int32) (v4 : Int32) (v5 : Int32), k31 t_statuses t_sixOf v1 v2 v3 v4 v5 = some res → G 0 0 (wd_X12_ask cI cZ h_t h_t_w h_t_isKept h_t_text h_t_statuses h_t_ways h_t_feels h_t_next h_t_came h_t_deep h_t_sizes h_t_tableOf h_t_usedBy h_t_taken h_t_sixOf t_texted t_above t_below t_at t_start t_number t_went t_h t_w t_statuses t_sixOf) [(0, .ref h_t), (1, .int v1), (2, .int v2), (3, .int v3), (4, .int v4), (5, .int v5)] 31 []) (k44 : (Nat → Int32) → (Nat → Int32) → Int32 → Int32 → Int32 → Int32 → Int32 → Int32 → Option (Int32 × (Nat → Int32) × (Nat → Int32))) (hk44 : ∀ (t_statuses : (Nat → Int32)) (t_sixOf : (Nat → Int32)) (v1 : Int32) (v2 : Int32) (v3 : Int32) (v4 : Int32) (v5 : Int32) (v6 : Int32), k44 t_statuses t_sixOf v1 v2 v3 v4 v5 v6 = some res → G 0 0 (wd_X12_ask cI cZ h_t h_t_w h_t_isKept h_t_text h_t_statuses h_t_ways h_t_feels h_t_next h_t_came h_t_deep h_t_sizes h_t_tableOf h_t_usedBy h_t_taken h_t_sixOf t_texted t_above t_below t_at t_start t_number t_went t_h t_w t_statuses t_sixOf) [(0, .ref h_t), (1, .int v1), (2, .int v2), (3, .int v3), (4, .int v4), (5, .int v5), (6, .int v6)] 44 []) (t_statuses : (Nat → Int32)) (t_sixOf : (Nat → Int32)) (v1 : Int32) (v2 : Int32) (v3 : Int32) (v4 : Int32) (v5 : Int32) (v6 : Int32), f_X12_ask_92 t_w k31 k44 t_statuses t_sixOf v1 v2 v3 v4 v5 v6 = some res → G 0 0 (wd_X12_ask cI cZ h_t h_t_w h_t_isKept h_t_text h_t_statuses h_t_ways h_t_feels h_t_next h_t_came h_t_deep h_t_sizes h_t_tableOf h_t_usedBy h_t_taken h_t_sixOf t_texted t_above t_below t_at t_start t_number t_went t_h t_w t_statuses t_sixOf) [(0, .ref h_t), (1, .int v1), (2, .int v2), (3, .int v3), (4, .int v4), (5, .int v5), (6, .int v6)] 92 [] := by
    intro k31 hk31 k44 hk44 t_statuses t_sixOf v1 v2 v3 v4 v5 v6 hf
    unfold f_X12_ask_92 at hf
    refine g_aload_n X dX12_ask_92 rfl 0 rfl ?_
    refine g_iload_n X dX12_ask_93 rfl 2 rfl ?_
    obtain ⟨r_11, hk_12, hf⟩ := ob1_out hf
    refine g_cVR (st := []) (st1 := [.int r_11]) (C := RX12) (ci := 8) (q0 := 0) X (c_X12_greatest l D cI cZ h_t h_t_w h_t_isKept h_t_text h_t_statuses h_t_ways h_t_feels h_t_next h_t_came h_t_deep h_t_sizes h_t_tableOf h_t_usedBy h_t_taken h_t_sixOf t_texted t_above t_below t_at t_start t_number t_went t_h t_sixOf v2 _ hk_12) (Or.inl rfl) 1 gX12_ask_X12_greatest rfl hv_X12_greatest ⟨Nat.le_of_ble_eq_true rfl, Nat.le_of_ble_eq_true rfl⟩ rfl rfl (Nat.le_of_ble_eq_true rfl) ⟨rfl, rfl⟩ (Nat.zero_le _) (Nat.zero_le _) rfl rfl rfl dX12_ask_94 [0, 3] rfl rfl rfl ?_
    refine g_istore (lv' := [(0, .ref h_t), (1, .int v1), (2, .int v2), (3, .int v3), (4, .int v4), (5, .int v5), (6, .int v6), (7, .int r_11)]) X dX12_ask_97 (Nat.le_of_ble_eq_true rfl) [1, 2, 3, 4, 5, 6, 7, 0] rfl ?_
    refine g_iload X dX12_ask_99 7 rfl ?_
    refine g_iload X dX12_ask_101 4 rfl ?_
    refine g_icmp_ge (tgt := 117) X dX12_ask_103 (by decide) (fun hc_13 => ?_) (fun hc_13 => ?_)
    · replace hf := ite_t hc_13 hf
      refine g_iload_n X dX12_ask_117 rfl 3 rfl ?_
      refine g_lv X (lv' := [(0, .ref h_t), (1, .int v1), (2, .int v2), (4, .int v4), (5, .int v5), (6, .int v6), (7, .int r_11)]) [0, 1, 2, 4, 5, 6, 7] rfl ?_
      exact J118 k31 hk31 k44 hk44 t_statuses t_sixOf v1 v2 v4 v5 v6 r_11 v3 hf
    · replace hf := ite_f hc_13 hf
      refine g_bipush (v := 100) X dX12_ask_106 (by decide) ?_
      refine g_iload X dX12_ask_108 5 rfl ?_
      refine g_imul X dX12_ask_110 ?_
      refine g_iload X dX12_ask_111 6 rfl ?_
      refine g_iadd X dX12_ask_113 ?_
      refine g_goto (tgt := 118) X dX12_ask_114 (by decide) ?_
      refine g_lv X (lv' := [(0, .ref h_t), (1, .int v1), (2, .int v2), (4, .int v4), (5, .int v5), (6, .int v6), (7, .int r_11)]) [0, 1, 2, 4, 5, 6, 7] rfl ?_
      exact J118 k31 hk31 k44 hk44 t_statuses t_sixOf v1 v2 v4 v5 v6 r_11 ((100 * v5) + v6) hf
  have J54 : ∀ (k31 : (Nat → Int32) → (Nat → Int32) → Int32 → Int32 → Int32 → Int32 → Int32 → Option (Int32 × (Nat → Int32) × (Nat → Int32))) (hk31 : ∀ (t_statuses : (Nat → Int32)) (t_sixOf : (Nat → Int32)) (v1 : Int32) (v2 : Int32) (v3 : Int32) (v4 : Int32) (v5 : Int32), k31 t_statuses t_sixOf v1 v2 v3 v4 v5 = some res → G 0 0 (wd_X12_ask cI cZ h_t h_t_w h_t_isKept h_t_text h_t_statuses h_t_ways h_t_feels h_t_next h_t_came h_t_deep h_t_sizes h_t_tableOf h_t_usedBy h_t_taken h_t_sixOf t_texted t_above t_below t_at t_start t_number t_went t_h t_w t_statuses t_sixOf) [(0, .ref h_t), (1, .int v1), (2, .int v2), (3, .int v3), (4, .int v4), (5, .int v5)] 31 []) (k44 : (Nat → Int32) → (Nat → Int32) → Int32 → Int32 → Int32 → Int32 → Int32 → Int32 → Option (Int32 × (Nat → Int32) × (Nat → Int32))) (hk44 : ∀ (t_statuses : (Nat → Int32)) (t_sixOf : (Nat → Int32)) (v1 : Int32) (v2 : Int32) (v3 : Int32) (v4 : Int32) (v5 : Int32) (v6 : Int32), k44 t_statuses t_sixOf v1 v2 v3 v4 v5 v6 = some res → G 0 0 (wd_X12_ask cI cZ h_t h_t_w h_t_isKept h_t_text h_t_statuses h_t_ways h_t_feels h_t_next h_t_came h_t_deep h_t_sizes h_t_tableOf h_t_usedBy h_t_taken h_t_sixOf t_texted t_above t_below t_at t_start t_number t_went t_h t_w t_statuses t_sixOf) [(0, .ref h_t), (1, .int v1), (2, .int v2), (3, .int v3), (4, .int v4), (5, .int v5), (6, .int v6)] 44 []) (n : Nat) (t_statuses : (Nat → Int32)) (t_sixOf : (Nat → Int32)) (v1 : Int32) (v2 : Int32) (v3 : Int32) (v4 : Int32) (v5 : Int32) (v6 : Int32) (v7 : Int32), f_X12_ask_54 t_w k31 k44 n t_statuses t_sixOf v1 v2 v3 v4 v5 v6 v7 = some res → G 0 0 (wd_X12_ask cI cZ h_t h_t_w h_t_isKept h_t_text h_t_statuses h_t_ways h_t_feels h_t_next h_t_came h_t_deep h_t_sizes h_t_tableOf h_t_usedBy h_t_taken h_t_sixOf t_texted t_above t_below t_at t_start t_number t_went t_h t_w t_statuses t_sixOf) [(0, .ref h_t), (1, .int v1), (2, .int v2), (3, .int v3), (4, .int v4), (5, .int v5), (6, .int v6), (7, .int v7)] 54 [] := by
    intro k31 hk31 k44 hk44 n
    induction n with
    | zero => intro t_statuses t_sixOf v1 v2 v3 v4 v5 v6 v7 hf; rw [f_X12_ask_54] at hf; cases hf
    | succ n ih =>
      intro t_statuses t_sixOf v1 v2 v3 v4 v5 v6 v7 hf
      rw [f_X12_ask_54] at hf
      refine g_iload X dX12_ask_54 7 rfl ?_
      refine g_bipush (v := 6) X dX12_ask_56 (by decide) ?_
      refine g_icmp_ge (tgt := 92) X dX12_ask_58 (by decide) (fun hc_4 => ?_) (fun hc_4 => ?_)
      · replace hf := ite_t hc_4 hf
        refine g_lv X (lv' := [(0, .ref h_t), (1, .int v1), (2, .int v2), (3, .int v3), (4, .int v4), (5, .int v5), (6, .int v6)]) [0, 1, 2, 3, 4, 5, 6] rfl ?_
        exact J92 k31 hk31 k44 hk44 t_statuses t_sixOf v1 v2 v3 v4 v5 v6 hf
      · replace hf := ite_f hc_4 hf
        refine g_aload_n X dX12_ask_61 rfl 0 rfl ?_
        refine g_get (C := RX12) (T := TX12) (N := 22) (ci := 8) (v := (.ref h_t_sixOf)) X iw_X12_ask_X12 0 rfl rfl 20 (by decide) lk_X12_ask_57 rfl dX12_ask_62 ?_
        refine g_iload X dX12_ask_65 7 rfl ?_
        refine g_iload X dX12_ask_67 7 rfl ?_
        refine g_aload_n X dX12_ask_69 rfl 0 rfl ?_
        refine g_get (C := RX12) (T := TX12) (N := 22) (ci := 8) (v := (.ref h_t_w)) X iw_X12_ask_X12 0 rfl rfl 0 (by decide) lk_X12_ask_7 rfl dX12_ask_70 ?_
        refine g_bipush (v := 44) X dX12_ask_73 (by decide) ?_
        refine g_iload_n X dX12_ask_75 rfl 1 rfl ?_
        refine g_iadd X dX12_ask_76 ?_
        obtain ⟨hb_5, hf⟩ := chk_out hf
        refine g_iald X 1 rfl hb_5 dX12_ask_77 ?_
        refine g_iload X dX12_ask_78 6 rfl ?_
        refine g_iload X dX12_ask_80 5 rfl ?_
        obtain ⟨r_6, hk_7, hf⟩ := ob1_out hf
        refine g_cSR (st := [.int v7, .ref h_t_sixOf]) (st1 := [.int r_6, .int v7, .ref h_t_sixOf]) X (c_X12_pullOf l D cI cZ v7 (t_w (44 + v1).toNatClampNeg) v6 v5 _ hk_7) (Or.inl rfl) 4 gX12_ask_X12_pullOf rfl hs_X12_pullOf ⟨Nat.le_of_ble_eq_true rfl, Nat.le_of_ble_eq_true rfl⟩ rfl rfl (Nat.le_of_ble_eq_true rfl) ⟨rfl, rfl⟩ (Nat.zero_le _) (Nat.zero_le _) dX12_ask_82 [] rfl rfl rfl ?_
        obtain ⟨hb_8, hf⟩ := chk_out hf
        obtain ⟨t_sixOf_9, et_sixOf_9, hf⟩ := bnd_out hf
        refine g_iast (ws' := (wd_X12_ask cI cZ h_t h_t_w h_t_isKept h_t_text h_t_statuses h_t_ways h_t_feels h_t_next h_t_came h_t_deep h_t_sizes h_t_tableOf h_t_usedBy h_t_taken h_t_sixOf t_texted t_above t_below t_at t_start t_number t_went t_h t_w t_statuses t_sixOf_9)) X 3 rfl hb_8 et_sixOf_9 dX12_ask_85 rfl ?_
        obtain ⟨v7_10, ev7_10, hf⟩ := bnd_out hf
        refine g_iinc (v := v7_10) (lv' := [(0, .ref h_t), (1, .int v1), (2, .int v2), (3, .int v3), (4, .int v4), (5, .int v5), (6, .int v6), (7, .int v7_10)]) X dX12_ask_86 7 rfl (by rw [ev7_10]; rfl) (Nat.le_of_ble_eq_true rfl) [1, 2, 3, 4, 5, 6, 7, 0] rfl ?_
        refine g_goto (tgt := 54) X dX12_ask_89 (by decide) ?_
        exact ih t_statuses t_sixOf_9 v1 v2 v3 v4 v5 v6 v7_10 hf
  have J141 : ∀ (k31 : (Nat → Int32) → (Nat → Int32) → Int32 → Int32 → Int32 → Int32 → Int32 → Option (Int32 × (Nat → Int32) × (Nat → Int32))) (hk31 : ∀ (t_statuses : (Nat → Int32)) (t_sixOf : (Nat → Int32)) (v1 : Int32) (v2 : Int32) (v3 : Int32) (v4 : Int32) (v5 : Int32), k31 t_statuses t_sixOf v1 v2 v3 v4 v5 = some res → G 0 0 (wd_X12_ask cI cZ h_t h_t_w h_t_isKept h_t_text h_t_statuses h_t_ways h_t_feels h_t_next h_t_came h_t_deep h_t_sizes h_t_tableOf h_t_usedBy h_t_taken h_t_sixOf t_texted t_above t_below t_at t_start t_number t_went t_h t_w t_statuses t_sixOf) [(0, .ref h_t), (1, .int v1), (2, .int v2), (3, .int v3), (4, .int v4), (5, .int v5)] 31 []) (t_statuses : (Nat → Int32)) (t_sixOf : (Nat → Int32)) (v1 : Int32) (v2 : Int32) (v3 : Int32) (v4 : Int32) (v5 : Int32), f_X12_ask_141 t_w k31 t_statuses t_sixOf v1 v2 v3 v4 v5 = some res → G 0 0 (wd_X12_ask cI cZ h_t h_t_w h_t_isKept h_t_text h_t_statuses h_t_ways h_t_feels h_t_next h_t_came h_t_deep h_t_sizes h_t_tableOf h_t_usedBy h_t_taken h_t_sixOf t_texted t_above t_below t_at t_start t_number t_went t_h t_w t_statuses t_sixOf) [(0, .ref h_t), (1, .int v1), (2, .int v2), (3, .int v3), (4, .int v4), (5, .int v5)] 141 [] := by
    intro k31 hk31 t_statuses t_sixOf v1 v2 v3 v4 v5 hf
    unfold f_X12_ask_141 at hf
    obtain ⟨v5_16, ev5_16, hf⟩ := bnd_out hf
    refine g_iinc (v := v5_16) (lv' := [(0, .ref h_t), (1, .int v1), (2, .int v2), (3, .int v3), (4, .int v4), (5, .int v5_16)]) X dX12_ask_141 5 rfl (by rw [ev5_16]; rfl) (Nat.le_of_ble_eq_true rfl) [1, 2, 3, 4, 5, 0] rfl ?_
    refine g_goto (tgt := 31) X dX12_ask_144 (by decide) ?_
    exact hk31 t_statuses t_sixOf v1 v2 v3 v4 v5_16 hf
  have J44 : ∀ (k31 : (Nat → Int32) → (Nat → Int32) → Int32 → Int32 → Int32 → Int32 → Int32 → Option (Int32 × (Nat → Int32) × (Nat → Int32))) (hk31 : ∀ (t_statuses : (Nat → Int32)) (t_sixOf : (Nat → Int32)) (v1 : Int32) (v2 : Int32) (v3 : Int32) (v4 : Int32) (v5 : Int32), k31 t_statuses t_sixOf v1 v2 v3 v4 v5 = some res → G 0 0 (wd_X12_ask cI cZ h_t h_t_w h_t_isKept h_t_text h_t_statuses h_t_ways h_t_feels h_t_next h_t_came h_t_deep h_t_sizes h_t_tableOf h_t_usedBy h_t_taken h_t_sixOf t_texted t_above t_below t_at t_start t_number t_went t_h t_w t_statuses t_sixOf) [(0, .ref h_t), (1, .int v1), (2, .int v2), (3, .int v3), (4, .int v4), (5, .int v5)] 31 []) (n : Nat) (t_statuses : (Nat → Int32)) (t_sixOf : (Nat → Int32)) (v1 : Int32) (v2 : Int32) (v3 : Int32) (v4 : Int32) (v5 : Int32) (v6 : Int32), f_X12_ask_44 t_w k31 n t_statuses t_sixOf v1 v2 v3 v4 v5 v6 = some res → G 0 0 (wd_X12_ask cI cZ h_t h_t_w h_t_isKept h_t_text h_t_statuses h_t_ways h_t_feels h_t_next h_t_came h_t_deep h_t_sizes h_t_tableOf h_t_usedBy h_t_taken h_t_sixOf t_texted t_above t_below t_at t_start t_number t_went t_h t_w t_statuses t_sixOf) [(0, .ref h_t), (1, .int v1), (2, .int v2), (3, .int v3), (4, .int v4), (5, .int v5), (6, .int v6)] 44 [] := by
    intro k31 hk31 n
    induction n with
    | zero => intro t_statuses t_sixOf v1 v2 v3 v4 v5 v6 hf; rw [f_X12_ask_44] at hf; cases hf
    | succ n ih =>
      intro t_statuses t_sixOf v1 v2 v3 v4 v5 v6 hf
      rw [f_X12_ask_44] at hf
      refine g_iload X dX12_ask_44 6 rfl ?_
      refine g_bipush (v := 12) X dX12_ask_46 (by decide) ?_
      refine g_icmp_ge (tgt := 141) X dX12_ask_48 (by decide) (fun hc_3 => ?_) (fun hc_3 => ?_)
      · replace hf := ite_t hc_3 hf
        refine g_lv X (lv' := [(0, .ref h_t), (1, .int v1), (2, .int v2), (3, .int v3), (4, .int v4), (5, .int v5)]) [0, 1, 2, 3, 4, 5] rfl ?_
        exact J141 k31 hk31 t_statuses t_sixOf v1 v2 v3 v4 v5 hf
      · replace hf := ite_f hc_3 hf
        refine g_iconst (v := 0) X dX12_ask_51 (by decide) ?_
        refine g_istore (lv' := [(0, .ref h_t), (1, .int v1), (2, .int v2), (3, .int v3), (4, .int v4), (5, .int v5), (6, .int v6), (7, .int 0)]) X dX12_ask_52 (Nat.le_of_ble_eq_true rfl) [1, 2, 3, 4, 5, 6, 7, 0] rfl ?_
        exact J54 k31 hk31 (f_X12_ask_44 t_w k31 n) ih FU t_statuses t_sixOf v1 v2 v3 v4 v5 v6 0 hf
  have J31 : ∀ (n : Nat) (t_statuses : (Nat → Int32)) (t_sixOf : (Nat → Int32)) (v1 : Int32) (v2 : Int32) (v3 : Int32) (v4 : Int32) (v5 : Int32), f_X12_ask_31 t_w n t_statuses t_sixOf v1 v2 v3 v4 v5 = some res → G 0 0 (wd_X12_ask cI cZ h_t h_t_w h_t_isKept h_t_text h_t_statuses h_t_ways h_t_feels h_t_next h_t_came h_t_deep h_t_sizes h_t_tableOf h_t_usedBy h_t_taken h_t_sixOf t_texted t_above t_below t_at t_start t_number t_went t_h t_w t_statuses t_sixOf) [(0, .ref h_t), (1, .int v1), (2, .int v2), (3, .int v3), (4, .int v4), (5, .int v5)] 31 [] := by
    intro n
    induction n with
    | zero => intro t_statuses t_sixOf v1 v2 v3 v4 v5 hf; rw [f_X12_ask_31] at hf; cases hf
    | succ n ih =>
      intro t_statuses t_sixOf v1 v2 v3 v4 v5 hf
      rw [f_X12_ask_31] at hf
      refine g_iload X dX12_ask_31 5 rfl ?_
      refine g_iconst (v := 2) X dX12_ask_33 (by decide) ?_
      refine g_icmp_ge (tgt := 147) X dX12_ask_34 (by decide) (fun hc_1 => ?_) (fun hc_1 => ?_)
      · replace hf := ite_t hc_1 hf
        refine g_iload_n X dX12_ask_147 rfl 3 rfl ?_
        exact hR _ _ _ _ dX12_ask_148 (kV_in (u := (v3, t_statuses, t_sixOf)) hf)
      · replace hf := ite_f hc_1 hf
        refine g_iload_n X dX12_ask_37 rfl 2 rfl ?_
        refine g_if_le (tgt := 147) X dX12_ask_38 (by decide) (fun hc_2 => ?_) (fun hc_2 => ?_)
        · replace hf := ite_t hc_2 hf
          refine g_iload_n X dX12_ask_147 rfl 3 rfl ?_
          exact hR _ _ _ _ dX12_ask_148 (kV_in (u := (v3, t_statuses, t_sixOf)) hf)
        · replace hf := ite_f hc_2 hf
          refine g_iconst (v := 0) X dX12_ask_41 (by decide) ?_
          refine g_istore (lv' := [(0, .ref h_t), (1, .int v1), (2, .int v2), (3, .int v3), (4, .int v4), (5, .int v5), (6, .int 0)]) X dX12_ask_42 (Nat.le_of_ble_eq_true rfl) [1, 2, 3, 4, 5, 6, 0] rfl ?_
          exact J44 (f_X12_ask_31 t_w n) ih FU t_statuses t_sixOf v1 v2 v3 v4 v5 0 hf
  refine g_aload_n X dX12_ask_0 rfl 0 rfl ?_
  refine g_iload_n X dX12_ask_1 rfl 1 rfl ?_
  obtain ⟨r_17, hk_18, hf⟩ := ob1_out hf
  refine g_cVR (st := []) (st1 := [.int r_17]) (C := RX12) (ci := 8) (q0 := 0) X (c_X12_isMagnet l D cI cZ h_t h_t_w h_t_isKept h_t_text h_t_statuses h_t_ways h_t_feels h_t_next h_t_came h_t_deep h_t_sizes h_t_tableOf h_t_usedBy h_t_taken h_t_sixOf t_texted t_above t_below t_at t_start t_number t_went t_h t_w v1 _ hk_18) (Or.inl rfl) 1 gX12_ask_X12_isMagnet rfl hv_X12_isMagnet ⟨Nat.le_of_ble_eq_true rfl, Nat.le_of_ble_eq_true rfl⟩ rfl rfl (Nat.le_of_ble_eq_true rfl) ⟨rfl, rfl⟩ (Nat.zero_le _) (Nat.zero_le _) rfl rfl rfl dX12_ask_2 [0, 1] rfl rfl rfl ?_
  refine g_if_ne (tgt := 15) X dX12_ask_5 (by decide) (fun hc_19 => ?_) (fun hc_19 => ?_)
  · replace hf := ite_f hc_19 hf
    refine g_aload_n X dX12_ask_15 rfl 0 rfl ?_
    refine g_iload_n X dX12_ask_16 rfl 1 rfl ?_
    obtain ⟨r_20, hk_21, hf⟩ := ob1_out hf
    refine g_cVR (st := []) (st1 := [.int r_20]) (C := RX12) (ci := 8) (q0 := 0) X (c_X12_magnetsOf l D cI cZ h_t h_t_w h_t_isKept h_t_text h_t_statuses h_t_ways h_t_feels h_t_next h_t_came h_t_deep h_t_sizes h_t_tableOf h_t_usedBy h_t_taken h_t_sixOf t_texted t_above t_below t_at t_start t_number t_went t_h t_w v1 _ hk_21) (Or.inl rfl) 1 gX12_ask_X12_magnetsOf rfl hv_X12_magnetsOf ⟨Nat.le_of_ble_eq_true rfl, Nat.le_of_ble_eq_true rfl⟩ rfl rfl (Nat.le_of_ble_eq_true rfl) ⟨rfl, rfl⟩ (Nat.zero_le _) (Nat.zero_le _) rfl rfl rfl dX12_ask_17 [0, 1] rfl rfl rfl ?_
    refine g_istore_n (lv' := [(0, .ref h_t), (1, .int v1), (2, .int r_20)]) X dX12_ask_20 rfl (Nat.le_of_ble_eq_true rfl) [1, 2, 0] rfl ?_
    refine g_iconst (v := (-1)) X dX12_ask_21 (by decide) ?_
    refine g_istore_n (lv' := [(0, .ref h_t), (1, .int v1), (2, .int r_20), (3, .int (-1))]) X dX12_ask_22 rfl (Nat.le_of_ble_eq_true rfl) [1, 2, 3, 0] rfl ?_
    refine g_ldcw (v := 1000000) X dX12_ask_23 lk_X12_ask_281 ?_
    refine g_istore (lv' := [(0, .ref h_t), (1, .int v1), (2, .int r_20), (3, .int (-1)), (4, .int 1000000)]) X dX12_ask_26 (Nat.le_of_ble_eq_true rfl) [1, 2, 3, 4, 0] rfl ?_
    refine g_iconst (v := 0) X dX12_ask_28 (by decide) ?_
    refine g_istore (lv' := [(0, .ref h_t), (1, .int v1), (2, .int r_20), (3, .int (-1)), (4, .int 1000000), (5, .int 0)]) X dX12_ask_29 (Nat.le_of_ble_eq_true rfl) [1, 2, 3, 4, 5, 0] rfl ?_
    exact J31 FU t_statuses t_sixOf v1 r_20 (-1) 1000000 0 hf
  · replace hf := ite_t hc_19 hf
    refine g_aload_n X dX12_ask_8 rfl 0 rfl ?_
    refine g_bipush (v := (-2)) X dX12_ask_9 (by decide) ?_
    obtain ⟨r_22, t_statuses_23, hk_24, hf⟩ := ob2_out hf
    refine g_cVW (st := []) (st1 := [.int r_22]) (C := RX12) (ci := 8) (q0 := 0) (ws' := (wd_X12_ask cI cZ h_t h_t_w h_t_isKept h_t_text h_t_statuses h_t_ways h_t_feels h_t_next h_t_came h_t_deep h_t_sizes h_t_tableOf h_t_usedBy h_t_taken h_t_sixOf t_texted t_above t_below t_at t_start t_number t_went t_h t_w t_statuses_23 t_sixOf)) X (c_X12_bad l D cI cZ h_t h_t_w h_t_isKept h_t_text h_t_statuses h_t_ways h_t_feels h_t_next h_t_came h_t_deep h_t_sizes h_t_tableOf h_t_usedBy h_t_taken h_t_sixOf t_texted t_above t_below t_at t_start t_number t_went t_h t_statuses (-2) _ hk_24) (Or.inl rfl) 1 gX12_ask_X12_bad rfl hv_X12_bad ⟨Nat.le_of_ble_eq_true rfl, Nat.le_of_ble_eq_true rfl⟩ rfl rfl (Nat.le_of_ble_eq_true rfl) ⟨rfl, rfl⟩ (Nat.zero_le _) (Nat.zero_le _) rfl rfl rfl dX12_ask_11 [0, 2] rfl rfl [1, 3] rfl rfl (by decide) [2, 0, 3, 1] rfl rfl rfl ?_
    exact hR _ _ _ _ dX12_ask_14 (kV_in (u := (r_22, t_statuses_23, t_sixOf)) hf)
def wd_X12_getsBy (cI cZ : ClassId) : va_W := []
abbrev rm_X12_getsBy : Room := { frames := 0, cells := 0, slots := 0, locals := 0 }
theorem hs_X12_getsBy : yX12_getsBy.cls ≠ "java/lang/invoke/MethodHandle" ∧ yX12_getsBy.cls ≠ "java/lang/invoke/VarHandle" ∧ (parseMethodDescriptor yX12_getsBy.desc).map (fun d => d.parameters.length) = some 4 := by decide +kernel
set_option maxHeartbeats 4000000 in
set_option maxRecDepth 100000 in
theorem c_X12_getsBy (l : Launch) (D : va_G) (cI cZ : ClassId) (v0 : Int32) (v1 : Int32) (v2 : Int32) (v3 : Int32) (res : Int32) (hf : f_X12_getsBy v0 v1 v2 v3 = some res) : MetR l yX12_getsBy wsX12_getsBy rm_X12_getsBy D cI cZ none [.int v0, .int v1, .int v2, .int v3] (wd_X12_getsBy cI cZ) (kR res (fun u => some (.int u))) := by
  refine metR_of (cc := cX12_getsBy) (maxL := 5) (ret := (some .int)) (own := RX12) (lv0 := [(0, .int v0), (1, .int v1), (2, .int v2), (3, .int v3)]) (by decide) rfl (Nat.le_of_ble_eq_true rfl) rfl rfl (fun G X hR => ?_)
  replace hR := rt_int hR
  unfold f_X12_getsBy at hf
  have J28 : ∀ (v0 : Int32) (v1 : Int32) (s0 : Int32), f_X12_getsBy_28 v0 v1 s0 = some res → G 0 0 (wd_X12_getsBy cI cZ) [(0, .int v0), (1, .int v1)] 28 [.int s0] := by
    intro v0 v1 s0 hf
    unfold f_X12_getsBy_28 at hf
    refine g_istore (lv' := [(0, .int v0), (1, .int v1), (4, .int s0)]) X dX12_getsBy_28 (Nat.le_of_ble_eq_true rfl) [1, 2, 0] rfl ?_
    refine g_iload X dX12_getsBy_30 2 rfl ?_
    refine g_if_eq (tgt := 41) X dX12_getsBy_32 (by decide) (fun hc_3 => ?_) (fun hc_3 => ?_)
    · replace hf := ite_t hc_3 hf
      refine g_iload_n X dX12_getsBy_41 rfl 1 rfl ?_
      refine g_ineg X dX12_getsBy_42 ?_
      exact hR _ _ _ _ dX12_getsBy_43 (kR_in (u := (-v1)) hf)
    · replace hf := ite_f hc_3 hf
      refine g_iload_n X dX12_getsBy_35 rfl 0 rfl ?_
      refine g_iload_n X dX12_getsBy_36 rfl 1 rfl ?_
      refine g_isub X dX12_getsBy_37 ?_
      refine g_goto (tgt := 43) X dX12_getsBy_38 (by decide) ?_
      exact hR _ _ _ _ dX12_getsBy_43 (kR_in (u := (v0 - v1)) hf)
  have J27 : ∀ (v0 : Int32) (v1 : Int32), f_X12_getsBy_27 v0 v1 = some res → G 0 0 (wd_X12_getsBy cI cZ) [(0, .int v0), (1, .int v1)] 27 [] := by
    intro v0 v1 hf
    unfold f_X12_getsBy_27 at hf
    refine g_iconst (v := 0) X dX12_getsBy_27 (by decide) ?_
    exact J28 v0 v1 0 hf
  have J14 : ∀ (v0 : Int32) (v1 : Int32), f_X12_getsBy_14 v0 v1 = some res → G 0 0 (wd_X12_getsBy cI cZ) [(0, .int v0), (1, .int v1)] 14 [] := by
    intro v0 v1 hf
    unfold f_X12_getsBy_14 at hf
    refine g_iload_n X dX12_getsBy_14 rfl 1 rfl ?_
    refine g_iload_n X dX12_getsBy_15 rfl 0 rfl ?_
    refine g_iconst (v := 2) X dX12_getsBy_16 (by decide) ?_
    refine g_iadd X dX12_getsBy_17 ?_
    refine g_iconst (v := 3) X dX12_getsBy_18 (by decide) ?_
    obtain ⟨hz_1, hf⟩ := chz_out hf
    refine g_idiv X dX12_getsBy_19 hz_1 ?_
    refine g_icmp_lt (tgt := 27) X dX12_getsBy_20 (by decide) (fun hc_2 => ?_) (fun hc_2 => ?_)
    · replace hf := ite_t hc_2 hf
      exact J27 v0 v1 hf
    · replace hf := ite_f hc_2 hf
      refine g_iconst (v := 1) X dX12_getsBy_23 (by decide) ?_
      refine g_goto (tgt := 28) X dX12_getsBy_24 (by decide) ?_
      exact J28 v0 v1 1 hf
  refine g_iload_n X dX12_getsBy_0 rfl 1 rfl ?_
  refine g_iload_n X dX12_getsBy_1 rfl 2 rfl ?_
  refine g_icmp_gt (tgt := 14) X dX12_getsBy_2 (by decide) (fun hc_4 => ?_) (fun hc_4 => ?_)
  · replace hf := ite_t hc_4 hf
    refine g_lv X (lv' := [(0, .int v0), (1, .int v1)]) [0, 1] rfl ?_
    exact J14 v0 v1 hf
  · replace hf := ite_f hc_4 hf
    refine g_iload_n X dX12_getsBy_5 rfl 1 rfl ?_
    refine g_iload_n X dX12_getsBy_6 rfl 2 rfl ?_
    refine g_icmp_ne (tgt := 27) X dX12_getsBy_7 (by decide) (fun hc_5 => ?_) (fun hc_5 => ?_)
    · replace hf := ite_f hc_5 hf
      refine g_lv X (lv' := [(0, .int v0), (1, .int v1)]) [0, 1] rfl ?_
      exact J27 v0 v1 hf
    · replace hf := ite_t hc_5 hf
      refine g_iload_n X dX12_getsBy_10 rfl 3 rfl ?_
      refine g_if_eq (tgt := 27) X dX12_getsBy_11 (by decide) (fun hc_6 => ?_) (fun hc_6 => ?_)
      · replace hf := ite_t hc_6 hf
        refine g_lv X (lv' := [(0, .int v0), (1, .int v1)]) [0, 1] rfl ?_
        exact J27 v0 v1 hf
      · replace hf := ite_f hc_6 hf
        refine g_lv X (lv' := [(0, .int v0), (1, .int v1)]) [0, 1] rfl ?_
        exact J14 v0 v1 hf
def wd_X12_rests (cI cZ : ClassId) : va_W := []
abbrev rm_X12_rests : Room := { frames := 1, cells := 0, slots := 0, locals := 24 }
theorem hs_X12_rests : yX12_rests.cls ≠ "java/lang/invoke/MethodHandle" ∧ yX12_rests.cls ≠ "java/lang/invoke/VarHandle" ∧ (parseMethodDescriptor yX12_rests.desc).map (fun d => d.parameters.length) = some 4 := by decide +kernel
set_option maxHeartbeats 4000000 in
set_option maxRecDepth 100000 in
theorem c_X12_rests (l : Launch) (D : va_G) (cI cZ : ClassId) (v0 : Int32) (v1 : Int32) (v2 : Int32) (v3 : Int32) (res : Int32) (hf : f_X12_rests v0 v1 v2 v3 = some res) : MetR l yX12_rests wsX12_rests rm_X12_rests D cI cZ none [.int v0, .int v1, .int v2, .int v3] (wd_X12_rests cI cZ) (kR res (fun u => some (.int u))) := by
  refine metR_of (cc := cX12_rests) (maxL := 6) (ret := (some .boolean)) (own := RX12) (lv0 := [(0, .int v0), (1, .int v1), (2, .int v2), (3, .int v3)]) (by decide) rfl (Nat.le_of_ble_eq_true rfl) rfl rfl (fun G X hR => ?_)
  replace hR := rt_bool hR
  unfold f_X12_rests at hf
  have J59 : ∀ (k6 : Int32 → Int32 → Int32 → Int32 → Int32 → Int32 → Option (Int32)) (hk6 : ∀ (v0 : Int32) (v1 : Int32) (v2 : Int32) (v3 : Int32) (v4 : Int32) (v5 : Int32), k6 v0 v1 v2 v3 v4 v5 = some res → G 0 0 (wd_X12_rests cI cZ) [(0, .int v0), (1, .int v1), (2, .int v2), (3, .int v3), (4, .int v4), (5, .int v5)] 6 []) (v0 : Int32) (v1 : Int32) (v2 : Int32) (v3 : Int32) (v5 : Int32) (s0 : Int32), f_X12_rests_59 k6 v0 v1 v2 v3 v5 s0 = some res → G 0 0 (wd_X12_rests cI cZ) [(0, .int v0), (1, .int v1), (2, .int v2), (3, .int v3), (5, .int v5)] 59 [.int s0] := by
    intro k6 hk6 v0 v1 v2 v3 v5 s0 hf
    unfold f_X12_rests_59 at hf
    refine g_istore (lv' := [(0, .int v0), (1, .int v1), (2, .int v2), (3, .int v3), (4, .int s0), (5, .int v5)]) X dX12_rests_59 (Nat.le_of_ble_eq_true rfl) [1, 2, 3, 4, 0, 5] rfl ?_
    obtain ⟨v5_14, ev5_14, hf⟩ := bnd_out hf
    refine g_iinc (v := v5_14) (lv' := [(0, .int v0), (1, .int v1), (2, .int v2), (3, .int v3), (4, .int s0), (5, .int v5_14)]) X dX12_rests_61 5 rfl (by rw [ev5_14]; rfl) (Nat.le_of_ble_eq_true rfl) [1, 2, 3, 4, 5, 0] rfl ?_
    refine g_goto (tgt := 6) X dX12_rests_64 (by decide) ?_
    exact hk6 v0 v1 v2 v3 s0 v5_14 hf
  have J58 : ∀ (k6 : Int32 → Int32 → Int32 → Int32 → Int32 → Int32 → Option (Int32)) (hk6 : ∀ (v0 : Int32) (v1 : Int32) (v2 : Int32) (v3 : Int32) (v4 : Int32) (v5 : Int32), k6 v0 v1 v2 v3 v4 v5 = some res → G 0 0 (wd_X12_rests cI cZ) [(0, .int v0), (1, .int v1), (2, .int v2), (3, .int v3), (4, .int v4), (5, .int v5)] 6 []) (v0 : Int32) (v1 : Int32) (v2 : Int32) (v3 : Int32) (v5 : Int32), f_X12_rests_58 k6 v0 v1 v2 v3 v5 = some res → G 0 0 (wd_X12_rests cI cZ) [(0, .int v0), (1, .int v1), (2, .int v2), (3, .int v3), (5, .int v5)] 58 [] := by
    intro k6 hk6 v0 v1 v2 v3 v5 hf
    unfold f_X12_rests_58 at hf
    refine g_iconst (v := 0) X dX12_rests_58 (by decide) ?_
    exact J59 k6 hk6 v0 v1 v2 v3 v5 0 hf
  have J6 : ∀ (n : Nat) (v0 : Int32) (v1 : Int32) (v2 : Int32) (v3 : Int32) (v4 : Int32) (v5 : Int32), f_X12_rests_6 n v0 v1 v2 v3 v4 v5 = some res → G 0 0 (wd_X12_rests cI cZ) [(0, .int v0), (1, .int v1), (2, .int v2), (3, .int v3), (4, .int v4), (5, .int v5)] 6 [] := by
    intro n
    induction n with
    | zero => intro v0 v1 v2 v3 v4 v5 hf; rw [f_X12_rests_6] at hf; cases hf
    | succ n ih =>
      intro v0 v1 v2 v3 v4 v5 hf
      rw [f_X12_rests_6] at hf
      refine g_iload X dX12_rests_6 5 rfl ?_
      refine g_bipush (v := 10) X dX12_rests_8 (by decide) ?_
      refine g_icmp_ge (tgt := 67) X dX12_rests_10 (by decide) (fun hc_1 => ?_) (fun hc_1 => ?_)
      · replace hf := ite_t hc_1 hf
        refine g_iload X dX12_rests_67 4 rfl ?_
        obtain ⟨hz_2, hf⟩ := chb_out hf
        exact hR _ _ _ _ hz_2 dX12_rests_69 (kR_in (u := v4) hf)
      · replace hf := ite_f hc_1 hf
        refine g_iload X dX12_rests_13 4 rfl ?_
        refine g_if_eq (tgt := 58) X dX12_rests_15 (by decide) (fun hc_3 => ?_) (fun hc_3 => ?_)
        · replace hf := ite_t hc_3 hf
          refine g_lv X (lv' := [(0, .int v0), (1, .int v1), (2, .int v2), (3, .int v3), (5, .int v5)]) [0, 1, 2, 3, 5] rfl ?_
          exact J58 (f_X12_rests_6 n) ih v0 v1 v2 v3 v5 hf
        · replace hf := ite_f hc_3 hf
          refine g_iload_n X dX12_rests_18 rfl 0 rfl ?_
          refine g_iload X dX12_rests_19 5 rfl ?_
          refine g_iload_n X dX12_rests_21 rfl 3 rfl ?_
          refine g_iconst (v := 1) X dX12_rests_22 (by decide) ?_
          obtain ⟨r_4, hk_5, hf⟩ := ob1_out hf
          refine g_cSR (st := []) (st1 := [.int r_4]) X (c_X12_getsBy l D cI cZ v0 v5 v3 1 _ hk_5) (Or.inl rfl) 4 gX12_rests_X12_getsBy rfl hs_X12_getsBy ⟨Nat.le_of_ble_eq_true rfl, Nat.le_of_ble_eq_true rfl⟩ rfl rfl (Nat.le_of_ble_eq_true rfl) ⟨rfl, rfl⟩ (Nat.zero_le _) (Nat.zero_le _) dX12_rests_23 [] rfl rfl rfl ?_
          refine g_iload_n X dX12_rests_26 rfl 0 rfl ?_
          refine g_iload_n X dX12_rests_27 rfl 2 rfl ?_
          refine g_iload_n X dX12_rests_28 rfl 3 rfl ?_
          refine g_iconst (v := 1) X dX12_rests_29 (by decide) ?_
          obtain ⟨r_6, hk_7, hf⟩ := ob1_out hf
          refine g_cSR (st := [.int r_4]) (st1 := [.int r_6, .int r_4]) X (c_X12_getsBy l D cI cZ v0 v2 v3 1 _ hk_7) (Or.inl rfl) 4 gX12_rests_X12_getsBy rfl hs_X12_getsBy ⟨Nat.le_of_ble_eq_true rfl, Nat.le_of_ble_eq_true rfl⟩ rfl rfl (Nat.le_of_ble_eq_true rfl) ⟨rfl, rfl⟩ (Nat.zero_le _) (Nat.zero_le _) dX12_rests_30 [] rfl rfl rfl ?_
          refine g_icmp_gt (tgt := 58) X dX12_rests_33 (by decide) (fun hc_8 => ?_) (fun hc_8 => ?_)
          · replace hf := ite_t hc_8 hf
            refine g_lv X (lv' := [(0, .int v0), (1, .int v1), (2, .int v2), (3, .int v3), (5, .int v5)]) [0, 1, 2, 3, 5] rfl ?_
            exact J58 (f_X12_rests_6 n) ih v0 v1 v2 v3 v5 hf
          · replace hf := ite_f hc_8 hf
            refine g_iload_n X dX12_rests_36 rfl 1 rfl ?_
            refine g_iload X dX12_rests_37 5 rfl ?_
            refine g_iload_n X dX12_rests_39 rfl 2 rfl ?_
            refine g_iconst (v := 0) X dX12_rests_40 (by decide) ?_
            obtain ⟨r_9, hk_10, hf⟩ := ob1_out hf
            refine g_cSR (st := []) (st1 := [.int r_9]) X (c_X12_getsBy l D cI cZ v1 v5 v2 0 _ hk_10) (Or.inl rfl) 4 gX12_rests_X12_getsBy rfl hs_X12_getsBy ⟨Nat.le_of_ble_eq_true rfl, Nat.le_of_ble_eq_true rfl⟩ rfl rfl (Nat.le_of_ble_eq_true rfl) ⟨rfl, rfl⟩ (Nat.zero_le _) (Nat.zero_le _) dX12_rests_41 [] rfl rfl rfl ?_
            refine g_iload_n X dX12_rests_44 rfl 1 rfl ?_
            refine g_iload_n X dX12_rests_45 rfl 3 rfl ?_
            refine g_iload_n X dX12_rests_46 rfl 2 rfl ?_
            refine g_iconst (v := 0) X dX12_rests_47 (by decide) ?_
            obtain ⟨r_11, hk_12, hf⟩ := ob1_out hf
            refine g_cSR (st := [.int r_9]) (st1 := [.int r_11, .int r_9]) X (c_X12_getsBy l D cI cZ v1 v3 v2 0 _ hk_12) (Or.inl rfl) 4 gX12_rests_X12_getsBy rfl hs_X12_getsBy ⟨Nat.le_of_ble_eq_true rfl, Nat.le_of_ble_eq_true rfl⟩ rfl rfl (Nat.le_of_ble_eq_true rfl) ⟨rfl, rfl⟩ (Nat.zero_le _) (Nat.zero_le _) dX12_rests_48 [] rfl rfl rfl ?_
            refine g_icmp_gt (tgt := 58) X dX12_rests_51 (by decide) (fun hc_13 => ?_) (fun hc_13 => ?_)
            · replace hf := ite_t hc_13 hf
              refine g_lv X (lv' := [(0, .int v0), (1, .int v1), (2, .int v2), (3, .int v3), (5, .int v5)]) [0, 1, 2, 3, 5] rfl ?_
              exact J58 (f_X12_rests_6 n) ih v0 v1 v2 v3 v5 hf
            · replace hf := ite_f hc_13 hf
              refine g_iconst (v := 1) X dX12_rests_54 (by decide) ?_
              refine g_goto (tgt := 59) X dX12_rests_55 (by decide) ?_
              refine g_lv X (lv' := [(0, .int v0), (1, .int v1), (2, .int v2), (3, .int v3), (5, .int v5)]) [0, 1, 2, 3, 5] rfl ?_
              exact J59 (f_X12_rests_6 n) ih v0 v1 v2 v3 v5 1 hf
  refine g_iconst (v := 1) X dX12_rests_0 (by decide) ?_
  refine g_istore (lv' := [(0, .int v0), (1, .int v1), (2, .int v2), (3, .int v3), (4, .int 1)]) X dX12_rests_1 (Nat.le_of_ble_eq_true rfl) [1, 2, 3, 4, 0] rfl ?_
  refine g_iconst (v := 0) X dX12_rests_3 (by decide) ?_
  refine g_istore (lv' := [(0, .int v0), (1, .int v1), (2, .int v2), (3, .int v3), (4, .int 1), (5, .int 0)]) X dX12_rests_4 (Nat.le_of_ble_eq_true rfl) [1, 2, 3, 4, 5, 0] rfl ?_
  exact J6 FU v0 v1 v2 v3 1 0 hf
def wd_X12_lifts (cI cZ : ClassId) (h_t : Nat) (h_t_w : Nat) (h_t_isKept : Nat) (h_t_text : Nat) (h_t_statuses : Nat) (h_t_ways : Nat) (h_t_feels : Nat) (h_t_next : Nat) (h_t_came : Nat) (h_t_deep : Nat) (h_t_sizes : Nat) (h_t_tableOf : Nat) (h_t_usedBy : Nat) (h_t_taken : Nat) (h_t_sixOf : Nat) (t_texted : Int32) (t_above : Int64) (t_below : Int64) (t_at : Int32) (t_start : Int32) (t_number : Int32) (t_went : Int32) (t_h : Int64) (t_w : (Nat → Int32)) (t_statuses : (Nat → Int32)) : va_W := [(h_t, .inr (8, [.ref h_t_w, .ref h_t_isKept, .ref h_t_text, .int t_texted, .long t_above, .long t_below, .ref h_t_statuses, .int t_at, .int t_start, .int t_number, .ref h_t_ways, .int t_went, .ref h_t_feels, .ref h_t_next, .ref h_t_came, .ref h_t_deep, .ref h_t_sizes, .ref h_t_tableOf, .ref h_t_usedBy, .ref h_t_taken, .ref h_t_sixOf, .long t_h])), (h_t_w, .inl (cI, 1251, .inl t_w)), (h_t_statuses, .inl (cI, 3, .inl t_statuses))]
abbrev rm_X12_lifts : Room := { frames := 2, cells := 0, slots := 0, locals := 49 }
theorem hv_X12_lifts : yX12_lifts.cls = RX12 ∧ yX12_lifts.cls ≠ "java/lang/invoke/MethodHandle" ∧ yX12_lifts.cls ≠ "java/lang/invoke/VarHandle" ∧ (parseMethodDescriptor yX12_lifts.desc).map (fun d => d.parameters.length) = some 3 := by decide +kernel
set_option maxHeartbeats 4000000 in
set_option maxRecDepth 100000 in
theorem c_X12_lifts (l : Launch) (D : va_G) (cI cZ : ClassId) (h_t : Nat) (h_t_w : Nat) (h_t_isKept : Nat) (h_t_text : Nat) (h_t_statuses : Nat) (h_t_ways : Nat) (h_t_feels : Nat) (h_t_next : Nat) (h_t_came : Nat) (h_t_deep : Nat) (h_t_sizes : Nat) (h_t_tableOf : Nat) (h_t_usedBy : Nat) (h_t_taken : Nat) (h_t_sixOf : Nat) (t_texted : Int32) (t_above : Int64) (t_below : Int64) (t_at : Int32) (t_start : Int32) (t_number : Int32) (t_went : Int32) (t_h : Int64) (t_w : (Nat → Int32)) (t_statuses : (Nat → Int32)) (v1 : Int32) (v2 : Int32) (v3 : Int32) (res : Int32 × (Nat → Int32)) (hf : f_X12_lifts t_w t_statuses v1 v2 v3 = some res) : MetG l yX12_lifts wsX12_lifts rm_X12_lifts D cI cZ none [.ref h_t, .int v1, .int v2, .int v3] (wd_X12_lifts cI cZ h_t h_t_w h_t_isKept h_t_text h_t_statuses h_t_ways h_t_feels h_t_next h_t_came h_t_deep h_t_sizes h_t_tableOf h_t_usedBy h_t_taken h_t_sixOf t_texted t_above t_below t_at t_start t_number t_went t_h t_w t_statuses) (kV res (fun u => some (.int u.1)) (fun u => (wd_X12_lifts cI cZ h_t h_t_w h_t_isKept h_t_text h_t_statuses h_t_ways h_t_feels h_t_next h_t_came h_t_deep h_t_sizes h_t_tableOf h_t_usedBy h_t_taken h_t_sixOf t_texted t_above t_below t_at t_start t_number t_went t_h t_w (u.2)))) := by
  refine metG_of (cc := cX12_lifts) (maxL := 8) (ret := (some .int)) (own := RX12) (lv0 := [(0, .ref h_t), (1, .int v1), (2, .int v2), (3, .int v3)]) (ini := false) (by decide) rfl (Nat.le_of_ble_eq_true rfl) rfl rfl (fun h => by cases h) (fun G X hR => ?_)
  replace hR := rt_int hR
  unfold f_X12_lifts at hf
  have J26 : ∀ (t_statuses : (Nat → Int32)), f_X12_lifts_26 t_w t_statuses = some res → G 0 0 (wd_X12_lifts cI cZ h_t h_t_w h_t_isKept h_t_text h_t_statuses h_t_ways h_t_feels h_t_next h_t_came h_t_deep h_t_sizes h_t_tableOf h_t_usedBy h_t_taken h_t_sixOf t_texted t_above t_below t_at t_start t_number t_went t_h t_w t_statuses) [(0, .ref h_t)] 26 [] := by
    intro t_statuses hf
    unfold f_X12_lifts_26 at hf
    refine g_aload_n X dX12_lifts_26 rfl 0 rfl ?_
    refine g_bipush (v := (-10)) X dX12_lifts_27 (by decide) ?_
    obtain ⟨r_1, t_statuses_2, hk_3, hf⟩ := ob2_out hf
    refine g_cVW (st := []) (st1 := [.int r_1]) (C := RX12) (ci := 8) (q0 := 0) (ws' := (wd_X12_lifts cI cZ h_t h_t_w h_t_isKept h_t_text h_t_statuses h_t_ways h_t_feels h_t_next h_t_came h_t_deep h_t_sizes h_t_tableOf h_t_usedBy h_t_taken h_t_sixOf t_texted t_above t_below t_at t_start t_number t_went t_h t_w t_statuses_2)) X (c_X12_bad l D cI cZ h_t h_t_w h_t_isKept h_t_text h_t_statuses h_t_ways h_t_feels h_t_next h_t_came h_t_deep h_t_sizes h_t_tableOf h_t_usedBy h_t_taken h_t_sixOf t_texted t_above t_below t_at t_start t_number t_went t_h t_statuses (-10) _ hk_3) (Or.inl rfl) 1 gX12_lifts_X12_bad rfl hv_X12_bad ⟨Nat.le_of_ble_eq_true rfl, Nat.le_of_ble_eq_true rfl⟩ rfl rfl (Nat.le_of_ble_eq_true rfl) ⟨rfl, rfl⟩ (Nat.zero_le _) (Nat.zero_le _) rfl rfl rfl dX12_lifts_29 [0, 2] rfl rfl [1] rfl rfl (by decide) [1, 0, 2] rfl rfl rfl ?_
    exact hR _ _ _ _ dX12_lifts_32 (kV_in (u := (r_1, t_statuses_2)) hf)
  have J104 : ∀ (k65 : (Nat → Int32) → Int32 → Int32 → Int32 → Int32 → Int32 → Option (Int32 × (Nat → Int32))) (hk65 : ∀ (t_statuses : (Nat → Int32)) (v3 : Int32) (v4 : Int32) (v5 : Int32) (v6 : Int32) (v7 : Int32), k65 t_statuses v3 v4 v5 v6 v7 = some res → G 0 0 (wd_X12_lifts cI cZ h_t h_t_w h_t_isKept h_t_text h_t_statuses h_t_ways h_t_feels h_t_next h_t_came h_t_deep h_t_sizes h_t_tableOf h_t_usedBy h_t_taken h_t_sixOf t_texted t_above t_below t_at t_start t_number t_went t_h t_w t_statuses) [(3, .int v3), (4, .int v4), (5, .int v5), (6, .int v6), (7, .int v7)] 65 []) (t_statuses : (Nat → Int32)) (v3 : Int32) (v4 : Int32) (v5 : Int32) (v6 : Int32) (v7 : Int32), f_X12_lifts_104 t_w k65 t_statuses v3 v4 v5 v6 v7 = some res → G 0 0 (wd_X12_lifts cI cZ h_t h_t_w h_t_isKept h_t_text h_t_statuses h_t_ways h_t_feels h_t_next h_t_came h_t_deep h_t_sizes h_t_tableOf h_t_usedBy h_t_taken h_t_sixOf t_texted t_above t_below t_at t_start t_number t_went t_h t_w t_statuses) [(3, .int v3), (4, .int v4), (5, .int v5), (6, .int v6), (7, .int v7)] 104 [] := by
    intro k65 hk65 t_statuses v3 v4 v5 v6 v7 hf
    unfold f_X12_lifts_104 at hf
    obtain ⟨v7_12, ev7_12, hf⟩ := bnd_out hf
    refine g_iinc (v := v7_12) (lv' := [(3, .int v3), (4, .int v4), (5, .int v5), (6, .int v6), (7, .int v7_12)]) X dX12_lifts_104 4 rfl (by rw [ev7_12]; rfl) (Nat.le_of_ble_eq_true rfl) [1, 2, 3, 4, 0] rfl ?_
    refine g_goto (tgt := 65) X dX12_lifts_107 (by decide) ?_
    exact hk65 t_statuses v3 v4 v5 v6 v7_12 hf
  have J110 : ∀ (t_statuses : (Nat → Int32)) (v3 : Int32) (v6 : Int32), f_X12_lifts_110 t_w t_statuses v3 v6 = some res → G 0 0 (wd_X12_lifts cI cZ h_t h_t_w h_t_isKept h_t_text h_t_statuses h_t_ways h_t_feels h_t_next h_t_came h_t_deep h_t_sizes h_t_tableOf h_t_usedBy h_t_taken h_t_sixOf t_texted t_above t_below t_at t_start t_number t_went t_h t_w t_statuses) [(3, .int v3), (6, .int v6)] 110 [] := by
    intro t_statuses v3 v6 hf
    unfold f_X12_lifts_110 at hf
    refine g_iload_n X dX12_lifts_110 rfl 0 rfl ?_
    refine g_iconst (v := (-1)) X dX12_lifts_111 (by decide) ?_
    refine g_icmp_ne (tgt := 120) X dX12_lifts_112 (by decide) (fun hc_13 => ?_) (fun hc_13 => ?_)
    · replace hf := ite_f hc_13 hf
      refine g_bipush (v := (-5)) X dX12_lifts_120 (by decide) ?_
      exact hR _ _ _ _ dX12_lifts_122 (kV_in (u := ((-5), t_statuses)) hf)
    · replace hf := ite_t hc_13 hf
      refine g_iload X dX12_lifts_115 1 rfl ?_
      refine g_goto (tgt := 122) X dX12_lifts_117 (by decide) ?_
      exact hR _ _ _ _ dX12_lifts_122 (kV_in (u := (v6, t_statuses)) hf)
  have J65 : ∀ (n : Nat) (t_statuses : (Nat → Int32)) (v3 : Int32) (v4 : Int32) (v5 : Int32) (v6 : Int32) (v7 : Int32), f_X12_lifts_65 t_w n t_statuses v3 v4 v5 v6 v7 = some res → G 0 0 (wd_X12_lifts cI cZ h_t h_t_w h_t_isKept h_t_text h_t_statuses h_t_ways h_t_feels h_t_next h_t_came h_t_deep h_t_sizes h_t_tableOf h_t_usedBy h_t_taken h_t_sixOf t_texted t_above t_below t_at t_start t_number t_went t_h t_w t_statuses) [(3, .int v3), (4, .int v4), (5, .int v5), (6, .int v6), (7, .int v7)] 65 [] := by
    intro n
    induction n with
    | zero => intro t_statuses v3 v4 v5 v6 v7 hf; rw [f_X12_lifts_65] at hf; cases hf
    | succ n ih =>
      intro t_statuses v3 v4 v5 v6 v7 hf
      rw [f_X12_lifts_65] at hf
      refine g_iload X dX12_lifts_65 4 rfl ?_
      refine g_bipush (v := 100) X dX12_lifts_67 (by decide) ?_
      refine g_icmp_ge (tgt := 110) X dX12_lifts_69 (by decide) (fun hc_4 => ?_) (fun hc_4 => ?_)
      · replace hf := ite_t hc_4 hf
        refine g_lv X (lv' := [(3, .int v3), (6, .int v6)]) [0, 3] rfl ?_
        exact J110 t_statuses v3 v6 hf
      · replace hf := ite_f hc_4 hf
        refine g_iload X dX12_lifts_72 1 rfl ?_
        refine g_iload X dX12_lifts_74 2 rfl ?_
        refine g_iload X dX12_lifts_76 4 rfl ?_
        refine g_bipush (v := 10) X dX12_lifts_78 (by decide) ?_
        obtain ⟨hz_5, hf⟩ := chz_out hf
        refine g_idiv X dX12_lifts_80 hz_5 ?_
        refine g_iload X dX12_lifts_81 4 rfl ?_
        refine g_bipush (v := 10) X dX12_lifts_83 (by decide) ?_
        obtain ⟨hz_6, hf⟩ := chz_out hf
        refine g_irem X dX12_lifts_85 hz_6 ?_
        obtain ⟨r_7, hk_8, hf⟩ := ob1_out hf
        refine g_cSR (st := []) (st1 := [.int r_7]) X (c_X12_rests l D cI cZ v4 v5 (v7 / 10) (v7 - v7 / 10 * 10) _ hk_8) (Or.inl rfl) 4 gX12_lifts_X12_rests rfl hs_X12_rests ⟨Nat.le_of_ble_eq_true rfl, Nat.le_of_ble_eq_true rfl⟩ rfl rfl (Nat.le_of_ble_eq_true rfl) ⟨rfl, rfl⟩ (Nat.zero_le _) (Nat.zero_le _) dX12_lifts_86 [] rfl rfl rfl ?_
        refine g_if_eq (tgt := 104) X dX12_lifts_89 (by decide) (fun hc_9 => ?_) (fun hc_9 => ?_)
        · replace hf := ite_t hc_9 hf
          exact J104 (f_X12_lifts_65 t_w n) ih t_statuses v3 v4 v5 v6 v7 hf
        · replace hf := ite_f hc_9 hf
          refine g_iload X dX12_lifts_92 3 rfl ?_
          refine g_iload_n X dX12_lifts_94 rfl 0 rfl ?_
          refine g_icmp_ne (tgt := 101) X dX12_lifts_95 (by decide) (fun hc_10 => ?_) (fun hc_10 => ?_)
          · replace hf := ite_f hc_10 hf
            obtain ⟨v6_11, ev6_11, hf⟩ := bnd_out hf
            refine g_iinc (v := v6_11) (lv' := [(3, .int v3), (4, .int v4), (5, .int v5), (6, .int v6_11), (7, .int v7)]) X dX12_lifts_101 3 rfl (by rw [ev6_11]; rfl) (Nat.le_of_ble_eq_true rfl) [1, 2, 3, 0, 4] rfl ?_
            exact J104 (f_X12_lifts_65 t_w n) ih t_statuses v3 v4 v5 v6_11 v7 hf
          · replace hf := ite_t hc_10 hf
            refine g_iload X dX12_lifts_98 4 rfl ?_
            exact hR _ _ _ _ dX12_lifts_100 (kV_in (u := (v7, t_statuses)) hf)
  refine g_aload_n X dX12_lifts_0 rfl 0 rfl ?_
  refine g_iload_n X dX12_lifts_1 rfl 1 rfl ?_
  obtain ⟨r_14, hk_15, hf⟩ := ob1_out hf
  refine g_cVR (st := []) (st1 := [.int r_14]) (C := RX12) (ci := 8) (q0 := 0) X (c_X12_isClerk l D cI cZ h_t h_t_w h_t_isKept h_t_text h_t_statuses h_t_ways h_t_feels h_t_next h_t_came h_t_deep h_t_sizes h_t_tableOf h_t_usedBy h_t_taken h_t_sixOf t_texted t_above t_below t_at t_start t_number t_went t_h t_w v1 _ hk_15) (Or.inl rfl) 1 gX12_lifts_X12_isClerk rfl hv_X12_isClerk ⟨Nat.le_of_ble_eq_true rfl, Nat.le_of_ble_eq_true rfl⟩ rfl rfl (Nat.le_of_ble_eq_true rfl) ⟨rfl, rfl⟩ (Nat.zero_le _) (Nat.zero_le _) rfl rfl rfl dX12_lifts_2 [0, 1] rfl rfl rfl ?_
  refine g_if_eq (tgt := 26) X dX12_lifts_5 (by decide) (fun hc_16 => ?_) (fun hc_16 => ?_)
  · replace hf := ite_t hc_16 hf
    refine g_lv X (lv' := [(0, .ref h_t)]) [0] rfl ?_
    exact J26 t_statuses hf
  · replace hf := ite_f hc_16 hf
    refine g_aload_n X dX12_lifts_8 rfl 0 rfl ?_
    refine g_iload_n X dX12_lifts_9 rfl 2 rfl ?_
    obtain ⟨r_17, hk_18, hf⟩ := ob1_out hf
    refine g_cVR (st := []) (st1 := [.int r_17]) (C := RX12) (ci := 8) (q0 := 0) X (c_X12_isClerk l D cI cZ h_t h_t_w h_t_isKept h_t_text h_t_statuses h_t_ways h_t_feels h_t_next h_t_came h_t_deep h_t_sizes h_t_tableOf h_t_usedBy h_t_taken h_t_sixOf t_texted t_above t_below t_at t_start t_number t_went t_h t_w v2 _ hk_18) (Or.inl rfl) 1 gX12_lifts_X12_isClerk rfl hv_X12_isClerk ⟨Nat.le_of_ble_eq_true rfl, Nat.le_of_ble_eq_true rfl⟩ rfl rfl (Nat.le_of_ble_eq_true rfl) ⟨rfl, rfl⟩ (Nat.zero_le _) (Nat.zero_le _) rfl rfl rfl dX12_lifts_10 [0, 1] rfl rfl rfl ?_
    refine g_if_eq (tgt := 26) X dX12_lifts_13 (by decide) (fun hc_19 => ?_) (fun hc_19 => ?_)
    · replace hf := ite_t hc_19 hf
      refine g_lv X (lv' := [(0, .ref h_t)]) [0] rfl ?_
      exact J26 t_statuses hf
    · replace hf := ite_f hc_19 hf
      refine g_iload_n X dX12_lifts_16 rfl 1 rfl ?_
      refine g_iload_n X dX12_lifts_17 rfl 2 rfl ?_
      refine g_icmp_eq (tgt := 26) X dX12_lifts_18 (by decide) (fun hc_20 => ?_) (fun hc_20 => ?_)
      · replace hf := ite_t hc_20 hf
        refine g_lv X (lv' := [(0, .ref h_t)]) [0] rfl ?_
        exact J26 t_statuses hf
      · replace hf := ite_f hc_20 hf
        refine g_iload_n X dX12_lifts_21 rfl 3 rfl ?_
        refine g_iconst (v := (-1)) X dX12_lifts_22 (by decide) ?_
        refine g_icmp_ge (tgt := 33) X dX12_lifts_23 (by decide) (fun hc_21 => ?_) (fun hc_21 => ?_)
        · replace hf := ite_t hc_21 hf
          refine g_aload_n X dX12_lifts_33 rfl 0 rfl ?_
          refine g_iconst (v := 0) X dX12_lifts_34 (by decide) ?_
          refine g_aload_n X dX12_lifts_35 rfl 0 rfl ?_
          refine g_iconst (v := 0) X dX12_lifts_36 (by decide) ?_
          refine g_iload_n X dX12_lifts_37 rfl 1 rfl ?_
          obtain ⟨r_22, hk_23, hf⟩ := ob1_out hf
          refine g_cVR (st := [.int 0, .ref h_t]) (st1 := [.int r_22, .int 0, .ref h_t]) (C := RX12) (ci := 8) (q0 := 0) X (c_X12_stringOf l D cI cZ h_t h_t_w h_t_isKept h_t_text h_t_statuses h_t_ways h_t_feels h_t_next h_t_came h_t_deep h_t_sizes h_t_tableOf h_t_usedBy h_t_taken h_t_sixOf t_texted t_above t_below t_at t_start t_number t_went t_h t_w 0 v1 _ hk_23) (Or.inl rfl) 2 gX12_lifts_X12_stringOf rfl hv_X12_stringOf ⟨Nat.le_of_ble_eq_true rfl, Nat.le_of_ble_eq_true rfl⟩ rfl rfl (Nat.le_of_ble_eq_true rfl) ⟨rfl, rfl⟩ (Nat.zero_le _) (Nat.zero_le _) rfl rfl rfl dX12_lifts_38 [0, 1] rfl rfl rfl ?_
          obtain ⟨r_24, hk_25, hf⟩ := ob1_out hf
          refine g_cVR (st := []) (st1 := [.int r_24]) (C := RX12) (ci := 8) (q0 := 0) X (c_X12_weighs l D cI cZ h_t h_t_w h_t_isKept h_t_text h_t_statuses h_t_ways h_t_feels h_t_next h_t_came h_t_deep h_t_sizes h_t_tableOf h_t_usedBy h_t_taken h_t_sixOf t_texted t_above t_below t_at t_start t_number t_went t_h t_w 0 r_22 _ hk_25) (Or.inl rfl) 2 gX12_lifts_X12_weighs rfl hv_X12_weighs ⟨Nat.le_of_ble_eq_true rfl, Nat.le_of_ble_eq_true rfl⟩ rfl rfl (Nat.le_of_ble_eq_true rfl) ⟨rfl, rfl⟩ (Nat.zero_le _) (Nat.zero_le _) rfl rfl rfl dX12_lifts_41 [0, 1] rfl rfl rfl ?_
          refine g_istore (lv' := [(0, .ref h_t), (1, .int v1), (2, .int v2), (3, .int v3), (4, .int r_24)]) X dX12_lifts_44 (Nat.le_of_ble_eq_true rfl) [1, 2, 3, 4, 0] rfl ?_
          refine g_aload_n X dX12_lifts_46 rfl 0 rfl ?_
          refine g_iconst (v := 0) X dX12_lifts_47 (by decide) ?_
          refine g_aload_n X dX12_lifts_48 rfl 0 rfl ?_
          refine g_iconst (v := 0) X dX12_lifts_49 (by decide) ?_
          refine g_iload_n X dX12_lifts_50 rfl 2 rfl ?_
          obtain ⟨r_26, hk_27, hf⟩ := ob1_out hf
          refine g_cVR (st := [.int 0, .ref h_t]) (st1 := [.int r_26, .int 0, .ref h_t]) (C := RX12) (ci := 8) (q0 := 0) X (c_X12_stringOf l D cI cZ h_t h_t_w h_t_isKept h_t_text h_t_statuses h_t_ways h_t_feels h_t_next h_t_came h_t_deep h_t_sizes h_t_tableOf h_t_usedBy h_t_taken h_t_sixOf t_texted t_above t_below t_at t_start t_number t_went t_h t_w 0 v2 _ hk_27) (Or.inl rfl) 2 gX12_lifts_X12_stringOf rfl hv_X12_stringOf ⟨Nat.le_of_ble_eq_true rfl, Nat.le_of_ble_eq_true rfl⟩ rfl rfl (Nat.le_of_ble_eq_true rfl) ⟨rfl, rfl⟩ (Nat.zero_le _) (Nat.zero_le _) rfl rfl rfl dX12_lifts_51 [0, 1] rfl rfl rfl ?_
          obtain ⟨r_28, hk_29, hf⟩ := ob1_out hf
          refine g_cVR (st := []) (st1 := [.int r_28]) (C := RX12) (ci := 8) (q0 := 0) X (c_X12_weighs l D cI cZ h_t h_t_w h_t_isKept h_t_text h_t_statuses h_t_ways h_t_feels h_t_next h_t_came h_t_deep h_t_sizes h_t_tableOf h_t_usedBy h_t_taken h_t_sixOf t_texted t_above t_below t_at t_start t_number t_went t_h t_w 0 r_26 _ hk_29) (Or.inl rfl) 2 gX12_lifts_X12_weighs rfl hv_X12_weighs ⟨Nat.le_of_ble_eq_true rfl, Nat.le_of_ble_eq_true rfl⟩ rfl rfl (Nat.le_of_ble_eq_true rfl) ⟨rfl, rfl⟩ (Nat.zero_le _) (Nat.zero_le _) rfl rfl rfl dX12_lifts_54 [0, 1] rfl rfl rfl ?_
          refine g_istore (lv' := [(0, .ref h_t), (1, .int v1), (2, .int v2), (3, .int v3), (4, .int r_24), (5, .int r_28)]) X dX12_lifts_57 (Nat.le_of_ble_eq_true rfl) [1, 2, 3, 4, 5, 0] rfl ?_
          refine g_iconst (v := 0) X dX12_lifts_59 (by decide) ?_
          refine g_istore (lv' := [(0, .ref h_t), (1, .int v1), (2, .int v2), (3, .int v3), (4, .int r_24), (5, .int r_28), (6, .int 0)]) X dX12_lifts_60 (Nat.le_of_ble_eq_true rfl) [1, 2, 3, 4, 5, 6, 0] rfl ?_
          refine g_iconst (v := 0) X dX12_lifts_62 (by decide) ?_
          refine g_istore (lv' := [(0, .ref h_t), (1, .int v1), (2, .int v2), (3, .int v3), (4, .int r_24), (5, .int r_28), (6, .int 0), (7, .int 0)]) X dX12_lifts_63 (Nat.le_of_ble_eq_true rfl) [1, 2, 3, 4, 5, 6, 7, 0] rfl ?_
          refine g_lv X (lv' := [(3, .int v3), (4, .int r_24), (5, .int r_28), (6, .int 0), (7, .int 0)]) [3, 4, 5, 6, 7] rfl ?_
          exact J65 FU t_statuses v3 r_24 r_28 0 0 hf
        · replace hf := ite_f hc_21 hf
          refine g_lv X (lv' := [(0, .ref h_t)]) [0] rfl ?_
          exact J26 t_statuses hf
def wd_X12_slips (cI cZ : ClassId) (h_t : Nat) (h_t_w : Nat) (h_t_isKept : Nat) (h_t_text : Nat) (h_t_statuses : Nat) (h_t_ways : Nat) (h_t_feels : Nat) (h_t_next : Nat) (h_t_came : Nat) (h_t_deep : Nat) (h_t_sizes : Nat) (h_t_tableOf : Nat) (h_t_usedBy : Nat) (h_t_taken : Nat) (h_t_sixOf : Nat) (t_texted : Int32) (t_above : Int64) (t_below : Int64) (t_at : Int32) (t_start : Int32) (t_number : Int32) (t_went : Int32) (t_h : Int64) (t_w : (Nat → Int32)) (t_statuses : (Nat → Int32)) (t_feels : (Nat → Int32)) (t_next : (Nat → Int32)) (t_came : (Nat → Int32)) : va_W := [(h_t, .inr (8, [.ref h_t_w, .ref h_t_isKept, .ref h_t_text, .int t_texted, .long t_above, .long t_below, .ref h_t_statuses, .int t_at, .int t_start, .int t_number, .ref h_t_ways, .int t_went, .ref h_t_feels, .ref h_t_next, .ref h_t_came, .ref h_t_deep, .ref h_t_sizes, .ref h_t_tableOf, .ref h_t_usedBy, .ref h_t_taken, .ref h_t_sixOf, .long t_h])), (h_t_w, .inl (cI, 1251, .inl t_w)), (h_t_statuses, .inl (cI, 3, .inl t_statuses)), (h_t_feels, .inl (cI, 7, .inl t_feels)), (h_t_next, .inl (cI, 7, .inl t_next)), (h_t_came, .inl (cI, 7, .inl t_came))]
abbrev rm_X12_slips : Room := { frames := 3, cells := 0, slots := 0, locals := 72 }
theorem hv_X12_slips : yX12_slips.cls = RX12 ∧ yX12_slips.cls ≠ "java/lang/invoke/MethodHandle" ∧ yX12_slips.cls ≠ "java/lang/invoke/VarHandle" ∧ (parseMethodDescriptor yX12_slips.desc).map (fun d => d.parameters.length) = some 4 := by decide +kernel
theorem iw_X12_slips_X12 : ∀ w ∈ u_ws RX12 TX12 22, w ∈ wsX12_slips := by decide +kernel
theorem lk_X12_slips_7 : Cond.fieldLink RX12 7 "ClerkChainsModel" "w" "[I" ∈ wsX12_slips := by decide +kernel
theorem lk_X12_slips_296 : Cond.constantLong RX12 296 10 ∈ wsX12_slips := by decide +kernel
theorem lk_X12_slips_33 : Cond.fieldLink RX12 33 "ClerkChainsModel" "feels" "[I" ∈ wsX12_slips := by decide +kernel
theorem lk_X12_slips_20 : Cond.fieldLink RX12 20 "ClerkChainsModel" "above" "J" ∈ wsX12_slips := by decide +kernel
theorem lk_X12_slips_24 : Cond.fieldLink RX12 24 "ClerkChainsModel" "below" "J" ∈ wsX12_slips := by decide +kernel
theorem lk_X12_slips_233 : Cond.constantLong RX12 233 20 ∈ wsX12_slips := by decide +kernel
set_option maxHeartbeats 4000000 in
set_option maxRecDepth 100000 in
theorem c_X12_slips (l : Launch) (D : va_G) (cI cZ : ClassId) (h_t : Nat) (h_t_w : Nat) (h_t_isKept : Nat) (h_t_text : Nat) (h_t_statuses : Nat) (h_t_ways : Nat) (h_t_feels : Nat) (h_t_next : Nat) (h_t_came : Nat) (h_t_deep : Nat) (h_t_sizes : Nat) (h_t_tableOf : Nat) (h_t_usedBy : Nat) (h_t_taken : Nat) (h_t_sixOf : Nat) (t_texted : Int32) (t_above : Int64) (t_below : Int64) (t_at : Int32) (t_start : Int32) (t_number : Int32) (t_went : Int32) (t_h : Int64) (t_w : (Nat → Int32)) (t_statuses : (Nat → Int32)) (t_feels : (Nat → Int32)) (t_next : (Nat → Int32)) (t_came : (Nat → Int32)) (v1 : Int32) (v2 : Int32) (v3 : Int32) (v4 : Int32) (res : Int32 × Int64 × Int64 × (Nat → Int32) × (Nat → Int32) × (Nat → Int32) × (Nat → Int32) × (Nat → Int32)) (hf : f_X12_slips t_above t_below t_w t_statuses t_feels t_next t_came v1 v2 v3 v4 = some res) : MetG l yX12_slips wsX12_slips rm_X12_slips D cI cZ none [.ref h_t, .int v1, .int v2, .int v3, .int v4] (wd_X12_slips cI cZ h_t h_t_w h_t_isKept h_t_text h_t_statuses h_t_ways h_t_feels h_t_next h_t_came h_t_deep h_t_sizes h_t_tableOf h_t_usedBy h_t_taken h_t_sixOf t_texted t_above t_below t_at t_start t_number t_went t_h t_w t_statuses t_feels t_next t_came) (kV res (fun u => some (.int u.1)) (fun u => (wd_X12_slips cI cZ h_t h_t_w h_t_isKept h_t_text h_t_statuses h_t_ways h_t_feels h_t_next h_t_came h_t_deep h_t_sizes h_t_tableOf h_t_usedBy h_t_taken h_t_sixOf t_texted (u.2.1) (u.2.2.1) t_at t_start t_number t_went t_h (u.2.2.2.1) (u.2.2.2.2.1) (u.2.2.2.2.2.1) (u.2.2.2.2.2.2.1) (u.2.2.2.2.2.2.2)))) := by
  refine metG_of (cc := cX12_slips) (maxL := 15) (ret := (some .int)) (own := RX12) (lv0 := [(0, .ref h_t), (1, .int v1), (2, .int v2), (3, .int v3), (4, .int v4)]) (ini := false) (by decide) rfl (Nat.le_of_ble_eq_true rfl) rfl rfl (fun h => by cases h) (fun G X hR => ?_)
  replace hR := rt_int hR
  unfold f_X12_slips at hf
  have J41 : ∀ (t_above : Int64) (t_below : Int64) (t_w : (Nat → Int32)) (t_statuses : (Nat → Int32)) (t_feels : (Nat → Int32)) (t_next : (Nat → Int32)) (t_came : (Nat → Int32)), f_X12_slips_41 t_above t_below t_w t_statuses t_feels t_next t_came = some res → G 0 0 (wd_X12_slips cI cZ h_t h_t_w h_t_isKept h_t_text h_t_statuses h_t_ways h_t_feels h_t_next h_t_came h_t_deep h_t_sizes h_t_tableOf h_t_usedBy h_t_taken h_t_sixOf t_texted t_above t_below t_at t_start t_number t_went t_h t_w t_statuses t_feels t_next t_came) [(0, .ref h_t)] 41 [] := by
    intro t_above t_below t_w t_statuses t_feels t_next t_came hf
    unfold f_X12_slips_41 at hf
    refine g_aload_n X dX12_slips_41 rfl 0 rfl ?_
    refine g_bipush (v := (-2)) X dX12_slips_42 (by decide) ?_
    obtain ⟨r_1, t_statuses_2, hk_3, hf⟩ := ob2_out hf
    refine g_cVW (st := []) (st1 := [.int r_1]) (C := RX12) (ci := 8) (q0 := 0) (ws' := (wd_X12_slips cI cZ h_t h_t_w h_t_isKept h_t_text h_t_statuses h_t_ways h_t_feels h_t_next h_t_came h_t_deep h_t_sizes h_t_tableOf h_t_usedBy h_t_taken h_t_sixOf t_texted t_above t_below t_at t_start t_number t_went t_h t_w t_statuses_2 t_feels t_next t_came)) X (c_X12_bad l D cI cZ h_t h_t_w h_t_isKept h_t_text h_t_statuses h_t_ways h_t_feels h_t_next h_t_came h_t_deep h_t_sizes h_t_tableOf h_t_usedBy h_t_taken h_t_sixOf t_texted t_above t_below t_at t_start t_number t_went t_h t_statuses (-2) _ hk_3) (Or.inl rfl) 1 gX12_slips_X12_bad rfl hv_X12_bad ⟨Nat.le_of_ble_eq_true rfl, Nat.le_of_ble_eq_true rfl⟩ rfl rfl (Nat.le_of_ble_eq_true rfl) ⟨rfl, rfl⟩ (Nat.zero_le _) (Nat.zero_le _) rfl rfl rfl dX12_slips_44 [0, 2] rfl rfl [1, 3, 4, 5] rfl rfl (by decide) [4, 0, 5, 1, 2, 3] rfl rfl rfl ?_
    exact hR _ _ _ _ dX12_slips_47 (kV_in (u := (r_1, t_above, t_below, t_w, t_statuses_2, t_feels, t_next, t_came)) hf)
  have J91 : ∀ (k57 : Int64 → Int64 → (Nat → Int32) → (Nat → Int32) → (Nat → Int32) → (Nat → Int32) → (Nat → Int32) → Int32 → Int32 → Int32 → Int32 → Int64 → Int64 → Int32 → Option (Int32 × Int64 × Int64 × (Nat → Int32) × (Nat → Int32) × (Nat → Int32) × (Nat → Int32) × (Nat → Int32))) (hk57 : ∀ (t_above : Int64) (t_below : Int64) (t_w : (Nat → Int32)) (t_statuses : (Nat → Int32)) (t_feels : (Nat → Int32)) (t_next : (Nat → Int32)) (t_came : (Nat → Int32)) (v1 : Int32) (v2 : Int32) (v3 : Int32) (v4 : Int32) (v5 : Int64) (v7 : Int64) (v9 : Int32), k57 t_above t_below t_w t_statuses t_feels t_next t_came v1 v2 v3 v4 v5 v7 v9 = some res → G 0 0 (wd_X12_slips cI cZ h_t h_t_w h_t_isKept h_t_text h_t_statuses h_t_ways h_t_feels h_t_next h_t_came h_t_deep h_t_sizes h_t_tableOf h_t_usedBy h_t_taken h_t_sixOf t_texted t_above t_below t_at t_start t_number t_went t_h t_w t_statuses t_feels t_next t_came) [(0, .ref h_t), (1, .int v1), (2, .int v2), (3, .int v3), (4, .int v4), (5, .long v5), (7, .long v7), (9, .int v9)] 57 []) (t_above : Int64) (t_below : Int64) (t_w : (Nat → Int32)) (t_statuses : (Nat → Int32)) (t_feels : (Nat → Int32)) (t_next : (Nat → Int32)) (t_came : (Nat → Int32)) (v1 : Int32) (v2 : Int32) (v3 : Int32) (v4 : Int32) (v5 : Int64) (v9 : Int32) (s0 : Int64) (s1 : Int64), f_X12_slips_91 k57 t_above t_below t_w t_statuses t_feels t_next t_came v1 v2 v3 v4 v5 v9 s0 s1 = some res → G 0 0 (wd_X12_slips cI cZ h_t h_t_w h_t_isKept h_t_text h_t_statuses h_t_ways h_t_feels h_t_next h_t_came h_t_deep h_t_sizes h_t_tableOf h_t_usedBy h_t_taken h_t_sixOf t_texted t_above t_below t_at t_start t_number t_went t_h t_w t_statuses t_feels t_next t_came) [(0, .ref h_t), (1, .int v1), (2, .int v2), (3, .int v3), (4, .int v4), (5, .long v5), (9, .int v9)] 91 [.long s1, .long s0] := by
    intro k57 hk57 t_above t_below t_w t_statuses t_feels t_next t_came v1 v2 v3 v4 v5 v9 s0 s1 hf
    unfold f_X12_slips_91 at hf
    refine g_lmul X dX12_slips_91 ?_
    obtain ⟨v7_8, ev7_8, hf⟩ := bnd_out hf
    refine g_nmJ X ev7_8 ?_
    refine g_lstore (lv' := [(0, .ref h_t), (1, .int v1), (2, .int v2), (3, .int v3), (4, .int v4), (5, .long v5), (7, .long v7_8), (9, .int v9)]) X dX12_slips_92 (Nat.le_of_ble_eq_true rfl) [1, 2, 3, 4, 5, 6, 0, 7] rfl ?_
    obtain ⟨v9_9, ev9_9, hf⟩ := bnd_out hf
    refine g_iinc (v := v9_9) (lv' := [(0, .ref h_t), (1, .int v1), (2, .int v2), (3, .int v3), (4, .int v4), (5, .long v5), (7, .long v7_8), (9, .int v9_9)]) X dX12_slips_94 7 rfl (by rw [ev9_9]; rfl) (Nat.le_of_ble_eq_true rfl) [1, 2, 3, 4, 5, 6, 7, 0] rfl ?_
    refine g_goto (tgt := 57) X dX12_slips_97 (by decide) ?_
    exact hk57 t_above t_below t_w t_statuses t_feels t_next t_came v1 v2 v3 v4 v5 v7_8 v9_9 hf
  have J236 : ∀ (k103 : Int64 → Int64 → (Nat → Int32) → (Nat → Int32) → (Nat → Int32) → (Nat → Int32) → (Nat → Int32) → Int32 → Int32 → Int32 → Int32 → Int64 → Int64 → Int32 → Option (Int32 × Int64 × Int64 × (Nat → Int32) × (Nat → Int32) × (Nat → Int32) × (Nat → Int32) × (Nat → Int32))) (hk103 : ∀ (t_above : Int64) (t_below : Int64) (t_w : (Nat → Int32)) (t_statuses : (Nat → Int32)) (t_feels : (Nat → Int32)) (t_next : (Nat → Int32)) (t_came : (Nat → Int32)) (v1 : Int32) (v2 : Int32) (v3 : Int32) (v4 : Int32) (v5 : Int64) (v7 : Int64) (v9 : Int32), k103 t_above t_below t_w t_statuses t_feels t_next t_came v1 v2 v3 v4 v5 v7 v9 = some res → G 0 0 (wd_X12_slips cI cZ h_t h_t_w h_t_isKept h_t_text h_t_statuses h_t_ways h_t_feels h_t_next h_t_came h_t_deep h_t_sizes h_t_tableOf h_t_usedBy h_t_taken h_t_sixOf t_texted t_above t_below t_at t_start t_number t_went t_h t_w t_statuses t_feels t_next t_came) [(0, .ref h_t), (1, .int v1), (2, .int v2), (3, .int v3), (4, .int v4), (5, .long v5), (7, .long v7), (9, .int v9)] 103 []) (k126 : Int64 → Int64 → (Nat → Int32) → (Nat → Int32) → (Nat → Int32) → (Nat → Int32) → (Nat → Int32) → Int32 → Int32 → Int32 → Int32 → Int64 → Int64 → Int32 → Int64 → Int32 → Option (Int32 × Int64 × Int64 × (Nat → Int32) × (Nat → Int32) × (Nat → Int32) × (Nat → Int32) × (Nat → Int32))) (hk126 : ∀ (t_above : Int64) (t_below : Int64) (t_w : (Nat → Int32)) (t_statuses : (Nat → Int32)) (t_feels : (Nat → Int32)) (t_next : (Nat → Int32)) (t_came : (Nat → Int32)) (v1 : Int32) (v2 : Int32) (v3 : Int32) (v4 : Int32) (v5 : Int64) (v7 : Int64) (v9 : Int32) (v10 : Int64) (v12 : Int32), k126 t_above t_below t_w t_statuses t_feels t_next t_came v1 v2 v3 v4 v5 v7 v9 v10 v12 = some res → G 0 0 (wd_X12_slips cI cZ h_t h_t_w h_t_isKept h_t_text h_t_statuses h_t_ways h_t_feels h_t_next h_t_came h_t_deep h_t_sizes h_t_tableOf h_t_usedBy h_t_taken h_t_sixOf t_texted t_above t_below t_at t_start t_number t_went t_h t_w t_statuses t_feels t_next t_came) [(0, .ref h_t), (1, .int v1), (2, .int v2), (3, .int v3), (4, .int v4), (5, .long v5), (7, .long v7), (9, .int v9), (10, .long v10), (12, .int v12)] 126 []) (t_above : Int64) (t_below : Int64) (t_w : (Nat → Int32)) (t_statuses : (Nat → Int32)) (t_feels : (Nat → Int32)) (t_next : (Nat → Int32)) (t_came : (Nat → Int32)) (v1 : Int32) (v2 : Int32) (v3 : Int32) (v4 : Int32) (v5 : Int64) (v7 : Int64) (v9 : Int32) (v10 : Int64) (v12 : Int32), f_X12_slips_236 k103 k126 t_above t_below t_w t_statuses t_feels t_next t_came v1 v2 v3 v4 v5 v7 v9 v10 v12 = some res → G 0 0 (wd_X12_slips cI cZ h_t h_t_w h_t_isKept h_t_text h_t_statuses h_t_ways h_t_feels h_t_next h_t_came h_t_deep h_t_sizes h_t_tableOf h_t_usedBy h_t_taken h_t_sixOf t_texted t_above t_below t_at t_start t_number t_went t_h t_w t_statuses t_feels t_next t_came) [(0, .ref h_t), (1, .int v1), (2, .int v2), (3, .int v3), (4, .int v4), (5, .long v5), (7, .long v7), (9, .int v9), (10, .long v10), (12, .int v12)] 236 [] := by
    intro k103 hk103 k126 hk126 t_above t_below t_w t_statuses t_feels t_next t_came v1 v2 v3 v4 v5 v7 v9 v10 v12 hf
    unfold f_X12_slips_236 at hf
    obtain ⟨v12_32, ev12_32, hf⟩ := bnd_out hf
    refine g_iinc (v := v12_32) (lv' := [(0, .ref h_t), (1, .int v1), (2, .int v2), (3, .int v3), (4, .int v4), (5, .long v5), (7, .long v7), (9, .int v9), (10, .long v10), (12, .int v12_32)]) X dX12_slips_236 9 rfl (by rw [ev12_32]; rfl) (Nat.le_of_ble_eq_true rfl) [1, 2, 3, 4, 5, 6, 7, 8, 9, 0] rfl ?_
    refine g_goto (tgt := 126) X dX12_slips_239 (by decide) ?_
    exact hk126 t_above t_below t_w t_statuses t_feels t_next t_came v1 v2 v3 v4 v5 v7 v9 v10 v12_32 hf
  have J168 : ∀ (k103 : Int64 → Int64 → (Nat → Int32) → (Nat → Int32) → (Nat → Int32) → (Nat → Int32) → (Nat → Int32) → Int32 → Int32 → Int32 → Int32 → Int64 → Int64 → Int32 → Option (Int32 × Int64 × Int64 × (Nat → Int32) × (Nat → Int32) × (Nat → Int32) × (Nat → Int32) × (Nat → Int32))) (hk103 : ∀ (t_above : Int64) (t_below : Int64) (t_w : (Nat → Int32)) (t_statuses : (Nat → Int32)) (t_feels : (Nat → Int32)) (t_next : (Nat → Int32)) (t_came : (Nat → Int32)) (v1 : Int32) (v2 : Int32) (v3 : Int32) (v4 : Int32) (v5 : Int64) (v7 : Int64) (v9 : Int32), k103 t_above t_below t_w t_statuses t_feels t_next t_came v1 v2 v3 v4 v5 v7 v9 = some res → G 0 0 (wd_X12_slips cI cZ h_t h_t_w h_t_isKept h_t_text h_t_statuses h_t_ways h_t_feels h_t_next h_t_came h_t_deep h_t_sizes h_t_tableOf h_t_usedBy h_t_taken h_t_sixOf t_texted t_above t_below t_at t_start t_number t_went t_h t_w t_statuses t_feels t_next t_came) [(0, .ref h_t), (1, .int v1), (2, .int v2), (3, .int v3), (4, .int v4), (5, .long v5), (7, .long v7), (9, .int v9)] 103 []) (k126 : Int64 → Int64 → (Nat → Int32) → (Nat → Int32) → (Nat → Int32) → (Nat → Int32) → (Nat → Int32) → Int32 → Int32 → Int32 → Int32 → Int64 → Int64 → Int32 → Int64 → Int32 → Option (Int32 × Int64 × Int64 × (Nat → Int32) × (Nat → Int32) × (Nat → Int32) × (Nat → Int32) × (Nat → Int32))) (hk126 : ∀ (t_above : Int64) (t_below : Int64) (t_w : (Nat → Int32)) (t_statuses : (Nat → Int32)) (t_feels : (Nat → Int32)) (t_next : (Nat → Int32)) (t_came : (Nat → Int32)) (v1 : Int32) (v2 : Int32) (v3 : Int32) (v4 : Int32) (v5 : Int64) (v7 : Int64) (v9 : Int32) (v10 : Int64) (v12 : Int32), k126 t_above t_below t_w t_statuses t_feels t_next t_came v1 v2 v3 v4 v5 v7 v9 v10 v12 = some res → G 0 0 (wd_X12_slips cI cZ h_t h_t_w h_t_isKept h_t_text h_t_statuses h_t_ways h_t_feels h_t_next h_t_came h_t_deep h_t_sizes h_t_tableOf h_t_usedBy h_t_taken h_t_sixOf t_texted t_above t_below t_at t_start t_number t_went t_h t_w t_statuses t_feels t_next t_came) [(0, .ref h_t), (1, .int v1), (2, .int v2), (3, .int v3), (4, .int v4), (5, .long v5), (7, .long v7), (9, .int v9), (10, .long v10), (12, .int v12)] 126 []) (t_above : Int64) (t_below : Int64) (t_w : (Nat → Int32)) (t_statuses : (Nat → Int32)) (t_feels : (Nat → Int32)) (t_next : (Nat → Int32)) (t_came : (Nat → Int32)) (v1 : Int32) (v2 : Int32) (v3 : Int32) (v4 : Int32) (v5 : Int64) (v7 : Int64) (v9 : Int32) (v12 : Int32) (s0 : Int64) (s1 : Int64), f_X12_slips_168 k103 k126 t_above t_below t_w t_statuses t_feels t_next t_came v1 v2 v3 v4 v5 v7 v9 v12 s0 s1 = some res → G 0 0 (wd_X12_slips cI cZ h_t h_t_w h_t_isKept h_t_text h_t_statuses h_t_ways h_t_feels h_t_next h_t_came h_t_deep h_t_sizes h_t_tableOf h_t_usedBy h_t_taken h_t_sixOf t_texted t_above t_below t_at t_start t_number t_went t_h t_w t_statuses t_feels t_next t_came) [(0, .ref h_t), (1, .int v1), (2, .int v2), (3, .int v3), (4, .int v4), (5, .long v5), (7, .long v7), (9, .int v9), (12, .int v12)] 168 [.long s1, .long s0] := by
    intro k103 hk103 k126 hk126 t_above t_below t_w t_statuses t_feels t_next t_came v1 v2 v3 v4 v5 v7 v9 v12 s0 s1 hf
    unfold f_X12_slips_168 at hf
    refine g_lmul X dX12_slips_168 ?_
    obtain ⟨v10_24, ev10_24, hf⟩ := bnd_out hf
    refine g_nmJ X ev10_24 ?_
    refine g_lstore (lv' := [(0, .ref h_t), (1, .int v1), (2, .int v2), (3, .int v3), (4, .int v4), (5, .long v5), (7, .long v7), (9, .int v9), (10, .long v10_24), (12, .int v12)]) X dX12_slips_169 (Nat.le_of_ble_eq_true rfl) [1, 2, 3, 4, 5, 6, 7, 8, 0, 9] rfl ?_
    refine g_goto (tgt := 236) X dX12_slips_171 (by decide) ?_
    exact J236 k103 hk103 k126 hk126 t_above t_below t_w t_statuses t_feels t_next t_came v1 v2 v3 v4 v5 v7 v9 v10_24 v12 hf
  have J235 : ∀ (k103 : Int64 → Int64 → (Nat → Int32) → (Nat → Int32) → (Nat → Int32) → (Nat → Int32) → (Nat → Int32) → Int32 → Int32 → Int32 → Int32 → Int64 → Int64 → Int32 → Option (Int32 × Int64 × Int64 × (Nat → Int32) × (Nat → Int32) × (Nat → Int32) × (Nat → Int32) × (Nat → Int32))) (hk103 : ∀ (t_above : Int64) (t_below : Int64) (t_w : (Nat → Int32)) (t_statuses : (Nat → Int32)) (t_feels : (Nat → Int32)) (t_next : (Nat → Int32)) (t_came : (Nat → Int32)) (v1 : Int32) (v2 : Int32) (v3 : Int32) (v4 : Int32) (v5 : Int64) (v7 : Int64) (v9 : Int32), k103 t_above t_below t_w t_statuses t_feels t_next t_came v1 v2 v3 v4 v5 v7 v9 = some res → G 0 0 (wd_X12_slips cI cZ h_t h_t_w h_t_isKept h_t_text h_t_statuses h_t_ways h_t_feels h_t_next h_t_came h_t_deep h_t_sizes h_t_tableOf h_t_usedBy h_t_taken h_t_sixOf t_texted t_above t_below t_at t_start t_number t_went t_h t_w t_statuses t_feels t_next t_came) [(0, .ref h_t), (1, .int v1), (2, .int v2), (3, .int v3), (4, .int v4), (5, .long v5), (7, .long v7), (9, .int v9)] 103 []) (k126 : Int64 → Int64 → (Nat → Int32) → (Nat → Int32) → (Nat → Int32) → (Nat → Int32) → (Nat → Int32) → Int32 → Int32 → Int32 → Int32 → Int64 → Int64 → Int32 → Int64 → Int32 → Option (Int32 × Int64 × Int64 × (Nat → Int32) × (Nat → Int32) × (Nat → Int32) × (Nat → Int32) × (Nat → Int32))) (hk126 : ∀ (t_above : Int64) (t_below : Int64) (t_w : (Nat → Int32)) (t_statuses : (Nat → Int32)) (t_feels : (Nat → Int32)) (t_next : (Nat → Int32)) (t_came : (Nat → Int32)) (v1 : Int32) (v2 : Int32) (v3 : Int32) (v4 : Int32) (v5 : Int64) (v7 : Int64) (v9 : Int32) (v10 : Int64) (v12 : Int32), k126 t_above t_below t_w t_statuses t_feels t_next t_came v1 v2 v3 v4 v5 v7 v9 v10 v12 = some res → G 0 0 (wd_X12_slips cI cZ h_t h_t_w h_t_isKept h_t_text h_t_statuses h_t_ways h_t_feels h_t_next h_t_came h_t_deep h_t_sizes h_t_tableOf h_t_usedBy h_t_taken h_t_sixOf t_texted t_above t_below t_at t_start t_number t_went t_h t_w t_statuses t_feels t_next t_came) [(0, .ref h_t), (1, .int v1), (2, .int v2), (3, .int v3), (4, .int v4), (5, .long v5), (7, .long v7), (9, .int v9), (10, .long v10), (12, .int v12)] 126 []) (t_above : Int64) (t_below : Int64) (t_w : (Nat → Int32)) (t_statuses : (Nat → Int32)) (t_feels : (Nat → Int32)) (t_next : (Nat → Int32)) (t_came : (Nat → Int32)) (v1 : Int32) (v2 : Int32) (v3 : Int32) (v4 : Int32) (v5 : Int64) (v7 : Int64) (v9 : Int32) (v10 : Int64) (v12 : Int32) (s1 : Int32) (s2 : Int32), f_X12_slips_235 k103 k126 t_above t_below t_w t_statuses t_feels t_next t_came v1 v2 v3 v4 v5 v7 v9 v10 v12 s1 s2 = some res → G 0 0 (wd_X12_slips cI cZ h_t h_t_w h_t_isKept h_t_text h_t_statuses h_t_ways h_t_feels h_t_next h_t_came h_t_deep h_t_sizes h_t_tableOf h_t_usedBy h_t_taken h_t_sixOf t_texted t_above t_below t_at t_start t_number t_went t_h t_w t_statuses t_feels t_next t_came) [(0, .ref h_t), (1, .int v1), (2, .int v2), (3, .int v3), (4, .int v4), (5, .long v5), (7, .long v7), (9, .int v9), (10, .long v10), (12, .int v12)] 235 [.int s2, .int s1, .ref h_t_w] := by
    intro k103 hk103 k126 hk126 t_above t_below t_w t_statuses t_feels t_next t_came v1 v2 v3 v4 v5 v7 v9 v10 v12 s1 s2 hf
    unfold f_X12_slips_235 at hf
    obtain ⟨hb_30, hf⟩ := chk_out hf
    obtain ⟨t_w_31, et_w_31, hf⟩ := bnd_out hf
    refine g_iast (ws' := (wd_X12_slips cI cZ h_t h_t_w h_t_isKept h_t_text h_t_statuses h_t_ways h_t_feels h_t_next h_t_came h_t_deep h_t_sizes h_t_tableOf h_t_usedBy h_t_taken h_t_sixOf t_texted t_above t_below t_at t_start t_number t_went t_h t_w_31 t_statuses t_feels t_next t_came)) X 1 rfl hb_30 et_w_31 dX12_slips_235 rfl ?_
    exact J236 k103 hk103 k126 hk126 t_above t_below t_w_31 t_statuses t_feels t_next t_came v1 v2 v3 v4 v5 v7 v9 v10 v12 hf
  have J198 : ∀ (k103 : Int64 → Int64 → (Nat → Int32) → (Nat → Int32) → (Nat → Int32) → (Nat → Int32) → (Nat → Int32) → Int32 → Int32 → Int32 → Int32 → Int64 → Int64 → Int32 → Option (Int32 × Int64 × Int64 × (Nat → Int32) × (Nat → Int32) × (Nat → Int32) × (Nat → Int32) × (Nat → Int32))) (hk103 : ∀ (t_above : Int64) (t_below : Int64) (t_w : (Nat → Int32)) (t_statuses : (Nat → Int32)) (t_feels : (Nat → Int32)) (t_next : (Nat → Int32)) (t_came : (Nat → Int32)) (v1 : Int32) (v2 : Int32) (v3 : Int32) (v4 : Int32) (v5 : Int64) (v7 : Int64) (v9 : Int32), k103 t_above t_below t_w t_statuses t_feels t_next t_came v1 v2 v3 v4 v5 v7 v9 = some res → G 0 0 (wd_X12_slips cI cZ h_t h_t_w h_t_isKept h_t_text h_t_statuses h_t_ways h_t_feels h_t_next h_t_came h_t_deep h_t_sizes h_t_tableOf h_t_usedBy h_t_taken h_t_sixOf t_texted t_above t_below t_at t_start t_number t_went t_h t_w t_statuses t_feels t_next t_came) [(0, .ref h_t), (1, .int v1), (2, .int v2), (3, .int v3), (4, .int v4), (5, .long v5), (7, .long v7), (9, .int v9)] 103 []) (k126 : Int64 → Int64 → (Nat → Int32) → (Nat → Int32) → (Nat → Int32) → (Nat → Int32) → (Nat → Int32) → Int32 → Int32 → Int32 → Int32 → Int64 → Int64 → Int32 → Int64 → Int32 → Option (Int32 × Int64 × Int64 × (Nat → Int32) × (Nat → Int32) × (Nat → Int32) × (Nat → Int32) × (Nat → Int32))) (hk126 : ∀ (t_above : Int64) (t_below : Int64) (t_w : (Nat → Int32)) (t_statuses : (Nat → Int32)) (t_feels : (Nat → Int32)) (t_next : (Nat → Int32)) (t_came : (Nat → Int32)) (v1 : Int32) (v2 : Int32) (v3 : Int32) (v4 : Int32) (v5 : Int64) (v7 : Int64) (v9 : Int32) (v10 : Int64) (v12 : Int32), k126 t_above t_below t_w t_statuses t_feels t_next t_came v1 v2 v3 v4 v5 v7 v9 v10 v12 = some res → G 0 0 (wd_X12_slips cI cZ h_t h_t_w h_t_isKept h_t_text h_t_statuses h_t_ways h_t_feels h_t_next h_t_came h_t_deep h_t_sizes h_t_tableOf h_t_usedBy h_t_taken h_t_sixOf t_texted t_above t_below t_at t_start t_number t_went t_h t_w t_statuses t_feels t_next t_came) [(0, .ref h_t), (1, .int v1), (2, .int v2), (3, .int v3), (4, .int v4), (5, .long v5), (7, .long v7), (9, .int v9), (10, .long v10), (12, .int v12)] 126 []) (t_above : Int64) (t_below : Int64) (t_w : (Nat → Int32)) (t_statuses : (Nat → Int32)) (t_feels : (Nat → Int32)) (t_next : (Nat → Int32)) (t_came : (Nat → Int32)) (v1 : Int32) (v2 : Int32) (v3 : Int32) (v4 : Int32) (v5 : Int64) (v7 : Int64) (v9 : Int32) (v12 : Int32) (s0 : Int64) (s1 : Int64), f_X12_slips_198 k103 k126 t_above t_below t_w t_statuses t_feels t_next t_came v1 v2 v3 v4 v5 v7 v9 v12 s0 s1 = some res → G 0 0 (wd_X12_slips cI cZ h_t h_t_w h_t_isKept h_t_text h_t_statuses h_t_ways h_t_feels h_t_next h_t_came h_t_deep h_t_sizes h_t_tableOf h_t_usedBy h_t_taken h_t_sixOf t_texted t_above t_below t_at t_start t_number t_went t_h t_w t_statuses t_feels t_next t_came) [(0, .ref h_t), (1, .int v1), (2, .int v2), (3, .int v3), (4, .int v4), (5, .long v5), (7, .long v7), (9, .int v9), (12, .int v12)] 198 [.long s1, .long s0] := by
    intro k103 hk103 k126 hk126 t_above t_below t_w t_statuses t_feels t_next t_came v1 v2 v3 v4 v5 v7 v9 v12 s0 s1 hf
    unfold f_X12_slips_198 at hf
    refine g_lmul X dX12_slips_198 ?_
    obtain ⟨v10_25, ev10_25, hf⟩ := bnd_out hf
    refine g_nmJ X ev10_25 ?_
    refine g_lstore (lv' := [(0, .ref h_t), (1, .int v1), (2, .int v2), (3, .int v3), (4, .int v4), (5, .long v5), (7, .long v7), (9, .int v9), (10, .long v10_25), (12, .int v12)]) X dX12_slips_199 (Nat.le_of_ble_eq_true rfl) [1, 2, 3, 4, 5, 6, 7, 8, 0, 9] rfl ?_
    refine g_aload_n X dX12_slips_201 rfl 0 rfl ?_
    refine g_get (C := RX12) (T := TX12) (N := 22) (ci := 8) (v := (.ref h_t_w)) X iw_X12_slips_X12 0 rfl rfl 0 (by decide) lk_X12_slips_7 rfl dX12_slips_202 ?_
    refine g_sipush (v := 1235) X dX12_slips_205 (by decide) ?_
    refine g_iload X dX12_slips_208 9 rfl ?_
    refine g_iadd X dX12_slips_210 ?_
    refine g_iload X dX12_slips_211 7 rfl ?_
    refine g_iload X dX12_slips_213 9 rfl ?_
    obtain ⟨r_26, hk_27, hf⟩ := ob1_out hf
    refine g_cSR (st := [.int (1235 + v12), .ref h_t_w]) (st1 := [.int r_26, .int (1235 + v12), .ref h_t_w]) X (c_X12_has l D cI cZ v9 v12 _ hk_27) (Or.inl rfl) 2 gX12_slips_X12_has rfl hs_X12_has ⟨Nat.le_of_ble_eq_true rfl, Nat.le_of_ble_eq_true rfl⟩ rfl rfl (Nat.le_of_ble_eq_true rfl) ⟨rfl, rfl⟩ (Nat.zero_le _) (Nat.zero_le _) dX12_slips_215 [] rfl rfl rfl ?_
    refine g_if_eq (tgt := 225) X dX12_slips_218 (by decide) (fun hc_28 => ?_) (fun hc_28 => ?_)
    · replace hf := ite_t hc_28 hf
      refine g_aload_n X dX12_slips_225 rfl 0 rfl ?_
      refine g_get (C := RX12) (T := TX12) (N := 22) (ci := 8) (v := (.ref h_t_w)) X iw_X12_slips_X12 0 rfl rfl 0 (by decide) lk_X12_slips_7 rfl dX12_slips_226 ?_
      refine g_bipush (v := 31) X dX12_slips_229 (by decide) ?_
      refine g_iload X dX12_slips_231 9 rfl ?_
      refine g_iadd X dX12_slips_233 ?_
      obtain ⟨hb_29, hf⟩ := chk_out hf
      refine g_iald X 1 rfl hb_29 dX12_slips_234 ?_
      exact J235 k103 hk103 k126 hk126 t_above t_below t_w t_statuses t_feels t_next t_came v1 v2 v3 v4 v5 v7 v9 v10_25 v12 (1235 + v12) (t_w (31 + v12).toNatClampNeg) hf
    · replace hf := ite_f hc_28 hf
      refine g_iconst (v := (-1)) X dX12_slips_221 (by decide) ?_
      refine g_goto (tgt := 235) X dX12_slips_222 (by decide) ?_
      exact J235 k103 hk103 k126 hk126 t_above t_below t_w t_statuses t_feels t_next t_came v1 v2 v3 v4 v5 v7 v9 v10_25 v12 (1235 + v12) (-1) hf
  have J278 : ∀ (k103 : Int64 → Int64 → (Nat → Int32) → (Nat → Int32) → (Nat → Int32) → (Nat → Int32) → (Nat → Int32) → Int32 → Int32 → Int32 → Int32 → Int64 → Int64 → Int32 → Option (Int32 × Int64 × Int64 × (Nat → Int32) × (Nat → Int32) × (Nat → Int32) × (Nat → Int32) × (Nat → Int32))) (hk103 : ∀ (t_above : Int64) (t_below : Int64) (t_w : (Nat → Int32)) (t_statuses : (Nat → Int32)) (t_feels : (Nat → Int32)) (t_next : (Nat → Int32)) (t_came : (Nat → Int32)) (v1 : Int32) (v2 : Int32) (v3 : Int32) (v4 : Int32) (v5 : Int64) (v7 : Int64) (v9 : Int32), k103 t_above t_below t_w t_statuses t_feels t_next t_came v1 v2 v3 v4 v5 v7 v9 = some res → G 0 0 (wd_X12_slips cI cZ h_t h_t_w h_t_isKept h_t_text h_t_statuses h_t_ways h_t_feels h_t_next h_t_came h_t_deep h_t_sizes h_t_tableOf h_t_usedBy h_t_taken h_t_sixOf t_texted t_above t_below t_at t_start t_number t_went t_h t_w t_statuses t_feels t_next t_came) [(0, .ref h_t), (1, .int v1), (2, .int v2), (3, .int v3), (4, .int v4), (5, .long v5), (7, .long v7), (9, .int v9)] 103 []) (t_above : Int64) (t_below : Int64) (t_w : (Nat → Int32)) (t_statuses : (Nat → Int32)) (t_feels : (Nat → Int32)) (t_next : (Nat → Int32)) (t_came : (Nat → Int32)) (v1 : Int32) (v2 : Int32) (v3 : Int32) (v4 : Int32) (v5 : Int64) (v7 : Int64) (v9 : Int32), f_X12_slips_278 k103 t_above t_below t_w t_statuses t_feels t_next t_came v1 v2 v3 v4 v5 v7 v9 = some res → G 0 0 (wd_X12_slips cI cZ h_t h_t_w h_t_isKept h_t_text h_t_statuses h_t_ways h_t_feels h_t_next h_t_came h_t_deep h_t_sizes h_t_tableOf h_t_usedBy h_t_taken h_t_sixOf t_texted t_above t_below t_at t_start t_number t_went t_h t_w t_statuses t_feels t_next t_came) [(0, .ref h_t), (1, .int v1), (2, .int v2), (3, .int v3), (4, .int v4), (5, .long v5), (7, .long v7), (9, .int v9)] 278 [] := by
    intro k103 hk103 t_above t_below t_w t_statuses t_feels t_next t_came v1 v2 v3 v4 v5 v7 v9 hf
    unfold f_X12_slips_278 at hf
    obtain ⟨v9_41, ev9_41, hf⟩ := bnd_out hf
    refine g_iinc (v := v9_41) (lv' := [(0, .ref h_t), (1, .int v1), (2, .int v2), (3, .int v3), (4, .int v4), (5, .long v5), (7, .long v7), (9, .int v9_41)]) X dX12_slips_278 7 rfl (by rw [ev9_41]; rfl) (Nat.le_of_ble_eq_true rfl) [1, 2, 3, 4, 5, 6, 7, 0] rfl ?_
    refine g_goto (tgt := 103) X dX12_slips_281 (by decide) ?_
    exact hk103 t_above t_below t_w t_statuses t_feels t_next t_came v1 v2 v3 v4 v5 v7 v9_41 hf
  have J275 : ∀ (k103 : Int64 → Int64 → (Nat → Int32) → (Nat → Int32) → (Nat → Int32) → (Nat → Int32) → (Nat → Int32) → Int32 → Int32 → Int32 → Int32 → Int64 → Int64 → Int32 → Option (Int32 × Int64 × Int64 × (Nat → Int32) × (Nat → Int32) × (Nat → Int32) × (Nat → Int32) × (Nat → Int32))) (hk103 : ∀ (t_above : Int64) (t_below : Int64) (t_w : (Nat → Int32)) (t_statuses : (Nat → Int32)) (t_feels : (Nat → Int32)) (t_next : (Nat → Int32)) (t_came : (Nat → Int32)) (v1 : Int32) (v2 : Int32) (v3 : Int32) (v4 : Int32) (v5 : Int64) (v7 : Int64) (v9 : Int32), k103 t_above t_below t_w t_statuses t_feels t_next t_came v1 v2 v3 v4 v5 v7 v9 = some res → G 0 0 (wd_X12_slips cI cZ h_t h_t_w h_t_isKept h_t_text h_t_statuses h_t_ways h_t_feels h_t_next h_t_came h_t_deep h_t_sizes h_t_tableOf h_t_usedBy h_t_taken h_t_sixOf t_texted t_above t_below t_at t_start t_number t_went t_h t_w t_statuses t_feels t_next t_came) [(0, .ref h_t), (1, .int v1), (2, .int v2), (3, .int v3), (4, .int v4), (5, .long v5), (7, .long v7), (9, .int v9)] 103 []) (t_above : Int64) (t_below : Int64) (t_w : (Nat → Int32)) (t_statuses : (Nat → Int32)) (t_feels : (Nat → Int32)) (t_next : (Nat → Int32)) (t_came : (Nat → Int32)) (v1 : Int32) (v2 : Int32) (v3 : Int32) (v4 : Int32) (v7 : Int64) (v9 : Int32) (s0 : Int64) (s1 : Int64), f_X12_slips_275 k103 t_above t_below t_w t_statuses t_feels t_next t_came v1 v2 v3 v4 v7 v9 s0 s1 = some res → G 0 0 (wd_X12_slips cI cZ h_t h_t_w h_t_isKept h_t_text h_t_statuses h_t_ways h_t_feels h_t_next h_t_came h_t_deep h_t_sizes h_t_tableOf h_t_usedBy h_t_taken h_t_sixOf t_texted t_above t_below t_at t_start t_number t_went t_h t_w t_statuses t_feels t_next t_came) [(0, .ref h_t), (1, .int v1), (2, .int v2), (3, .int v3), (4, .int v4), (7, .long v7), (9, .int v9)] 275 [.long s1, .long s0] := by
    intro k103 hk103 t_above t_below t_w t_statuses t_feels t_next t_came v1 v2 v3 v4 v7 v9 s0 s1 hf
    unfold f_X12_slips_275 at hf
    refine g_ladd X dX12_slips_275 ?_
    obtain ⟨v5_40, ev5_40, hf⟩ := bnd_out hf
    refine g_nmJ X ev5_40 ?_
    refine g_lstore (lv' := [(0, .ref h_t), (1, .int v1), (2, .int v2), (3, .int v3), (4, .int v4), (5, .long v5_40), (7, .long v7), (9, .int v9)]) X dX12_slips_276 (Nat.le_of_ble_eq_true rfl) [1, 2, 3, 4, 5, 0, 6, 7] rfl ?_
    exact J278 k103 hk103 t_above t_below t_w t_statuses t_feels t_next t_came v1 v2 v3 v4 v5_40 v7 v9 hf
  have J242 : ∀ (k103 : Int64 → Int64 → (Nat → Int32) → (Nat → Int32) → (Nat → Int32) → (Nat → Int32) → (Nat → Int32) → Int32 → Int32 → Int32 → Int32 → Int64 → Int64 → Int32 → Option (Int32 × Int64 × Int64 × (Nat → Int32) × (Nat → Int32) × (Nat → Int32) × (Nat → Int32) × (Nat → Int32))) (hk103 : ∀ (t_above : Int64) (t_below : Int64) (t_w : (Nat → Int32)) (t_statuses : (Nat → Int32)) (t_feels : (Nat → Int32)) (t_next : (Nat → Int32)) (t_came : (Nat → Int32)) (v1 : Int32) (v2 : Int32) (v3 : Int32) (v4 : Int32) (v5 : Int64) (v7 : Int64) (v9 : Int32), k103 t_above t_below t_w t_statuses t_feels t_next t_came v1 v2 v3 v4 v5 v7 v9 = some res → G 0 0 (wd_X12_slips cI cZ h_t h_t_w h_t_isKept h_t_text h_t_statuses h_t_ways h_t_feels h_t_next h_t_came h_t_deep h_t_sizes h_t_tableOf h_t_usedBy h_t_taken h_t_sixOf t_texted t_above t_below t_at t_start t_number t_went t_h t_w t_statuses t_feels t_next t_came) [(0, .ref h_t), (1, .int v1), (2, .int v2), (3, .int v3), (4, .int v4), (5, .long v5), (7, .long v7), (9, .int v9)] 103 []) (t_above : Int64) (t_below : Int64) (t_w : (Nat → Int32)) (t_statuses : (Nat → Int32)) (t_feels : (Nat → Int32)) (t_next : (Nat → Int32)) (t_came : (Nat → Int32)) (v1 : Int32) (v2 : Int32) (v3 : Int32) (v4 : Int32) (v5 : Int64) (v7 : Int64) (v9 : Int32) (v10 : Int64), f_X12_slips_242 k103 t_above t_below t_w t_statuses t_feels t_next t_came v1 v2 v3 v4 v5 v7 v9 v10 = some res → G 0 0 (wd_X12_slips cI cZ h_t h_t_w h_t_isKept h_t_text h_t_statuses h_t_ways h_t_feels h_t_next h_t_came h_t_deep h_t_sizes h_t_tableOf h_t_usedBy h_t_taken h_t_sixOf t_texted t_above t_below t_at t_start t_number t_went t_h t_w t_statuses t_feels t_next t_came) [(0, .ref h_t), (1, .int v1), (2, .int v2), (3, .int v3), (4, .int v4), (5, .long v5), (7, .long v7), (9, .int v9), (10, .long v10)] 242 [] := by
    intro k103 hk103 t_above t_below t_w t_statuses t_feels t_next t_came v1 v2 v3 v4 v5 v7 v9 v10 hf
    unfold f_X12_slips_242 at hf
    refine g_lload X dX12_slips_242 8 rfl ?_
    refine g_lconst (v := 0) X dX12_slips_244 (by decide) ?_
    refine g_lcmp X dX12_slips_245 ?_
    refine g_if_le (tgt := 278) X dX12_slips_246 (by decide) (fun hc_33 => ?_) (fun hc_33 => ?_)
    · replace hf := ite_t hc_33 hf
      refine g_lv X (lv' := [(0, .ref h_t), (1, .int v1), (2, .int v2), (3, .int v3), (4, .int v4), (5, .long v5), (7, .long v7), (9, .int v9)]) [0, 1, 2, 3, 4, 5, 6, 7] rfl ?_
      exact J278 k103 hk103 t_above t_below t_w t_statuses t_feels t_next t_came v1 v2 v3 v4 v5 v7 v9 hf
    · replace hf := ite_f hc_33 hf
      refine g_aload_n X dX12_slips_249 rfl 0 rfl ?_
      refine g_sipush (v := 1204) X dX12_slips_250 (by decide) ?_
      refine g_iload_n X dX12_slips_253 rfl 1 rfl ?_
      refine g_iload_n X dX12_slips_254 rfl 2 rfl ?_
      obtain ⟨t_feels_34, t_next_35, t_came_36, hk_37, hf⟩ := ob3_out hf
      refine g_cVW (st := []) (st1 := []) (C := RX12) (ci := 8) (q0 := 0) (ws' := (wd_X12_slips cI cZ h_t h_t_w h_t_isKept h_t_text h_t_statuses h_t_ways h_t_feels h_t_next h_t_came h_t_deep h_t_sizes h_t_tableOf h_t_usedBy h_t_taken h_t_sixOf t_texted t_above t_below t_at t_start t_number t_went t_h t_w t_statuses t_feels_34 t_next_35 t_came_36)) X (c_X12_tugs l D cI cZ h_t h_t_w h_t_isKept h_t_text h_t_statuses h_t_ways h_t_feels h_t_next h_t_came h_t_deep h_t_sizes h_t_tableOf h_t_usedBy h_t_taken h_t_sixOf t_texted t_above t_below t_at t_start t_number t_went t_h t_w t_feels t_next t_came 1204 v1 v2 _ hk_37) (Or.inl rfl) 3 gX12_slips_X12_tugs rfl hv_X12_tugs ⟨Nat.le_of_ble_eq_true rfl, Nat.le_of_ble_eq_true rfl⟩ rfl rfl (Nat.le_of_ble_eq_true rfl) ⟨rfl, rfl⟩ (Nat.zero_le _) (Nat.zero_le _) rfl rfl rfl dX12_slips_255 [0, 1, 3, 4, 5] rfl rfl [2] rfl rfl (by decide) [1, 2, 0, 3, 4, 5] rfl rfl rfl ?_
      refine g_lload X dX12_slips_258 5 rfl ?_
      refine g_aload_n X dX12_slips_260 rfl 0 rfl ?_
      refine g_get (C := RX12) (T := TX12) (N := 22) (ci := 8) (v := (.ref h_t_feels)) X iw_X12_slips_X12 0 rfl rfl 12 (by decide) lk_X12_slips_33 rfl dX12_slips_261 ?_
      refine g_iload_n X dX12_slips_264 rfl 3 rfl ?_
      obtain ⟨hb_38, hf⟩ := chk_out hf
      refine g_iald X 3 rfl hb_38 dX12_slips_265 ?_
      refine g_if_le (tgt := 274) X dX12_slips_266 (by decide) (fun hc_39 => ?_) (fun hc_39 => ?_)
      · replace hf := ite_t hc_39 hf
        refine g_lconst (v := 0) X dX12_slips_274 (by decide) ?_
        refine g_lv X (lv' := [(0, .ref h_t), (1, .int v1), (2, .int v2), (3, .int v3), (4, .int v4), (7, .long v7), (9, .int v9)]) [0, 1, 2, 3, 4, 6, 7] rfl ?_
        exact J275 k103 hk103 t_above t_below t_w t_statuses t_feels_34 t_next_35 t_came_36 v1 v2 v3 v4 v7 v9 v5 0 hf
      · replace hf := ite_f hc_39 hf
        refine g_lload X dX12_slips_269 8 rfl ?_
        refine g_goto (tgt := 275) X dX12_slips_271 (by decide) ?_
        refine g_lv X (lv' := [(0, .ref h_t), (1, .int v1), (2, .int v2), (3, .int v3), (4, .int v4), (7, .long v7), (9, .int v9)]) [0, 1, 2, 3, 4, 6, 7] rfl ?_
        exact J275 k103 hk103 t_above t_below t_w t_statuses t_feels_34 t_next_35 t_came_36 v1 v2 v3 v4 v7 v9 v5 v10 hf
  have J126 : ∀ (k103 : Int64 → Int64 → (Nat → Int32) → (Nat → Int32) → (Nat → Int32) → (Nat → Int32) → (Nat → Int32) → Int32 → Int32 → Int32 → Int32 → Int64 → Int64 → Int32 → Option (Int32 × Int64 × Int64 × (Nat → Int32) × (Nat → Int32) × (Nat → Int32) × (Nat → Int32) × (Nat → Int32))) (hk103 : ∀ (t_above : Int64) (t_below : Int64) (t_w : (Nat → Int32)) (t_statuses : (Nat → Int32)) (t_feels : (Nat → Int32)) (t_next : (Nat → Int32)) (t_came : (Nat → Int32)) (v1 : Int32) (v2 : Int32) (v3 : Int32) (v4 : Int32) (v5 : Int64) (v7 : Int64) (v9 : Int32), k103 t_above t_below t_w t_statuses t_feels t_next t_came v1 v2 v3 v4 v5 v7 v9 = some res → G 0 0 (wd_X12_slips cI cZ h_t h_t_w h_t_isKept h_t_text h_t_statuses h_t_ways h_t_feels h_t_next h_t_came h_t_deep h_t_sizes h_t_tableOf h_t_usedBy h_t_taken h_t_sixOf t_texted t_above t_below t_at t_start t_number t_went t_h t_w t_statuses t_feels t_next t_came) [(0, .ref h_t), (1, .int v1), (2, .int v2), (3, .int v3), (4, .int v4), (5, .long v5), (7, .long v7), (9, .int v9)] 103 []) (n : Nat) (t_above : Int64) (t_below : Int64) (t_w : (Nat → Int32)) (t_statuses : (Nat → Int32)) (t_feels : (Nat → Int32)) (t_next : (Nat → Int32)) (t_came : (Nat → Int32)) (v1 : Int32) (v2 : Int32) (v3 : Int32) (v4 : Int32) (v5 : Int64) (v7 : Int64) (v9 : Int32) (v10 : Int64) (v12 : Int32), f_X12_slips_126 k103 n t_above t_below t_w t_statuses t_feels t_next t_came v1 v2 v3 v4 v5 v7 v9 v10 v12 = some res → G 0 0 (wd_X12_slips cI cZ h_t h_t_w h_t_isKept h_t_text h_t_statuses h_t_ways h_t_feels h_t_next h_t_came h_t_deep h_t_sizes h_t_tableOf h_t_usedBy h_t_taken h_t_sixOf t_texted t_above t_below t_at t_start t_number t_went t_h t_w t_statuses t_feels t_next t_came) [(0, .ref h_t), (1, .int v1), (2, .int v2), (3, .int v3), (4, .int v4), (5, .long v5), (7, .long v7), (9, .int v9), (10, .long v10), (12, .int v12)] 126 [] := by
    intro k103 hk103 n
    induction n with
    | zero => intro t_above t_below t_w t_statuses t_feels t_next t_came v1 v2 v3 v4 v5 v7 v9 v10 v12 hf; rw [f_X12_slips_126] at hf; cases hf
    | succ n ih =>
      intro t_above t_below t_w t_statuses t_feels t_next t_came v1 v2 v3 v4 v5 v7 v9 v10 v12 hf
      rw [f_X12_slips_126] at hf
      refine g_iload X dX12_slips_126 9 rfl ?_
      refine g_aload_n X dX12_slips_128 rfl 0 rfl ?_
      refine g_get (C := RX12) (T := TX12) (N := 22) (ci := 8) (v := (.ref h_t_w)) X iw_X12_slips_X12 0 rfl rfl 0 (by decide) lk_X12_slips_7 rfl dX12_slips_129 ?_
      refine g_iconst (v := 0) X dX12_slips_132 (by decide) ?_
      obtain ⟨hb_14, hf⟩ := chk_out hf
      refine g_iald X 1 rfl hb_14 dX12_slips_133 ?_
      refine g_icmp_ge (tgt := 242) X dX12_slips_134 (by decide) (fun hc_15 => ?_) (fun hc_15 => ?_)
      · replace hf := ite_t hc_15 hf
        refine g_lv X (lv' := [(0, .ref h_t), (1, .int v1), (2, .int v2), (3, .int v3), (4, .int v4), (5, .long v5), (7, .long v7), (9, .int v9), (10, .long v10)]) [0, 1, 2, 3, 4, 5, 6, 7, 8] rfl ?_
        exact J242 k103 hk103 t_above t_below t_w t_statuses t_feels t_next t_came v1 v2 v3 v4 v5 v7 v9 v10 hf
      · replace hf := ite_f hc_15 hf
        refine g_aload_n X dX12_slips_137 rfl 0 rfl ?_
        refine g_get (C := RX12) (T := TX12) (N := 22) (ci := 8) (v := (.ref h_t_w)) X iw_X12_slips_X12 0 rfl rfl 0 (by decide) lk_X12_slips_7 rfl dX12_slips_138 ?_
        refine g_bipush (v := 31) X dX12_slips_141 (by decide) ?_
        refine g_iload X dX12_slips_143 9 rfl ?_
        refine g_iadd X dX12_slips_145 ?_
        obtain ⟨hb_16, hf⟩ := chk_out hf
        refine g_iald X 1 rfl hb_16 dX12_slips_146 ?_
        refine g_iconst (v := (-1)) X dX12_slips_147 (by decide) ?_
        refine g_icmp_ne (tgt := 174) X dX12_slips_148 (by decide) (fun hc_17 => ?_) (fun hc_17 => ?_)
        · replace hf := ite_f hc_17 hf
          refine g_lload X dX12_slips_174 8 rfl ?_
          refine g_iload X dX12_slips_176 7 rfl ?_
          refine g_iload X dX12_slips_178 9 rfl ?_
          obtain ⟨r_18, hk_19, hf⟩ := ob1_out hf
          refine g_cSR (st := [.long v10]) (st1 := [.int r_18, .long v10]) X (c_X12_has l D cI cZ v9 v12 _ hk_19) (Or.inl rfl) 2 gX12_slips_X12_has rfl hs_X12_has ⟨Nat.le_of_ble_eq_true rfl, Nat.le_of_ble_eq_true rfl⟩ rfl rfl (Nat.le_of_ble_eq_true rfl) ⟨rfl, rfl⟩ (Nat.zero_le _) (Nat.zero_le _) dX12_slips_180 [] rfl rfl rfl ?_
          refine g_if_eq (tgt := 192) X dX12_slips_183 (by decide) (fun hc_20 => ?_) (fun hc_20 => ?_)
          · replace hf := ite_t hc_20 hf
            refine g_bipush (v := 10) X dX12_slips_192 (by decide) ?_
            refine g_iload X dX12_slips_194 4 rfl ?_
            refine g_isub X dX12_slips_196 ?_
            refine g_i2l X dX12_slips_197 ?_
            refine g_lv X (lv' := [(0, .ref h_t), (1, .int v1), (2, .int v2), (3, .int v3), (4, .int v4), (5, .long v5), (7, .long v7), (9, .int v9), (12, .int v12)]) [0, 1, 2, 3, 4, 5, 6, 7, 9] rfl ?_
            exact J198 k103 hk103 (f_X12_slips_126 k103 n) ih t_above t_below t_w t_statuses t_feels t_next t_came v1 v2 v3 v4 v5 v7 v9 v12 v10 ((10 - v4).toInt64) hf
          · replace hf := ite_f hc_20 hf
            refine g_iload X dX12_slips_186 4 rfl ?_
            refine g_i2l X dX12_slips_188 ?_
            refine g_goto (tgt := 198) X dX12_slips_189 (by decide) ?_
            refine g_lv X (lv' := [(0, .ref h_t), (1, .int v1), (2, .int v2), (3, .int v3), (4, .int v4), (5, .long v5), (7, .long v7), (9, .int v9), (12, .int v12)]) [0, 1, 2, 3, 4, 5, 6, 7, 9] rfl ?_
            exact J198 k103 hk103 (f_X12_slips_126 k103 n) ih t_above t_below t_w t_statuses t_feels t_next t_came v1 v2 v3 v4 v5 v7 v9 v12 v10 (v4.toInt64) hf
        · replace hf := ite_t hc_17 hf
          refine g_lload X dX12_slips_151 8 rfl ?_
          refine g_iload X dX12_slips_153 7 rfl ?_
          refine g_iload X dX12_slips_155 9 rfl ?_
          obtain ⟨r_21, hk_22, hf⟩ := ob1_out hf
          refine g_cSR (st := [.long v10]) (st1 := [.int r_21, .long v10]) X (c_X12_has l D cI cZ v9 v12 _ hk_22) (Or.inl rfl) 2 gX12_slips_X12_has rfl hs_X12_has ⟨Nat.le_of_ble_eq_true rfl, Nat.le_of_ble_eq_true rfl⟩ rfl rfl (Nat.le_of_ble_eq_true rfl) ⟨rfl, rfl⟩ (Nat.zero_le _) (Nat.zero_le _) dX12_slips_157 [] rfl rfl rfl ?_
          refine g_if_eq (tgt := 167) X dX12_slips_160 (by decide) (fun hc_23 => ?_) (fun hc_23 => ?_)
          · replace hf := ite_t hc_23 hf
            refine g_lconst (v := 1) X dX12_slips_167 (by decide) ?_
            refine g_lv X (lv' := [(0, .ref h_t), (1, .int v1), (2, .int v2), (3, .int v3), (4, .int v4), (5, .long v5), (7, .long v7), (9, .int v9), (12, .int v12)]) [0, 1, 2, 3, 4, 5, 6, 7, 9] rfl ?_
            exact J168 k103 hk103 (f_X12_slips_126 k103 n) ih t_above t_below t_w t_statuses t_feels t_next t_came v1 v2 v3 v4 v5 v7 v9 v12 v10 1 hf
          · replace hf := ite_f hc_23 hf
            refine g_lconst (v := 0) X dX12_slips_163 (by decide) ?_
            refine g_goto (tgt := 168) X dX12_slips_164 (by decide) ?_
            refine g_lv X (lv' := [(0, .ref h_t), (1, .int v1), (2, .int v2), (3, .int v3), (4, .int v4), (5, .long v5), (7, .long v7), (9, .int v9), (12, .int v12)]) [0, 1, 2, 3, 4, 5, 6, 7, 9] rfl ?_
            exact J168 k103 hk103 (f_X12_slips_126 k103 n) ih t_above t_below t_w t_statuses t_feels t_next t_came v1 v2 v3 v4 v5 v7 v9 v12 v10 0 hf
  have J317 : ∀ (t_above : Int64) (t_below : Int64) (t_w : (Nat → Int32)) (t_statuses : (Nat → Int32)) (t_feels : (Nat → Int32)) (t_next : (Nat → Int32)) (t_came : (Nat → Int32)) (v5 : Int64) (v7 : Int64) (v9 : Int64), f_X12_slips_317 t_above t_below t_w t_statuses t_feels t_next t_came v5 v7 v9 = some res → G 0 0 (wd_X12_slips cI cZ h_t h_t_w h_t_isKept h_t_text h_t_statuses h_t_ways h_t_feels h_t_next h_t_came h_t_deep h_t_sizes h_t_tableOf h_t_usedBy h_t_taken h_t_sixOf t_texted t_above t_below t_at t_start t_number t_went t_h t_w t_statuses t_feels t_next t_came) [(0, .ref h_t), (5, .long v5), (7, .long v7), (9, .long v9)] 317 [] := by
    intro t_above t_below t_w t_statuses t_feels t_next t_came v5 v7 v9 hf
    unfold f_X12_slips_317 at hf
    refine g_aload_n X dX12_slips_317 rfl 0 rfl ?_
    refine g_lload X dX12_slips_318 1 rfl ?_
    refine g_lload X dX12_slips_320 3 rfl ?_
    obtain ⟨hz_45, hf⟩ := chzl_out hf
    refine g_ldiv X dX12_slips_322 hz_45 ?_
    obtain ⟨t_above_46, et_above_46, hf⟩ := bnd_out hf
    refine g_nmJ X et_above_46 ?_
    refine g_put (C := RX12) (T := TX12) (N := 22) (ci := 8) (v := .long t_above_46) (ws' := (wd_X12_slips cI cZ h_t h_t_w h_t_isKept h_t_text h_t_statuses h_t_ways h_t_feels h_t_next h_t_came h_t_deep h_t_sizes h_t_tableOf h_t_usedBy h_t_taken h_t_sixOf t_texted t_above_46 t_below t_at t_start t_number t_went t_h t_w t_statuses t_feels t_next t_came)) X iw_X12_slips_X12 tyX12 tyX12_ok nmX12 0 rfl rfl 4 (by decide) lk_X12_slips_20 rfl (tyX12_ok 4 (by decide)) rfl rfl (Nat.le_of_ble_eq_true rfl) dX12_slips_323 rfl ?_
    refine g_aload_n X dX12_slips_326 rfl 0 rfl ?_
    refine g_lload X dX12_slips_327 2 rfl ?_
    refine g_lload X dX12_slips_329 3 rfl ?_
    obtain ⟨hz_47, hf⟩ := chzl_out hf
    refine g_ldiv X dX12_slips_331 hz_47 ?_
    obtain ⟨t_below_48, et_below_48, hf⟩ := bnd_out hf
    refine g_nmJ X et_below_48 ?_
    refine g_put (C := RX12) (T := TX12) (N := 22) (ci := 8) (v := .long t_below_48) (ws' := (wd_X12_slips cI cZ h_t h_t_w h_t_isKept h_t_text h_t_statuses h_t_ways h_t_feels h_t_next h_t_came h_t_deep h_t_sizes h_t_tableOf h_t_usedBy h_t_taken h_t_sixOf t_texted t_above_46 t_below_48 t_at t_start t_number t_went t_h t_w t_statuses t_feels t_next t_came)) X iw_X12_slips_X12 tyX12 tyX12_ok nmX12 0 rfl rfl 5 (by decide) lk_X12_slips_24 rfl (tyX12_ok 5 (by decide)) rfl rfl (Nat.le_of_ble_eq_true rfl) dX12_slips_332 rfl ?_
    refine g_iconst (v := 1) X dX12_slips_335 (by decide) ?_
    exact hR _ _ _ _ dX12_slips_336 (kV_in (u := (1, t_above_46, t_below_48, t_w, t_statuses, t_feels, t_next, t_came)) hf)
  have J292 : ∀ (n : Nat) (t_above : Int64) (t_below : Int64) (t_w : (Nat → Int32)) (t_statuses : (Nat → Int32)) (t_feels : (Nat → Int32)) (t_next : (Nat → Int32)) (t_came : (Nat → Int32)) (v5 : Int64) (v7 : Int64) (v9 : Int64) (v11 : Int64), f_X12_slips_292 n t_above t_below t_w t_statuses t_feels t_next t_came v5 v7 v9 v11 = some res → G 0 0 (wd_X12_slips cI cZ h_t h_t_w h_t_isKept h_t_text h_t_statuses h_t_ways h_t_feels h_t_next h_t_came h_t_deep h_t_sizes h_t_tableOf h_t_usedBy h_t_taken h_t_sixOf t_texted t_above t_below t_at t_start t_number t_went t_h t_w t_statuses t_feels t_next t_came) [(0, .ref h_t), (5, .long v5), (7, .long v7), (9, .long v9), (11, .long v11)] 292 [] := by
    intro n
    induction n with
    | zero => intro t_above t_below t_w t_statuses t_feels t_next t_came v5 v7 v9 v11 hf; rw [f_X12_slips_292] at hf; cases hf
    | succ n ih =>
      intro t_above t_below t_w t_statuses t_feels t_next t_came v5 v7 v9 v11 hf
      rw [f_X12_slips_292] at hf
      refine g_lload X dX12_slips_292 4 rfl ?_
      refine g_lconst (v := 0) X dX12_slips_294 (by decide) ?_
      refine g_lcmp X dX12_slips_295 ?_
      refine g_if_eq (tgt := 317) X dX12_slips_296 (by decide) (fun hc_42 => ?_) (fun hc_42 => ?_)
      · replace hf := ite_t hc_42 hf
        refine g_lv X (lv' := [(0, .ref h_t), (5, .long v5), (7, .long v7), (9, .long v9)]) [0, 1, 2, 3] rfl ?_
        exact J317 t_above t_below t_w t_statuses t_feels t_next t_came v5 v7 v9 hf
      · replace hf := ite_f hc_42 hf
        refine g_lload X dX12_slips_299 3 rfl ?_
        refine g_lload X dX12_slips_301 4 rfl ?_
        obtain ⟨hz_43, hf⟩ := chzl_out hf
        refine g_lrem X dX12_slips_303 hz_43 ?_
        obtain ⟨v13_44, ev13_44, hf⟩ := bnd_out hf
        refine g_nmJ X ev13_44 ?_
        refine g_lstore (lv' := [(0, .ref h_t), (5, .long v5), (7, .long v7), (9, .long v9), (11, .long v11), (13, .long v13_44)]) X dX12_slips_304 (Nat.le_of_ble_eq_true rfl) [1, 2, 3, 4, 5, 0] rfl ?_
        refine g_lload X dX12_slips_306 4 rfl ?_
        refine g_lstore (lv' := [(0, .ref h_t), (5, .long v5), (7, .long v7), (9, .long v11), (11, .long v11), (13, .long v13_44)]) X dX12_slips_308 (Nat.le_of_ble_eq_true rfl) [1, 2, 3, 0, 4, 5] rfl ?_
        refine g_lload X dX12_slips_310 5 rfl ?_
        refine g_lstore (lv' := [(0, .ref h_t), (5, .long v5), (7, .long v7), (9, .long v11), (11, .long v13_44), (13, .long v13_44)]) X dX12_slips_312 (Nat.le_of_ble_eq_true rfl) [1, 2, 3, 4, 0, 5] rfl ?_
        refine g_goto (tgt := 292) X dX12_slips_314 (by decide) ?_
        refine g_lv X (lv' := [(0, .ref h_t), (5, .long v5), (7, .long v7), (9, .long v11), (11, .long v13_44)]) [0, 1, 2, 3, 4] rfl ?_
        exact ih t_above t_below t_w t_statuses t_feels t_next t_came v5 v7 v11 v13_44 hf
  have J284 : ∀ (t_above : Int64) (t_below : Int64) (t_w : (Nat → Int32)) (t_statuses : (Nat → Int32)) (t_feels : (Nat → Int32)) (t_next : (Nat → Int32)) (t_came : (Nat → Int32)) (v5 : Int64) (v7 : Int64), f_X12_slips_284 t_above t_below t_w t_statuses t_feels t_next t_came v5 v7 = some res → G 0 0 (wd_X12_slips cI cZ h_t h_t_w h_t_isKept h_t_text h_t_statuses h_t_ways h_t_feels h_t_next h_t_came h_t_deep h_t_sizes h_t_tableOf h_t_usedBy h_t_taken h_t_sixOf t_texted t_above t_below t_at t_start t_number t_went t_h t_w t_statuses t_feels t_next t_came) [(0, .ref h_t), (5, .long v5), (7, .long v7)] 284 [] := by
    intro t_above t_below t_w t_statuses t_feels t_next t_came v5 v7 hf
    unfold f_X12_slips_284 at hf
    refine g_lload X dX12_slips_284 1 rfl ?_
    refine g_lstore (lv' := [(0, .ref h_t), (5, .long v5), (7, .long v7), (9, .long v5)]) X dX12_slips_286 (Nat.le_of_ble_eq_true rfl) [1, 2, 3, 0] rfl ?_
    refine g_lload X dX12_slips_288 2 rfl ?_
    refine g_lstore (lv' := [(0, .ref h_t), (5, .long v5), (7, .long v7), (9, .long v5), (11, .long v7)]) X dX12_slips_290 (Nat.le_of_ble_eq_true rfl) [1, 2, 3, 4, 0] rfl ?_
    exact J292 FU t_above t_below t_w t_statuses t_feels t_next t_came v5 v7 v5 v7 hf
  have J103 : ∀ (n : Nat) (t_above : Int64) (t_below : Int64) (t_w : (Nat → Int32)) (t_statuses : (Nat → Int32)) (t_feels : (Nat → Int32)) (t_next : (Nat → Int32)) (t_came : (Nat → Int32)) (v1 : Int32) (v2 : Int32) (v3 : Int32) (v4 : Int32) (v5 : Int64) (v7 : Int64) (v9 : Int32), f_X12_slips_103 n t_above t_below t_w t_statuses t_feels t_next t_came v1 v2 v3 v4 v5 v7 v9 = some res → G 0 0 (wd_X12_slips cI cZ h_t h_t_w h_t_isKept h_t_text h_t_statuses h_t_ways h_t_feels h_t_next h_t_came h_t_deep h_t_sizes h_t_tableOf h_t_usedBy h_t_taken h_t_sixOf t_texted t_above t_below t_at t_start t_number t_went t_h t_w t_statuses t_feels t_next t_came) [(0, .ref h_t), (1, .int v1), (2, .int v2), (3, .int v3), (4, .int v4), (5, .long v5), (7, .long v7), (9, .int v9)] 103 [] := by
    intro n
    induction n with
    | zero => intro t_above t_below t_w t_statuses t_feels t_next t_came v1 v2 v3 v4 v5 v7 v9 hf; rw [f_X12_slips_103] at hf; cases hf
    | succ n ih =>
      intro t_above t_below t_w t_statuses t_feels t_next t_came v1 v2 v3 v4 v5 v7 v9 hf
      rw [f_X12_slips_103] at hf
      refine g_iload X dX12_slips_103 7 rfl ?_
      refine g_iconst (v := 1) X dX12_slips_105 (by decide) ?_
      refine g_aload_n X dX12_slips_106 rfl 0 rfl ?_
      refine g_get (C := RX12) (T := TX12) (N := 22) (ci := 8) (v := (.ref h_t_w)) X iw_X12_slips_X12 0 rfl rfl 0 (by decide) lk_X12_slips_7 rfl dX12_slips_107 ?_
      refine g_iconst (v := 0) X dX12_slips_110 (by decide) ?_
      obtain ⟨hb_10, hf⟩ := chk_out hf
      refine g_iald X 1 rfl hb_10 dX12_slips_111 ?_
      refine g_ishl X dX12_slips_112 ?_
      refine g_icmp_ge (tgt := 284) X dX12_slips_113 (by decide) (fun hc_11 => ?_) (fun hc_11 => ?_)
      · replace hf := ite_t hc_11 hf
        refine g_lv X (lv' := [(0, .ref h_t), (5, .long v5), (7, .long v7)]) [0, 5, 6] rfl ?_
        exact J284 t_above t_below t_w t_statuses t_feels t_next t_came v5 v7 hf
      · replace hf := ite_f hc_11 hf
        refine g_lconst (v := 1) X dX12_slips_116 (by decide) ?_
        refine g_lstore (lv' := [(0, .ref h_t), (1, .int v1), (2, .int v2), (3, .int v3), (4, .int v4), (5, .long v5), (7, .long v7), (9, .int v9), (10, .long 1)]) X dX12_slips_117 (Nat.le_of_ble_eq_true rfl) [1, 2, 3, 4, 5, 6, 7, 8, 0] rfl ?_
        refine g_aload_n X dX12_slips_119 rfl 0 rfl ?_
        obtain ⟨t_w_12, hk_13, hf⟩ := ob1_out hf
        refine g_cVW (st := []) (st1 := []) (C := RX12) (ci := 8) (q0 := 0) (ws' := (wd_X12_slips cI cZ h_t h_t_w h_t_isKept h_t_text h_t_statuses h_t_ways h_t_feels h_t_next h_t_came h_t_deep h_t_sizes h_t_tableOf h_t_usedBy h_t_taken h_t_sixOf t_texted t_above t_below t_at t_start t_number t_went t_h t_w_12 t_statuses t_feels t_next t_came)) X (c_X12_tries l D cI cZ h_t h_t_w h_t_isKept h_t_text h_t_statuses h_t_ways h_t_feels h_t_next h_t_came h_t_deep h_t_sizes h_t_tableOf h_t_usedBy h_t_taken h_t_sixOf t_texted t_above t_below t_at t_start t_number t_went t_h t_w _ hk_13) (Or.inl rfl) 0 gX12_slips_X12_tries rfl hv_X12_tries ⟨Nat.le_of_ble_eq_true rfl, Nat.le_of_ble_eq_true rfl⟩ rfl rfl (Nat.le_of_ble_eq_true rfl) ⟨rfl, rfl⟩ (Nat.zero_le _) (Nat.zero_le _) rfl rfl rfl dX12_slips_120 [0, 1] rfl rfl [2, 3, 4, 5] rfl rfl (by decide) [4, 5, 0, 1, 2, 3] rfl rfl rfl ?_
        refine g_iconst (v := 0) X dX12_slips_123 (by decide) ?_
        refine g_istore (lv' := [(0, .ref h_t), (1, .int v1), (2, .int v2), (3, .int v3), (4, .int v4), (5, .long v5), (7, .long v7), (9, .int v9), (10, .long 1), (12, .int 0)]) X dX12_slips_124 (Nat.le_of_ble_eq_true rfl) [1, 2, 3, 4, 5, 6, 7, 8, 9, 0] rfl ?_
        exact J126 (f_X12_slips_103 n) ih FU t_above t_below t_w_12 t_statuses t_feels t_next t_came v1 v2 v3 v4 v5 v7 v9 1 0 hf
  have J100 : ∀ (t_above : Int64) (t_below : Int64) (t_w : (Nat → Int32)) (t_statuses : (Nat → Int32)) (t_feels : (Nat → Int32)) (t_next : (Nat → Int32)) (t_came : (Nat → Int32)) (v1 : Int32) (v2 : Int32) (v3 : Int32) (v4 : Int32) (v5 : Int64) (v7 : Int64), f_X12_slips_100 t_above t_below t_w t_statuses t_feels t_next t_came v1 v2 v3 v4 v5 v7 = some res → G 0 0 (wd_X12_slips cI cZ h_t h_t_w h_t_isKept h_t_text h_t_statuses h_t_ways h_t_feels h_t_next h_t_came h_t_deep h_t_sizes h_t_tableOf h_t_usedBy h_t_taken h_t_sixOf t_texted t_above t_below t_at t_start t_number t_went t_h t_w t_statuses t_feels t_next t_came) [(0, .ref h_t), (1, .int v1), (2, .int v2), (3, .int v3), (4, .int v4), (5, .long v5), (7, .long v7)] 100 [] := by
    intro t_above t_below t_w t_statuses t_feels t_next t_came v1 v2 v3 v4 v5 v7 hf
    unfold f_X12_slips_100 at hf
    refine g_iconst (v := 0) X dX12_slips_100 (by decide) ?_
    refine g_istore (lv' := [(0, .ref h_t), (1, .int v1), (2, .int v2), (3, .int v3), (4, .int v4), (5, .long v5), (7, .long v7), (9, .int 0)]) X dX12_slips_101 (Nat.le_of_ble_eq_true rfl) [1, 2, 3, 4, 5, 6, 7, 0] rfl ?_
    exact J103 FU t_above t_below t_w t_statuses t_feels t_next t_came v1 v2 v3 v4 v5 v7 0 hf
  have J57 : ∀ (n : Nat) (t_above : Int64) (t_below : Int64) (t_w : (Nat → Int32)) (t_statuses : (Nat → Int32)) (t_feels : (Nat → Int32)) (t_next : (Nat → Int32)) (t_came : (Nat → Int32)) (v1 : Int32) (v2 : Int32) (v3 : Int32) (v4 : Int32) (v5 : Int64) (v7 : Int64) (v9 : Int32), f_X12_slips_57 n t_above t_below t_w t_statuses t_feels t_next t_came v1 v2 v3 v4 v5 v7 v9 = some res → G 0 0 (wd_X12_slips cI cZ h_t h_t_w h_t_isKept h_t_text h_t_statuses h_t_ways h_t_feels h_t_next h_t_came h_t_deep h_t_sizes h_t_tableOf h_t_usedBy h_t_taken h_t_sixOf t_texted t_above t_below t_at t_start t_number t_went t_h t_w t_statuses t_feels t_next t_came) [(0, .ref h_t), (1, .int v1), (2, .int v2), (3, .int v3), (4, .int v4), (5, .long v5), (7, .long v7), (9, .int v9)] 57 [] := by
    intro n
    induction n with
    | zero => intro t_above t_below t_w t_statuses t_feels t_next t_came v1 v2 v3 v4 v5 v7 v9 hf; rw [f_X12_slips_57] at hf; cases hf
    | succ n ih =>
      intro t_above t_below t_w t_statuses t_feels t_next t_came v1 v2 v3 v4 v5 v7 v9 hf
      rw [f_X12_slips_57] at hf
      refine g_iload X dX12_slips_57 7 rfl ?_
      refine g_aload_n X dX12_slips_59 rfl 0 rfl ?_
      refine g_get (C := RX12) (T := TX12) (N := 22) (ci := 8) (v := (.ref h_t_w)) X iw_X12_slips_X12 0 rfl rfl 0 (by decide) lk_X12_slips_7 rfl dX12_slips_60 ?_
      refine g_iconst (v := 0) X dX12_slips_63 (by decide) ?_
      obtain ⟨hb_4, hf⟩ := chk_out hf
      refine g_iald X 1 rfl hb_4 dX12_slips_64 ?_
      refine g_icmp_ge (tgt := 100) X dX12_slips_65 (by decide) (fun hc_5 => ?_) (fun hc_5 => ?_)
      · replace hf := ite_t hc_5 hf
        refine g_lv X (lv' := [(0, .ref h_t), (1, .int v1), (2, .int v2), (3, .int v3), (4, .int v4), (5, .long v5), (7, .long v7)]) [0, 1, 2, 3, 4, 5, 6] rfl ?_
        exact J100 t_above t_below t_w t_statuses t_feels t_next t_came v1 v2 v3 v4 v5 v7 hf
      · replace hf := ite_f hc_5 hf
        refine g_lload X dX12_slips_68 6 rfl ?_
        refine g_aload_n X dX12_slips_70 rfl 0 rfl ?_
        refine g_get (C := RX12) (T := TX12) (N := 22) (ci := 8) (v := (.ref h_t_w)) X iw_X12_slips_X12 0 rfl rfl 0 (by decide) lk_X12_slips_7 rfl dX12_slips_71 ?_
        refine g_bipush (v := 31) X dX12_slips_74 (by decide) ?_
        refine g_iload X dX12_slips_76 7 rfl ?_
        refine g_iadd X dX12_slips_78 ?_
        obtain ⟨hb_6, hf⟩ := chk_out hf
        refine g_iald X 1 rfl hb_6 dX12_slips_79 ?_
        refine g_iconst (v := (-1)) X dX12_slips_80 (by decide) ?_
        refine g_icmp_ne (tgt := 88) X dX12_slips_81 (by decide) (fun hc_7 => ?_) (fun hc_7 => ?_)
        · replace hf := ite_f hc_7 hf
          refine g_ldc2 (v := 10) X dX12_slips_88 lk_X12_slips_296 ?_
          refine g_lv X (lv' := [(0, .ref h_t), (1, .int v1), (2, .int v2), (3, .int v3), (4, .int v4), (5, .long v5), (9, .int v9)]) [0, 1, 2, 3, 4, 5, 7] rfl ?_
          exact J91 (f_X12_slips_57 n) ih t_above t_below t_w t_statuses t_feels t_next t_came v1 v2 v3 v4 v5 v9 v7 10 hf
        · replace hf := ite_t hc_7 hf
          refine g_lconst (v := 1) X dX12_slips_84 (by decide) ?_
          refine g_goto (tgt := 91) X dX12_slips_85 (by decide) ?_
          refine g_lv X (lv' := [(0, .ref h_t), (1, .int v1), (2, .int v2), (3, .int v3), (4, .int v4), (5, .long v5), (9, .int v9)]) [0, 1, 2, 3, 4, 5, 7] rfl ?_
          exact J91 (f_X12_slips_57 n) ih t_above t_below t_w t_statuses t_feels t_next t_came v1 v2 v3 v4 v5 v9 v7 1 hf
  refine g_aload_n X dX12_slips_0 rfl 0 rfl ?_
  refine g_iload_n X dX12_slips_1 rfl 1 rfl ?_
  obtain ⟨r_49, hk_50, hf⟩ := ob1_out hf
  refine g_cVR (st := []) (st1 := [.int r_49]) (C := RX12) (ci := 8) (q0 := 0) X (c_X12_isClerk l D cI cZ h_t h_t_w h_t_isKept h_t_text h_t_statuses h_t_ways h_t_feels h_t_next h_t_came h_t_deep h_t_sizes h_t_tableOf h_t_usedBy h_t_taken h_t_sixOf t_texted t_above t_below t_at t_start t_number t_went t_h t_w v1 _ hk_50) (Or.inl rfl) 1 gX12_slips_X12_isClerk rfl hv_X12_isClerk ⟨Nat.le_of_ble_eq_true rfl, Nat.le_of_ble_eq_true rfl⟩ rfl rfl (Nat.le_of_ble_eq_true rfl) ⟨rfl, rfl⟩ (Nat.zero_le _) (Nat.zero_le _) rfl rfl rfl dX12_slips_2 [0, 1] rfl rfl rfl ?_
  refine g_if_eq (tgt := 41) X dX12_slips_5 (by decide) (fun hc_51 => ?_) (fun hc_51 => ?_)
  · replace hf := ite_t hc_51 hf
    refine g_lv X (lv' := [(0, .ref h_t)]) [0] rfl ?_
    exact J41 t_above t_below t_w t_statuses t_feels t_next t_came hf
  · replace hf := ite_f hc_51 hf
    refine g_iload_n X dX12_slips_8 rfl 2 rfl ?_
    refine g_i2l X dX12_slips_9 ?_
    refine g_lconst (v := 1) X dX12_slips_10 (by decide) ?_
    refine g_ldc2 (v := 20) X dX12_slips_11 lk_X12_slips_233 ?_
    obtain ⟨r_52, hk_53, hf⟩ := ob1_out hf
    refine g_cSR (st := []) (st1 := [.int r_52]) X (c_X12_in l D cI cZ (v2.toInt64) 1 20 _ hk_53) (Or.inl rfl) 3 gX12_slips_X12_in rfl hs_X12_in ⟨Nat.le_of_ble_eq_true rfl, Nat.le_of_ble_eq_true rfl⟩ rfl rfl (Nat.le_of_ble_eq_true rfl) ⟨rfl, rfl⟩ (Nat.zero_le _) (Nat.zero_le _) dX12_slips_14 [] rfl rfl rfl ?_
    refine g_if_eq (tgt := 41) X dX12_slips_17 (by decide) (fun hc_54 => ?_) (fun hc_54 => ?_)
    · replace hf := ite_t hc_54 hf
      refine g_lv X (lv' := [(0, .ref h_t)]) [0] rfl ?_
      exact J41 t_above t_below t_w t_statuses t_feels t_next t_came hf
    · replace hf := ite_f hc_54 hf
      refine g_aload_n X dX12_slips_20 rfl 0 rfl ?_
      refine g_iload_n X dX12_slips_21 rfl 3 rfl ?_
      obtain ⟨r_55, hk_56, hf⟩ := ob1_out hf
      refine g_cVR (st := []) (st1 := [.int r_55]) (C := RX12) (ci := 8) (q0 := 0) X (c_X12_isClerk l D cI cZ h_t h_t_w h_t_isKept h_t_text h_t_statuses h_t_ways h_t_feels h_t_next h_t_came h_t_deep h_t_sizes h_t_tableOf h_t_usedBy h_t_taken h_t_sixOf t_texted t_above t_below t_at t_start t_number t_went t_h t_w v3 _ hk_56) (Or.inl rfl) 1 gX12_slips_X12_isClerk rfl hv_X12_isClerk ⟨Nat.le_of_ble_eq_true rfl, Nat.le_of_ble_eq_true rfl⟩ rfl rfl (Nat.le_of_ble_eq_true rfl) ⟨rfl, rfl⟩ (Nat.zero_le _) (Nat.zero_le _) rfl rfl rfl dX12_slips_22 [0, 1] rfl rfl rfl ?_
      refine g_if_eq (tgt := 41) X dX12_slips_25 (by decide) (fun hc_57 => ?_) (fun hc_57 => ?_)
      · replace hf := ite_t hc_57 hf
        refine g_lv X (lv' := [(0, .ref h_t)]) [0] rfl ?_
        exact J41 t_above t_below t_w t_statuses t_feels t_next t_came hf
      · replace hf := ite_f hc_57 hf
        refine g_iload X dX12_slips_28 4 rfl ?_
        refine g_i2l X dX12_slips_30 ?_
        refine g_lconst (v := 0) X dX12_slips_31 (by decide) ?_
        refine g_ldc2 (v := 10) X dX12_slips_32 lk_X12_slips_296 ?_
        obtain ⟨r_58, hk_59, hf⟩ := ob1_out hf
        refine g_cSR (st := []) (st1 := [.int r_58]) X (c_X12_in l D cI cZ (v4.toInt64) 0 10 _ hk_59) (Or.inl rfl) 3 gX12_slips_X12_in rfl hs_X12_in ⟨Nat.le_of_ble_eq_true rfl, Nat.le_of_ble_eq_true rfl⟩ rfl rfl (Nat.le_of_ble_eq_true rfl) ⟨rfl, rfl⟩ (Nat.zero_le _) (Nat.zero_le _) dX12_slips_35 [] rfl rfl rfl ?_
        refine g_if_ne (tgt := 48) X dX12_slips_38 (by decide) (fun hc_60 => ?_) (fun hc_60 => ?_)
        · replace hf := ite_f hc_60 hf
          refine g_lconst (v := 0) X dX12_slips_48 (by decide) ?_
          refine g_lstore (lv' := [(0, .ref h_t), (1, .int v1), (2, .int v2), (3, .int v3), (4, .int v4), (5, .long 0)]) X dX12_slips_49 (Nat.le_of_ble_eq_true rfl) [1, 2, 3, 4, 5, 0] rfl ?_
          refine g_lconst (v := 1) X dX12_slips_51 (by decide) ?_
          refine g_lstore (lv' := [(0, .ref h_t), (1, .int v1), (2, .int v2), (3, .int v3), (4, .int v4), (5, .long 0), (7, .long 1)]) X dX12_slips_52 (Nat.le_of_ble_eq_true rfl) [1, 2, 3, 4, 5, 6, 0] rfl ?_
          refine g_iconst (v := 0) X dX12_slips_54 (by decide) ?_
          refine g_istore (lv' := [(0, .ref h_t), (1, .int v1), (2, .int v2), (3, .int v3), (4, .int v4), (5, .long 0), (7, .long 1), (9, .int 0)]) X dX12_slips_55 (Nat.le_of_ble_eq_true rfl) [1, 2, 3, 4, 5, 6, 7, 0] rfl ?_
          exact J57 FU t_above t_below t_w t_statuses t_feels t_next t_came v1 v2 v3 v4 0 1 0 hf
        · replace hf := ite_t hc_60 hf
          refine g_lv X (lv' := [(0, .ref h_t)]) [0] rfl ?_
          exact J41 t_above t_below t_w t_statuses t_feels t_next t_came hf
def wd_X12_decades (cI cZ : ClassId) (h_t : Nat) (h_t_w : Nat) (h_t_isKept : Nat) (h_t_text : Nat) (h_t_statuses : Nat) (h_t_ways : Nat) (h_t_feels : Nat) (h_t_next : Nat) (h_t_came : Nat) (h_t_deep : Nat) (h_t_sizes : Nat) (h_t_tableOf : Nat) (h_t_usedBy : Nat) (h_t_taken : Nat) (h_t_sixOf : Nat) (t_texted : Int32) (t_above : Int64) (t_below : Int64) (t_at : Int32) (t_start : Int32) (t_number : Int32) (t_went : Int32) (t_h : Int64) (t_w : (Nat → Int32)) (t_statuses : (Nat → Int32)) (t_ways : (Nat → Int32)) (t_feels : (Nat → Int32)) (t_next : (Nat → Int32)) (t_came : (Nat → Int32)) : va_W := [(h_t, .inr (8, [.ref h_t_w, .ref h_t_isKept, .ref h_t_text, .int t_texted, .long t_above, .long t_below, .ref h_t_statuses, .int t_at, .int t_start, .int t_number, .ref h_t_ways, .int t_went, .ref h_t_feels, .ref h_t_next, .ref h_t_came, .ref h_t_deep, .ref h_t_sizes, .ref h_t_tableOf, .ref h_t_usedBy, .ref h_t_taken, .ref h_t_sixOf, .long t_h])), (h_t_w, .inl (cI, 1251, .inl t_w)), (h_t_statuses, .inl (cI, 3, .inl t_statuses)), (h_t_ways, .inl (cI, 7, .inl t_ways)), (h_t_feels, .inl (cI, 7, .inl t_feels)), (h_t_next, .inl (cI, 7, .inl t_next)), (h_t_came, .inl (cI, 7, .inl t_came))]
abbrev rm_X12_decades : Room := { frames := 6, cells := 0, slots := 0, locals := 141 }
theorem hv_X12_decades : yX12_decades.cls = RX12 ∧ yX12_decades.cls ≠ "java/lang/invoke/MethodHandle" ∧ yX12_decades.cls ≠ "java/lang/invoke/VarHandle" ∧ (parseMethodDescriptor yX12_decades.desc).map (fun d => d.parameters.length) = some 2 := by decide +kernel
theorem lk_X12_decades_300 : Cond.constantLong RX12 300 1103515245 ∈ wsX12_decades := by decide +kernel
theorem lk_X12_decades_302 : Cond.constantLong RX12 302 12345 ∈ wsX12_decades := by decide +kernel
theorem lk_X12_decades_304 : Cond.constantLong RX12 304 2147483648 ∈ wsX12_decades := by decide +kernel
theorem lk_X12_decades_306 : Cond.constantLong RX12 306 65536 ∈ wsX12_decades := by decide +kernel
theorem lk_X12_decades_233 : Cond.constantLong RX12 233 20 ∈ wsX12_decades := by decide +kernel
theorem lk_X12_decades_308 : Cond.constantLong RX12 308 1048576 ∈ wsX12_decades := by decide +kernel
theorem lk_X12_decades_256 : Cond.constantLong RX12 256 7 ∈ wsX12_decades := by decide +kernel
theorem iw_X12_decades_X12 : ∀ w ∈ u_ws RX12 TX12 22, w ∈ wsX12_decades := by decide +kernel
theorem lk_X12_decades_7 : Cond.fieldLink RX12 7 "ClerkChainsModel" "w" "[I" ∈ wsX12_decades := by decide +kernel
theorem lk_X12_decades_298 : Cond.constantLong RX12 298 999999 ∈ wsX12_decades := by decide +kernel
theorem lk_X12_decades_219 : Cond.constantLong RX12 219 60 ∈ wsX12_decades := by decide +kernel
set_option maxHeartbeats 4000000 in
set_option maxRecDepth 100000 in
theorem c_X12_decades (l : Launch) (D : va_G) (cI cZ : ClassId) (h_t : Nat) (h_t_w : Nat) (h_t_isKept : Nat) (h_t_text : Nat) (h_t_statuses : Nat) (h_t_ways : Nat) (h_t_feels : Nat) (h_t_next : Nat) (h_t_came : Nat) (h_t_deep : Nat) (h_t_sizes : Nat) (h_t_tableOf : Nat) (h_t_usedBy : Nat) (h_t_taken : Nat) (h_t_sixOf : Nat) (t_texted : Int32) (t_above : Int64) (t_below : Int64) (t_at : Int32) (t_start : Int32) (t_number : Int32) (t_went : Int32) (t_h : Int64) (t_w : (Nat → Int32)) (t_statuses : (Nat → Int32)) (t_ways : (Nat → Int32)) (t_feels : (Nat → Int32)) (t_next : (Nat → Int32)) (t_came : (Nat → Int32)) (v1 : Int32) (v2 : Int32) (res : Int32 × Int32 × (Nat → Int32) × (Nat → Int32) × (Nat → Int32) × (Nat → Int32) × (Nat → Int32) × (Nat → Int32)) (hf : f_X12_decades t_went t_w t_statuses t_ways t_feels t_next t_came v1 v2 = some res) : MetG l yX12_decades wsX12_decades rm_X12_decades D cI cZ none [.ref h_t, .int v1, .int v2] (wd_X12_decades cI cZ h_t h_t_w h_t_isKept h_t_text h_t_statuses h_t_ways h_t_feels h_t_next h_t_came h_t_deep h_t_sizes h_t_tableOf h_t_usedBy h_t_taken h_t_sixOf t_texted t_above t_below t_at t_start t_number t_went t_h t_w t_statuses t_ways t_feels t_next t_came) (kV res (fun u => some (.int u.1)) (fun u => (wd_X12_decades cI cZ h_t h_t_w h_t_isKept h_t_text h_t_statuses h_t_ways h_t_feels h_t_next h_t_came h_t_deep h_t_sizes h_t_tableOf h_t_usedBy h_t_taken h_t_sixOf t_texted t_above t_below t_at t_start t_number (u.2.1) t_h (u.2.2.1) (u.2.2.2.1) (u.2.2.2.2.1) (u.2.2.2.2.2.1) (u.2.2.2.2.2.2.1) (u.2.2.2.2.2.2.2)))) := by
  refine metG_of (cc := cX12_decades) (maxL := 9) (ret := (some .int)) (own := RX12) (lv0 := [(0, .ref h_t), (1, .int v1), (2, .int v2)]) (ini := false) (by decide) rfl (Nat.le_of_ble_eq_true rfl) rfl rfl (fun h => by cases h) (fun G X hR => ?_)
  replace hR := rt_int hR
  unfold f_X12_decades at hf
  have J24 : ∀ (t_went : Int32) (t_w : (Nat → Int32)) (t_statuses : (Nat → Int32)) (t_ways : (Nat → Int32)) (t_feels : (Nat → Int32)) (t_next : (Nat → Int32)) (t_came : (Nat → Int32)), f_X12_decades_24 t_went t_w t_statuses t_ways t_feels t_next t_came = some res → G 0 0 (wd_X12_decades cI cZ h_t h_t_w h_t_isKept h_t_text h_t_statuses h_t_ways h_t_feels h_t_next h_t_came h_t_deep h_t_sizes h_t_tableOf h_t_usedBy h_t_taken h_t_sixOf t_texted t_above t_below t_at t_start t_number t_went t_h t_w t_statuses t_ways t_feels t_next t_came) [(0, .ref h_t)] 24 [] := by
    intro t_went t_w t_statuses t_ways t_feels t_next t_came hf
    unfold f_X12_decades_24 at hf
    refine g_aload_n X dX12_decades_24 rfl 0 rfl ?_
    refine g_bipush (v := (-2)) X dX12_decades_25 (by decide) ?_
    obtain ⟨r_1, t_statuses_2, hk_3, hf⟩ := ob2_out hf
    refine g_cVW (st := []) (st1 := [.int r_1]) (C := RX12) (ci := 8) (q0 := 0) (ws' := (wd_X12_decades cI cZ h_t h_t_w h_t_isKept h_t_text h_t_statuses h_t_ways h_t_feels h_t_next h_t_came h_t_deep h_t_sizes h_t_tableOf h_t_usedBy h_t_taken h_t_sixOf t_texted t_above t_below t_at t_start t_number t_went t_h t_w t_statuses_2 t_ways t_feels t_next t_came)) X (c_X12_bad l D cI cZ h_t h_t_w h_t_isKept h_t_text h_t_statuses h_t_ways h_t_feels h_t_next h_t_came h_t_deep h_t_sizes h_t_tableOf h_t_usedBy h_t_taken h_t_sixOf t_texted t_above t_below t_at t_start t_number t_went t_h t_statuses (-2) _ hk_3) (Or.inl rfl) 1 gX12_decades_X12_bad rfl hv_X12_bad ⟨Nat.le_of_ble_eq_true rfl, Nat.le_of_ble_eq_true rfl⟩ rfl rfl (Nat.le_of_ble_eq_true rfl) ⟨rfl, rfl⟩ (Nat.zero_le _) (Nat.zero_le _) rfl rfl rfl dX12_decades_27 [0, 2] rfl rfl [1, 3, 4, 5, 6] rfl rfl (by decide) [5, 0, 6, 1, 2, 3, 4] rfl rfl rfl ?_
    exact hR _ _ _ _ dX12_decades_30 (kV_in (u := (r_1, t_went, t_w, t_statuses_2, t_ways, t_feels, t_next, t_came)) hf)
  have J124 : ∀ (k44 : Int32 → (Nat → Int32) → (Nat → Int32) → (Nat → Int32) → (Nat → Int32) → (Nat → Int32) → (Nat → Int32) → Int32 → Int64 → Int32 → Int32 → Option (Int32 × Int32 × (Nat → Int32) × (Nat → Int32) × (Nat → Int32) × (Nat → Int32) × (Nat → Int32) × (Nat → Int32))) (hk44 : ∀ (t_went : Int32) (t_w : (Nat → Int32)) (t_statuses : (Nat → Int32)) (t_ways : (Nat → Int32)) (t_feels : (Nat → Int32)) (t_next : (Nat → Int32)) (t_came : (Nat → Int32)) (v2 : Int32) (v3 : Int64) (v5 : Int32) (v6 : Int32), k44 t_went t_w t_statuses t_ways t_feels t_next t_came v2 v3 v5 v6 = some res → G 0 0 (wd_X12_decades cI cZ h_t h_t_w h_t_isKept h_t_text h_t_statuses h_t_ways h_t_feels h_t_next h_t_came h_t_deep h_t_sizes h_t_tableOf h_t_usedBy h_t_taken h_t_sixOf t_texted t_above t_below t_at t_start t_number t_went t_h t_w t_statuses t_ways t_feels t_next t_came) [(0, .ref h_t), (2, .int v2), (3, .long v3), (5, .int v5), (6, .int v6)] 44 []) (t_went : Int32) (t_w : (Nat → Int32)) (t_statuses : (Nat → Int32)) (t_ways : (Nat → Int32)) (t_feels : (Nat → Int32)) (t_next : (Nat → Int32)) (t_came : (Nat → Int32)) (v2 : Int32) (v3 : Int64) (v5 : Int32) (v6 : Int32), f_X12_decades_124 k44 t_went t_w t_statuses t_ways t_feels t_next t_came v2 v3 v5 v6 = some res → G 0 0 (wd_X12_decades cI cZ h_t h_t_w h_t_isKept h_t_text h_t_statuses h_t_ways h_t_feels h_t_next h_t_came h_t_deep h_t_sizes h_t_tableOf h_t_usedBy h_t_taken h_t_sixOf t_texted t_above t_below t_at t_start t_number t_went t_h t_w t_statuses t_ways t_feels t_next t_came) [(0, .ref h_t), (2, .int v2), (3, .long v3), (5, .int v5), (6, .int v6)] 124 [] := by
    intro k44 hk44 t_went t_w t_statuses t_ways t_feels t_next t_came v2 v3 v5 v6 hf
    unfold f_X12_decades_124 at hf
    refine g_aload_n X dX12_decades_124 rfl 0 rfl ?_
    refine g_sipush (v := 1204) X dX12_decades_125 (by decide) ?_
    obtain ⟨t_went_24, t_w_25, t_ways_26, hk_27, hf⟩ := ob3_out hf
    refine g_cVW (st := []) (st1 := []) (C := RX12) (ci := 8) (q0 := 0) (ws' := (wd_X12_decades cI cZ h_t h_t_w h_t_isKept h_t_text h_t_statuses h_t_ways h_t_feels h_t_next h_t_came h_t_deep h_t_sizes h_t_tableOf h_t_usedBy h_t_taken h_t_sixOf t_texted t_above t_below t_at t_start t_number t_went_24 t_h t_w_25 t_statuses t_ways_26 t_feels t_next t_came)) X (c_X12_passes l D cI cZ h_t h_t_w h_t_isKept h_t_text h_t_statuses h_t_ways h_t_feels h_t_next h_t_came h_t_deep h_t_sizes h_t_tableOf h_t_usedBy h_t_taken h_t_sixOf t_texted t_above t_below t_at t_start t_number t_went t_h t_w t_ways 1204 _ hk_27) (Or.inl rfl) 1 gX12_decades_X12_passes rfl hv_X12_passes ⟨Nat.le_of_ble_eq_true rfl, Nat.le_of_ble_eq_true rfl⟩ rfl rfl (Nat.le_of_ble_eq_true rfl) ⟨rfl, rfl⟩ (Nat.zero_le _) (Nat.zero_le _) rfl rfl rfl dX12_decades_128 [0, 1, 3] rfl rfl [2, 4, 5, 6] rfl rfl (by decide) [4, 5, 0, 6, 1, 2, 3] rfl rfl rfl ?_
    obtain ⟨v6_28, ev6_28, hf⟩ := bnd_out hf
    refine g_iinc (v := v6_28) (lv' := [(0, .ref h_t), (2, .int v2), (3, .long v3), (5, .int v5), (6, .int v6_28)]) X dX12_decades_131 4 rfl (by rw [ev6_28]; rfl) (Nat.le_of_ble_eq_true rfl) [1, 2, 3, 4, 0] rfl ?_
    refine g_goto (tgt := 44) X dX12_decades_134 (by decide) ?_
    exact hk44 t_went_24 t_w_25 t_statuses t_ways_26 t_feels t_next t_came v2 v3 v5 v6_28 hf
  have J44 : ∀ (n : Nat) (t_went : Int32) (t_w : (Nat → Int32)) (t_statuses : (Nat → Int32)) (t_ways : (Nat → Int32)) (t_feels : (Nat → Int32)) (t_next : (Nat → Int32)) (t_came : (Nat → Int32)) (v2 : Int32) (v3 : Int64) (v5 : Int32) (v6 : Int32), f_X12_decades_44 n t_went t_w t_statuses t_ways t_feels t_next t_came v2 v3 v5 v6 = some res → G 0 0 (wd_X12_decades cI cZ h_t h_t_w h_t_isKept h_t_text h_t_statuses h_t_ways h_t_feels h_t_next h_t_came h_t_deep h_t_sizes h_t_tableOf h_t_usedBy h_t_taken h_t_sixOf t_texted t_above t_below t_at t_start t_number t_went t_h t_w t_statuses t_ways t_feels t_next t_came) [(0, .ref h_t), (2, .int v2), (3, .long v3), (5, .int v5), (6, .int v6)] 44 [] := by
    intro n
    induction n with
    | zero => intro t_went t_w t_statuses t_ways t_feels t_next t_came v2 v3 v5 v6 hf; rw [f_X12_decades_44] at hf; cases hf
    | succ n ih =>
      intro t_went t_w t_statuses t_ways t_feels t_next t_came v2 v3 v5 v6 hf
      rw [f_X12_decades_44] at hf
      refine g_iload X dX12_decades_44 4 rfl ?_
      refine g_iload_n X dX12_decades_46 rfl 1 rfl ?_
      refine g_icmp_ge (tgt := 137) X dX12_decades_47 (by decide) (fun hc_4 => ?_) (fun hc_4 => ?_)
      · replace hf := ite_t hc_4 hf
        refine g_iload X dX12_decades_137 3 rfl ?_
        exact hR _ _ _ _ dX12_decades_139 (kV_in (u := (v5, t_went, t_w, t_statuses, t_ways, t_feels, t_next, t_came)) hf)
      · replace hf := ite_f hc_4 hf
        refine g_lload_n X dX12_decades_50 rfl 2 rfl ?_
        refine g_ldc2 (v := 1103515245) X dX12_decades_51 lk_X12_decades_300 ?_
        refine g_lmul X dX12_decades_54 ?_
        refine g_ldc2 (v := 12345) X dX12_decades_55 lk_X12_decades_302 ?_
        refine g_ladd X dX12_decades_58 ?_
        refine g_ldc2 (v := 2147483648) X dX12_decades_59 lk_X12_decades_304 ?_
        obtain ⟨hz_5, hf⟩ := chzl_out hf
        refine g_lrem X dX12_decades_62 hz_5 ?_
        obtain ⟨v3_6, ev3_6, hf⟩ := bnd_out hf
        refine g_nmJ X ev3_6 ?_
        refine g_lstore_n (lv' := [(0, .ref h_t), (2, .int v2), (3, .long v3_6), (5, .int v5), (6, .int v6)]) X dX12_decades_63 rfl (Nat.le_of_ble_eq_true rfl) [1, 2, 0, 3, 4] rfl ?_
        refine g_lload_n X dX12_decades_64 rfl 2 rfl ?_
        refine g_ldc2 (v := 65536) X dX12_decades_65 lk_X12_decades_306 ?_
        obtain ⟨hz_7, hf⟩ := chzl_out hf
        refine g_ldiv X dX12_decades_68 hz_7 ?_
        refine g_ldc2 (v := 20) X dX12_decades_69 lk_X12_decades_233 ?_
        obtain ⟨hz_8, hf⟩ := chzl_out hf
        refine g_lrem X dX12_decades_72 hz_8 ?_
        refine g_l2i X dX12_decades_73 ?_
        refine g_iconst (v := 1) X dX12_decades_74 (by decide) ?_
        refine g_iadd X dX12_decades_75 ?_
        obtain ⟨v7_9, ev7_9, hf⟩ := bnd_out hf
        refine g_nmI X ev7_9 ?_
        refine g_istore (lv' := [(0, .ref h_t), (2, .int v2), (3, .long v3_6), (5, .int v5), (6, .int v6), (7, .int v7_9)]) X dX12_decades_76 (Nat.le_of_ble_eq_true rfl) [1, 2, 3, 4, 5, 0] rfl ?_
        refine g_lload_n X dX12_decades_78 rfl 2 rfl ?_
        refine g_ldc2 (v := 1048576) X dX12_decades_79 lk_X12_decades_308 ?_
        obtain ⟨hz_10, hf⟩ := chzl_out hf
        refine g_ldiv X dX12_decades_82 hz_10 ?_
        refine g_ldc2 (v := 7) X dX12_decades_83 lk_X12_decades_256 ?_
        obtain ⟨hz_11, hf⟩ := chzl_out hf
        refine g_lrem X dX12_decades_86 hz_11 ?_
        refine g_l2i X dX12_decades_87 ?_
        obtain ⟨v8_12, ev8_12, hf⟩ := bnd_out hf
        refine g_nmI X ev8_12 ?_
        refine g_istore (lv' := [(0, .ref h_t), (2, .int v2), (3, .long v3_6), (5, .int v5), (6, .int v6), (7, .int v7_9), (8, .int v8_12)]) X dX12_decades_88 (Nat.le_of_ble_eq_true rfl) [1, 2, 3, 4, 5, 6, 0] rfl ?_
        refine g_iload X dX12_decades_90 6 rfl ?_
        refine g_aload_n X dX12_decades_92 rfl 0 rfl ?_
        refine g_get (C := RX12) (T := TX12) (N := 22) (ci := 8) (v := (.ref h_t_w)) X iw_X12_decades_X12 0 rfl rfl 0 (by decide) lk_X12_decades_7 rfl dX12_decades_93 ?_
        refine g_iconst (v := 0) X dX12_decades_96 (by decide) ?_
        obtain ⟨hb_13, hf⟩ := chk_out hf
        refine g_iald X 1 rfl hb_13 dX12_decades_97 ?_
        refine g_icmp_ge (tgt := 124) X dX12_decades_98 (by decide) (fun hc_14 => ?_) (fun hc_14 => ?_)
        · replace hf := ite_t hc_14 hf
          refine g_lv X (lv' := [(0, .ref h_t), (2, .int v2), (3, .long v3_6), (5, .int v5), (6, .int v6)]) [0, 1, 2, 3, 4] rfl ?_
          exact J124 (f_X12_decades_44 n) ih t_went t_w t_statuses t_ways t_feels t_next t_came v2 v3_6 v5 v6 hf
        · replace hf := ite_f hc_14 hf
          refine g_aload_n X dX12_decades_101 rfl 0 rfl ?_
          refine g_sipush (v := 1204) X dX12_decades_102 (by decide) ?_
          refine g_iload X dX12_decades_105 6 rfl ?_
          refine g_iload X dX12_decades_107 5 rfl ?_
          obtain ⟨t_feels_15, t_next_16, t_came_17, hk_18, hf⟩ := ob3_out hf
          refine g_cVW (st := []) (st1 := []) (C := RX12) (ci := 8) (q0 := 0) (ws' := (wd_X12_decades cI cZ h_t h_t_w h_t_isKept h_t_text h_t_statuses h_t_ways h_t_feels h_t_next h_t_came h_t_deep h_t_sizes h_t_tableOf h_t_usedBy h_t_taken h_t_sixOf t_texted t_above t_below t_at t_start t_number t_went t_h t_w t_statuses t_ways t_feels_15 t_next_16 t_came_17)) X (c_X12_tugs l D cI cZ h_t h_t_w h_t_isKept h_t_text h_t_statuses h_t_ways h_t_feels h_t_next h_t_came h_t_deep h_t_sizes h_t_tableOf h_t_usedBy h_t_taken h_t_sixOf t_texted t_above t_below t_at t_start t_number t_went t_h t_w t_feels t_next t_came 1204 v8_12 v7_9 _ hk_18) (Or.inl rfl) 3 gX12_decades_X12_tugs rfl hv_X12_tugs ⟨Nat.le_of_ble_eq_true rfl, Nat.le_of_ble_eq_true rfl⟩ rfl rfl (Nat.le_of_ble_eq_true rfl) ⟨rfl, rfl⟩ (Nat.zero_le _) (Nat.zero_le _) rfl rfl rfl dX12_decades_109 [0, 1, 4, 5, 6] rfl rfl [2, 3] rfl rfl (by decide) [2, 3, 0, 1, 4, 5, 6] rfl rfl rfl ?_
          refine g_iload X dX12_decades_112 3 rfl ?_
          refine g_aload_n X dX12_decades_114 rfl 0 rfl ?_
          obtain ⟨r_19, hk_20, hf⟩ := ob1_out hf
          refine g_cVR (st := [.int v5]) (st1 := [.int r_19, .int v5]) (C := RX12) (ci := 8) (q0 := 0) X (c_X12_whoFeels l D cI cZ h_t h_t_w h_t_isKept h_t_text h_t_statuses h_t_ways h_t_feels h_t_next h_t_came h_t_deep h_t_sizes h_t_tableOf h_t_usedBy h_t_taken h_t_sixOf t_texted t_above t_below t_at t_start t_number t_went t_h t_w t_feels_15 _ hk_20) (Or.inl rfl) 0 gX12_decades_X12_whoFeels rfl hv_X12_whoFeels ⟨Nat.le_of_ble_eq_true rfl, Nat.le_of_ble_eq_true rfl⟩ rfl rfl (Nat.le_of_ble_eq_true rfl) ⟨rfl, rfl⟩ (Nat.zero_le _) (Nat.zero_le _) rfl rfl rfl dX12_decades_115 [0, 1, 4] rfl rfl rfl ?_
          obtain ⟨r_21, hk_22, hf⟩ := ob1_out hf
          refine g_cSR (st := [.int v5]) (st1 := [.int r_21, .int v5]) X (c_X12_ones l D cI cZ r_19 _ hk_22) (Or.inl rfl) 1 gX12_decades_X12_ones rfl hs_X12_ones ⟨Nat.le_of_ble_eq_true rfl, Nat.le_of_ble_eq_true rfl⟩ rfl rfl (Nat.le_of_ble_eq_true rfl) ⟨rfl, rfl⟩ (Nat.zero_le _) (Nat.zero_le _) dX12_decades_118 [] rfl rfl rfl ?_
          refine g_iadd X dX12_decades_121 ?_
          obtain ⟨v5_23, ev5_23, hf⟩ := bnd_out hf
          refine g_nmI X ev5_23 ?_
          refine g_istore (lv' := [(0, .ref h_t), (2, .int v2), (3, .long v3_6), (5, .int v5_23), (6, .int v6), (7, .int v7_9), (8, .int v8_12)]) X dX12_decades_122 (Nat.le_of_ble_eq_true rfl) [1, 2, 3, 0, 4, 5, 6] rfl ?_
          refine g_lv X (lv' := [(0, .ref h_t), (2, .int v2), (3, .long v3_6), (5, .int v5_23), (6, .int v6)]) [0, 1, 2, 3, 4] rfl ?_
          exact J124 (f_X12_decades_44 n) ih t_went t_w t_statuses t_ways t_feels_15 t_next_16 t_came_17 v2 v3_6 v5_23 v6 hf
  refine g_iload_n X dX12_decades_0 rfl 1 rfl ?_
  refine g_i2l X dX12_decades_1 ?_
  refine g_lconst (v := 0) X dX12_decades_2 (by decide) ?_
  refine g_ldc2 (v := 999999) X dX12_decades_3 lk_X12_decades_298 ?_
  obtain ⟨r_29, hk_30, hf⟩ := ob1_out hf
  refine g_cSR (st := []) (st1 := [.int r_29]) X (c_X12_in l D cI cZ (v1.toInt64) 0 999999 _ hk_30) (Or.inl rfl) 3 gX12_decades_X12_in rfl hs_X12_in ⟨Nat.le_of_ble_eq_true rfl, Nat.le_of_ble_eq_true rfl⟩ rfl rfl (Nat.le_of_ble_eq_true rfl) ⟨rfl, rfl⟩ (Nat.zero_le _) (Nat.zero_le _) dX12_decades_6 [] rfl rfl rfl ?_
  refine g_if_eq (tgt := 24) X dX12_decades_9 (by decide) (fun hc_31 => ?_) (fun hc_31 => ?_)
  · replace hf := ite_t hc_31 hf
    refine g_lv X (lv' := [(0, .ref h_t)]) [0] rfl ?_
    exact J24 t_went t_w t_statuses t_ways t_feels t_next t_came hf
  · replace hf := ite_f hc_31 hf
    refine g_iload_n X dX12_decades_12 rfl 2 rfl ?_
    refine g_i2l X dX12_decades_13 ?_
    refine g_lconst (v := 0) X dX12_decades_14 (by decide) ?_
    refine g_ldc2 (v := 60) X dX12_decades_15 lk_X12_decades_219 ?_
    obtain ⟨r_32, hk_33, hf⟩ := ob1_out hf
    refine g_cSR (st := []) (st1 := [.int r_32]) X (c_X12_in l D cI cZ (v2.toInt64) 0 60 _ hk_33) (Or.inl rfl) 3 gX12_decades_X12_in rfl hs_X12_in ⟨Nat.le_of_ble_eq_true rfl, Nat.le_of_ble_eq_true rfl⟩ rfl rfl (Nat.le_of_ble_eq_true rfl) ⟨rfl, rfl⟩ (Nat.zero_le _) (Nat.zero_le _) dX12_decades_18 [] rfl rfl rfl ?_
    refine g_if_ne (tgt := 31) X dX12_decades_21 (by decide) (fun hc_34 => ?_) (fun hc_34 => ?_)
    · replace hf := ite_f hc_34 hf
      refine g_aload_n X dX12_decades_31 rfl 0 rfl ?_
      obtain ⟨t_w_35, hk_36, hf⟩ := ob1_out hf
      refine g_cVW (st := []) (st1 := []) (C := RX12) (ci := 8) (q0 := 0) (ws' := (wd_X12_decades cI cZ h_t h_t_w h_t_isKept h_t_text h_t_statuses h_t_ways h_t_feels h_t_next h_t_came h_t_deep h_t_sizes h_t_tableOf h_t_usedBy h_t_taken h_t_sixOf t_texted t_above t_below t_at t_start t_number t_went t_h t_w_35 t_statuses t_ways t_feels t_next t_came)) X (c_X12_tries l D cI cZ h_t h_t_w h_t_isKept h_t_text h_t_statuses h_t_ways h_t_feels h_t_next h_t_came h_t_deep h_t_sizes h_t_tableOf h_t_usedBy h_t_taken h_t_sixOf t_texted t_above t_below t_at t_start t_number t_went t_h t_w _ hk_36) (Or.inl rfl) 0 gX12_decades_X12_tries rfl hv_X12_tries ⟨Nat.le_of_ble_eq_true rfl, Nat.le_of_ble_eq_true rfl⟩ rfl rfl (Nat.le_of_ble_eq_true rfl) ⟨rfl, rfl⟩ (Nat.zero_le _) (Nat.zero_le _) rfl rfl rfl dX12_decades_32 [0, 1] rfl rfl [2, 3, 4, 5, 6] rfl rfl (by decide) [5, 6, 0, 1, 2, 3, 4] rfl rfl rfl ?_
      refine g_iload_n X dX12_decades_35 rfl 1 rfl ?_
      refine g_i2l X dX12_decades_36 ?_
      obtain ⟨v3_37, ev3_37, hf⟩ := bnd_out hf
      refine g_nmJ X ev3_37 ?_
      refine g_lstore_n (lv' := [(0, .ref h_t), (1, .int v1), (2, .int v2), (3, .long v3_37)]) X dX12_decades_37 rfl (Nat.le_of_ble_eq_true rfl) [1, 2, 3, 0] rfl ?_
      refine g_iconst (v := 0) X dX12_decades_38 (by decide) ?_
      refine g_istore (lv' := [(0, .ref h_t), (1, .int v1), (2, .int v2), (3, .long v3_37), (5, .int 0)]) X dX12_decades_39 (Nat.le_of_ble_eq_true rfl) [1, 2, 3, 4, 0] rfl ?_
      refine g_iconst (v := 0) X dX12_decades_41 (by decide) ?_
      refine g_istore (lv' := [(0, .ref h_t), (1, .int v1), (2, .int v2), (3, .long v3_37), (5, .int 0), (6, .int 0)]) X dX12_decades_42 (Nat.le_of_ble_eq_true rfl) [1, 2, 3, 4, 5, 0] rfl ?_
      refine g_lv X (lv' := [(0, .ref h_t), (2, .int v2), (3, .long v3_37), (5, .int 0), (6, .int 0)]) [0, 2, 3, 4, 5] rfl ?_
      exact J44 FU t_went t_w_35 t_statuses t_ways t_feels t_next t_came v2 v3_37 0 0 hf
    · replace hf := ite_t hc_34 hf
      refine g_lv X (lv' := [(0, .ref h_t)]) [0] rfl ?_
      exact J24 t_went t_w t_statuses t_ways t_feels t_next t_came hf
def wd_X12_part (cI cZ : ClassId) (h_t : Nat) (h_t_w : Nat) (h_t_isKept : Nat) (h_t_text : Nat) (h_t_statuses : Nat) (h_t_ways : Nat) (h_t_feels : Nat) (h_t_next : Nat) (h_t_came : Nat) (h_t_deep : Nat) (h_t_sizes : Nat) (h_t_tableOf : Nat) (h_t_usedBy : Nat) (h_t_taken : Nat) (h_t_sixOf : Nat) (t_texted : Int32) (t_above : Int64) (t_below : Int64) (t_at : Int32) (t_start : Int32) (t_number : Int32) (t_went : Int32) (t_h : Int64) (t_statuses : (Nat → Int32)) : va_W := [(h_t, .inr (8, [.ref h_t_w, .ref h_t_isKept, .ref h_t_text, .int t_texted, .long t_above, .long t_below, .ref h_t_statuses, .int t_at, .int t_start, .int t_number, .ref h_t_ways, .int t_went, .ref h_t_feels, .ref h_t_next, .ref h_t_came, .ref h_t_deep, .ref h_t_sizes, .ref h_t_tableOf, .ref h_t_usedBy, .ref h_t_taken, .ref h_t_sixOf, .long t_h])), (h_t_statuses, .inl (cI, 3, .inl t_statuses))]
abbrev rm_X12_part : Room := { frames := 1, cells := 0, slots := 0, locals := 21 }
theorem hv_X12_part : yX12_part.cls = RX12 ∧ yX12_part.cls ≠ "java/lang/invoke/MethodHandle" ∧ yX12_part.cls ≠ "java/lang/invoke/VarHandle" ∧ (parseMethodDescriptor yX12_part.desc).map (fun d => d.parameters.length) = some 1 := by decide +kernel
theorem iw_X12_part_X12 : ∀ w ∈ u_ws RX12 TX12 22, w ∈ wsX12_part := by decide +kernel
theorem lk_X12_part_24 : Cond.fieldLink RX12 24 "ClerkChainsModel" "below" "J" ∈ wsX12_part := by decide +kernel
theorem lk_X12_part_20 : Cond.fieldLink RX12 20 "ClerkChainsModel" "above" "J" ∈ wsX12_part := by decide +kernel
set_option maxHeartbeats 4000000 in
set_option maxRecDepth 100000 in
theorem c_X12_part (l : Launch) (D : va_G) (cI cZ : ClassId) (h_t : Nat) (h_t_w : Nat) (h_t_isKept : Nat) (h_t_text : Nat) (h_t_statuses : Nat) (h_t_ways : Nat) (h_t_feels : Nat) (h_t_next : Nat) (h_t_came : Nat) (h_t_deep : Nat) (h_t_sizes : Nat) (h_t_tableOf : Nat) (h_t_usedBy : Nat) (h_t_taken : Nat) (h_t_sixOf : Nat) (t_texted : Int32) (t_above : Int64) (t_below : Int64) (t_at : Int32) (t_start : Int32) (t_number : Int32) (t_went : Int32) (t_h : Int64) (t_statuses : (Nat → Int32)) (v1 : Int32) (res : Int64 × (Nat → Int32)) (hf : f_X12_part t_above t_below t_statuses v1 = some res) : MetG l yX12_part wsX12_part rm_X12_part D cI cZ none [.ref h_t, .int v1] (wd_X12_part cI cZ h_t h_t_w h_t_isKept h_t_text h_t_statuses h_t_ways h_t_feels h_t_next h_t_came h_t_deep h_t_sizes h_t_tableOf h_t_usedBy h_t_taken h_t_sixOf t_texted t_above t_below t_at t_start t_number t_went t_h t_statuses) (kV res (fun u => some (.long u.1)) (fun u => (wd_X12_part cI cZ h_t h_t_w h_t_isKept h_t_text h_t_statuses h_t_ways h_t_feels h_t_next h_t_came h_t_deep h_t_sizes h_t_tableOf h_t_usedBy h_t_taken h_t_sixOf t_texted t_above t_below t_at t_start t_number t_went t_h (u.2)))) := by
  refine metG_of (cc := cX12_part) (maxL := 2) (ret := (some .long)) (own := RX12) (lv0 := [(0, .ref h_t), (1, .int v1)]) (ini := false) (by decide) rfl (Nat.le_of_ble_eq_true rfl) rfl rfl (fun h => by cases h) (fun G X hR => ?_)
  replace hR := rt_long hR
  unfold f_X12_part at hf
  refine g_iload_n X dX12_part_0 rfl 1 rfl ?_
  refine g_if_ne (tgt := 11) X dX12_part_1 (by decide) (fun hc_1 => ?_) (fun hc_1 => ?_)
  · replace hf := ite_f hc_1 hf
    refine g_iload_n X dX12_part_11 rfl 1 rfl ?_
    refine g_iconst (v := 1) X dX12_part_12 (by decide) ?_
    refine g_icmp_ne (tgt := 23) X dX12_part_13 (by decide) (fun hc_2 => ?_) (fun hc_2 => ?_)
    · replace hf := ite_f hc_2 hf
      refine g_aload_n X dX12_part_23 rfl 0 rfl ?_
      refine g_bipush (v := (-2)) X dX12_part_24 (by decide) ?_
      obtain ⟨r_3, t_statuses_4, hk_5, hf⟩ := ob2_out hf
      refine g_cVW (st := []) (st1 := [.int r_3]) (C := RX12) (ci := 8) (q0 := 0) (ws' := (wd_X12_part cI cZ h_t h_t_w h_t_isKept h_t_text h_t_statuses h_t_ways h_t_feels h_t_next h_t_came h_t_deep h_t_sizes h_t_tableOf h_t_usedBy h_t_taken h_t_sixOf t_texted t_above t_below t_at t_start t_number t_went t_h t_statuses_4)) X (c_X12_bad l D cI cZ h_t h_t_w h_t_isKept h_t_text h_t_statuses h_t_ways h_t_feels h_t_next h_t_came h_t_deep h_t_sizes h_t_tableOf h_t_usedBy h_t_taken h_t_sixOf t_texted t_above t_below t_at t_start t_number t_went t_h t_statuses (-2) _ hk_5) (Or.inl rfl) 1 gX12_part_X12_bad rfl hv_X12_bad ⟨Nat.le_of_ble_eq_true rfl, Nat.le_of_ble_eq_true rfl⟩ rfl rfl (Nat.le_of_ble_eq_true rfl) ⟨rfl, rfl⟩ (Nat.zero_le _) (Nat.zero_le _) rfl rfl rfl dX12_part_26 [0, 1] rfl rfl [] rfl rfl (by decide) [0, 1] rfl rfl rfl ?_
      refine g_i2l X dX12_part_29 ?_
      exact hR _ _ _ _ dX12_part_30 (kV_in (u := (r_3.toInt64, t_statuses_4)) hf)
    · replace hf := ite_t hc_2 hf
      refine g_aload_n X dX12_part_16 rfl 0 rfl ?_
      refine g_get (C := RX12) (T := TX12) (N := 22) (ci := 8) (v := (.long t_below)) X iw_X12_part_X12 0 rfl rfl 5 (by decide) lk_X12_part_24 rfl dX12_part_17 ?_
      refine g_goto (tgt := 30) X dX12_part_20 (by decide) ?_
      exact hR _ _ _ _ dX12_part_30 (kV_in (u := (t_below, t_statuses)) hf)
  · replace hf := ite_t hc_1 hf
    refine g_aload_n X dX12_part_4 rfl 0 rfl ?_
    refine g_get (C := RX12) (T := TX12) (N := 22) (ci := 8) (v := (.long t_above)) X iw_X12_part_X12 0 rfl rfl 4 (by decide) lk_X12_part_20 rfl dX12_part_5 ?_
    refine g_goto (tgt := 30) X dX12_part_8 (by decide) ?_
    exact hR _ _ _ _ dX12_part_30 (kV_in (u := (t_above, t_statuses)) hf)
def wd_X12_image (cI cZ : ClassId) (h_t : Nat) (h_t_w : Nat) (h_t_isKept : Nat) (h_t_text : Nat) (h_t_statuses : Nat) (h_t_ways : Nat) (h_t_feels : Nat) (h_t_next : Nat) (h_t_came : Nat) (h_t_deep : Nat) (h_t_sizes : Nat) (h_t_tableOf : Nat) (h_t_usedBy : Nat) (h_t_taken : Nat) (h_t_sixOf : Nat) (t_texted : Int32) (t_above : Int64) (t_below : Int64) (t_at : Int32) (t_start : Int32) (t_number : Int32) (t_went : Int32) (t_h : Int64) (t_w : (Nat → Int32)) (t_isKept : (Nat → Int32)) (t_statuses : (Nat → Int32)) : va_W := [(h_t, .inr (8, [.ref h_t_w, .ref h_t_isKept, .ref h_t_text, .int t_texted, .long t_above, .long t_below, .ref h_t_statuses, .int t_at, .int t_start, .int t_number, .ref h_t_ways, .int t_went, .ref h_t_feels, .ref h_t_next, .ref h_t_came, .ref h_t_deep, .ref h_t_sizes, .ref h_t_tableOf, .ref h_t_usedBy, .ref h_t_taken, .ref h_t_sixOf, .long t_h])), (h_t_w, .inl (cI, 1251, .inl t_w)), (h_t_isKept, .inl (cZ, 2, .inl t_isKept)), (h_t_statuses, .inl (cI, 3, .inl t_statuses))]
abbrev rm_X12_image : Room := { frames := 1, cells := 0, slots := 0, locals := 25 }
theorem hv_X12_image : yX12_image.cls = RX12 ∧ yX12_image.cls ≠ "java/lang/invoke/MethodHandle" ∧ yX12_image.cls ≠ "java/lang/invoke/VarHandle" ∧ (parseMethodDescriptor yX12_image.desc).map (fun d => d.parameters.length) = some 1 := by decide +kernel
theorem iw_X12_image_X12 : ∀ w ∈ u_ws RX12 TX12 22, w ∈ wsX12_image := by decide +kernel
theorem lk_X12_image_13 : Cond.fieldLink RX12 13 "ClerkChainsModel" "isKept" "[Z" ∈ wsX12_image := by decide +kernel
set_option maxHeartbeats 4000000 in
set_option maxRecDepth 100000 in
theorem c_X12_image (l : Launch) (D : va_G) (cI cZ : ClassId) (h_t : Nat) (h_t_w : Nat) (h_t_isKept : Nat) (h_t_text : Nat) (h_t_statuses : Nat) (h_t_ways : Nat) (h_t_feels : Nat) (h_t_next : Nat) (h_t_came : Nat) (h_t_deep : Nat) (h_t_sizes : Nat) (h_t_tableOf : Nat) (h_t_usedBy : Nat) (h_t_taken : Nat) (h_t_sixOf : Nat) (t_texted : Int32) (t_above : Int64) (t_below : Int64) (t_at : Int32) (t_start : Int32) (t_number : Int32) (t_went : Int32) (t_h : Int64) (t_w : (Nat → Int32)) (t_isKept : (Nat → Int32)) (t_statuses : (Nat → Int32)) (v1 : Int32) (res : Int32 × (Nat → Int32) × (Nat → Int32) × (Nat → Int32)) (hf : f_X12_image t_w t_isKept t_statuses v1 = some res) : MetG l yX12_image wsX12_image rm_X12_image D cI cZ none [.ref h_t, .int v1] (wd_X12_image cI cZ h_t h_t_w h_t_isKept h_t_text h_t_statuses h_t_ways h_t_feels h_t_next h_t_came h_t_deep h_t_sizes h_t_tableOf h_t_usedBy h_t_taken h_t_sixOf t_texted t_above t_below t_at t_start t_number t_went t_h t_w t_isKept t_statuses) (kV res (fun u => some (.int u.1)) (fun u => (wd_X12_image cI cZ h_t h_t_w h_t_isKept h_t_text h_t_statuses h_t_ways h_t_feels h_t_next h_t_came h_t_deep h_t_sizes h_t_tableOf h_t_usedBy h_t_taken h_t_sixOf t_texted t_above t_below t_at t_start t_number t_went t_h (u.2.1) (u.2.2.1) (u.2.2.2)))) := by
  refine metG_of (cc := cX12_image) (maxL := 2) (ret := (some .int)) (own := RX12) (lv0 := [(0, .ref h_t), (1, .int v1)]) (ini := false) (by decide) rfl (Nat.le_of_ble_eq_true rfl) rfl rfl (fun h => by cases h) (fun G X hR => ?_)
  replace hR := rt_int hR
  unfold f_X12_image at hf
  refine g_iload_n X dX12_image_0 rfl 1 rfl ?_
  refine g_i2l X dX12_image_1 ?_
  refine g_lconst (v := 0) X dX12_image_2 (by decide) ?_
  refine g_lconst (v := 1) X dX12_image_3 (by decide) ?_
  obtain ⟨r_1, hk_2, hf⟩ := ob1_out hf
  refine g_cSR (st := []) (st1 := [.int r_1]) X (c_X12_in l D cI cZ (v1.toInt64) 0 1 _ hk_2) (Or.inl rfl) 3 gX12_image_X12_in rfl hs_X12_in ⟨Nat.le_of_ble_eq_true rfl, Nat.le_of_ble_eq_true rfl⟩ rfl rfl (Nat.le_of_ble_eq_true rfl) ⟨rfl, rfl⟩ (Nat.zero_le _) (Nat.zero_le _) dX12_image_4 [] rfl rfl rfl ?_
  refine g_if_ne (tgt := 17) X dX12_image_7 (by decide) (fun hc_3 => ?_) (fun hc_3 => ?_)
  · replace hf := ite_f hc_3 hf
    refine g_aload_n X dX12_image_17 rfl 0 rfl ?_
    refine g_iconst (v := 0) X dX12_image_18 (by decide) ?_
    refine g_sipush (v := 301) X dX12_image_19 (by decide) ?_
    refine g_sipush (v := 301) X dX12_image_22 (by decide) ?_
    refine g_iload_n X dX12_image_25 rfl 1 rfl ?_
    refine g_imul X dX12_image_26 ?_
    refine g_iadd X dX12_image_27 ?_
    obtain ⟨t_w_4, hk_5, hf⟩ := ob1_out hf
    refine g_cVW (st := []) (st1 := []) (C := RX12) (ci := 8) (q0 := 0) (ws' := (wd_X12_image cI cZ h_t h_t_w h_t_isKept h_t_text h_t_statuses h_t_ways h_t_feels h_t_next h_t_came h_t_deep h_t_sizes h_t_tableOf h_t_usedBy h_t_taken h_t_sixOf t_texted t_above t_below t_at t_start t_number t_went t_h t_w_4 t_isKept t_statuses)) X (c_X12_copy l D cI cZ h_t h_t_w h_t_isKept h_t_text h_t_statuses h_t_ways h_t_feels h_t_next h_t_came h_t_deep h_t_sizes h_t_tableOf h_t_usedBy h_t_taken h_t_sixOf t_texted t_above t_below t_at t_start t_number t_went t_h t_w 0 (301 + (301 * v1)) _ hk_5) (Or.inl rfl) 2 gX12_image_X12_copy rfl hv_X12_copy ⟨Nat.le_of_ble_eq_true rfl, Nat.le_of_ble_eq_true rfl⟩ rfl rfl (Nat.le_of_ble_eq_true rfl) ⟨rfl, rfl⟩ (Nat.zero_le _) (Nat.zero_le _) rfl rfl rfl dX12_image_28 [0, 1] rfl rfl [2, 3] rfl rfl (by decide) [2, 3, 0, 1] rfl rfl rfl ?_
    refine g_aload_n X dX12_image_31 rfl 0 rfl ?_
    refine g_get (C := RX12) (T := TX12) (N := 22) (ci := 8) (v := (.ref h_t_isKept)) X iw_X12_image_X12 0 rfl rfl 1 (by decide) lk_X12_image_13 rfl dX12_image_32 ?_
    refine g_iload_n X dX12_image_35 rfl 1 rfl ?_
    refine g_iconst (v := 1) X dX12_image_36 (by decide) ?_
    obtain ⟨hb_6, hf⟩ := chk_out hf
    obtain ⟨t_isKept_7, et_isKept_7, hf⟩ := bnd_out hf
    refine g_zast (ws' := (wd_X12_image cI cZ h_t h_t_w h_t_isKept h_t_text h_t_statuses h_t_ways h_t_feels h_t_next h_t_came h_t_deep h_t_sizes h_t_tableOf h_t_usedBy h_t_taken h_t_sixOf t_texted t_above t_below t_at t_start t_number t_went t_h t_w_4 t_isKept_7 t_statuses)) X 2 rfl hb_6 et_isKept_7 dX12_image_37 rfl ?_
    refine g_iconst (v := 1) X dX12_image_38 (by decide) ?_
    exact hR _ _ _ _ dX12_image_39 (kV_in (u := (1, t_w_4, t_isKept_7, t_statuses)) hf)
  · replace hf := ite_t hc_3 hf
    refine g_aload_n X dX12_image_10 rfl 0 rfl ?_
    refine g_bipush (v := (-2)) X dX12_image_11 (by decide) ?_
    obtain ⟨r_8, t_statuses_9, hk_10, hf⟩ := ob2_out hf
    refine g_cVW (st := []) (st1 := [.int r_8]) (C := RX12) (ci := 8) (q0 := 0) (ws' := (wd_X12_image cI cZ h_t h_t_w h_t_isKept h_t_text h_t_statuses h_t_ways h_t_feels h_t_next h_t_came h_t_deep h_t_sizes h_t_tableOf h_t_usedBy h_t_taken h_t_sixOf t_texted t_above t_below t_at t_start t_number t_went t_h t_w t_isKept t_statuses_9)) X (c_X12_bad l D cI cZ h_t h_t_w h_t_isKept h_t_text h_t_statuses h_t_ways h_t_feels h_t_next h_t_came h_t_deep h_t_sizes h_t_tableOf h_t_usedBy h_t_taken h_t_sixOf t_texted t_above t_below t_at t_start t_number t_went t_h t_statuses (-2) _ hk_10) (Or.inl rfl) 1 gX12_image_X12_bad rfl hv_X12_bad ⟨Nat.le_of_ble_eq_true rfl, Nat.le_of_ble_eq_true rfl⟩ rfl rfl (Nat.le_of_ble_eq_true rfl) ⟨rfl, rfl⟩ (Nat.zero_le _) (Nat.zero_le _) rfl rfl rfl dX12_image_13 [0, 3] rfl rfl [1, 2] rfl rfl (by decide) [2, 0, 1, 3] rfl rfl rfl ?_
    exact hR _ _ _ _ dX12_image_16 (kV_in (u := (r_8, t_w, t_isKept, t_statuses_9)) hf)
def wd_X12_from (cI cZ : ClassId) (h_t : Nat) (h_t_w : Nat) (h_t_isKept : Nat) (h_t_text : Nat) (h_t_statuses : Nat) (h_t_ways : Nat) (h_t_feels : Nat) (h_t_next : Nat) (h_t_came : Nat) (h_t_deep : Nat) (h_t_sizes : Nat) (h_t_tableOf : Nat) (h_t_usedBy : Nat) (h_t_taken : Nat) (h_t_sixOf : Nat) (t_texted : Int32) (t_above : Int64) (t_below : Int64) (t_at : Int32) (t_start : Int32) (t_number : Int32) (t_went : Int32) (t_h : Int64) (t_w : (Nat → Int32)) (t_isKept : (Nat → Int32)) (t_statuses : (Nat → Int32)) : va_W := [(h_t, .inr (8, [.ref h_t_w, .ref h_t_isKept, .ref h_t_text, .int t_texted, .long t_above, .long t_below, .ref h_t_statuses, .int t_at, .int t_start, .int t_number, .ref h_t_ways, .int t_went, .ref h_t_feels, .ref h_t_next, .ref h_t_came, .ref h_t_deep, .ref h_t_sizes, .ref h_t_tableOf, .ref h_t_usedBy, .ref h_t_taken, .ref h_t_sixOf, .long t_h])), (h_t_w, .inl (cI, 1251, .inl t_w)), (h_t_isKept, .inl (cZ, 2, .inl t_isKept)), (h_t_statuses, .inl (cI, 3, .inl t_statuses))]
abbrev rm_X12_from : Room := { frames := 1, cells := 0, slots := 0, locals := 25 }
theorem hv_X12_from : yX12_from.cls = RX12 ∧ yX12_from.cls ≠ "java/lang/invoke/MethodHandle" ∧ yX12_from.cls ≠ "java/lang/invoke/VarHandle" ∧ (parseMethodDescriptor yX12_from.desc).map (fun d => d.parameters.length) = some 1 := by decide +kernel
theorem iw_X12_from_X12 : ∀ w ∈ u_ws RX12 TX12 22, w ∈ wsX12_from := by decide +kernel
theorem lk_X12_from_13 : Cond.fieldLink RX12 13 "ClerkChainsModel" "isKept" "[Z" ∈ wsX12_from := by decide +kernel
set_option maxHeartbeats 4000000 in
set_option maxRecDepth 100000 in
theorem c_X12_from (l : Launch) (D : va_G) (cI cZ : ClassId) (h_t : Nat) (h_t_w : Nat) (h_t_isKept : Nat) (h_t_text : Nat) (h_t_statuses : Nat) (h_t_ways : Nat) (h_t_feels : Nat) (h_t_next : Nat) (h_t_came : Nat) (h_t_deep : Nat) (h_t_sizes : Nat) (h_t_tableOf : Nat) (h_t_usedBy : Nat) (h_t_taken : Nat) (h_t_sixOf : Nat) (t_texted : Int32) (t_above : Int64) (t_below : Int64) (t_at : Int32) (t_start : Int32) (t_number : Int32) (t_went : Int32) (t_h : Int64) (t_w : (Nat → Int32)) (t_isKept : (Nat → Int32)) (t_statuses : (Nat → Int32)) (v1 : Int32) (res : Int32 × (Nat → Int32) × (Nat → Int32)) (hf : f_X12_from t_w t_isKept t_statuses v1 = some res) : MetG l yX12_from wsX12_from rm_X12_from D cI cZ none [.ref h_t, .int v1] (wd_X12_from cI cZ h_t h_t_w h_t_isKept h_t_text h_t_statuses h_t_ways h_t_feels h_t_next h_t_came h_t_deep h_t_sizes h_t_tableOf h_t_usedBy h_t_taken h_t_sixOf t_texted t_above t_below t_at t_start t_number t_went t_h t_w t_isKept t_statuses) (kV res (fun u => some (.int u.1)) (fun u => (wd_X12_from cI cZ h_t h_t_w h_t_isKept h_t_text h_t_statuses h_t_ways h_t_feels h_t_next h_t_came h_t_deep h_t_sizes h_t_tableOf h_t_usedBy h_t_taken h_t_sixOf t_texted t_above t_below t_at t_start t_number t_went t_h (u.2.1) t_isKept (u.2.2)))) := by
  refine metG_of (cc := cX12_from) (maxL := 2) (ret := (some .int)) (own := RX12) (lv0 := [(0, .ref h_t), (1, .int v1)]) (ini := false) (by decide) rfl (Nat.le_of_ble_eq_true rfl) rfl rfl (fun h => by cases h) (fun G X hR => ?_)
  replace hR := rt_int hR
  unfold f_X12_from at hf
  refine g_iload_n X dX12_from_0 rfl 1 rfl ?_
  refine g_i2l X dX12_from_1 ?_
  refine g_lconst (v := 0) X dX12_from_2 (by decide) ?_
  refine g_lconst (v := 1) X dX12_from_3 (by decide) ?_
  obtain ⟨r_1, hk_2, hf⟩ := ob1_out hf
  refine g_cSR (st := []) (st1 := [.int r_1]) X (c_X12_in l D cI cZ (v1.toInt64) 0 1 _ hk_2) (Or.inl rfl) 3 gX12_from_X12_in rfl hs_X12_in ⟨Nat.le_of_ble_eq_true rfl, Nat.le_of_ble_eq_true rfl⟩ rfl rfl (Nat.le_of_ble_eq_true rfl) ⟨rfl, rfl⟩ (Nat.zero_le _) (Nat.zero_le _) dX12_from_4 [] rfl rfl rfl ?_
  refine g_if_ne (tgt := 17) X dX12_from_7 (by decide) (fun hc_3 => ?_) (fun hc_3 => ?_)
  · replace hf := ite_f hc_3 hf
    refine g_aload_n X dX12_from_17 rfl 0 rfl ?_
    refine g_get (C := RX12) (T := TX12) (N := 22) (ci := 8) (v := (.ref h_t_isKept)) X iw_X12_from_X12 0 rfl rfl 1 (by decide) lk_X12_from_13 rfl dX12_from_18 ?_
    refine g_iload_n X dX12_from_21 rfl 1 rfl ?_
    obtain ⟨hb_4, hf⟩ := chk_out hf
    refine g_zald X 2 rfl hb_4 dX12_from_22 ?_
    refine g_if_ne (tgt := 31) X dX12_from_23 (by decide) (fun hc_5 => ?_) (fun hc_5 => ?_)
    · replace hf := ite_f hc_5 hf
      refine g_aload_n X dX12_from_31 rfl 0 rfl ?_
      refine g_sipush (v := 301) X dX12_from_32 (by decide) ?_
      refine g_sipush (v := 301) X dX12_from_35 (by decide) ?_
      refine g_iload_n X dX12_from_38 rfl 1 rfl ?_
      refine g_imul X dX12_from_39 ?_
      refine g_iadd X dX12_from_40 ?_
      refine g_iconst (v := 0) X dX12_from_41 (by decide) ?_
      obtain ⟨t_w_6, hk_7, hf⟩ := ob1_out hf
      refine g_cVW (st := []) (st1 := []) (C := RX12) (ci := 8) (q0 := 0) (ws' := (wd_X12_from cI cZ h_t h_t_w h_t_isKept h_t_text h_t_statuses h_t_ways h_t_feels h_t_next h_t_came h_t_deep h_t_sizes h_t_tableOf h_t_usedBy h_t_taken h_t_sixOf t_texted t_above t_below t_at t_start t_number t_went t_h t_w_6 t_isKept t_statuses)) X (c_X12_copy l D cI cZ h_t h_t_w h_t_isKept h_t_text h_t_statuses h_t_ways h_t_feels h_t_next h_t_came h_t_deep h_t_sizes h_t_tableOf h_t_usedBy h_t_taken h_t_sixOf t_texted t_above t_below t_at t_start t_number t_went t_h t_w (301 + (301 * v1)) 0 _ hk_7) (Or.inl rfl) 2 gX12_from_X12_copy rfl hv_X12_copy ⟨Nat.le_of_ble_eq_true rfl, Nat.le_of_ble_eq_true rfl⟩ rfl rfl (Nat.le_of_ble_eq_true rfl) ⟨rfl, rfl⟩ (Nat.zero_le _) (Nat.zero_le _) rfl rfl rfl dX12_from_42 [0, 1] rfl rfl [2, 3] rfl rfl (by decide) [2, 3, 0, 1] rfl rfl rfl ?_
      refine g_iconst (v := 1) X dX12_from_45 (by decide) ?_
      exact hR _ _ _ _ dX12_from_46 (kV_in (u := (1, t_w_6, t_statuses)) hf)
    · replace hf := ite_t hc_5 hf
      refine g_aload_n X dX12_from_26 rfl 0 rfl ?_
      obtain ⟨r_8, t_statuses_9, hk_10, hf⟩ := ob2_out hf
      refine g_cVW (st := []) (st1 := [.int r_8]) (C := RX12) (ci := 8) (q0 := 0) (ws' := (wd_X12_from cI cZ h_t h_t_w h_t_isKept h_t_text h_t_statuses h_t_ways h_t_feels h_t_next h_t_came h_t_deep h_t_sizes h_t_tableOf h_t_usedBy h_t_taken h_t_sixOf t_texted t_above t_below t_at t_start t_number t_went t_h t_w t_isKept t_statuses_9)) X (c_X12_no l D cI cZ h_t h_t_w h_t_isKept h_t_text h_t_statuses h_t_ways h_t_feels h_t_next h_t_came h_t_deep h_t_sizes h_t_tableOf h_t_usedBy h_t_taken h_t_sixOf t_texted t_above t_below t_at t_start t_number t_went t_h t_statuses _ hk_10) (Or.inl rfl) 0 gX12_from_X12_no rfl hv_X12_no ⟨Nat.le_of_ble_eq_true rfl, Nat.le_of_ble_eq_true rfl⟩ rfl rfl (Nat.le_of_ble_eq_true rfl) ⟨rfl, rfl⟩ (Nat.zero_le _) (Nat.zero_le _) rfl rfl rfl dX12_from_27 [0, 3] rfl rfl [1, 2] rfl rfl (by decide) [2, 0, 1, 3] rfl rfl rfl ?_
      exact hR _ _ _ _ dX12_from_30 (kV_in (u := (r_8, t_w, t_statuses_9)) hf)
  · replace hf := ite_t hc_3 hf
    refine g_aload_n X dX12_from_10 rfl 0 rfl ?_
    refine g_bipush (v := (-2)) X dX12_from_11 (by decide) ?_
    obtain ⟨r_11, t_statuses_12, hk_13, hf⟩ := ob2_out hf
    refine g_cVW (st := []) (st1 := [.int r_11]) (C := RX12) (ci := 8) (q0 := 0) (ws' := (wd_X12_from cI cZ h_t h_t_w h_t_isKept h_t_text h_t_statuses h_t_ways h_t_feels h_t_next h_t_came h_t_deep h_t_sizes h_t_tableOf h_t_usedBy h_t_taken h_t_sixOf t_texted t_above t_below t_at t_start t_number t_went t_h t_w t_isKept t_statuses_12)) X (c_X12_bad l D cI cZ h_t h_t_w h_t_isKept h_t_text h_t_statuses h_t_ways h_t_feels h_t_next h_t_came h_t_deep h_t_sizes h_t_tableOf h_t_usedBy h_t_taken h_t_sixOf t_texted t_above t_below t_at t_start t_number t_went t_h t_statuses (-2) _ hk_13) (Or.inl rfl) 1 gX12_from_X12_bad rfl hv_X12_bad ⟨Nat.le_of_ble_eq_true rfl, Nat.le_of_ble_eq_true rfl⟩ rfl rfl (Nat.le_of_ble_eq_true rfl) ⟨rfl, rfl⟩ (Nat.zero_le _) (Nat.zero_le _) rfl rfl rfl dX12_from_13 [0, 3] rfl rfl [1, 2] rfl rfl (by decide) [2, 0, 1, 3] rfl rfl rfl ?_
    exact hR _ _ _ _ dX12_from_16 (kV_in (u := (r_11, t_w, t_statuses_12)) hf)
def wd_X12_status (cI cZ : ClassId) (h_t : Nat) (h_t_w : Nat) (h_t_isKept : Nat) (h_t_text : Nat) (h_t_statuses : Nat) (h_t_ways : Nat) (h_t_feels : Nat) (h_t_next : Nat) (h_t_came : Nat) (h_t_deep : Nat) (h_t_sizes : Nat) (h_t_tableOf : Nat) (h_t_usedBy : Nat) (h_t_taken : Nat) (h_t_sixOf : Nat) (t_texted : Int32) (t_above : Int64) (t_below : Int64) (t_at : Int32) (t_start : Int32) (t_number : Int32) (t_went : Int32) (t_h : Int64) (t_statuses : (Nat → Int32)) : va_W := [(h_t, .inr (8, [.ref h_t_w, .ref h_t_isKept, .ref h_t_text, .int t_texted, .long t_above, .long t_below, .ref h_t_statuses, .int t_at, .int t_start, .int t_number, .ref h_t_ways, .int t_went, .ref h_t_feels, .ref h_t_next, .ref h_t_came, .ref h_t_deep, .ref h_t_sizes, .ref h_t_tableOf, .ref h_t_usedBy, .ref h_t_taken, .ref h_t_sixOf, .long t_h])), (h_t_statuses, .inl (cI, 3, .inl t_statuses))]
abbrev rm_X12_status : Room := { frames := 1, cells := 0, slots := 0, locals := 25 }
theorem hv_X12_status : yX12_status.cls = RX12 ∧ yX12_status.cls ≠ "java/lang/invoke/MethodHandle" ∧ yX12_status.cls ≠ "java/lang/invoke/VarHandle" ∧ (parseMethodDescriptor yX12_status.desc).map (fun d => d.parameters.length) = some 1 := by decide +kernel
theorem lk_X12_status_136 : Cond.constantLong RX12 136 2 ∈ wsX12_status := by decide +kernel
theorem iw_X12_status_X12 : ∀ w ∈ u_ws RX12 TX12 22, w ∈ wsX12_status := by decide +kernel
theorem lk_X12_status_27 : Cond.fieldLink RX12 27 "ClerkChainsModel" "statuses" "[I" ∈ wsX12_status := by decide +kernel
set_option maxHeartbeats 4000000 in
set_option maxRecDepth 100000 in
theorem c_X12_status (l : Launch) (D : va_G) (cI cZ : ClassId) (h_t : Nat) (h_t_w : Nat) (h_t_isKept : Nat) (h_t_text : Nat) (h_t_statuses : Nat) (h_t_ways : Nat) (h_t_feels : Nat) (h_t_next : Nat) (h_t_came : Nat) (h_t_deep : Nat) (h_t_sizes : Nat) (h_t_tableOf : Nat) (h_t_usedBy : Nat) (h_t_taken : Nat) (h_t_sixOf : Nat) (t_texted : Int32) (t_above : Int64) (t_below : Int64) (t_at : Int32) (t_start : Int32) (t_number : Int32) (t_went : Int32) (t_h : Int64) (t_statuses : (Nat → Int32)) (v1 : Int32) (res : Int32 × (Nat → Int32)) (hf : f_X12_status t_statuses v1 = some res) : MetG l yX12_status wsX12_status rm_X12_status D cI cZ none [.ref h_t, .int v1] (wd_X12_status cI cZ h_t h_t_w h_t_isKept h_t_text h_t_statuses h_t_ways h_t_feels h_t_next h_t_came h_t_deep h_t_sizes h_t_tableOf h_t_usedBy h_t_taken h_t_sixOf t_texted t_above t_below t_at t_start t_number t_went t_h t_statuses) (kV res (fun u => some (.int u.1)) (fun u => (wd_X12_status cI cZ h_t h_t_w h_t_isKept h_t_text h_t_statuses h_t_ways h_t_feels h_t_next h_t_came h_t_deep h_t_sizes h_t_tableOf h_t_usedBy h_t_taken h_t_sixOf t_texted t_above t_below t_at t_start t_number t_went t_h (u.2)))) := by
  refine metG_of (cc := cX12_status) (maxL := 2) (ret := (some .int)) (own := RX12) (lv0 := [(0, .ref h_t), (1, .int v1)]) (ini := false) (by decide) rfl (Nat.le_of_ble_eq_true rfl) rfl rfl (fun h => by cases h) (fun G X hR => ?_)
  replace hR := rt_int hR
  unfold f_X12_status at hf
  refine g_iload_n X dX12_status_0 rfl 1 rfl ?_
  refine g_i2l X dX12_status_1 ?_
  refine g_lconst (v := 0) X dX12_status_2 (by decide) ?_
  refine g_ldc2 (v := 2) X dX12_status_3 lk_X12_status_136 ?_
  obtain ⟨r_1, hk_2, hf⟩ := ob1_out hf
  refine g_cSR (st := []) (st1 := [.int r_1]) X (c_X12_in l D cI cZ (v1.toInt64) 0 2 _ hk_2) (Or.inl rfl) 3 gX12_status_X12_in rfl hs_X12_in ⟨Nat.le_of_ble_eq_true rfl, Nat.le_of_ble_eq_true rfl⟩ rfl rfl (Nat.le_of_ble_eq_true rfl) ⟨rfl, rfl⟩ (Nat.zero_le _) (Nat.zero_le _) dX12_status_6 [] rfl rfl rfl ?_
  refine g_if_eq (tgt := 21) X dX12_status_9 (by decide) (fun hc_3 => ?_) (fun hc_3 => ?_)
  · replace hf := ite_t hc_3 hf
    refine g_aload_n X dX12_status_21 rfl 0 rfl ?_
    refine g_iconst (v := (-1)) X dX12_status_22 (by decide) ?_
    obtain ⟨r_4, t_statuses_5, hk_6, hf⟩ := ob2_out hf
    refine g_cVW (st := []) (st1 := [.int r_4]) (C := RX12) (ci := 8) (q0 := 0) (ws' := (wd_X12_status cI cZ h_t h_t_w h_t_isKept h_t_text h_t_statuses h_t_ways h_t_feels h_t_next h_t_came h_t_deep h_t_sizes h_t_tableOf h_t_usedBy h_t_taken h_t_sixOf t_texted t_above t_below t_at t_start t_number t_went t_h t_statuses_5)) X (c_X12_bad l D cI cZ h_t h_t_w h_t_isKept h_t_text h_t_statuses h_t_ways h_t_feels h_t_next h_t_came h_t_deep h_t_sizes h_t_tableOf h_t_usedBy h_t_taken h_t_sixOf t_texted t_above t_below t_at t_start t_number t_went t_h t_statuses (-1) _ hk_6) (Or.inl rfl) 1 gX12_status_X12_bad rfl hv_X12_bad ⟨Nat.le_of_ble_eq_true rfl, Nat.le_of_ble_eq_true rfl⟩ rfl rfl (Nat.le_of_ble_eq_true rfl) ⟨rfl, rfl⟩ (Nat.zero_le _) (Nat.zero_le _) rfl rfl rfl dX12_status_23 [0, 1] rfl rfl [] rfl rfl (by decide) [0, 1] rfl rfl rfl ?_
    exact hR _ _ _ _ dX12_status_26 (kV_in (u := (r_4, t_statuses_5)) hf)
  · replace hf := ite_f hc_3 hf
    refine g_aload_n X dX12_status_12 rfl 0 rfl ?_
    refine g_get (C := RX12) (T := TX12) (N := 22) (ci := 8) (v := (.ref h_t_statuses)) X iw_X12_status_X12 0 rfl rfl 6 (by decide) lk_X12_status_27 rfl dX12_status_13 ?_
    refine g_iload_n X dX12_status_16 rfl 1 rfl ?_
    obtain ⟨hb_7, hf⟩ := chk_out hf
    refine g_iald X 1 rfl hb_7 dX12_status_17 ?_
    refine g_goto (tgt := 26) X dX12_status_18 (by decide) ?_
    exact hR _ _ _ _ dX12_status_26 (kV_in (u := (t_statuses v1.toNatClampNeg, t_statuses)) hf)
def wd_X12_countTops (cI cZ : ClassId) (h_t : Nat) (h_t_w : Nat) (h_t_isKept : Nat) (h_t_text : Nat) (h_t_statuses : Nat) (h_t_ways : Nat) (h_t_feels : Nat) (h_t_next : Nat) (h_t_came : Nat) (h_t_deep : Nat) (h_t_sizes : Nat) (h_t_tableOf : Nat) (h_t_usedBy : Nat) (h_t_taken : Nat) (h_t_sixOf : Nat) (t_texted : Int32) (t_above : Int64) (t_below : Int64) (t_at : Int32) (t_start : Int32) (t_number : Int32) (t_went : Int32) (t_h : Int64) (t_w : (Nat → Int32)) : va_W := [(h_t, .inr (8, [.ref h_t_w, .ref h_t_isKept, .ref h_t_text, .int t_texted, .long t_above, .long t_below, .ref h_t_statuses, .int t_at, .int t_start, .int t_number, .ref h_t_ways, .int t_went, .ref h_t_feels, .ref h_t_next, .ref h_t_came, .ref h_t_deep, .ref h_t_sizes, .ref h_t_tableOf, .ref h_t_usedBy, .ref h_t_taken, .ref h_t_sixOf, .long t_h])), (h_t_w, .inl (cI, 1251, .inl t_w))]
abbrev rm_X12_countTops : Room := { frames := 0, cells := 0, slots := 0, locals := 0 }
theorem hv_X12_countTops : yX12_countTops.cls = RX12 ∧ yX12_countTops.cls ≠ "java/lang/invoke/MethodHandle" ∧ yX12_countTops.cls ≠ "java/lang/invoke/VarHandle" ∧ (parseMethodDescriptor yX12_countTops.desc).map (fun d => d.parameters.length) = some 0 := by decide +kernel
theorem iw_X12_countTops_X12 : ∀ w ∈ u_ws RX12 TX12 22, w ∈ wsX12_countTops := by decide +kernel
theorem lk_X12_countTops_7 : Cond.fieldLink RX12 7 "ClerkChainsModel" "w" "[I" ∈ wsX12_countTops := by decide +kernel
set_option maxHeartbeats 4000000 in
set_option maxRecDepth 100000 in
theorem c_X12_countTops (l : Launch) (D : va_G) (cI cZ : ClassId) (h_t : Nat) (h_t_w : Nat) (h_t_isKept : Nat) (h_t_text : Nat) (h_t_statuses : Nat) (h_t_ways : Nat) (h_t_feels : Nat) (h_t_next : Nat) (h_t_came : Nat) (h_t_deep : Nat) (h_t_sizes : Nat) (h_t_tableOf : Nat) (h_t_usedBy : Nat) (h_t_taken : Nat) (h_t_sixOf : Nat) (t_texted : Int32) (t_above : Int64) (t_below : Int64) (t_at : Int32) (t_start : Int32) (t_number : Int32) (t_went : Int32) (t_h : Int64) (t_w : (Nat → Int32)) (res : Int32) (hf : f_X12_countTops t_w = some res) : MetR l yX12_countTops wsX12_countTops rm_X12_countTops D cI cZ none [.ref h_t] (wd_X12_countTops cI cZ h_t h_t_w h_t_isKept h_t_text h_t_statuses h_t_ways h_t_feels h_t_next h_t_came h_t_deep h_t_sizes h_t_tableOf h_t_usedBy h_t_taken h_t_sixOf t_texted t_above t_below t_at t_start t_number t_went t_h t_w) (kR res (fun u => some (.int u))) := by
  refine metR_of (cc := cX12_countTops) (maxL := 3) (ret := (some .int)) (own := RX12) (lv0 := [(0, .ref h_t)]) (by decide) rfl (Nat.le_of_ble_eq_true rfl) rfl rfl (fun G X hR => ?_)
  replace hR := rt_int hR
  unfold f_X12_countTops at hf
  have J33 : ∀ (k4 : Int32 → Int32 → Option (Int32)) (hk4 : ∀ (v1 : Int32) (v2 : Int32), k4 v1 v2 = some res → G 0 0 (wd_X12_countTops cI cZ h_t h_t_w h_t_isKept h_t_text h_t_statuses h_t_ways h_t_feels h_t_next h_t_came h_t_deep h_t_sizes h_t_tableOf h_t_usedBy h_t_taken h_t_sixOf t_texted t_above t_below t_at t_start t_number t_went t_h t_w) [(0, .ref h_t), (1, .int v1), (2, .int v2)] 4 []) (v2 : Int32) (s0 : Int32) (s1 : Int32), f_X12_countTops_33 t_w k4 v2 s0 s1 = some res → G 0 0 (wd_X12_countTops cI cZ h_t h_t_w h_t_isKept h_t_text h_t_statuses h_t_ways h_t_feels h_t_next h_t_came h_t_deep h_t_sizes h_t_tableOf h_t_usedBy h_t_taken h_t_sixOf t_texted t_above t_below t_at t_start t_number t_went t_h t_w) [(0, .ref h_t), (2, .int v2)] 33 [.int s1, .int s0] := by
    intro k4 hk4 v2 s0 s1 hf
    unfold f_X12_countTops_33 at hf
    refine g_iadd X dX12_countTops_33 ?_
    obtain ⟨v1_5, ev1_5, hf⟩ := bnd_out hf
    refine g_nmI X ev1_5 ?_
    refine g_istore_n (lv' := [(0, .ref h_t), (1, .int v1_5), (2, .int v2)]) X dX12_countTops_34 rfl (Nat.le_of_ble_eq_true rfl) [1, 0, 2] rfl ?_
    obtain ⟨v2_6, ev2_6, hf⟩ := bnd_out hf
    refine g_iinc (v := v2_6) (lv' := [(0, .ref h_t), (1, .int v1_5), (2, .int v2_6)]) X dX12_countTops_35 2 rfl (by rw [ev2_6]; rfl) (Nat.le_of_ble_eq_true rfl) [1, 2, 0] rfl ?_
    refine g_goto (tgt := 4) X dX12_countTops_38 (by decide) ?_
    exact hk4 v1_5 v2_6 hf
  have J4 : ∀ (n : Nat) (v1 : Int32) (v2 : Int32), f_X12_countTops_4 t_w n v1 v2 = some res → G 0 0 (wd_X12_countTops cI cZ h_t h_t_w h_t_isKept h_t_text h_t_statuses h_t_ways h_t_feels h_t_next h_t_came h_t_deep h_t_sizes h_t_tableOf h_t_usedBy h_t_taken h_t_sixOf t_texted t_above t_below t_at t_start t_number t_went t_h t_w) [(0, .ref h_t), (1, .int v1), (2, .int v2)] 4 [] := by
    intro n
    induction n with
    | zero => intro v1 v2 hf; rw [f_X12_countTops_4] at hf; cases hf
    | succ n ih =>
      intro v1 v2 hf
      rw [f_X12_countTops_4] at hf
      refine g_iload_n X dX12_countTops_4 rfl 2 rfl ?_
      refine g_aload_n X dX12_countTops_5 rfl 0 rfl ?_
      refine g_get (C := RX12) (T := TX12) (N := 22) (ci := 8) (v := (.ref h_t_w)) X iw_X12_countTops_X12 0 rfl rfl 0 (by decide) lk_X12_countTops_7 rfl dX12_countTops_6 ?_
      refine g_iconst (v := 0) X dX12_countTops_9 (by decide) ?_
      obtain ⟨hb_1, hf⟩ := chk_out hf
      refine g_iald X 1 rfl hb_1 dX12_countTops_10 ?_
      refine g_icmp_ge (tgt := 41) X dX12_countTops_11 (by decide) (fun hc_2 => ?_) (fun hc_2 => ?_)
      · replace hf := ite_t hc_2 hf
        refine g_iload_n X dX12_countTops_41 rfl 1 rfl ?_
        exact hR _ _ _ _ dX12_countTops_42 (kR_in (u := v1) hf)
      · replace hf := ite_f hc_2 hf
        refine g_iload_n X dX12_countTops_14 rfl 1 rfl ?_
        refine g_aload_n X dX12_countTops_15 rfl 0 rfl ?_
        refine g_get (C := RX12) (T := TX12) (N := 22) (ci := 8) (v := (.ref h_t_w)) X iw_X12_countTops_X12 0 rfl rfl 0 (by decide) lk_X12_countTops_7 rfl dX12_countTops_16 ?_
        refine g_bipush (v := 31) X dX12_countTops_19 (by decide) ?_
        refine g_iload_n X dX12_countTops_21 rfl 2 rfl ?_
        refine g_iadd X dX12_countTops_22 ?_
        obtain ⟨hb_3, hf⟩ := chk_out hf
        refine g_iald X 1 rfl hb_3 dX12_countTops_23 ?_
        refine g_iconst (v := (-1)) X dX12_countTops_24 (by decide) ?_
        refine g_icmp_ne (tgt := 32) X dX12_countTops_25 (by decide) (fun hc_4 => ?_) (fun hc_4 => ?_)
        · replace hf := ite_f hc_4 hf
          refine g_iconst (v := 0) X dX12_countTops_32 (by decide) ?_
          refine g_lv X (lv' := [(0, .ref h_t), (2, .int v2)]) [0, 2] rfl ?_
          exact J33 (f_X12_countTops_4 t_w n) ih v2 v1 0 hf
        · replace hf := ite_t hc_4 hf
          refine g_iconst (v := 1) X dX12_countTops_28 (by decide) ?_
          refine g_goto (tgt := 33) X dX12_countTops_29 (by decide) ?_
          refine g_lv X (lv' := [(0, .ref h_t), (2, .int v2)]) [0, 2] rfl ?_
          exact J33 (f_X12_countTops_4 t_w n) ih v2 v1 1 hf
  refine g_iconst (v := 0) X dX12_countTops_0 (by decide) ?_
  refine g_istore_n (lv' := [(0, .ref h_t), (1, .int 0)]) X dX12_countTops_1 rfl (Nat.le_of_ble_eq_true rfl) [1, 0] rfl ?_
  refine g_iconst (v := 0) X dX12_countTops_2 (by decide) ?_
  refine g_istore_n (lv' := [(0, .ref h_t), (1, .int 0), (2, .int 0)]) X dX12_countTops_3 rfl (Nat.le_of_ble_eq_true rfl) [1, 2, 0] rfl ?_
  exact J4 FU 0 0 hf
def wd_X12_rustOf (cI cZ : ClassId) (h_t : Nat) (h_t_w : Nat) (h_t_isKept : Nat) (h_t_text : Nat) (h_t_statuses : Nat) (h_t_ways : Nat) (h_t_feels : Nat) (h_t_next : Nat) (h_t_came : Nat) (h_t_deep : Nat) (h_t_sizes : Nat) (h_t_tableOf : Nat) (h_t_usedBy : Nat) (h_t_taken : Nat) (h_t_sixOf : Nat) (t_texted : Int32) (t_above : Int64) (t_below : Int64) (t_at : Int32) (t_start : Int32) (t_number : Int32) (t_went : Int32) (t_h : Int64) (t_w : (Nat → Int32)) : va_W := [(h_t, .inr (8, [.ref h_t_w, .ref h_t_isKept, .ref h_t_text, .int t_texted, .long t_above, .long t_below, .ref h_t_statuses, .int t_at, .int t_start, .int t_number, .ref h_t_ways, .int t_went, .ref h_t_feels, .ref h_t_next, .ref h_t_came, .ref h_t_deep, .ref h_t_sizes, .ref h_t_tableOf, .ref h_t_usedBy, .ref h_t_taken, .ref h_t_sixOf, .long t_h])), (h_t_w, .inl (cI, 1251, .inl t_w))]
abbrev rm_X12_rustOf : Room := { frames := 0, cells := 0, slots := 0, locals := 0 }
theorem hv_X12_rustOf : yX12_rustOf.cls = RX12 ∧ yX12_rustOf.cls ≠ "java/lang/invoke/MethodHandle" ∧ yX12_rustOf.cls ≠ "java/lang/invoke/VarHandle" ∧ (parseMethodDescriptor yX12_rustOf.desc).map (fun d => d.parameters.length) = some 0 := by decide +kernel
theorem iw_X12_rustOf_X12 : ∀ w ∈ u_ws RX12 TX12 22, w ∈ wsX12_rustOf := by decide +kernel
theorem lk_X12_rustOf_7 : Cond.fieldLink RX12 7 "ClerkChainsModel" "w" "[I" ∈ wsX12_rustOf := by decide +kernel
set_option maxHeartbeats 4000000 in
set_option maxRecDepth 100000 in
theorem c_X12_rustOf (l : Launch) (D : va_G) (cI cZ : ClassId) (h_t : Nat) (h_t_w : Nat) (h_t_isKept : Nat) (h_t_text : Nat) (h_t_statuses : Nat) (h_t_ways : Nat) (h_t_feels : Nat) (h_t_next : Nat) (h_t_came : Nat) (h_t_deep : Nat) (h_t_sizes : Nat) (h_t_tableOf : Nat) (h_t_usedBy : Nat) (h_t_taken : Nat) (h_t_sixOf : Nat) (t_texted : Int32) (t_above : Int64) (t_below : Int64) (t_at : Int32) (t_start : Int32) (t_number : Int32) (t_went : Int32) (t_h : Int64) (t_w : (Nat → Int32)) (res : Int32) (hf : f_X12_rustOf t_w = some res) : MetR l yX12_rustOf wsX12_rustOf rm_X12_rustOf D cI cZ none [.ref h_t] (wd_X12_rustOf cI cZ h_t h_t_w h_t_isKept h_t_text h_t_statuses h_t_ways h_t_feels h_t_next h_t_came h_t_deep h_t_sizes h_t_tableOf h_t_usedBy h_t_taken h_t_sixOf t_texted t_above t_below t_at t_start t_number t_went t_h t_w) (kR res (fun u => some (.int u))) := by
  refine metR_of (cc := cX12_rustOf) (maxL := 3) (ret := (some .int)) (own := RX12) (lv0 := [(0, .ref h_t)]) (by decide) rfl (Nat.le_of_ble_eq_true rfl) rfl rfl (fun G X hR => ?_)
  replace hR := rt_int hR
  unfold f_X12_rustOf at hf
  have J4 : ∀ (n : Nat) (v1 : Int32) (v2 : Int32), f_X12_rustOf_4 t_w n v1 v2 = some res → G 0 0 (wd_X12_rustOf cI cZ h_t h_t_w h_t_isKept h_t_text h_t_statuses h_t_ways h_t_feels h_t_next h_t_came h_t_deep h_t_sizes h_t_tableOf h_t_usedBy h_t_taken h_t_sixOf t_texted t_above t_below t_at t_start t_number t_went t_h t_w) [(0, .ref h_t), (1, .int v1), (2, .int v2)] 4 [] := by
    intro n
    induction n with
    | zero => intro v1 v2 hf; rw [f_X12_rustOf_4] at hf; cases hf
    | succ n ih =>
      intro v1 v2 hf
      rw [f_X12_rustOf_4] at hf
      refine g_iload_n X dX12_rustOf_4 rfl 2 rfl ?_
      refine g_aload_n X dX12_rustOf_5 rfl 0 rfl ?_
      refine g_get (C := RX12) (T := TX12) (N := 22) (ci := 8) (v := (.ref h_t_w)) X iw_X12_rustOf_X12 0 rfl rfl 0 (by decide) lk_X12_rustOf_7 rfl dX12_rustOf_6 ?_
      refine g_iconst (v := 0) X dX12_rustOf_9 (by decide) ?_
      obtain ⟨hb_1, hf⟩ := chk_out hf
      refine g_iald X 1 rfl hb_1 dX12_rustOf_10 ?_
      refine g_icmp_ge (tgt := 32) X dX12_rustOf_11 (by decide) (fun hc_2 => ?_) (fun hc_2 => ?_)
      · replace hf := ite_t hc_2 hf
        refine g_iload_n X dX12_rustOf_32 rfl 1 rfl ?_
        exact hR _ _ _ _ dX12_rustOf_33 (kR_in (u := v1) hf)
      · replace hf := ite_f hc_2 hf
        refine g_iload_n X dX12_rustOf_14 rfl 1 rfl ?_
        refine g_aload_n X dX12_rustOf_15 rfl 0 rfl ?_
        refine g_get (C := RX12) (T := TX12) (N := 22) (ci := 8) (v := (.ref h_t_w)) X iw_X12_rustOf_X12 0 rfl rfl 0 (by decide) lk_X12_rustOf_7 rfl dX12_rustOf_16 ?_
        refine g_bipush (v := 24) X dX12_rustOf_19 (by decide) ?_
        refine g_iload_n X dX12_rustOf_21 rfl 2 rfl ?_
        refine g_iadd X dX12_rustOf_22 ?_
        obtain ⟨hb_3, hf⟩ := chk_out hf
        refine g_iald X 1 rfl hb_3 dX12_rustOf_23 ?_
        refine g_iadd X dX12_rustOf_24 ?_
        obtain ⟨v1_4, ev1_4, hf⟩ := bnd_out hf
        refine g_nmI X ev1_4 ?_
        refine g_istore_n (lv' := [(0, .ref h_t), (1, .int v1_4), (2, .int v2)]) X dX12_rustOf_25 rfl (Nat.le_of_ble_eq_true rfl) [1, 0, 2] rfl ?_
        obtain ⟨v2_5, ev2_5, hf⟩ := bnd_out hf
        refine g_iinc (v := v2_5) (lv' := [(0, .ref h_t), (1, .int v1_4), (2, .int v2_5)]) X dX12_rustOf_26 2 rfl (by rw [ev2_5]; rfl) (Nat.le_of_ble_eq_true rfl) [1, 2, 0] rfl ?_
        refine g_goto (tgt := 4) X dX12_rustOf_29 (by decide) ?_
        exact ih v1_4 v2_5 hf
  refine g_iconst (v := 0) X dX12_rustOf_0 (by decide) ?_
  refine g_istore_n (lv' := [(0, .ref h_t), (1, .int 0)]) X dX12_rustOf_1 rfl (Nat.le_of_ble_eq_true rfl) [1, 0] rfl ?_
  refine g_iconst (v := 0) X dX12_rustOf_2 (by decide) ?_
  refine g_istore_n (lv' := [(0, .ref h_t), (1, .int 0), (2, .int 0)]) X dX12_rustOf_3 rfl (Nat.le_of_ble_eq_true rfl) [1, 2, 0] rfl ?_
  exact J4 FU 0 0 hf
def wd_X12_countOf (cI cZ : ClassId) (h_t : Nat) (h_t_w : Nat) (h_t_isKept : Nat) (h_t_text : Nat) (h_t_statuses : Nat) (h_t_ways : Nat) (h_t_feels : Nat) (h_t_next : Nat) (h_t_came : Nat) (h_t_deep : Nat) (h_t_sizes : Nat) (h_t_tableOf : Nat) (h_t_usedBy : Nat) (h_t_taken : Nat) (h_t_sixOf : Nat) (t_texted : Int32) (t_above : Int64) (t_below : Int64) (t_at : Int32) (t_start : Int32) (t_number : Int32) (t_went : Int32) (t_h : Int64) (t_w : (Nat → Int32)) : va_W := [(h_t, .inr (8, [.ref h_t_w, .ref h_t_isKept, .ref h_t_text, .int t_texted, .long t_above, .long t_below, .ref h_t_statuses, .int t_at, .int t_start, .int t_number, .ref h_t_ways, .int t_went, .ref h_t_feels, .ref h_t_next, .ref h_t_came, .ref h_t_deep, .ref h_t_sizes, .ref h_t_tableOf, .ref h_t_usedBy, .ref h_t_taken, .ref h_t_sixOf, .long t_h])), (h_t_w, .inl (cI, 1251, .inl t_w))]
abbrev rm_X12_countOf : Room := { frames := 1, cells := 0, slots := 0, locals := 22 }
theorem hv_X12_countOf : yX12_countOf.cls = RX12 ∧ yX12_countOf.cls ≠ "java/lang/invoke/MethodHandle" ∧ yX12_countOf.cls ≠ "java/lang/invoke/VarHandle" ∧ (parseMethodDescriptor yX12_countOf.desc).map (fun d => d.parameters.length) = some 1 := by decide +kernel
theorem iw_X12_countOf_X12 : ∀ w ∈ u_ws RX12 TX12 22, w ∈ wsX12_countOf := by decide +kernel
theorem lk_X12_countOf_7 : Cond.fieldLink RX12 7 "ClerkChainsModel" "w" "[I" ∈ wsX12_countOf := by decide +kernel
theorem lk_X12_countOf_60 : Cond.fieldLink RX12 60 "ClerkChainsModel" "texted" "I" ∈ wsX12_countOf := by decide +kernel
set_option maxHeartbeats 4000000 in
set_option maxRecDepth 100000 in
theorem c_X12_countOf (l : Launch) (D : va_G) (cI cZ : ClassId) (h_t : Nat) (h_t_w : Nat) (h_t_isKept : Nat) (h_t_text : Nat) (h_t_statuses : Nat) (h_t_ways : Nat) (h_t_feels : Nat) (h_t_next : Nat) (h_t_came : Nat) (h_t_deep : Nat) (h_t_sizes : Nat) (h_t_tableOf : Nat) (h_t_usedBy : Nat) (h_t_taken : Nat) (h_t_sixOf : Nat) (t_texted : Int32) (t_above : Int64) (t_below : Int64) (t_at : Int32) (t_start : Int32) (t_number : Int32) (t_went : Int32) (t_h : Int64) (t_w : (Nat → Int32)) (v1 : Int32) (res : Int32) (hf : f_X12_countOf t_texted t_w v1 = some res) : MetR l yX12_countOf wsX12_countOf rm_X12_countOf D cI cZ none [.ref h_t, .int v1] (wd_X12_countOf cI cZ h_t h_t_w h_t_isKept h_t_text h_t_statuses h_t_ways h_t_feels h_t_next h_t_came h_t_deep h_t_sizes h_t_tableOf h_t_usedBy h_t_taken h_t_sixOf t_texted t_above t_below t_at t_start t_number t_went t_h t_w) (kR res (fun u => some (.int u))) := by
  refine metR_of (cc := cX12_countOf) (maxL := 2) (ret := (some .int)) (own := RX12) (lv0 := [(0, .ref h_t), (1, .int v1)]) (by decide) rfl (Nat.le_of_ble_eq_true rfl) rfl rfl (fun G X hR => ?_)
  replace hR := rt_int hR
  unfold f_X12_countOf at hf
  refine g_iload_n X dX12_countOf_0 rfl 1 rfl ?_
  by_cases hc_1 : v1 = 0
  · replace hf := ite_t hc_1 hf
    refine g_tableIn (tgt := 52) X dX12_countOf_1 (by rw [hc_1]; decide) (by rw [hc_1]; decide) (by rw [hc_1]; rfl) (by decide) ?_
    refine g_aload_n X dX12_countOf_52 rfl 0 rfl ?_
    refine g_get (C := RX12) (T := TX12) (N := 22) (ci := 8) (v := (.ref h_t_w)) X iw_X12_countOf_X12 0 rfl rfl 0 (by decide) lk_X12_countOf_7 rfl dX12_countOf_53 ?_
    refine g_iconst (v := 0) X dX12_countOf_56 (by decide) ?_
    obtain ⟨hb_2, hf⟩ := chk_out hf
    refine g_iald X 1 rfl hb_2 dX12_countOf_57 ?_
    exact hR _ _ _ _ dX12_countOf_58 (kR_in (u := (t_w (0 : Int32).toNatClampNeg)) hf)
  · replace hf := ite_f hc_1 hf
    by_cases hc_3 : v1 = 1
    · replace hf := ite_t hc_3 hf
      refine g_tableIn (tgt := 59) X dX12_countOf_1 (by rw [hc_3]; decide) (by rw [hc_3]; decide) (by rw [hc_3]; rfl) (by decide) ?_
      refine g_aload_n X dX12_countOf_59 rfl 0 rfl ?_
      refine g_get (C := RX12) (T := TX12) (N := 22) (ci := 8) (v := (.ref h_t_w)) X iw_X12_countOf_X12 0 rfl rfl 0 (by decide) lk_X12_countOf_7 rfl dX12_countOf_60 ?_
      refine g_iconst (v := 1) X dX12_countOf_63 (by decide) ?_
      obtain ⟨hb_4, hf⟩ := chk_out hf
      refine g_iald X 1 rfl hb_4 dX12_countOf_64 ?_
      exact hR _ _ _ _ dX12_countOf_65 (kR_in (u := (t_w (1 : Int32).toNatClampNeg)) hf)
    · replace hf := ite_f hc_3 hf
      by_cases hc_5 : v1 = 2
      · replace hf := ite_t hc_5 hf
        refine g_tableIn (tgt := 66) X dX12_countOf_1 (by rw [hc_5]; decide) (by rw [hc_5]; decide) (by rw [hc_5]; rfl) (by decide) ?_
        refine g_aload_n X dX12_countOf_66 rfl 0 rfl ?_
        refine g_get (C := RX12) (T := TX12) (N := 22) (ci := 8) (v := (.ref h_t_w)) X iw_X12_countOf_X12 0 rfl rfl 0 (by decide) lk_X12_countOf_7 rfl dX12_countOf_67 ?_
        refine g_iconst (v := 2) X dX12_countOf_70 (by decide) ?_
        obtain ⟨hb_6, hf⟩ := chk_out hf
        refine g_iald X 1 rfl hb_6 dX12_countOf_71 ?_
        exact hR _ _ _ _ dX12_countOf_72 (kR_in (u := (t_w (2 : Int32).toNatClampNeg)) hf)
      · replace hf := ite_f hc_5 hf
        by_cases hc_7 : v1 = 3
        · replace hf := ite_t hc_7 hf
          refine g_tableIn (tgt := 73) X dX12_countOf_1 (by rw [hc_7]; decide) (by rw [hc_7]; decide) (by rw [hc_7]; rfl) (by decide) ?_
          refine g_aload_n X dX12_countOf_73 rfl 0 rfl ?_
          refine g_get (C := RX12) (T := TX12) (N := 22) (ci := 8) (v := (.ref h_t_w)) X iw_X12_countOf_X12 0 rfl rfl 0 (by decide) lk_X12_countOf_7 rfl dX12_countOf_74 ?_
          refine g_iconst (v := 0) X dX12_countOf_77 (by decide) ?_
          obtain ⟨hb_8, hf⟩ := chk_out hf
          refine g_iald X 1 rfl hb_8 dX12_countOf_78 ?_
          refine g_aload_n X dX12_countOf_79 rfl 0 rfl ?_
          obtain ⟨r_9, hk_10, hf⟩ := ob1_out hf
          refine g_cVR (st := [.int (t_w (0 : Int32).toNatClampNeg)]) (st1 := [.int r_9, .int (t_w (0 : Int32).toNatClampNeg)]) (C := RX12) (ci := 8) (q0 := 0) X (c_X12_countTops l D cI cZ h_t h_t_w h_t_isKept h_t_text h_t_statuses h_t_ways h_t_feels h_t_next h_t_came h_t_deep h_t_sizes h_t_tableOf h_t_usedBy h_t_taken h_t_sixOf t_texted t_above t_below t_at t_start t_number t_went t_h t_w _ hk_10) (Or.inl rfl) 0 gX12_countOf_X12_countTops rfl hv_X12_countTops ⟨Nat.le_of_ble_eq_true rfl, Nat.le_of_ble_eq_true rfl⟩ rfl rfl (Nat.le_of_ble_eq_true rfl) ⟨rfl, rfl⟩ (Nat.zero_le _) (Nat.zero_le _) rfl rfl rfl dX12_countOf_80 [0, 1] rfl rfl rfl ?_
          refine g_isub X dX12_countOf_83 ?_
          exact hR _ _ _ _ dX12_countOf_84 (kR_in (u := ((t_w (0 : Int32).toNatClampNeg) - r_9)) hf)
        · replace hf := ite_f hc_7 hf
          by_cases hc_11 : v1 = 4
          · replace hf := ite_t hc_11 hf
            refine g_tableIn (tgt := 85) X dX12_countOf_1 (by rw [hc_11]; decide) (by rw [hc_11]; decide) (by rw [hc_11]; rfl) (by decide) ?_
            refine g_aload_n X dX12_countOf_85 rfl 0 rfl ?_
            obtain ⟨r_12, hk_13, hf⟩ := ob1_out hf
            refine g_cVR (st := []) (st1 := [.int r_12]) (C := RX12) (ci := 8) (q0 := 0) X (c_X12_rustOf l D cI cZ h_t h_t_w h_t_isKept h_t_text h_t_statuses h_t_ways h_t_feels h_t_next h_t_came h_t_deep h_t_sizes h_t_tableOf h_t_usedBy h_t_taken h_t_sixOf t_texted t_above t_below t_at t_start t_number t_went t_h t_w _ hk_13) (Or.inl rfl) 0 gX12_countOf_X12_rustOf rfl hv_X12_rustOf ⟨Nat.le_of_ble_eq_true rfl, Nat.le_of_ble_eq_true rfl⟩ rfl rfl (Nat.le_of_ble_eq_true rfl) ⟨rfl, rfl⟩ (Nat.zero_le _) (Nat.zero_le _) rfl rfl rfl dX12_countOf_86 [0, 1] rfl rfl rfl ?_
            exact hR _ _ _ _ dX12_countOf_89 (kR_in (u := r_12) hf)
          · replace hf := ite_f hc_11 hf
            by_cases hc_14 : v1 = 5
            · replace hf := ite_t hc_14 hf
              refine g_tableIn (tgt := 90) X dX12_countOf_1 (by rw [hc_14]; decide) (by rw [hc_14]; decide) (by rw [hc_14]; rfl) (by decide) ?_
              refine g_aload_n X dX12_countOf_90 rfl 0 rfl ?_
              refine g_get (C := RX12) (T := TX12) (N := 22) (ci := 8) (v := (.ref h_t_w)) X iw_X12_countOf_X12 0 rfl rfl 0 (by decide) lk_X12_countOf_7 rfl dX12_countOf_91 ?_
              refine g_bipush (v := 47) X dX12_countOf_94 (by decide) ?_
              obtain ⟨hb_15, hf⟩ := chk_out hf
              refine g_iald X 1 rfl hb_15 dX12_countOf_96 ?_
              exact hR _ _ _ _ dX12_countOf_97 (kR_in (u := (t_w (47 : Int32).toNatClampNeg)) hf)
            · replace hf := ite_f hc_14 hf
              by_cases hc_16 : v1 = 6
              · replace hf := ite_t hc_16 hf
                refine g_tableIn (tgt := 98) X dX12_countOf_1 (by rw [hc_16]; decide) (by rw [hc_16]; decide) (by rw [hc_16]; rfl) (by decide) ?_
                refine g_aload_n X dX12_countOf_98 rfl 0 rfl ?_
                refine g_get (C := RX12) (T := TX12) (N := 22) (ci := 8) (v := (.ref h_t_w)) X iw_X12_countOf_X12 0 rfl rfl 0 (by decide) lk_X12_countOf_7 rfl dX12_countOf_99 ?_
                refine g_bipush (v := 68) X dX12_countOf_102 (by decide) ?_
                obtain ⟨hb_17, hf⟩ := chk_out hf
                refine g_iald X 1 rfl hb_17 dX12_countOf_104 ?_
                exact hR _ _ _ _ dX12_countOf_105 (kR_in (u := (t_w (68 : Int32).toNatClampNeg)) hf)
              · replace hf := ite_f hc_16 hf
                by_cases hc_18 : v1 = 7
                · replace hf := ite_t hc_18 hf
                  refine g_tableIn (tgt := 106) X dX12_countOf_1 (by rw [hc_18]; decide) (by rw [hc_18]; decide) (by rw [hc_18]; rfl) (by decide) ?_
                  refine g_aload_n X dX12_countOf_106 rfl 0 rfl ?_
                  refine g_get (C := RX12) (T := TX12) (N := 22) (ci := 8) (v := (.ref h_t_w)) X iw_X12_countOf_X12 0 rfl rfl 0 (by decide) lk_X12_countOf_7 rfl dX12_countOf_107 ?_
                  refine g_bipush (v := 93) X dX12_countOf_110 (by decide) ?_
                  obtain ⟨hb_19, hf⟩ := chk_out hf
                  refine g_iald X 1 rfl hb_19 dX12_countOf_112 ?_
                  exact hR _ _ _ _ dX12_countOf_113 (kR_in (u := (t_w (93 : Int32).toNatClampNeg)) hf)
                · replace hf := ite_f hc_18 hf
                  by_cases hc_20 : v1 = 8
                  · replace hf := ite_t hc_20 hf
                    refine g_tableIn (tgt := 114) X dX12_countOf_1 (by rw [hc_20]; decide) (by rw [hc_20]; decide) (by rw [hc_20]; rfl) (by decide) ?_
                    refine g_aload_n X dX12_countOf_114 rfl 0 rfl ?_
                    refine g_get (C := RX12) (T := TX12) (N := 22) (ci := 8) (v := (.ref h_t_w)) X iw_X12_countOf_X12 0 rfl rfl 0 (by decide) lk_X12_countOf_7 rfl dX12_countOf_115 ?_
                    refine g_bipush (v := 124) X dX12_countOf_118 (by decide) ?_
                    obtain ⟨hb_21, hf⟩ := chk_out hf
                    refine g_iald X 1 rfl hb_21 dX12_countOf_120 ?_
                    exact hR _ _ _ _ dX12_countOf_121 (kR_in (u := (t_w (124 : Int32).toNatClampNeg)) hf)
                  · replace hf := ite_f hc_20 hf
                    have thc_1 := lv_neT hc_1 (show (0 : Int32).toInt = 0 by decide)
                    have thc_3 := lv_neT hc_3 (show (1 : Int32).toInt = 1 by decide)
                    have thc_5 := lv_neT hc_5 (show (2 : Int32).toInt = 2 by decide)
                    have thc_7 := lv_neT hc_7 (show (3 : Int32).toInt = 3 by decide)
                    have thc_11 := lv_neT hc_11 (show (4 : Int32).toInt = 4 by decide)
                    have thc_14 := lv_neT hc_14 (show (5 : Int32).toInt = 5 by decide)
                    have thc_16 := lv_neT hc_16 (show (6 : Int32).toInt = 6 by decide)
                    have thc_18 := lv_neT hc_18 (show (7 : Int32).toInt = 7 by decide)
                    have thc_20 := lv_neT hc_20 (show (8 : Int32).toInt = 8 by decide)
                    refine g_tableOut (tgt := 122) X dX12_countOf_1 (by omega) (by decide) ?_
                    refine g_aload_n X dX12_countOf_122 rfl 0 rfl ?_
                    refine g_get (C := RX12) (T := TX12) (N := 22) (ci := 8) (v := (.int t_texted)) X iw_X12_countOf_X12 0 rfl rfl 3 (by decide) lk_X12_countOf_60 rfl dX12_countOf_123 ?_
                    exact hR _ _ _ _ dX12_countOf_126 (kR_in (u := t_texted) hf)
def wd_X12_count (cI cZ : ClassId) (h_t : Nat) (h_t_w : Nat) (h_t_isKept : Nat) (h_t_text : Nat) (h_t_statuses : Nat) (h_t_ways : Nat) (h_t_feels : Nat) (h_t_next : Nat) (h_t_came : Nat) (h_t_deep : Nat) (h_t_sizes : Nat) (h_t_tableOf : Nat) (h_t_usedBy : Nat) (h_t_taken : Nat) (h_t_sixOf : Nat) (t_texted : Int32) (t_above : Int64) (t_below : Int64) (t_at : Int32) (t_start : Int32) (t_number : Int32) (t_went : Int32) (t_h : Int64) (t_w : (Nat → Int32)) (t_statuses : (Nat → Int32)) : va_W := [(h_t, .inr (8, [.ref h_t_w, .ref h_t_isKept, .ref h_t_text, .int t_texted, .long t_above, .long t_below, .ref h_t_statuses, .int t_at, .int t_start, .int t_number, .ref h_t_ways, .int t_went, .ref h_t_feels, .ref h_t_next, .ref h_t_came, .ref h_t_deep, .ref h_t_sizes, .ref h_t_tableOf, .ref h_t_usedBy, .ref h_t_taken, .ref h_t_sixOf, .long t_h])), (h_t_w, .inl (cI, 1251, .inl t_w)), (h_t_statuses, .inl (cI, 3, .inl t_statuses))]
abbrev rm_X12_count : Room := { frames := 2, cells := 0, slots := 0, locals := 43 }
theorem hv_X12_count : yX12_count.cls = RX12 ∧ yX12_count.cls ≠ "java/lang/invoke/MethodHandle" ∧ yX12_count.cls ≠ "java/lang/invoke/VarHandle" ∧ (parseMethodDescriptor yX12_count.desc).map (fun d => d.parameters.length) = some 1 := by decide +kernel
theorem lk_X12_count_86 : Cond.constantLong RX12 86 9 ∈ wsX12_count := by decide +kernel
set_option maxHeartbeats 4000000 in
set_option maxRecDepth 100000 in
theorem c_X12_count (l : Launch) (D : va_G) (cI cZ : ClassId) (h_t : Nat) (h_t_w : Nat) (h_t_isKept : Nat) (h_t_text : Nat) (h_t_statuses : Nat) (h_t_ways : Nat) (h_t_feels : Nat) (h_t_next : Nat) (h_t_came : Nat) (h_t_deep : Nat) (h_t_sizes : Nat) (h_t_tableOf : Nat) (h_t_usedBy : Nat) (h_t_taken : Nat) (h_t_sixOf : Nat) (t_texted : Int32) (t_above : Int64) (t_below : Int64) (t_at : Int32) (t_start : Int32) (t_number : Int32) (t_went : Int32) (t_h : Int64) (t_w : (Nat → Int32)) (t_statuses : (Nat → Int32)) (v1 : Int32) (res : Int32 × (Nat → Int32)) (hf : f_X12_count t_texted t_w t_statuses v1 = some res) : MetG l yX12_count wsX12_count rm_X12_count D cI cZ none [.ref h_t, .int v1] (wd_X12_count cI cZ h_t h_t_w h_t_isKept h_t_text h_t_statuses h_t_ways h_t_feels h_t_next h_t_came h_t_deep h_t_sizes h_t_tableOf h_t_usedBy h_t_taken h_t_sixOf t_texted t_above t_below t_at t_start t_number t_went t_h t_w t_statuses) (kV res (fun u => some (.int u.1)) (fun u => (wd_X12_count cI cZ h_t h_t_w h_t_isKept h_t_text h_t_statuses h_t_ways h_t_feels h_t_next h_t_came h_t_deep h_t_sizes h_t_tableOf h_t_usedBy h_t_taken h_t_sixOf t_texted t_above t_below t_at t_start t_number t_went t_h t_w (u.2)))) := by
  refine metG_of (cc := cX12_count) (maxL := 2) (ret := (some .int)) (own := RX12) (lv0 := [(0, .ref h_t), (1, .int v1)]) (ini := false) (by decide) rfl (Nat.le_of_ble_eq_true rfl) rfl rfl (fun h => by cases h) (fun G X hR => ?_)
  replace hR := rt_int hR
  unfold f_X12_count at hf
  refine g_iload_n X dX12_count_0 rfl 1 rfl ?_
  refine g_i2l X dX12_count_1 ?_
  refine g_lconst (v := 0) X dX12_count_2 (by decide) ?_
  refine g_ldc2 (v := 9) X dX12_count_3 lk_X12_count_86 ?_
  obtain ⟨r_1, hk_2, hf⟩ := ob1_out hf
  refine g_cSR (st := []) (st1 := [.int r_1]) X (c_X12_in l D cI cZ (v1.toInt64) 0 9 _ hk_2) (Or.inl rfl) 3 gX12_count_X12_in rfl hs_X12_in ⟨Nat.le_of_ble_eq_true rfl, Nat.le_of_ble_eq_true rfl⟩ rfl rfl (Nat.le_of_ble_eq_true rfl) ⟨rfl, rfl⟩ (Nat.zero_le _) (Nat.zero_le _) dX12_count_6 [] rfl rfl rfl ?_
  refine g_if_eq (tgt := 20) X dX12_count_9 (by decide) (fun hc_3 => ?_) (fun hc_3 => ?_)
  · replace hf := ite_t hc_3 hf
    refine g_aload_n X dX12_count_20 rfl 0 rfl ?_
    refine g_bipush (v := (-2)) X dX12_count_21 (by decide) ?_
    obtain ⟨r_4, t_statuses_5, hk_6, hf⟩ := ob2_out hf
    refine g_cVW (st := []) (st1 := [.int r_4]) (C := RX12) (ci := 8) (q0 := 0) (ws' := (wd_X12_count cI cZ h_t h_t_w h_t_isKept h_t_text h_t_statuses h_t_ways h_t_feels h_t_next h_t_came h_t_deep h_t_sizes h_t_tableOf h_t_usedBy h_t_taken h_t_sixOf t_texted t_above t_below t_at t_start t_number t_went t_h t_w t_statuses_5)) X (c_X12_bad l D cI cZ h_t h_t_w h_t_isKept h_t_text h_t_statuses h_t_ways h_t_feels h_t_next h_t_came h_t_deep h_t_sizes h_t_tableOf h_t_usedBy h_t_taken h_t_sixOf t_texted t_above t_below t_at t_start t_number t_went t_h t_statuses (-2) _ hk_6) (Or.inl rfl) 1 gX12_count_X12_bad rfl hv_X12_bad ⟨Nat.le_of_ble_eq_true rfl, Nat.le_of_ble_eq_true rfl⟩ rfl rfl (Nat.le_of_ble_eq_true rfl) ⟨rfl, rfl⟩ (Nat.zero_le _) (Nat.zero_le _) rfl rfl rfl dX12_count_23 [0, 2] rfl rfl [1] rfl rfl (by decide) [1, 0, 2] rfl rfl rfl ?_
    exact hR _ _ _ _ dX12_count_26 (kV_in (u := (r_4, t_statuses_5)) hf)
  · replace hf := ite_f hc_3 hf
    refine g_aload_n X dX12_count_12 rfl 0 rfl ?_
    refine g_iload_n X dX12_count_13 rfl 1 rfl ?_
    obtain ⟨r_7, hk_8, hf⟩ := ob1_out hf
    refine g_cVR (st := []) (st1 := [.int r_7]) (C := RX12) (ci := 8) (q0 := 0) X (c_X12_countOf l D cI cZ h_t h_t_w h_t_isKept h_t_text h_t_statuses h_t_ways h_t_feels h_t_next h_t_came h_t_deep h_t_sizes h_t_tableOf h_t_usedBy h_t_taken h_t_sixOf t_texted t_above t_below t_at t_start t_number t_went t_h t_w v1 _ hk_8) (Or.inl rfl) 1 gX12_count_X12_countOf rfl hv_X12_countOf ⟨Nat.le_of_ble_eq_true rfl, Nat.le_of_ble_eq_true rfl⟩ rfl rfl (Nat.le_of_ble_eq_true rfl) ⟨rfl, rfl⟩ (Nat.zero_le _) (Nat.zero_le _) rfl rfl rfl dX12_count_14 [0, 1] rfl rfl rfl ?_
    refine g_goto (tgt := 26) X dX12_count_17 (by decide) ?_
    exact hR _ _ _ _ dX12_count_26 (kV_in (u := (r_7, t_statuses)) hf)
def wd_X12_mix (cI cZ : ClassId) (h_t : Nat) (h_t_w : Nat) (h_t_isKept : Nat) (h_t_text : Nat) (h_t_statuses : Nat) (h_t_ways : Nat) (h_t_feels : Nat) (h_t_next : Nat) (h_t_came : Nat) (h_t_deep : Nat) (h_t_sizes : Nat) (h_t_tableOf : Nat) (h_t_usedBy : Nat) (h_t_taken : Nat) (h_t_sixOf : Nat) (t_texted : Int32) (t_above : Int64) (t_below : Int64) (t_at : Int32) (t_start : Int32) (t_number : Int32) (t_went : Int32) (t_h : Int64) : va_W := [(h_t, .inr (8, [.ref h_t_w, .ref h_t_isKept, .ref h_t_text, .int t_texted, .long t_above, .long t_below, .ref h_t_statuses, .int t_at, .int t_start, .int t_number, .ref h_t_ways, .int t_went, .ref h_t_feels, .ref h_t_next, .ref h_t_came, .ref h_t_deep, .ref h_t_sizes, .ref h_t_tableOf, .ref h_t_usedBy, .ref h_t_taken, .ref h_t_sixOf, .long t_h]))]
abbrev rm_X12_mix : Room := { frames := 0, cells := 0, slots := 0, locals := 0 }
theorem hv_X12_mix : yX12_mix.cls = RX12 ∧ yX12_mix.cls ≠ "java/lang/invoke/MethodHandle" ∧ yX12_mix.cls ≠ "java/lang/invoke/VarHandle" ∧ (parseMethodDescriptor yX12_mix.desc).map (fun d => d.parameters.length) = some 1 := by decide +kernel
theorem lk_X12_mix_319 : Cond.constantLong RX12 319 31 ∈ wsX12_mix := by decide +kernel
theorem iw_X12_mix_X12 : ∀ w ∈ u_ws RX12 TX12 22, w ∈ wsX12_mix := by decide +kernel
theorem lk_X12_mix_321 : Cond.fieldLink RX12 321 "ClerkChainsModel" "h" "J" ∈ wsX12_mix := by decide +kernel
set_option maxHeartbeats 4000000 in
set_option maxRecDepth 100000 in
theorem c_X12_mix (l : Launch) (D : va_G) (cI cZ : ClassId) (h_t : Nat) (h_t_w : Nat) (h_t_isKept : Nat) (h_t_text : Nat) (h_t_statuses : Nat) (h_t_ways : Nat) (h_t_feels : Nat) (h_t_next : Nat) (h_t_came : Nat) (h_t_deep : Nat) (h_t_sizes : Nat) (h_t_tableOf : Nat) (h_t_usedBy : Nat) (h_t_taken : Nat) (h_t_sixOf : Nat) (t_texted : Int32) (t_above : Int64) (t_below : Int64) (t_at : Int32) (t_start : Int32) (t_number : Int32) (t_went : Int32) (t_h : Int64) (v1 : Int64) (res : Int64) (hf : f_X12_mix t_h v1 = some res) : MetG l yX12_mix wsX12_mix rm_X12_mix D cI cZ none [.ref h_t, .long v1] (wd_X12_mix cI cZ h_t h_t_w h_t_isKept h_t_text h_t_statuses h_t_ways h_t_feels h_t_next h_t_came h_t_deep h_t_sizes h_t_tableOf h_t_usedBy h_t_taken h_t_sixOf t_texted t_above t_below t_at t_start t_number t_went t_h) (kV res (fun _ => none) (fun u => (wd_X12_mix cI cZ h_t h_t_w h_t_isKept h_t_text h_t_statuses h_t_ways h_t_feels h_t_next h_t_came h_t_deep h_t_sizes h_t_tableOf h_t_usedBy h_t_taken h_t_sixOf t_texted t_above t_below t_at t_start t_number t_went u))) := by
  refine metG_of (cc := cX12_mix) (maxL := 3) (ret := none) (own := RX12) (lv0 := [(0, .ref h_t), (1, .long v1)]) (ini := false) (by decide) rfl (Nat.le_of_ble_eq_true rfl) rfl rfl (fun h => by cases h) (fun G X hR => ?_)
  replace hR := rt_void hR
  unfold f_X12_mix at hf
  refine g_aload_n X dX12_mix_0 rfl 0 rfl ?_
  refine g_ldc2 (v := 31) X dX12_mix_1 lk_X12_mix_319 ?_
  refine g_aload_n X dX12_mix_4 rfl 0 rfl ?_
  refine g_get (C := RX12) (T := TX12) (N := 22) (ci := 8) (v := (.long t_h)) X iw_X12_mix_X12 0 rfl rfl 21 (by decide) lk_X12_mix_321 rfl dX12_mix_5 ?_
  refine g_lmul X dX12_mix_8 ?_
  refine g_lload_n X dX12_mix_9 rfl 1 rfl ?_
  refine g_ladd X dX12_mix_10 ?_
  obtain ⟨t_h_1, et_h_1, hf⟩ := bnd_out hf
  refine g_nmJ X et_h_1 ?_
  refine g_put (C := RX12) (T := TX12) (N := 22) (ci := 8) (v := .long t_h_1) (ws' := (wd_X12_mix cI cZ h_t h_t_w h_t_isKept h_t_text h_t_statuses h_t_ways h_t_feels h_t_next h_t_came h_t_deep h_t_sizes h_t_tableOf h_t_usedBy h_t_taken h_t_sixOf t_texted t_above t_below t_at t_start t_number t_went t_h_1)) X iw_X12_mix_X12 tyX12 tyX12_ok nmX12 0 rfl rfl 21 (by decide) lk_X12_mix_321 rfl (tyX12_ok 21 (by decide)) rfl rfl (Nat.le_of_ble_eq_true rfl) dX12_mix_11 rfl ?_
  exact hR _ _ _ dX12_mix_14 (kV_in (u := t_h_1) hf)
def wd_X12_digest (cI cZ : ClassId) (h_t : Nat) (h_t_w : Nat) (h_t_isKept : Nat) (h_t_text : Nat) (h_t_statuses : Nat) (h_t_ways : Nat) (h_t_feels : Nat) (h_t_next : Nat) (h_t_came : Nat) (h_t_deep : Nat) (h_t_sizes : Nat) (h_t_tableOf : Nat) (h_t_usedBy : Nat) (h_t_taken : Nat) (h_t_sixOf : Nat) (t_texted : Int32) (t_above : Int64) (t_below : Int64) (t_at : Int32) (t_start : Int32) (t_number : Int32) (t_went : Int32) (t_h : Int64) (t_w : (Nat → Int32)) : va_W := [(h_t, .inr (8, [.ref h_t_w, .ref h_t_isKept, .ref h_t_text, .int t_texted, .long t_above, .long t_below, .ref h_t_statuses, .int t_at, .int t_start, .int t_number, .ref h_t_ways, .int t_went, .ref h_t_feels, .ref h_t_next, .ref h_t_came, .ref h_t_deep, .ref h_t_sizes, .ref h_t_tableOf, .ref h_t_usedBy, .ref h_t_taken, .ref h_t_sixOf, .long t_h])), (h_t_w, .inl (cI, 1251, .inl t_w))]
abbrev rm_X12_digest : Room := { frames := 2, cells := 0, slots := 0, locals := 43 }
theorem hv_X12_digest : yX12_digest.cls = RX12 ∧ yX12_digest.cls ≠ "java/lang/invoke/MethodHandle" ∧ yX12_digest.cls ≠ "java/lang/invoke/VarHandle" ∧ (parseMethodDescriptor yX12_digest.desc).map (fun d => d.parameters.length) = some 0 := by decide +kernel
theorem iw_X12_digest_X12 : ∀ w ∈ u_ws RX12 TX12 22, w ∈ wsX12_digest := by decide +kernel
theorem lk_X12_digest_7 : Cond.fieldLink RX12 7 "ClerkChainsModel" "w" "[I" ∈ wsX12_digest := by decide +kernel
theorem lk_X12_digest_20 : Cond.fieldLink RX12 20 "ClerkChainsModel" "above" "J" ∈ wsX12_digest := by decide +kernel
theorem lk_X12_digest_24 : Cond.fieldLink RX12 24 "ClerkChainsModel" "below" "J" ∈ wsX12_digest := by decide +kernel
theorem lk_X12_digest_321 : Cond.fieldLink RX12 321 "ClerkChainsModel" "h" "J" ∈ wsX12_digest := by decide +kernel
theorem lk_X12_digest_324 : Cond.constantLong RX12 324 1553 ∈ wsX12_digest := by decide +kernel
set_option maxHeartbeats 4000000 in
set_option maxRecDepth 100000 in
theorem c_X12_digest (l : Launch) (D : va_G) (cI cZ : ClassId) (h_t : Nat) (h_t_w : Nat) (h_t_isKept : Nat) (h_t_text : Nat) (h_t_statuses : Nat) (h_t_ways : Nat) (h_t_feels : Nat) (h_t_next : Nat) (h_t_came : Nat) (h_t_deep : Nat) (h_t_sizes : Nat) (h_t_tableOf : Nat) (h_t_usedBy : Nat) (h_t_taken : Nat) (h_t_sixOf : Nat) (t_texted : Int32) (t_above : Int64) (t_below : Int64) (t_at : Int32) (t_start : Int32) (t_number : Int32) (t_went : Int32) (t_h : Int64) (t_w : (Nat → Int32)) (res : Int64 × Int64) (hf : f_X12_digest t_texted t_above t_below t_h t_w = some res) : MetG l yX12_digest wsX12_digest rm_X12_digest D cI cZ none [.ref h_t] (wd_X12_digest cI cZ h_t h_t_w h_t_isKept h_t_text h_t_statuses h_t_ways h_t_feels h_t_next h_t_came h_t_deep h_t_sizes h_t_tableOf h_t_usedBy h_t_taken h_t_sixOf t_texted t_above t_below t_at t_start t_number t_went t_h t_w) (kV res (fun u => some (.long u.1)) (fun u => (wd_X12_digest cI cZ h_t h_t_w h_t_isKept h_t_text h_t_statuses h_t_ways h_t_feels h_t_next h_t_came h_t_deep h_t_sizes h_t_tableOf h_t_usedBy h_t_taken h_t_sixOf t_texted t_above t_below t_at t_start t_number t_went (u.2) t_w))) := by
  refine metG_of (cc := cX12_digest) (maxL := 3) (ret := (some .long)) (own := RX12) (lv0 := [(0, .ref h_t)]) (ini := false) (by decide) rfl (Nat.le_of_ble_eq_true rfl) rfl rfl (fun h => by cases h) (fun G X hR => ?_)
  replace hR := rt_long hR
  unfold f_X12_digest at hf
  have J67 : ∀ (k33 : Int64 → Int32 → Option (Int64 × Int64)) (hk33 : ∀ (t_h : Int64) (v1 : Int32), k33 t_h v1 = some res → G 0 0 (wd_X12_digest cI cZ h_t h_t_w h_t_isKept h_t_text h_t_statuses h_t_ways h_t_feels h_t_next h_t_came h_t_deep h_t_sizes h_t_tableOf h_t_usedBy h_t_taken h_t_sixOf t_texted t_above t_below t_at t_start t_number t_went t_h t_w) [(0, .ref h_t), (1, .int v1)] 33 []) (t_h : Int64) (v1 : Int32), f_X12_digest_67 t_texted t_above t_below t_w k33 t_h v1 = some res → G 0 0 (wd_X12_digest cI cZ h_t h_t_w h_t_isKept h_t_text h_t_statuses h_t_ways h_t_feels h_t_next h_t_came h_t_deep h_t_sizes h_t_tableOf h_t_usedBy h_t_taken h_t_sixOf t_texted t_above t_below t_at t_start t_number t_went t_h t_w) [(0, .ref h_t), (1, .int v1)] 67 [] := by
    intro k33 hk33 t_h v1 hf
    unfold f_X12_digest_67 at hf
    obtain ⟨v1_15, ev1_15, hf⟩ := bnd_out hf
    refine g_iinc (v := v1_15) (lv' := [(0, .ref h_t), (1, .int v1_15)]) X dX12_digest_67 1 rfl (by rw [ev1_15]; rfl) (Nat.le_of_ble_eq_true rfl) [1, 0] rfl ?_
    refine g_goto (tgt := 33) X dX12_digest_70 (by decide) ?_
    exact hk33 t_h v1_15 hf
  have J45 : ∀ (k33 : Int64 → Int32 → Option (Int64 × Int64)) (hk33 : ∀ (t_h : Int64) (v1 : Int32), k33 t_h v1 = some res → G 0 0 (wd_X12_digest cI cZ h_t h_t_w h_t_isKept h_t_text h_t_statuses h_t_ways h_t_feels h_t_next h_t_came h_t_deep h_t_sizes h_t_tableOf h_t_usedBy h_t_taken h_t_sixOf t_texted t_above t_below t_at t_start t_number t_went t_h t_w) [(0, .ref h_t), (1, .int v1)] 33 []) (n : Nat) (t_h : Int64) (v1 : Int32) (v2 : Int32), f_X12_digest_45 t_texted t_above t_below t_w k33 n t_h v1 v2 = some res → G 0 0 (wd_X12_digest cI cZ h_t h_t_w h_t_isKept h_t_text h_t_statuses h_t_ways h_t_feels h_t_next h_t_came h_t_deep h_t_sizes h_t_tableOf h_t_usedBy h_t_taken h_t_sixOf t_texted t_above t_below t_at t_start t_number t_went t_h t_w) [(0, .ref h_t), (1, .int v1), (2, .int v2)] 45 [] := by
    intro k33 hk33 n
    induction n with
    | zero => intro t_h v1 v2 hf; rw [f_X12_digest_45] at hf; cases hf
    | succ n ih =>
      intro t_h v1 v2 hf
      rw [f_X12_digest_45] at hf
      refine g_iload_n X dX12_digest_45 rfl 2 rfl ?_
      refine g_iconst (v := 5) X dX12_digest_46 (by decide) ?_
      refine g_icmp_ge (tgt := 67) X dX12_digest_47 (by decide) (fun hc_9 => ?_) (fun hc_9 => ?_)
      · replace hf := ite_t hc_9 hf
        refine g_lv X (lv' := [(0, .ref h_t), (1, .int v1)]) [0, 1] rfl ?_
        exact J67 k33 hk33 t_h v1 hf
      · replace hf := ite_f hc_9 hf
        refine g_aload_n X dX12_digest_50 rfl 0 rfl ?_
        refine g_aload_n X dX12_digest_51 rfl 0 rfl ?_
        refine g_iload_n X dX12_digest_52 rfl 1 rfl ?_
        refine g_iload_n X dX12_digest_53 rfl 2 rfl ?_
        obtain ⟨r_10, hk_11, hf⟩ := ob1_out hf
        refine g_cVR (st := [.ref h_t]) (st1 := [.int r_10, .ref h_t]) (C := RX12) (ci := 8) (q0 := 0) X (c_X12_ofClerk l D cI cZ h_t h_t_w h_t_isKept h_t_text h_t_statuses h_t_ways h_t_feels h_t_next h_t_came h_t_deep h_t_sizes h_t_tableOf h_t_usedBy h_t_taken h_t_sixOf t_texted t_above t_below t_at t_start t_number t_went t_h t_w v1 v2 _ hk_11) (Or.inl rfl) 2 gX12_digest_X12_ofClerk rfl hv_X12_ofClerk ⟨Nat.le_of_ble_eq_true rfl, Nat.le_of_ble_eq_true rfl⟩ rfl rfl (Nat.le_of_ble_eq_true rfl) ⟨rfl, rfl⟩ (Nat.zero_le _) (Nat.zero_le _) rfl rfl rfl dX12_digest_54 [0, 1] rfl rfl rfl ?_
        refine g_i2l X dX12_digest_57 ?_
        obtain ⟨t_h_12, hk_13, hf⟩ := ob1_out hf
        refine g_cVW (st := []) (st1 := []) (C := RX12) (ci := 8) (q0 := 0) (ws' := (wd_X12_digest cI cZ h_t h_t_w h_t_isKept h_t_text h_t_statuses h_t_ways h_t_feels h_t_next h_t_came h_t_deep h_t_sizes h_t_tableOf h_t_usedBy h_t_taken h_t_sixOf t_texted t_above t_below t_at t_start t_number t_went t_h_12 t_w)) X (c_X12_mix l D cI cZ h_t h_t_w h_t_isKept h_t_text h_t_statuses h_t_ways h_t_feels h_t_next h_t_came h_t_deep h_t_sizes h_t_tableOf h_t_usedBy h_t_taken h_t_sixOf t_texted t_above t_below t_at t_start t_number t_went t_h (r_10.toInt64) _ hk_13) (Or.inl rfl) 1 gX12_digest_X12_mix rfl hv_X12_mix ⟨Nat.le_of_ble_eq_true rfl, Nat.le_of_ble_eq_true rfl⟩ rfl rfl (Nat.le_of_ble_eq_true rfl) ⟨rfl, rfl⟩ (Nat.zero_le _) (Nat.zero_le _) rfl rfl rfl dX12_digest_58 [0] rfl rfl [1] rfl rfl (by decide) [1, 0] rfl rfl rfl ?_
        obtain ⟨v2_14, ev2_14, hf⟩ := bnd_out hf
        refine g_iinc (v := v2_14) (lv' := [(0, .ref h_t), (1, .int v1), (2, .int v2_14)]) X dX12_digest_61 2 rfl (by rw [ev2_14]; rfl) (Nat.le_of_ble_eq_true rfl) [1, 2, 0] rfl ?_
        refine g_goto (tgt := 45) X dX12_digest_64 (by decide) ?_
        exact ih t_h_12 v1 v2_14 hf
  have J238 : ∀ (t_h : Int64), f_X12_digest_238 t_texted t_above t_below t_w t_h = some res → G 0 0 (wd_X12_digest cI cZ h_t h_t_w h_t_isKept h_t_text h_t_statuses h_t_ways h_t_feels h_t_next h_t_came h_t_deep h_t_sizes h_t_tableOf h_t_usedBy h_t_taken h_t_sixOf t_texted t_above t_below t_at t_start t_number t_went t_h t_w) [(0, .ref h_t)] 238 [] := by
    intro t_h hf
    unfold f_X12_digest_238 at hf
    refine g_aload_n X dX12_digest_238 rfl 0 rfl ?_
    refine g_aload_n X dX12_digest_239 rfl 0 rfl ?_
    refine g_get (C := RX12) (T := TX12) (N := 22) (ci := 8) (v := (.long t_above)) X iw_X12_digest_X12 0 rfl rfl 4 (by decide) lk_X12_digest_20 rfl dX12_digest_240 ?_
    obtain ⟨t_h_46, hk_47, hf⟩ := ob1_out hf
    refine g_cVW (st := []) (st1 := []) (C := RX12) (ci := 8) (q0 := 0) (ws' := (wd_X12_digest cI cZ h_t h_t_w h_t_isKept h_t_text h_t_statuses h_t_ways h_t_feels h_t_next h_t_came h_t_deep h_t_sizes h_t_tableOf h_t_usedBy h_t_taken h_t_sixOf t_texted t_above t_below t_at t_start t_number t_went t_h_46 t_w)) X (c_X12_mix l D cI cZ h_t h_t_w h_t_isKept h_t_text h_t_statuses h_t_ways h_t_feels h_t_next h_t_came h_t_deep h_t_sizes h_t_tableOf h_t_usedBy h_t_taken h_t_sixOf t_texted t_above t_below t_at t_start t_number t_went t_h t_above _ hk_47) (Or.inl rfl) 1 gX12_digest_X12_mix rfl hv_X12_mix ⟨Nat.le_of_ble_eq_true rfl, Nat.le_of_ble_eq_true rfl⟩ rfl rfl (Nat.le_of_ble_eq_true rfl) ⟨rfl, rfl⟩ (Nat.zero_le _) (Nat.zero_le _) rfl rfl rfl dX12_digest_243 [0] rfl rfl [1] rfl rfl (by decide) [1, 0] rfl rfl rfl ?_
    refine g_aload_n X dX12_digest_246 rfl 0 rfl ?_
    refine g_aload_n X dX12_digest_247 rfl 0 rfl ?_
    refine g_get (C := RX12) (T := TX12) (N := 22) (ci := 8) (v := (.long t_below)) X iw_X12_digest_X12 0 rfl rfl 5 (by decide) lk_X12_digest_24 rfl dX12_digest_248 ?_
    obtain ⟨t_h_48, hk_49, hf⟩ := ob1_out hf
    refine g_cVW (st := []) (st1 := []) (C := RX12) (ci := 8) (q0 := 0) (ws' := (wd_X12_digest cI cZ h_t h_t_w h_t_isKept h_t_text h_t_statuses h_t_ways h_t_feels h_t_next h_t_came h_t_deep h_t_sizes h_t_tableOf h_t_usedBy h_t_taken h_t_sixOf t_texted t_above t_below t_at t_start t_number t_went t_h_48 t_w)) X (c_X12_mix l D cI cZ h_t h_t_w h_t_isKept h_t_text h_t_statuses h_t_ways h_t_feels h_t_next h_t_came h_t_deep h_t_sizes h_t_tableOf h_t_usedBy h_t_taken h_t_sixOf t_texted t_above t_below t_at t_start t_number t_went t_h_46 t_below _ hk_49) (Or.inl rfl) 1 gX12_digest_X12_mix rfl hv_X12_mix ⟨Nat.le_of_ble_eq_true rfl, Nat.le_of_ble_eq_true rfl⟩ rfl rfl (Nat.le_of_ble_eq_true rfl) ⟨rfl, rfl⟩ (Nat.zero_le _) (Nat.zero_le _) rfl rfl rfl dX12_digest_251 [0] rfl rfl [1] rfl rfl (by decide) [1, 0] rfl rfl rfl ?_
    refine g_aload_n X dX12_digest_254 rfl 0 rfl ?_
    refine g_get (C := RX12) (T := TX12) (N := 22) (ci := 8) (v := (.long t_h_48)) X iw_X12_digest_X12 0 rfl rfl 21 (by decide) lk_X12_digest_321 rfl dX12_digest_255 ?_
    exact hR _ _ _ _ dX12_digest_258 (kV_in (u := (t_h_48, t_h_48)) hf)
  have J205 : ∀ (n : Nat) (t_h : Int64) (v1 : Int32), f_X12_digest_205 t_texted t_above t_below t_w n t_h v1 = some res → G 0 0 (wd_X12_digest cI cZ h_t h_t_w h_t_isKept h_t_text h_t_statuses h_t_ways h_t_feels h_t_next h_t_came h_t_deep h_t_sizes h_t_tableOf h_t_usedBy h_t_taken h_t_sixOf t_texted t_above t_below t_at t_start t_number t_went t_h t_w) [(0, .ref h_t), (1, .int v1)] 205 [] := by
    intro n
    induction n with
    | zero => intro t_h v1 hf; rw [f_X12_digest_205] at hf; cases hf
    | succ n ih =>
      intro t_h v1 hf
      rw [f_X12_digest_205] at hf
      refine g_iload_n X dX12_digest_205 rfl 1 rfl ?_
      refine g_iconst (v := 5) X dX12_digest_206 (by decide) ?_
      refine g_aload_n X dX12_digest_207 rfl 0 rfl ?_
      refine g_get (C := RX12) (T := TX12) (N := 22) (ci := 8) (v := (.ref h_t_w)) X iw_X12_digest_X12 0 rfl rfl 0 (by decide) lk_X12_digest_7 rfl dX12_digest_208 ?_
      refine g_bipush (v := 93) X dX12_digest_211 (by decide) ?_
      obtain ⟨hb_40, hf⟩ := chk_out hf
      refine g_iald X 1 rfl hb_40 dX12_digest_213 ?_
      refine g_imul X dX12_digest_214 ?_
      refine g_icmp_ge (tgt := 238) X dX12_digest_215 (by decide) (fun hc_41 => ?_) (fun hc_41 => ?_)
      · replace hf := ite_t hc_41 hf
        refine g_lv X (lv' := [(0, .ref h_t)]) [0] rfl ?_
        exact J238 t_h hf
      · replace hf := ite_f hc_41 hf
        refine g_aload_n X dX12_digest_218 rfl 0 rfl ?_
        refine g_aload_n X dX12_digest_219 rfl 0 rfl ?_
        refine g_get (C := RX12) (T := TX12) (N := 22) (ci := 8) (v := (.ref h_t_w)) X iw_X12_digest_X12 0 rfl rfl 0 (by decide) lk_X12_digest_7 rfl dX12_digest_220 ?_
        refine g_bipush (v := 94) X dX12_digest_223 (by decide) ?_
        refine g_iload_n X dX12_digest_225 rfl 1 rfl ?_
        refine g_iadd X dX12_digest_226 ?_
        obtain ⟨hb_42, hf⟩ := chk_out hf
        refine g_iald X 1 rfl hb_42 dX12_digest_227 ?_
        refine g_i2l X dX12_digest_228 ?_
        obtain ⟨t_h_43, hk_44, hf⟩ := ob1_out hf
        refine g_cVW (st := []) (st1 := []) (C := RX12) (ci := 8) (q0 := 0) (ws' := (wd_X12_digest cI cZ h_t h_t_w h_t_isKept h_t_text h_t_statuses h_t_ways h_t_feels h_t_next h_t_came h_t_deep h_t_sizes h_t_tableOf h_t_usedBy h_t_taken h_t_sixOf t_texted t_above t_below t_at t_start t_number t_went t_h_43 t_w)) X (c_X12_mix l D cI cZ h_t h_t_w h_t_isKept h_t_text h_t_statuses h_t_ways h_t_feels h_t_next h_t_came h_t_deep h_t_sizes h_t_tableOf h_t_usedBy h_t_taken h_t_sixOf t_texted t_above t_below t_at t_start t_number t_went t_h ((t_w (94 + v1).toNatClampNeg).toInt64) _ hk_44) (Or.inl rfl) 1 gX12_digest_X12_mix rfl hv_X12_mix ⟨Nat.le_of_ble_eq_true rfl, Nat.le_of_ble_eq_true rfl⟩ rfl rfl (Nat.le_of_ble_eq_true rfl) ⟨rfl, rfl⟩ (Nat.zero_le _) (Nat.zero_le _) rfl rfl rfl dX12_digest_229 [0] rfl rfl [1] rfl rfl (by decide) [1, 0] rfl rfl rfl ?_
        obtain ⟨v1_45, ev1_45, hf⟩ := bnd_out hf
        refine g_iinc (v := v1_45) (lv' := [(0, .ref h_t), (1, .int v1_45)]) X dX12_digest_232 1 rfl (by rw [ev1_45]; rfl) (Nat.le_of_ble_eq_true rfl) [1, 0] rfl ?_
        refine g_goto (tgt := 205) X dX12_digest_235 (by decide) ?_
        exact ih t_h_43 v1_45 hf
  have J203 : ∀ (t_h : Int64), f_X12_digest_203 t_texted t_above t_below t_w t_h = some res → G 0 0 (wd_X12_digest cI cZ h_t h_t_w h_t_isKept h_t_text h_t_statuses h_t_ways h_t_feels h_t_next h_t_came h_t_deep h_t_sizes h_t_tableOf h_t_usedBy h_t_taken h_t_sixOf t_texted t_above t_below t_at t_start t_number t_went t_h t_w) [(0, .ref h_t)] 203 [] := by
    intro t_h hf
    unfold f_X12_digest_203 at hf
    refine g_iconst (v := 0) X dX12_digest_203 (by decide) ?_
    refine g_istore_n (lv' := [(0, .ref h_t), (1, .int 0)]) X dX12_digest_204 rfl (Nat.le_of_ble_eq_true rfl) [1, 0] rfl ?_
    exact J205 FU t_h 0 hf
  have J170 : ∀ (n : Nat) (t_h : Int64) (v1 : Int32), f_X12_digest_170 t_texted t_above t_below t_w n t_h v1 = some res → G 0 0 (wd_X12_digest cI cZ h_t h_t_w h_t_isKept h_t_text h_t_statuses h_t_ways h_t_feels h_t_next h_t_came h_t_deep h_t_sizes h_t_tableOf h_t_usedBy h_t_taken h_t_sixOf t_texted t_above t_below t_at t_start t_number t_went t_h t_w) [(0, .ref h_t), (1, .int v1)] 170 [] := by
    intro n
    induction n with
    | zero => intro t_h v1 hf; rw [f_X12_digest_170] at hf; cases hf
    | succ n ih =>
      intro t_h v1 hf
      rw [f_X12_digest_170] at hf
      refine g_iload_n X dX12_digest_170 rfl 1 rfl ?_
      refine g_iconst (v := 4) X dX12_digest_171 (by decide) ?_
      refine g_aload_n X dX12_digest_172 rfl 0 rfl ?_
      refine g_get (C := RX12) (T := TX12) (N := 22) (ci := 8) (v := (.ref h_t_w)) X iw_X12_digest_X12 0 rfl rfl 0 (by decide) lk_X12_digest_7 rfl dX12_digest_173 ?_
      refine g_bipush (v := 68) X dX12_digest_176 (by decide) ?_
      obtain ⟨hb_34, hf⟩ := chk_out hf
      refine g_iald X 1 rfl hb_34 dX12_digest_178 ?_
      refine g_imul X dX12_digest_179 ?_
      refine g_icmp_ge (tgt := 203) X dX12_digest_180 (by decide) (fun hc_35 => ?_) (fun hc_35 => ?_)
      · replace hf := ite_t hc_35 hf
        refine g_lv X (lv' := [(0, .ref h_t)]) [0] rfl ?_
        exact J203 t_h hf
      · replace hf := ite_f hc_35 hf
        refine g_aload_n X dX12_digest_183 rfl 0 rfl ?_
        refine g_aload_n X dX12_digest_184 rfl 0 rfl ?_
        refine g_get (C := RX12) (T := TX12) (N := 22) (ci := 8) (v := (.ref h_t_w)) X iw_X12_digest_X12 0 rfl rfl 0 (by decide) lk_X12_digest_7 rfl dX12_digest_185 ?_
        refine g_bipush (v := 69) X dX12_digest_188 (by decide) ?_
        refine g_iload_n X dX12_digest_190 rfl 1 rfl ?_
        refine g_iadd X dX12_digest_191 ?_
        obtain ⟨hb_36, hf⟩ := chk_out hf
        refine g_iald X 1 rfl hb_36 dX12_digest_192 ?_
        refine g_i2l X dX12_digest_193 ?_
        obtain ⟨t_h_37, hk_38, hf⟩ := ob1_out hf
        refine g_cVW (st := []) (st1 := []) (C := RX12) (ci := 8) (q0 := 0) (ws' := (wd_X12_digest cI cZ h_t h_t_w h_t_isKept h_t_text h_t_statuses h_t_ways h_t_feels h_t_next h_t_came h_t_deep h_t_sizes h_t_tableOf h_t_usedBy h_t_taken h_t_sixOf t_texted t_above t_below t_at t_start t_number t_went t_h_37 t_w)) X (c_X12_mix l D cI cZ h_t h_t_w h_t_isKept h_t_text h_t_statuses h_t_ways h_t_feels h_t_next h_t_came h_t_deep h_t_sizes h_t_tableOf h_t_usedBy h_t_taken h_t_sixOf t_texted t_above t_below t_at t_start t_number t_went t_h ((t_w (69 + v1).toNatClampNeg).toInt64) _ hk_38) (Or.inl rfl) 1 gX12_digest_X12_mix rfl hv_X12_mix ⟨Nat.le_of_ble_eq_true rfl, Nat.le_of_ble_eq_true rfl⟩ rfl rfl (Nat.le_of_ble_eq_true rfl) ⟨rfl, rfl⟩ (Nat.zero_le _) (Nat.zero_le _) rfl rfl rfl dX12_digest_194 [0] rfl rfl [1] rfl rfl (by decide) [1, 0] rfl rfl rfl ?_
        obtain ⟨v1_39, ev1_39, hf⟩ := bnd_out hf
        refine g_iinc (v := v1_39) (lv' := [(0, .ref h_t), (1, .int v1_39)]) X dX12_digest_197 1 rfl (by rw [ev1_39]; rfl) (Nat.le_of_ble_eq_true rfl) [1, 0] rfl ?_
        refine g_goto (tgt := 170) X dX12_digest_200 (by decide) ?_
        exact ih t_h_37 v1_39 hf
  have J168 : ∀ (t_h : Int64), f_X12_digest_168 t_texted t_above t_below t_w t_h = some res → G 0 0 (wd_X12_digest cI cZ h_t h_t_w h_t_isKept h_t_text h_t_statuses h_t_ways h_t_feels h_t_next h_t_came h_t_deep h_t_sizes h_t_tableOf h_t_usedBy h_t_taken h_t_sixOf t_texted t_above t_below t_at t_start t_number t_went t_h t_w) [(0, .ref h_t)] 168 [] := by
    intro t_h hf
    unfold f_X12_digest_168 at hf
    refine g_iconst (v := 0) X dX12_digest_168 (by decide) ?_
    refine g_istore_n (lv' := [(0, .ref h_t), (1, .int 0)]) X dX12_digest_169 rfl (Nat.le_of_ble_eq_true rfl) [1, 0] rfl ?_
    exact J170 FU t_h 0 hf
  have J135 : ∀ (n : Nat) (t_h : Int64) (v1 : Int32), f_X12_digest_135 t_texted t_above t_below t_w n t_h v1 = some res → G 0 0 (wd_X12_digest cI cZ h_t h_t_w h_t_isKept h_t_text h_t_statuses h_t_ways h_t_feels h_t_next h_t_came h_t_deep h_t_sizes h_t_tableOf h_t_usedBy h_t_taken h_t_sixOf t_texted t_above t_below t_at t_start t_number t_went t_h t_w) [(0, .ref h_t), (1, .int v1)] 135 [] := by
    intro n
    induction n with
    | zero => intro t_h v1 hf; rw [f_X12_digest_135] at hf; cases hf
    | succ n ih =>
      intro t_h v1 hf
      rw [f_X12_digest_135] at hf
      refine g_iload_n X dX12_digest_135 rfl 1 rfl ?_
      refine g_iconst (v := 4) X dX12_digest_136 (by decide) ?_
      refine g_aload_n X dX12_digest_137 rfl 0 rfl ?_
      refine g_get (C := RX12) (T := TX12) (N := 22) (ci := 8) (v := (.ref h_t_w)) X iw_X12_digest_X12 0 rfl rfl 0 (by decide) lk_X12_digest_7 rfl dX12_digest_138 ?_
      refine g_bipush (v := 47) X dX12_digest_141 (by decide) ?_
      obtain ⟨hb_28, hf⟩ := chk_out hf
      refine g_iald X 1 rfl hb_28 dX12_digest_143 ?_
      refine g_imul X dX12_digest_144 ?_
      refine g_icmp_ge (tgt := 168) X dX12_digest_145 (by decide) (fun hc_29 => ?_) (fun hc_29 => ?_)
      · replace hf := ite_t hc_29 hf
        refine g_lv X (lv' := [(0, .ref h_t)]) [0] rfl ?_
        exact J168 t_h hf
      · replace hf := ite_f hc_29 hf
        refine g_aload_n X dX12_digest_148 rfl 0 rfl ?_
        refine g_aload_n X dX12_digest_149 rfl 0 rfl ?_
        refine g_get (C := RX12) (T := TX12) (N := 22) (ci := 8) (v := (.ref h_t_w)) X iw_X12_digest_X12 0 rfl rfl 0 (by decide) lk_X12_digest_7 rfl dX12_digest_150 ?_
        refine g_bipush (v := 48) X dX12_digest_153 (by decide) ?_
        refine g_iload_n X dX12_digest_155 rfl 1 rfl ?_
        refine g_iadd X dX12_digest_156 ?_
        obtain ⟨hb_30, hf⟩ := chk_out hf
        refine g_iald X 1 rfl hb_30 dX12_digest_157 ?_
        refine g_i2l X dX12_digest_158 ?_
        obtain ⟨t_h_31, hk_32, hf⟩ := ob1_out hf
        refine g_cVW (st := []) (st1 := []) (C := RX12) (ci := 8) (q0 := 0) (ws' := (wd_X12_digest cI cZ h_t h_t_w h_t_isKept h_t_text h_t_statuses h_t_ways h_t_feels h_t_next h_t_came h_t_deep h_t_sizes h_t_tableOf h_t_usedBy h_t_taken h_t_sixOf t_texted t_above t_below t_at t_start t_number t_went t_h_31 t_w)) X (c_X12_mix l D cI cZ h_t h_t_w h_t_isKept h_t_text h_t_statuses h_t_ways h_t_feels h_t_next h_t_came h_t_deep h_t_sizes h_t_tableOf h_t_usedBy h_t_taken h_t_sixOf t_texted t_above t_below t_at t_start t_number t_went t_h ((t_w (48 + v1).toNatClampNeg).toInt64) _ hk_32) (Or.inl rfl) 1 gX12_digest_X12_mix rfl hv_X12_mix ⟨Nat.le_of_ble_eq_true rfl, Nat.le_of_ble_eq_true rfl⟩ rfl rfl (Nat.le_of_ble_eq_true rfl) ⟨rfl, rfl⟩ (Nat.zero_le _) (Nat.zero_le _) rfl rfl rfl dX12_digest_159 [0] rfl rfl [1] rfl rfl (by decide) [1, 0] rfl rfl rfl ?_
        obtain ⟨v1_33, ev1_33, hf⟩ := bnd_out hf
        refine g_iinc (v := v1_33) (lv' := [(0, .ref h_t), (1, .int v1_33)]) X dX12_digest_162 1 rfl (by rw [ev1_33]; rfl) (Nat.le_of_ble_eq_true rfl) [1, 0] rfl ?_
        refine g_goto (tgt := 135) X dX12_digest_165 (by decide) ?_
        exact ih t_h_31 v1_33 hf
  have J133 : ∀ (t_h : Int64), f_X12_digest_133 t_texted t_above t_below t_w t_h = some res → G 0 0 (wd_X12_digest cI cZ h_t h_t_w h_t_isKept h_t_text h_t_statuses h_t_ways h_t_feels h_t_next h_t_came h_t_deep h_t_sizes h_t_tableOf h_t_usedBy h_t_taken h_t_sixOf t_texted t_above t_below t_at t_start t_number t_went t_h t_w) [(0, .ref h_t)] 133 [] := by
    intro t_h hf
    unfold f_X12_digest_133 at hf
    refine g_iconst (v := 0) X dX12_digest_133 (by decide) ?_
    refine g_istore_n (lv' := [(0, .ref h_t), (1, .int 0)]) X dX12_digest_134 rfl (Nat.le_of_ble_eq_true rfl) [1, 0] rfl ?_
    exact J135 FU t_h 0 hf
  have J75 : ∀ (n : Nat) (t_h : Int64) (v1 : Int32), f_X12_digest_75 t_texted t_above t_below t_w n t_h v1 = some res → G 0 0 (wd_X12_digest cI cZ h_t h_t_w h_t_isKept h_t_text h_t_statuses h_t_ways h_t_feels h_t_next h_t_came h_t_deep h_t_sizes h_t_tableOf h_t_usedBy h_t_taken h_t_sixOf t_texted t_above t_below t_at t_start t_number t_went t_h t_w) [(0, .ref h_t), (1, .int v1)] 75 [] := by
    intro n
    induction n with
    | zero => intro t_h v1 hf; rw [f_X12_digest_75] at hf; cases hf
    | succ n ih =>
      intro t_h v1 hf
      rw [f_X12_digest_75] at hf
      refine g_iload_n X dX12_digest_75 rfl 1 rfl ?_
      refine g_aload_n X dX12_digest_76 rfl 0 rfl ?_
      refine g_get (C := RX12) (T := TX12) (N := 22) (ci := 8) (v := (.ref h_t_w)) X iw_X12_digest_X12 0 rfl rfl 0 (by decide) lk_X12_digest_7 rfl dX12_digest_77 ?_
      refine g_iconst (v := 1) X dX12_digest_80 (by decide) ?_
      obtain ⟨hb_16, hf⟩ := chk_out hf
      refine g_iald X 1 rfl hb_16 dX12_digest_81 ?_
      refine g_icmp_ge (tgt := 133) X dX12_digest_82 (by decide) (fun hc_17 => ?_) (fun hc_17 => ?_)
      · replace hf := ite_t hc_17 hf
        refine g_lv X (lv' := [(0, .ref h_t)]) [0] rfl ?_
        exact J133 t_h hf
      · replace hf := ite_f hc_17 hf
        refine g_aload_n X dX12_digest_85 rfl 0 rfl ?_
        refine g_aload_n X dX12_digest_86 rfl 0 rfl ?_
        refine g_get (C := RX12) (T := TX12) (N := 22) (ci := 8) (v := (.ref h_t_w)) X iw_X12_digest_X12 0 rfl rfl 0 (by decide) lk_X12_digest_7 rfl dX12_digest_87 ?_
        refine g_bipush (v := 38) X dX12_digest_90 (by decide) ?_
        refine g_iload_n X dX12_digest_92 rfl 1 rfl ?_
        refine g_iadd X dX12_digest_93 ?_
        obtain ⟨hb_18, hf⟩ := chk_out hf
        refine g_iald X 1 rfl hb_18 dX12_digest_94 ?_
        refine g_i2l X dX12_digest_95 ?_
        obtain ⟨t_h_19, hk_20, hf⟩ := ob1_out hf
        refine g_cVW (st := []) (st1 := []) (C := RX12) (ci := 8) (q0 := 0) (ws' := (wd_X12_digest cI cZ h_t h_t_w h_t_isKept h_t_text h_t_statuses h_t_ways h_t_feels h_t_next h_t_came h_t_deep h_t_sizes h_t_tableOf h_t_usedBy h_t_taken h_t_sixOf t_texted t_above t_below t_at t_start t_number t_went t_h_19 t_w)) X (c_X12_mix l D cI cZ h_t h_t_w h_t_isKept h_t_text h_t_statuses h_t_ways h_t_feels h_t_next h_t_came h_t_deep h_t_sizes h_t_tableOf h_t_usedBy h_t_taken h_t_sixOf t_texted t_above t_below t_at t_start t_number t_went t_h ((t_w (38 + v1).toNatClampNeg).toInt64) _ hk_20) (Or.inl rfl) 1 gX12_digest_X12_mix rfl hv_X12_mix ⟨Nat.le_of_ble_eq_true rfl, Nat.le_of_ble_eq_true rfl⟩ rfl rfl (Nat.le_of_ble_eq_true rfl) ⟨rfl, rfl⟩ (Nat.zero_le _) (Nat.zero_le _) rfl rfl rfl dX12_digest_96 [0] rfl rfl [1] rfl rfl (by decide) [1, 0] rfl rfl rfl ?_
        refine g_aload_n X dX12_digest_99 rfl 0 rfl ?_
        refine g_aload_n X dX12_digest_100 rfl 0 rfl ?_
        refine g_get (C := RX12) (T := TX12) (N := 22) (ci := 8) (v := (.ref h_t_w)) X iw_X12_digest_X12 0 rfl rfl 0 (by decide) lk_X12_digest_7 rfl dX12_digest_101 ?_
        refine g_bipush (v := 41) X dX12_digest_104 (by decide) ?_
        refine g_iload_n X dX12_digest_106 rfl 1 rfl ?_
        refine g_iadd X dX12_digest_107 ?_
        obtain ⟨hb_21, hf⟩ := chk_out hf
        refine g_iald X 1 rfl hb_21 dX12_digest_108 ?_
        refine g_i2l X dX12_digest_109 ?_
        obtain ⟨t_h_22, hk_23, hf⟩ := ob1_out hf
        refine g_cVW (st := []) (st1 := []) (C := RX12) (ci := 8) (q0 := 0) (ws' := (wd_X12_digest cI cZ h_t h_t_w h_t_isKept h_t_text h_t_statuses h_t_ways h_t_feels h_t_next h_t_came h_t_deep h_t_sizes h_t_tableOf h_t_usedBy h_t_taken h_t_sixOf t_texted t_above t_below t_at t_start t_number t_went t_h_22 t_w)) X (c_X12_mix l D cI cZ h_t h_t_w h_t_isKept h_t_text h_t_statuses h_t_ways h_t_feels h_t_next h_t_came h_t_deep h_t_sizes h_t_tableOf h_t_usedBy h_t_taken h_t_sixOf t_texted t_above t_below t_at t_start t_number t_went t_h_19 ((t_w (41 + v1).toNatClampNeg).toInt64) _ hk_23) (Or.inl rfl) 1 gX12_digest_X12_mix rfl hv_X12_mix ⟨Nat.le_of_ble_eq_true rfl, Nat.le_of_ble_eq_true rfl⟩ rfl rfl (Nat.le_of_ble_eq_true rfl) ⟨rfl, rfl⟩ (Nat.zero_le _) (Nat.zero_le _) rfl rfl rfl dX12_digest_110 [0] rfl rfl [1] rfl rfl (by decide) [1, 0] rfl rfl rfl ?_
        refine g_aload_n X dX12_digest_113 rfl 0 rfl ?_
        refine g_aload_n X dX12_digest_114 rfl 0 rfl ?_
        refine g_get (C := RX12) (T := TX12) (N := 22) (ci := 8) (v := (.ref h_t_w)) X iw_X12_digest_X12 0 rfl rfl 0 (by decide) lk_X12_digest_7 rfl dX12_digest_115 ?_
        refine g_bipush (v := 44) X dX12_digest_118 (by decide) ?_
        refine g_iload_n X dX12_digest_120 rfl 1 rfl ?_
        refine g_iadd X dX12_digest_121 ?_
        obtain ⟨hb_24, hf⟩ := chk_out hf
        refine g_iald X 1 rfl hb_24 dX12_digest_122 ?_
        refine g_i2l X dX12_digest_123 ?_
        obtain ⟨t_h_25, hk_26, hf⟩ := ob1_out hf
        refine g_cVW (st := []) (st1 := []) (C := RX12) (ci := 8) (q0 := 0) (ws' := (wd_X12_digest cI cZ h_t h_t_w h_t_isKept h_t_text h_t_statuses h_t_ways h_t_feels h_t_next h_t_came h_t_deep h_t_sizes h_t_tableOf h_t_usedBy h_t_taken h_t_sixOf t_texted t_above t_below t_at t_start t_number t_went t_h_25 t_w)) X (c_X12_mix l D cI cZ h_t h_t_w h_t_isKept h_t_text h_t_statuses h_t_ways h_t_feels h_t_next h_t_came h_t_deep h_t_sizes h_t_tableOf h_t_usedBy h_t_taken h_t_sixOf t_texted t_above t_below t_at t_start t_number t_went t_h_22 ((t_w (44 + v1).toNatClampNeg).toInt64) _ hk_26) (Or.inl rfl) 1 gX12_digest_X12_mix rfl hv_X12_mix ⟨Nat.le_of_ble_eq_true rfl, Nat.le_of_ble_eq_true rfl⟩ rfl rfl (Nat.le_of_ble_eq_true rfl) ⟨rfl, rfl⟩ (Nat.zero_le _) (Nat.zero_le _) rfl rfl rfl dX12_digest_124 [0] rfl rfl [1] rfl rfl (by decide) [1, 0] rfl rfl rfl ?_
        obtain ⟨v1_27, ev1_27, hf⟩ := bnd_out hf
        refine g_iinc (v := v1_27) (lv' := [(0, .ref h_t), (1, .int v1_27)]) X dX12_digest_127 1 rfl (by rw [ev1_27]; rfl) (Nat.le_of_ble_eq_true rfl) [1, 0] rfl ?_
        refine g_goto (tgt := 75) X dX12_digest_130 (by decide) ?_
        exact ih t_h_25 v1_27 hf
  have J73 : ∀ (t_h : Int64), f_X12_digest_73 t_texted t_above t_below t_w t_h = some res → G 0 0 (wd_X12_digest cI cZ h_t h_t_w h_t_isKept h_t_text h_t_statuses h_t_ways h_t_feels h_t_next h_t_came h_t_deep h_t_sizes h_t_tableOf h_t_usedBy h_t_taken h_t_sixOf t_texted t_above t_below t_at t_start t_number t_went t_h t_w) [(0, .ref h_t)] 73 [] := by
    intro t_h hf
    unfold f_X12_digest_73 at hf
    refine g_iconst (v := 0) X dX12_digest_73 (by decide) ?_
    refine g_istore_n (lv' := [(0, .ref h_t), (1, .int 0)]) X dX12_digest_74 rfl (Nat.le_of_ble_eq_true rfl) [1, 0] rfl ?_
    exact J75 FU t_h 0 hf
  have J33 : ∀ (n : Nat) (t_h : Int64) (v1 : Int32), f_X12_digest_33 t_texted t_above t_below t_w n t_h v1 = some res → G 0 0 (wd_X12_digest cI cZ h_t h_t_w h_t_isKept h_t_text h_t_statuses h_t_ways h_t_feels h_t_next h_t_came h_t_deep h_t_sizes h_t_tableOf h_t_usedBy h_t_taken h_t_sixOf t_texted t_above t_below t_at t_start t_number t_went t_h t_w) [(0, .ref h_t), (1, .int v1)] 33 [] := by
    intro n
    induction n with
    | zero => intro t_h v1 hf; rw [f_X12_digest_33] at hf; cases hf
    | succ n ih =>
      intro t_h v1 hf
      rw [f_X12_digest_33] at hf
      refine g_iload_n X dX12_digest_33 rfl 1 rfl ?_
      refine g_aload_n X dX12_digest_34 rfl 0 rfl ?_
      refine g_get (C := RX12) (T := TX12) (N := 22) (ci := 8) (v := (.ref h_t_w)) X iw_X12_digest_X12 0 rfl rfl 0 (by decide) lk_X12_digest_7 rfl dX12_digest_35 ?_
      refine g_iconst (v := 0) X dX12_digest_38 (by decide) ?_
      obtain ⟨hb_7, hf⟩ := chk_out hf
      refine g_iald X 1 rfl hb_7 dX12_digest_39 ?_
      refine g_icmp_ge (tgt := 73) X dX12_digest_40 (by decide) (fun hc_8 => ?_) (fun hc_8 => ?_)
      · replace hf := ite_t hc_8 hf
        refine g_lv X (lv' := [(0, .ref h_t)]) [0] rfl ?_
        exact J73 t_h hf
      · replace hf := ite_f hc_8 hf
        refine g_iconst (v := 0) X dX12_digest_43 (by decide) ?_
        refine g_istore_n (lv' := [(0, .ref h_t), (1, .int v1), (2, .int 0)]) X dX12_digest_44 rfl (Nat.le_of_ble_eq_true rfl) [1, 2, 0] rfl ?_
        exact J45 (f_X12_digest_33 t_texted t_above t_below t_w n) ih FU t_h v1 0 hf
  have J31 : ∀ (t_h : Int64), f_X12_digest_31 t_texted t_above t_below t_w t_h = some res → G 0 0 (wd_X12_digest cI cZ h_t h_t_w h_t_isKept h_t_text h_t_statuses h_t_ways h_t_feels h_t_next h_t_came h_t_deep h_t_sizes h_t_tableOf h_t_usedBy h_t_taken h_t_sixOf t_texted t_above t_below t_at t_start t_number t_went t_h t_w) [(0, .ref h_t)] 31 [] := by
    intro t_h hf
    unfold f_X12_digest_31 at hf
    refine g_iconst (v := 0) X dX12_digest_31 (by decide) ?_
    refine g_istore_n (lv' := [(0, .ref h_t), (1, .int 0)]) X dX12_digest_32 rfl (Nat.le_of_ble_eq_true rfl) [1, 0] rfl ?_
    exact J33 FU t_h 0 hf
  have J9 : ∀ (n : Nat) (t_h : Int64) (v1 : Int32), f_X12_digest_9 t_texted t_above t_below t_w n t_h v1 = some res → G 0 0 (wd_X12_digest cI cZ h_t h_t_w h_t_isKept h_t_text h_t_statuses h_t_ways h_t_feels h_t_next h_t_came h_t_deep h_t_sizes h_t_tableOf h_t_usedBy h_t_taken h_t_sixOf t_texted t_above t_below t_at t_start t_number t_went t_h t_w) [(0, .ref h_t), (1, .int v1)] 9 [] := by
    intro n
    induction n with
    | zero => intro t_h v1 hf; rw [f_X12_digest_9] at hf; cases hf
    | succ n ih =>
      intro t_h v1 hf
      rw [f_X12_digest_9] at hf
      refine g_iload_n X dX12_digest_9 rfl 1 rfl ?_
      refine g_bipush (v := 10) X dX12_digest_10 (by decide) ?_
      refine g_icmp_ge (tgt := 31) X dX12_digest_12 (by decide) (fun hc_1 => ?_) (fun hc_1 => ?_)
      · replace hf := ite_t hc_1 hf
        refine g_lv X (lv' := [(0, .ref h_t)]) [0] rfl ?_
        exact J31 t_h hf
      · replace hf := ite_f hc_1 hf
        refine g_aload_n X dX12_digest_15 rfl 0 rfl ?_
        refine g_aload_n X dX12_digest_16 rfl 0 rfl ?_
        refine g_iload_n X dX12_digest_17 rfl 1 rfl ?_
        obtain ⟨r_2, hk_3, hf⟩ := ob1_out hf
        refine g_cVR (st := [.ref h_t]) (st1 := [.int r_2, .ref h_t]) (C := RX12) (ci := 8) (q0 := 0) X (c_X12_countOf l D cI cZ h_t h_t_w h_t_isKept h_t_text h_t_statuses h_t_ways h_t_feels h_t_next h_t_came h_t_deep h_t_sizes h_t_tableOf h_t_usedBy h_t_taken h_t_sixOf t_texted t_above t_below t_at t_start t_number t_went t_h t_w v1 _ hk_3) (Or.inl rfl) 1 gX12_digest_X12_countOf rfl hv_X12_countOf ⟨Nat.le_of_ble_eq_true rfl, Nat.le_of_ble_eq_true rfl⟩ rfl rfl (Nat.le_of_ble_eq_true rfl) ⟨rfl, rfl⟩ (Nat.zero_le _) (Nat.zero_le _) rfl rfl rfl dX12_digest_18 [0, 1] rfl rfl rfl ?_
        refine g_i2l X dX12_digest_21 ?_
        obtain ⟨t_h_4, hk_5, hf⟩ := ob1_out hf
        refine g_cVW (st := []) (st1 := []) (C := RX12) (ci := 8) (q0 := 0) (ws' := (wd_X12_digest cI cZ h_t h_t_w h_t_isKept h_t_text h_t_statuses h_t_ways h_t_feels h_t_next h_t_came h_t_deep h_t_sizes h_t_tableOf h_t_usedBy h_t_taken h_t_sixOf t_texted t_above t_below t_at t_start t_number t_went t_h_4 t_w)) X (c_X12_mix l D cI cZ h_t h_t_w h_t_isKept h_t_text h_t_statuses h_t_ways h_t_feels h_t_next h_t_came h_t_deep h_t_sizes h_t_tableOf h_t_usedBy h_t_taken h_t_sixOf t_texted t_above t_below t_at t_start t_number t_went t_h (r_2.toInt64) _ hk_5) (Or.inl rfl) 1 gX12_digest_X12_mix rfl hv_X12_mix ⟨Nat.le_of_ble_eq_true rfl, Nat.le_of_ble_eq_true rfl⟩ rfl rfl (Nat.le_of_ble_eq_true rfl) ⟨rfl, rfl⟩ (Nat.zero_le _) (Nat.zero_le _) rfl rfl rfl dX12_digest_22 [0] rfl rfl [1] rfl rfl (by decide) [1, 0] rfl rfl rfl ?_
        obtain ⟨v1_6, ev1_6, hf⟩ := bnd_out hf
        refine g_iinc (v := v1_6) (lv' := [(0, .ref h_t), (1, .int v1_6)]) X dX12_digest_25 1 rfl (by rw [ev1_6]; rfl) (Nat.le_of_ble_eq_true rfl) [1, 0] rfl ?_
        refine g_goto (tgt := 9) X dX12_digest_28 (by decide) ?_
        exact ih t_h_4 v1_6 hf
  refine g_aload_n X dX12_digest_0 rfl 0 rfl ?_
  refine g_ldc2 (v := 1553) X dX12_digest_1 lk_X12_digest_324 ?_
  refine g_put (C := RX12) (T := TX12) (N := 22) (ci := 8) (v := .long 1553) (ws' := (wd_X12_digest cI cZ h_t h_t_w h_t_isKept h_t_text h_t_statuses h_t_ways h_t_feels h_t_next h_t_came h_t_deep h_t_sizes h_t_tableOf h_t_usedBy h_t_taken h_t_sixOf t_texted t_above t_below t_at t_start t_number t_went 1553 t_w)) X iw_X12_digest_X12 tyX12 tyX12_ok nmX12 0 rfl rfl 21 (by decide) lk_X12_digest_321 rfl (tyX12_ok 21 (by decide)) rfl rfl (Nat.le_of_ble_eq_true rfl) dX12_digest_4 rfl ?_
  refine g_iconst (v := 0) X dX12_digest_7 (by decide) ?_
  refine g_istore_n (lv' := [(0, .ref h_t), (1, .int 0)]) X dX12_digest_8 rfl (Nat.le_of_ble_eq_true rfl) [1, 0] rfl ?_
  exact J9 FU 1553 0 hf
