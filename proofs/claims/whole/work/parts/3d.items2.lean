/-! ===== the text: the magnet's, the hook's and the days' item, both sides ===== -/
section IU
variable {n : Nat} {b : Nat → Nat} {f : Nat → Int32} {dy cs : Int32} {cc : Nat → Int32} {ms : Int32} {mc : Nat → Int32} {ts ns ks ps : Int32} {d : Nat} {t : Tb} {g : Mg} {w : Nat → Int32}
/-- the magnet's item behind its word -/
theorem it_magnet (T : TX n b f) {p s : Nat} (hp : p ≤ n) (hsn : s ≤ n) (X : XD dy cs cc ms mc ts ns ks ps d t g) (V : VD d t g) (M : MD w d t g) (k : RdK) (a2 a3 a4 a5 v3 nu went : Int32) (ways : Nat → Int32) :
    ∃ oc fs, CF n f k (ob1 (f_X7_isFull 3 ms) fun r_14 => if r_14 = 0 then (ob7 (f_X9_readThree (nI n) (nI s) a2 a3 a4 a5 (nI p) f) fun r_17 t_start_18 t_token_19 t_value_20 t_kind_21 t_desk_22 t_place_23 => if r_17 = 0 then (f_X9_readInto_188 (nI n) f k t_start_18 t_token_19 t_value_20 t_kind_21 t_desk_22 t_place_23 dy cs cc ms mc ts ns ks ps v3) else (ob5 (f_X9_stops (nI n) t_start_18 t_token_19 t_value_20 t_place_23 f) fun r_26 t_start_27 t_token_28 t_value_29 t_place_30 => if r_26 = 0 then (f_X9_readInto_188 (nI n) f k t_start_27 t_token_28 t_value_29 t_kind_21 t_desk_22 t_place_30 dy cs cc ms mc ts ns ks ps v3) else (f_X9_readInto_189 (nI n) f k t_start_27 t_token_28 t_value_29 t_kind_21 t_desk_22 t_place_30 dy cs cc ms mc ts ns ks ps v3 1))) else (f_X9_readInto_188 (nI n) f k (nI s) a2 a3 a4 a5 (nI p) dy cs cc ms mc ts ns ks ps v3)) v3 oc fs ∧
      MF w (ob5 (f_X12_readsMagnet (nI n) (nI p) (nI s) nu w f) fun r_30 t_at_31 t_start_32 t_number_33 t_w_34 => if r_30 = 0 then (f_X12_readsItem_91 (nI n) f t_at_31 t_start_32 t_number_33 went t_w_34 ways) else (f_X12_readsItem_87 (nI n) f t_at_31 t_start_32 t_number_33 went t_w_34 ways)) oc fs ∧ (∀ q, oc = some q → VD q.2.1 q.2.2.1 q.2.2.2 ∧ p ≤ q.1 ∧ q.1 ≤ n) ∧ fs ≤ n := by
  obtain ⟨rfl, rfl, Xc, rfl, Xm, rfl, rfl, rfl, rfl⟩ := X
  obtain ⟨m1, m2, m3, m4, m5, m6, m7⟩ := M
  have hn7 := V.2.1.1.1
  have hg3 := V.2.2.1
  have ef : f_X7_isFull 3 (nI (gN g)) = some (if gN g < 3 then 0 else 1) := x_isFull (most := 3) (by omega) hg3
  have w903 : w 904 = nI (gN g) := m3.1
  have l1 := plc_le (b := b) hp
  have l2 := plc_le (b := b) l1.2.1
  have l3 := plc_le (b := b) l2.2.1
  have l4 := plc_le (b := b) l3.2.1
  rw [ef, ob1_s]
  unfold f_X12_readsMagnet f_X9_readInto_188 f_X9_readInto_189
  rw [chk_c 904 904 rfl (by omega), cl_c 904 904 rfl (by omega), w903]
  by_cases z : gN g < 3
  · rw [if_pos z, if_pos rfl, if_neg (show ¬ nI (gN g) = 3 from fun q => by have := (nI_eq (b := 3) (by omega) (by omega)).mp q; omega)]
    obtain ⟨v1, v2, v3', k1, k2, v4, v5, e1, g1⟩ := x_three T hp (nI s) a2 a3 a4 a5
    obtain ⟨d1, c1, f1, h1⟩ := m_num T hp (nI s) nu 0 5
    rw [e1, f1, ob4_s]
    by_cases z1 : nok b n p 0 5 = true
    · obtain ⟨hv1, hp1⟩ := h1 z1
      obtain ⟨d2, c2, f2, h2⟩ := m_num T l1.2.1 (nI (sk b n p)) c1 0 11
      rw [if_pos z1, if_neg (b2i_1 z1), hp1, f2, ob4_s]
      by_cases z2 : nok b n (plc b n p) 0 11 = true
      · obtain ⟨hv2, hp2⟩ := h2 z2
        obtain ⟨d3, c3, f3, h3⟩ := m_num T l2.2.1 (nI (sk b n (plc b n p))) c2 1 9
        rw [if_pos z2, if_neg (b2i_1 z2), hp2, f3, ob4_s, ob7_s]
        by_cases z3 : nok b n (plc b n (plc b n p)) 1 9 = true
        · obtain ⟨hv3, hp3⟩ := h3 z3
          have q1 := nok_num z1
          have q2 := nok_num z2
          have q3 := nok_num z3
          have q1 : _ ∧ (0 : Int) ≤ _ ∧ _ ≤ (5 : Int) := q1
          have q2 : _ ∧ (0 : Int) ≤ _ ∧ _ ≤ (11 : Int) := q2
          have q3 : _ ∧ (1 : Int) ≤ _ ∧ _ ≤ (9 : Int) := q3
          obtain ⟨w', e5, M5, fr⟩ := m_addsG (w := w) (b := 903) (by omega) m3 z (nmv b (sk b n p) (dE b n p)) (nmv b (sk b n (plc b n p)) (dE b n (plc b n p))) (nmv b (sk b n (plc b n (plc b n p))) (dE b n (plc b n (plc b n p))))
          have e5 : f_X12_addsMagnet w 903 (nI (nmv b (sk b n p) (dE b n p))) (nI (nmv b (sk b n (plc b n p)) (dE b n (plc b n p)))) (nI (nmv b (sk b n (plc b n (plc b n p))) (dE b n (plc b n (plc b n p))))) = some w' := e5
          obtain ⟨vs, e6, g6⟩ := x_stops T l3.2.1 (nI (sk b n (plc b n (plc b n p)))) v1 v2
          rw [if_neg (b2i_1 z3), if_neg (b2i_1 z3), hv1, hv2, hv3, e5, ob1_s, ob5_s, if_neg one_ne, hp3, m_end T l3.2.1, e6, ob5_s]
          by_cases z4 : tok b n (plc b n (plc b n (plc b n p))) = 3
          · have ev := g6 z4
            have ea := x_add3 (s := gN g) (f := mc) z (nI (nmv b (sk b n p) (dE b n p))) (nI (nmv b (sk b n (plc b n p)) (dE b n (plc b n p)))) (nI (nmv b (sk b n (plc b n (plc b n p))) (dE b n (plc b n (plc b n p))))) 0 0
            rw [decide_eq_true z4, if_neg (show ¬ b2i true = 0 by decide), if_neg one_ne, ev, g1 z1 z2 z3, if_pos z4]
            unfold f_X6_addMagnet f_X7_empty
            rw [ob1_s, ea, ob3_s, ob4_s]
            refine ⟨some (plc b n (plc b n (plc b n (plc b n p))), d, t, addG g (nmv b (sk b n p) (dE b n p)) (nmv b (sk b n (plc b n p)) (dE b n (plc b n p))) (nmv b (sk b n (plc b n (plc b n p))) (dE b n (plc b n (plc b n p))))), 0, ⟨_, _, _, _, _, _, _, _, _, _, _, _, _, _, rfl, rfl, rfl, Xc, rfl, addG_X Xm _ _ _, rfl, rfl, rfl, rfl⟩, ⟨_, _, _, w', _, rfl, ⟨by rw [fr 905 (by omega)]; exact m1, MT.fr m2 hn7 (fun y _ _ _ _ => fr y (by omega)), M5, by rw [fr 950 (by omega)]; exact m4, by rw [fr 971 (by omega)]; exact m5, by rw [fr 996 (by omega)]; exact m6, by rw [fr 1027 (by omega)]; exact m7⟩, fun x hx => fr x (by omega)⟩, fun q hq => ?_, Nat.zero_le _⟩
            injection hq with hq
            rw [← hq]
            exact ⟨⟨V.1, V.2.1, addG_V V.2.2 z (by omega) (by omega) (by omega) (by omega)⟩, by show p ≤ plc b n (plc b n (plc b n (plc b n p))); omega, l4.2.1⟩
          · rw [decide_eq_false z4, if_pos (show b2i false = 0 by decide), if_pos rfl, if_neg z4]
            exact ⟨none, _, ⟨_, _, _, _, _, _, _, _, _, _, _, _, _, _, rfl⟩, ⟨_, _, _, w', _, rfl, fun x hx => fr x (by omega)⟩, fun q hq => (by cases hq), (by first | exact hsn | exact (sk_le hp).2 | exact (sk_le l1.2.1).2 | exact (sk_le l2.2.1).2 | exact (sk_le l3.2.1).2)⟩
        · rw [if_pos (b2i_0.mpr (not_t z3)), if_pos (b2i_0.mpr (not_t z3)), if_pos rfl, ob5_s, if_pos rfl, m_91]
          exact ⟨none, _, ⟨_, _, _, _, _, _, _, _, _, _, _, _, _, _, rfl⟩, ⟨_, _, _, w, _, rfl, fun _ _ => rfl⟩, fun q hq => (by cases hq), (by first | exact hsn | exact (sk_le hp).2 | exact (sk_le l1.2.1).2 | exact (sk_le l2.2.1).2 | exact (sk_le l3.2.1).2)⟩
      · rw [if_neg z2, ob7_s, if_pos rfl, if_pos rfl, if_pos (b2i_0.mpr (not_t z2)), ob5_s, if_pos rfl, m_91]
        exact ⟨none, _, ⟨_, _, _, _, _, _, _, _, _, _, _, _, _, _, rfl⟩, ⟨_, _, _, w, _, rfl, fun _ _ => rfl⟩, fun q hq => (by cases hq), (by first | exact hsn | exact (sk_le hp).2 | exact (sk_le l1.2.1).2 | exact (sk_le l2.2.1).2 | exact (sk_le l3.2.1).2)⟩
    · rw [if_neg z1, ob7_s, if_pos rfl, if_pos rfl, if_pos (b2i_0.mpr (not_t z1)), ob5_s, if_pos rfl, m_91]
      exact ⟨none, _, ⟨_, _, _, _, _, _, _, _, _, _, _, _, _, _, rfl⟩, ⟨_, _, _, w, _, rfl, fun _ _ => rfl⟩, fun q hq => (by cases hq), (by first | exact hsn | exact (sk_le hp).2 | exact (sk_le l1.2.1).2 | exact (sk_le l2.2.1).2 | exact (sk_le l3.2.1).2)⟩
  · rw [if_neg z, if_neg one_ne, if_pos rfl, if_pos (show nI (gN g) = 3 by rw [show gN g = 3 by omega]; rfl), ob5_s, if_pos rfl, m_91]
    exact ⟨none, _, ⟨_, _, _, _, _, _, _, _, _, _, _, _, _, _, rfl⟩, ⟨_, _, _, w, _, rfl, fun _ _ => rfl⟩, fun q hq => (by cases hq), (by first | exact hsn | exact (sk_le hp).2 | exact (sk_le l1.2.1).2 | exact (sk_le l2.2.1).2 | exact (sk_le l3.2.1).2)⟩
/-- the hook's item behind its word -/
theorem sub1_32 {n : Nat} (hn : n < 2 ^ 31) : (nI n - 1).toInt = (n : Int) - 1 := by
  have h := sub1_64 hn
  rw [Int32.toInt_toInt64] at h
  exact h
theorem it_hook (T : TX n b f) {p s : Nat} (hp : p ≤ n) (hsn : s ≤ n) (X : XD dy cs cc ms mc ts ns ks ps d t g) (V : VD d t g) (M : MD w d t g) (k : RdK) (a2 a3 v4 v5 v3 nu went : Int32) (ways : Nat → Int32) :
    ∃ oc fs, CF n f k (ob6 (f_X9_readHook (nI n) (nI s) a2 a3 (nI p) f 5 cs 35 cc) fun r_54 t_start_55 t_token_56 t_value_57 t_place_58 p1_clerks_cells_59 => if r_54 = 0 then (f_X9_readInto_236 (nI n) f k t_start_55 t_token_56 t_value_57 v4 v5 t_place_58 dy cs p1_clerks_cells_59 ms mc ts ns ks ps v3) else (ob5 (f_X9_stops (nI n) t_start_55 t_token_56 t_value_57 t_place_58 f) fun r_62 t_start_63 t_token_64 t_value_65 t_place_66 => if r_62 = 0 then (f_X9_readInto_236 (nI n) f k t_start_63 t_token_64 t_value_65 v4 v5 t_place_66 dy cs p1_clerks_cells_59 ms mc ts ns ks ps v3) else (f_X9_readInto_237 (nI n) f k t_start_63 t_token_64 t_value_65 v4 v5 t_place_66 dy cs p1_clerks_cells_59 ms mc ts ns ks ps v3 1))) v3 oc fs ∧
      MF w (ob5 (f_X12_readsHook (nI n) (nI p) (nI s) nu w f) fun r_16 t_at_17 t_start_18 t_number_19 t_w_20 => if r_16 = 0 then (f_X12_readsItem_91 (nI n) f t_at_17 t_start_18 t_number_19 went t_w_20 ways) else (f_X12_readsItem_87 (nI n) f t_at_17 t_start_18 t_number_19 went t_w_20 ways)) oc fs ∧ (∀ q, oc = some q → VD q.2.1 q.2.2.1 q.2.2.2 ∧ p ≤ q.1 ∧ q.1 ≤ n) ∧ fs ≤ n := by
  obtain ⟨rfl, rfl, Xc, rfl, Xm, rfl, rfl, rfl, rfl⟩ := X
  obtain ⟨m1, m2, m3, m4, m5, m6, m7⟩ := M
  have hn7 := V.2.1.1.1
  have hg3 := V.2.2.1
  have w903 : w 903 = nI (tN t) := m2.1
  have l1 := plc_le (b := b) hp
  have l2 := plc_le (b := b) l1.2.1
  have l3 := plc_le (b := b) l2.2.1
  unfold f_X12_readsHook f_X9_readHook f_X9_readInto_236 f_X9_readInto_237
  rw [chk_c 903 903 rfl (by omega), cl_c 903 903 rfl (by omega), w903, x_size, ob1_s, bnd_s]
  obtain ⟨u1, e1, g1⟩ := x_readNumber T hp (nI s) a2 a3 0 (nI (tN t) - 1)
  obtain ⟨d1, c1, f1, h1⟩ := m_num T hp (nI s) nu 0 (nI (tN t) - 1)
  rw [e1, f1, ob4_s, ob5_s]
  by_cases z1 : nok b n p 0 (nI (tN t) - 1) = true
  · obtain ⟨hv1, hp1⟩ := h1 z1
    have q1 := (nok_num z1).2.2
    rw [sub1_32 (show tN t < 2 ^ 31 by omega)] at q1
    have hi : nmv b (sk b n p) (dE b n p) < tN t := by omega
    have go := m2.go hi
    have ea : (934 : Int32) + nI (nmv b (sk b n p) (dE b n p)) = nI (903 + 31 + nmv b (sk b n p) (dE b n p)) := nI_add 934 _
    rw [if_neg (b2i_1 z1), if_neg (b2i_1 z1), g1 z1, hv1, hp1, Xc.o hi hn7, ob1_s, ea, chk_n (by omega) (by omega), nI_clamp (by omega), go]
    by_cases y : tO t (nmv b (sk b n p) (dE b n p)) = none
    · have y' := (onv_nil (V.2.1.1.on31 hi)).mpr y
      obtain ⟨u2, e2, g2⟩ := x_readNumber T l1.2.1 (nI (sk b n p)) (nI (tok b n p)) (nI (nmv b (sk b n p) (dE b n p))) 0 (nI (tN t) - 1)
      obtain ⟨d2, c2, f2, h2⟩ := m_num T l1.2.1 (nI (sk b n p)) (nI (nmv b (sk b n p) (dE b n p))) 0 (nI (tN t) - 1)
      rw [if_pos y', if_pos y', chk_c 903 903 rfl (by omega), e2, f2, ob4_s, ob5_s]
      by_cases z2 : nok b n (plc b n p) 0 (nI (tN t) - 1) = true
      · obtain ⟨hv2, hp2⟩ := h2 z2
        have q2 := (nok_num z2).2.2
        rw [sub1_32 (show tN t < 2 ^ 31 by omega)] at q2
        have hj : nmv b (sk b n (plc b n p)) (dE b n (plc b n p)) < tN t := by omega
        have eo : f_X12_isOver w 903 (nI (nmv b (sk b n p) (dE b n p))) (nI (nmv b (sk b n (plc b n p)) (dE b n (plc b n p)))) = some (if ovr t (nmv b (sk b n p) (dE b n p)) (nmv b (sk b n (plc b n p)) (dE b n (plc b n p))) then 1 else 0) := m_over (v1 := 903) (r := 903) rfl m2 V.2.1.1 (by omega) hi hj
        have en : f_X12_onIt w 903 (nI (nmv b (sk b n (plc b n p)) (dE b n (plc b n p)))) = some (nI (onN t (some (nmv b (sk b n (plc b n p)) (dE b n (plc b n p)))))) := m_onN (v1 := 903) (r := 903) rfl m2 V.2.1.1 (by omega) (o := some (nmv b (sk b n (plc b n p)) (dE b n (plc b n p)))) (fun j hj => by injection hj with hj; omega)
        have h22 := V.2.1.2 _ hj
        rw [if_neg (b2i_1 z2), if_neg (b2i_1 z2), g2 z2, hv2, hp2, x_can Xc V.2.1.1 hi hj, ob1_s, eo, ob1_s]
        by_cases x : hold t (nmv b (sk b n p) (dE b n p)) (nmv b (sk b n (plc b n p)) (dE b n (plc b n p))) = true
        · obtain ⟨x1, x2⟩ := hold_ok x
          obtain ⟨vs, e6, g6⟩ := x_stops T l2.2.1 (nI (sk b n (plc b n p))) (nI (tok b n (plc b n p))) (nI (nmv b (sk b n (plc b n p)) (dE b n (plc b n p))))
          have M5 := MT.setO m2 hn7 (nmv b (sk b n p) (dE b n p)) (some (nmv b (sk b n (plc b n p)) (dE b n (plc b n p)))) (nI (nmv b (sk b n (plc b n p)) (dE b n (plc b n p)))) rfl
          have fr : ∀ y, (y < 934 ∨ 941 ≤ y) → upd w (903 + 31 + nmv b (sk b n p) (dE b n p)) (nI (nmv b (sk b n (plc b n p)) (dE b n (plc b n p)))) y = w y := fun y hy => pk_un (by omega)
          rw [if_pos x, if_neg one_ne, c_put (C := 4) (c := 4) rfl hi hn7 (by omega), ob1_s, x1, if_neg Bool.false_ne_true, if_pos rfl, en, ob1_s, if_neg (show ¬ nI (onN t (some (nmv b (sk b n (plc b n p)) (dE b n (plc b n p))))) = 2 from fun q => by have := (nI_eq (b := 2) (by omega) (by omega)).mp q; omega), chk_n (by omega) (by omega), bnd_s, ob6_s, if_neg one_ne, ob5_s, if_neg one_ne, m_end T l2.2.1, e6, ob5_s]
          by_cases z4 : tok b n (plc b n (plc b n p)) = 3
          · rw [decide_eq_true z4, if_neg (show ¬ b2i true = 0 by decide), if_pos z4]
            refine ⟨some (plc b n (plc b n (plc b n p)), d, stO t (nmv b (sk b n p) (dE b n p)) (some (nmv b (sk b n (plc b n p)) (dE b n (plc b n p)))), g), 0, ⟨_, _, _, _, _, _, _, _, _, _, _, _, _, _, rfl, rfl, rfl, XT.setO Xc _ (some _), rfl, Xm, rfl, rfl, rfl, rfl⟩, ⟨_, _, _, _, _, rfl, ⟨by rw [fr 905 (by omega)]; exact m1, M5, MM.fr m3 hg3 (fun y hy => fr y (by omega)), by rw [fr 950 (by omega)]; exact m4, by rw [fr 971 (by omega)]; exact m5, by rw [fr 996 (by omega)]; exact m6, by rw [fr 1027 (by omega)]; exact m7⟩, fun x hx => fr x (by omega)⟩, fun q hq => ?_, Nat.zero_le _⟩
            injection hq with hq
            rw [← hq]
            exact ⟨⟨V.1, VH.hook V.2.1 hj x1 x2, V.2.2⟩, by show p ≤ plc b n (plc b n (plc b n p)); omega, l3.2.1⟩
          · rw [decide_eq_false z4, if_pos (show b2i false = 0 by decide), if_neg z4]
            exact ⟨none, _, ⟨_, _, _, _, _, _, _, _, _, _, _, _, _, _, rfl⟩, ⟨_, _, _, _, _, rfl, fun x hx => fr x (by omega)⟩, fun q hq => (by cases hq), (by first | exact hsn | exact (sk_le hp).2 | exact (sk_le l1.2.1).2 | exact (sk_le l2.2.1).2 | exact (sk_le l3.2.1).2)⟩
        · rw [if_neg x, if_pos rfl, ob6_s, if_pos rfl]
          by_cases x1 : ovr t (nmv b (sk b n p) (dE b n p)) (nmv b (sk b n (plc b n p)) (dE b n (plc b n p))) = true
          · rw [x1, if_pos rfl, if_neg one_ne, ob5_s, if_pos rfl, m_91]
            exact ⟨none, _, ⟨_, _, _, _, _, _, _, _, _, _, _, _, _, _, rfl⟩, ⟨_, _, _, w, _, rfl, fun _ _ => rfl⟩, fun q hq => (by cases hq), (by first | exact hsn | exact (sk_le hp).2 | exact (sk_le l1.2.1).2 | exact (sk_le l2.2.1).2 | exact (sk_le l3.2.1).2)⟩
          · have x2 : onN t (some (nmv b (sk b n (plc b n p)) (dE b n (plc b n p)))) = 2 := Classical.byContradiction (fun q => x (by unfold hold; rw [not_t x1, decide_eq_true (show onN t (some (nmv b (sk b n (plc b n p)) (dE b n (plc b n p)))) < 2 by omega)]; rfl))
            rw [not_t x1, if_neg Bool.false_ne_true, if_pos rfl, en, ob1_s, if_pos (show nI (onN t (some (nmv b (sk b n (plc b n p)) (dE b n (plc b n p))))) = 2 by rw [x2]; rfl), ob5_s, if_pos rfl, m_91]
            exact ⟨none, _, ⟨_, _, _, _, _, _, _, _, _, _, _, _, _, _, rfl⟩, ⟨_, _, _, w, _, rfl, fun _ _ => rfl⟩, fun q hq => (by cases hq), (by first | exact hsn | exact (sk_le hp).2 | exact (sk_le l1.2.1).2 | exact (sk_le l2.2.1).2 | exact (sk_le l3.2.1).2)⟩
      · rw [if_pos (b2i_0.mpr (not_t z2)), if_pos (b2i_0.mpr (not_t z2)), ob6_s, if_pos rfl, ob5_s, if_pos rfl, m_91]
        exact ⟨none, _, ⟨_, _, _, _, _, _, _, _, _, _, _, _, _, _, rfl⟩, ⟨_, _, _, w, _, rfl, fun _ _ => rfl⟩, fun q hq => (by cases hq), (by first | exact hsn | exact (sk_le hp).2 | exact (sk_le l1.2.1).2 | exact (sk_le l2.2.1).2 | exact (sk_le l3.2.1).2)⟩
    · have y' : ¬ onv (tO t (nmv b (sk b n p) (dE b n p))) = -1 := fun q => y ((onv_nil (V.2.1.1.on31 hi)).mp q)
      rw [if_neg y', if_neg y', ob6_s, if_pos rfl, ob5_s, if_pos rfl, m_91]
      exact ⟨none, _, ⟨_, _, _, _, _, _, _, _, _, _, _, _, _, _, rfl⟩, ⟨_, _, _, w, _, rfl, fun _ _ => rfl⟩, fun q hq => (by cases hq), (by first | exact hsn | exact (sk_le hp).2 | exact (sk_le l1.2.1).2 | exact (sk_le l2.2.1).2 | exact (sk_le l3.2.1).2)⟩
  · rw [if_pos (b2i_0.mpr (not_t z1)), if_pos (b2i_0.mpr (not_t z1)), ob6_s, if_pos rfl, ob5_s, if_pos rfl, m_91]
    exact ⟨none, _, ⟨_, _, _, _, _, _, _, _, _, _, _, _, _, _, rfl⟩, ⟨_, _, _, w, _, rfl, fun _ _ => rfl⟩, fun q hq => (by cases hq), (by first | exact hsn | exact (sk_le hp).2 | exact (sk_le l1.2.1).2 | exact (sk_le l2.2.1).2 | exact (sk_le l3.2.1).2)⟩
/-- the days' item behind its word -/
theorem m_rd_days (W : VM g) (n' : Int32) (f : Nat → Int32) (a s : Int32) {N : Nat} (hN : N < 2 ^ 30) : ∀ (e j q d : Nat) (t : Tb) (w ways : Nat → Int32) (went : Int32), j + e = N → e < q → d ≤ 999 → MT w 903 t → VT t → MM w 903 g → w 905 = nI d →
    ∃ went' w' ways', f_X12_readsDays_14 n' f q a s (nI N) went w ways (nI j) = some (1, a, s, nI N, went', w', ways') ∧ MT w' 903 (dyT g (min e (999 - d)) d t) ∧ MM w' 903 g ∧ w' 905 = nI (d + min e (999 - d)) ∧ dSame 903 w w' := by
  intro e
  induction e with
  | zero =>
    intro j q d t w ways went hj hq hd M V Y hw
    obtain ⟨q, rfl⟩ : ∃ q', q = q' + 1 := ⟨q - 1, by omega⟩
    obtain rfl : j = N := by omega
    rw [f_X12_readsDays_14, if_pos (nI_le (Nat.le_refl _) (by omega)), show min 0 (999 - d) = 0 by omega]
    exact ⟨went, w, ways, rfl, M, Y, hw, dSame.refl⟩
  | succ e ih =>
    intro j q d t w ways went hj hq hd M V Y hw
    obtain ⟨q, rfl⟩ : ∃ q', q = q' + 1 := ⟨q - 1, by omega⟩
    rw [f_X12_readsDays_14, if_neg (nI_ge (by omega) (by omega)), chk_c 905 905 rfl (by omega), cl_c 905 905 rfl (by omega), hw]
    unfold f_X12_readsDays_43
    by_cases z : d = 999
    · obtain ⟨went', w', ways', e1, M1, Y1, h1, h2⟩ := ih (j + 1) q d t w ways went (by omega) (by omega) hd M V Y hw
      rw [if_pos (show (999 : Int32) ≤ nI d by rw [z]; decide), nI_1, bnd_s, show min (e + 1) (999 - d) = min e (999 - d) by omega]
      exact ⟨went', w', ways', e1, M1, Y1, h1, h2⟩
    · obtain ⟨w1, ways1, e1, M1, Y1, h1, h2⟩ := m_passes (v1 := 903) (r := 903) rfl M V Y W (by omega) (d := d) (by omega) hw went ways
      have e1 : f_X12_passes went w ways 903 = some (nI (wentN t g (d % 2 == 0)), w1, ways1) := e1
      rw [if_neg (show ¬ (999 : Int32) ≤ nI d from nI_ge (b := 999) (by omega) (by omega)), e1, ob3_s, nI_1, bnd_s, show min (e + 1) (999 - d) = min e (999 - (d + 1)) + 1 by omega]
      obtain ⟨went', w', ways', e2, M2, Y2, h3, h4⟩ := ih (j + 1) q (d + 1) (moved t g (d % 2 == 0)) w1 ways1 (nI (wentN t g (d % 2 == 0))) (by omega) (by omega) (by omega) M1 (moved_V V g _) Y1 h1
      exact ⟨went', w', ways', e2, M2, Y2, by rw [h3, show d + 1 + min e (999 - (d + 1)) = d + (min e (999 - (d + 1)) + 1) by omega], dSame.trans h2 h4⟩
theorem it_days (T : TX n b f) {p s : Nat} (hp : p ≤ n) (hsn : s ≤ n) (X : XD dy cs cc ms mc ts ns ks ps d t g) (V : VD d t g) (M : MD w d t g) (k : RdK) (a2 a3 v4 v5 v3 nu went : Int32) (ways : Nat → Int32) :
    ∃ oc fs, CF n f k (ob5 (f_X9_readNumber (nI n) (nI s) a2 a3 (nI p) f 1 99) fun r_70 t_start_71 t_token_72 t_value_73 t_place_74 => if r_70 = 0 then (f_X9_readInto_262 (nI n) f k t_start_71 t_token_72 t_value_73 v4 v5 t_place_74 dy cs cc ms mc ts ns ks ps v3) else (ob5 (f_X9_stops (nI n) t_start_71 t_token_72 t_value_73 t_place_74 f) fun r_77 t_start_78 t_token_79 t_value_80 t_place_81 => if r_77 = 0 then (f_X9_readInto_262 (nI n) f k t_start_78 t_token_79 t_value_80 v4 v5 t_place_81 dy cs cc ms mc ts ns ks ps v3) else (f_X9_readInto_263 (nI n) f k t_start_78 t_token_79 t_value_80 v4 v5 t_place_81 dy cs cc ms mc ts ns ks ps v3 1))) v3 oc fs ∧
      MF w (ob7 (f_X12_readsDays (nI n) (nI p) (nI s) nu went w f ways) fun r_7 t_at_8 t_start_9 t_number_10 t_went_11 t_w_12 t_ways_13 => if r_7 = 0 then (f_X12_readsItem_91 (nI n) f t_at_8 t_start_9 t_number_10 t_went_11 t_w_12 t_ways_13) else (f_X12_readsItem_87 (nI n) f t_at_8 t_start_9 t_number_10 t_went_11 t_w_12 t_ways_13)) oc fs ∧ (∀ q, oc = some q → VD q.2.1 q.2.2.1 q.2.2.2 ∧ p ≤ q.1 ∧ q.1 ≤ n) ∧ fs ≤ n := by
  obtain ⟨rfl, rfl, Xc, rfl, Xm, rfl, rfl, rfl, rfl⟩ := X
  obtain ⟨m1, m2, m3, m4, m5, m6, m7⟩ := M
  have hn7 := V.2.1.1.1
  have hg3 := V.2.2.1
  have l1 := plc_le (b := b) hp
  have l2 := plc_le (b := b) l1.2.1
  unfold f_X12_readsDays f_X9_readInto_262 f_X9_readInto_263
  obtain ⟨u1, e1, g1⟩ := x_readNumber T hp (nI s) a2 a3 1 99
  obtain ⟨d1, c1, f1, h1⟩ := m_num T hp (nI s) nu 1 99
  rw [e1, f1, ob4_s, ob5_s]
  by_cases z1 : nok b n p 1 99 = true
  · obtain ⟨hv1, hp1⟩ := h1 z1
    have q1 := nok_num z1
    have q1 : _ ∧ (1 : Int) ≤ _ ∧ _ ≤ (99 : Int) := q1
    obtain ⟨vs, e6, g6⟩ := x_stops T l1.2.1 (nI (sk b n p)) (nI (tok b n p)) (nI (nmv b (sk b n p) (dE b n p)))
    obtain ⟨went', w', ways', e2, M2, Y2, hd2, hs2⟩ := m_rd_days V.2.2 (nI n) f (nI (plc b n p)) (nI (sk b n p)) (N := nmv b (sk b n p) (dE b n p)) (by omega) (nmv b (sk b n p) (dE b n p)) 0 FU d t w ways went (by omega) (Nat.lt_of_le_of_lt (show nmv b (sk b n p) (dE b n p) ≤ 99 by omega) (by decide)) V.1 m2 V.2.1.1 m3 m1
    have e2 : f_X12_readsDays_14 (nI n) f FU (nI (plc b n p)) (nI (sk b n p)) (nI (nmv b (sk b n p) (dE b n p))) went w ways 0 = some (1, nI (plc b n p), nI (sk b n p), nI (nmv b (sk b n p) (dE b n p)), went', w', ways') := e2
    rw [if_neg (b2i_1 z1), if_neg (b2i_1 z1), g1 z1, hv1, hp1, e2, ob7_s, if_neg one_ne, m_end T l1.2.1, e6, ob5_s]
    by_cases z4 : tok b n (plc b n p) = 3
    · have ev := g6 z4
      obtain ⟨fc', e7, X7⟩ := x_passDays Xc V.2.1.1 Xm V.2.2 V.1 (N := nmv b (sk b n p) (dE b n p)) (by omega)
      have dn := dyT_n g (min (nmv b (sk b n p) (dE b n p)) (999 - d)) d t
      rw [decide_eq_true z4, if_neg (show ¬ b2i true = 0 by decide), if_neg one_ne, ev, e7, ob3_s, if_pos z4]
      refine ⟨some (plc b n (plc b n p), d + min (nmv b (sk b n p) (dE b n p)) (999 - d), dyT g (min (nmv b (sk b n p) (dE b n p)) (999 - d)) d t, g), 0, ⟨_, _, _, _, _, _, _, _, _, _, _, _, _, _, rfl, rfl, by rw [dn.1], X7, rfl, Xm, rfl, rfl, rfl, rfl⟩, ⟨_, _, _, w', _, rfl, ⟨hd2, M2, Y2, by rw [hs2 950 (by omega) (by omega)]; exact m4, by rw [hs2 971 (by omega) (by omega)]; exact m5, by rw [hs2 996 (by omega) (by omega)]; exact m6, by rw [hs2 1027 (by omega) (by omega)]; exact m7⟩, fun x hx => hs2 x (by omega) (by omega)⟩, fun q hq => ?_, Nat.zero_le _⟩
      injection hq with hq
      rw [← hq]
      exact ⟨⟨by show d + min (nmv b (sk b n p) (dE b n p)) (999 - d) ≤ 999; have := V.1; omega, dyT_H g _ _ V.2.1, V.2.2⟩, by show p ≤ plc b n (plc b n p); omega, l2.2.1⟩
    · rw [decide_eq_false z4, if_pos (show b2i false = 0 by decide), if_pos rfl, if_neg z4]
      exact ⟨none, _, ⟨_, _, _, _, _, _, _, _, _, _, _, _, _, _, rfl⟩, ⟨_, _, _, w', _, rfl, fun x hx => hs2 x (by omega) (by omega)⟩, fun q hq => (by cases hq), (by first | exact hsn | exact (sk_le hp).2 | exact (sk_le l1.2.1).2 | exact (sk_le l2.2.1).2 | exact (sk_le l3.2.1).2)⟩
  · rw [if_pos (b2i_0.mpr (not_t z1)), if_pos (b2i_0.mpr (not_t z1)), if_pos rfl, ob7_s, if_pos rfl, m_91]
    exact ⟨none, _, ⟨_, _, _, _, _, _, _, _, _, _, _, _, _, _, rfl⟩, ⟨_, _, _, w, _, rfl, fun _ _ => rfl⟩, fun q hq => (by cases hq), (by first | exact hsn | exact (sk_le hp).2 | exact (sk_le l1.2.1).2 | exact (sk_le l2.2.1).2 | exact (sk_le l3.2.1).2)⟩
end IU
