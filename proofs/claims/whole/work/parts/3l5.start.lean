theorem wl_r1 : ∀ w ∈ wsL_law_r1, w ∈ wsL_law := by
  intro w h
  simp only [wsL_law, List.mem_append, h, true_or, or_true]
theorem wl_r4 : ∀ w ∈ wsL_law_r4, w ∈ wsL_law := by
  intro w h
  simp only [wsL_law, List.mem_append, h, true_or, or_true]
theorem wl_r5 : ∀ w ∈ wsL_law_r5, w ∈ wsL_law := by
  intro w h
  simp only [wsL_law, List.mem_append, h, true_or, or_true]
theorem rel_zero : Rel 0 0 (fun _ => 0) 0 (fun _ => 0) 0 (fun _ => 0) 0 (fun _ => 0) 0 (fun _ => 0) 0 (fun _ => 0) 0 0 0 (fun _ => 0) 0 (fun _ => 0) 0 (fun _ => 0) 0 (fun _ => 0) 0 (fun _ => 0) 0 (fun _ => 0) 0 0 0 (fun _ => 0) 0 (fun _ => 0) 0 (fun _ => 0) 0 (fun _ => 0) 0 (fun _ => 0) 0 (fun _ => 0) 0 (fun _ => 0) 0 1 (fun _ => 0) (fun _ => 0) (fun _ => 0) (fun _ => 0) (fun _ => 0) (fun _ => 0) 0 0 1 (fun _ => 0) := by
  refine ⟨⟨oZ, XO.zero _ _ _ _ _ _, VO.zero, MO.zero (fun _ _ => rfl)⟩, ⟨Or.inl rfl, rfl, fun h => absurd h (by decide)⟩, ⟨Or.inl rfl, rfl, fun h => absurd h (by decide)⟩, ⟨0, by omega, rfl, rfl, rfl, fun i hi => absurd hi (Nat.not_lt_zero i)⟩, ⟨rfl, rfl⟩, fun _ _ => rfl, rfl, rfl⟩
section ST
variable {G : kG} {l : Launch} {D : va_G} {cI cZ : ClassId} {q : (Nat → Nat) × (Nat → Nat)} {ce sl : Nat} {ws : va_W} {b L : Nat} {xs : Nat → Int32}
set_option maxHeartbeats 4000000 in
set_option maxRecDepth 20000 in
theorem law_start (X : OkL G l D cI cZ (some q) b L xs) (hL : L ≤ 3072) : G 0 0 [] [(0, .ref b)] 0 [] := by
  refine g_new (ci := 7) (fs := [.null, .null, .null, .null, .int 0, .int 0, .null, .null, .null, .null, .null, .null, .null]) (C := RX11) (T := TX11) (N := 13) X.ok (fun w h => (gL_law_X11_init w (iw_X11_init_X11 w h)).1) tyX11 tyX11_ok (wl_r1 _ (by decide +kernel)) (wl_r1 _ (by decide +kernel)) (wl_r1 _ (by decide +kernel)) rfl (fun j hj => by rcases (show j = 0 ∨ j = 1 ∨ j = 2 ∨ j = 3 ∨ j = 4 ∨ j = 5 ∨ j = 6 ∨ j = 7 ∨ j = 8 ∨ j = 9 ∨ j = 10 ∨ j = 11 ∨ j = 12 by omega) with rfl | rfl | rfl | rfl | rfl | rfl | rfl | rfl | rfl | rfl | rfl | rfl | rfl <;> rfl) (Nat.le_of_ble_eq_true rfl) (Nat.le_of_ble_eq_true rfl) dL_law_0 (fun h => ?_)
  refine g_dup X.ok dL_law_3 rfl ?_
  refine g_callIW (st := [.ref h]) X.ok (c_X11_init l D cI cZ h) (Or.inl rfl) 0 gL_law_X11_init (wl_r1 _ (by decide +kernel)) (wl_r1 _ (by decide +kernel)) (wl_r1 _ (by decide +kernel)) rfl rfl hi_X11_init ⟨Nat.le_of_ble_eq_true rfl, Nat.le_of_ble_eq_true rfl⟩ rfl rfl (Nat.le_of_ble_eq_true rfl) (Nat.le_of_ble_eq_true rfl) (Nat.le_of_ble_eq_true rfl) dL_law_4 [0] rfl rfl [] rfl rfl (by decide) (fun v w1 hV => ?_)
  obtain ⟨rfl, q1, q2, q3, q4, q5, q6, q7, q8, q9, q10, q11, q12, q13, q14, q15, q16, q17, q18, q19, q20, q21, q22, q23, q24, q25, q26, q27, q28, q29, q30, q31, q32, q33, q34, q35, q36, q37, q38, q39, q40, q41, q42, q43, q44, q45, q46, q47, q48, q49, q50, q51, q52, q53, q54, q55, q56, q57, q58, q59, q60, q61, q62, q63, q64, q65, q66, q67, rfl⟩ := hV
  refine g_astore_n (lv' := [(1, .ref h), (0, .ref b)]) X.ok dL_law_7 rfl (by decide) [0, 1] rfl ?_
  refine g_new (ci := 8) (fs := [.null, .null, .null, .int 0, .long 0, .long 0, .null, .int 0, .int 0, .int 0, .null, .int 0, .null, .null, .null, .null, .null, .null, .null, .null, .null, .long 0]) (C := RX12) (T := TX12) (N := 22) X.ok (fun w h => (gL_law_X12_init w (iw_X12_init_X12 w h)).1) tyX12 tyX12_ok (wl_r1 _ (by decide +kernel)) (wl_r1 _ (by decide +kernel)) (wl_r1 _ (by decide +kernel)) rfl (fun j hj => by rcases (show j = 0 ∨ j = 1 ∨ j = 2 ∨ j = 3 ∨ j = 4 ∨ j = 5 ∨ j = 6 ∨ j = 7 ∨ j = 8 ∨ j = 9 ∨ j = 10 ∨ j = 11 ∨ j = 12 ∨ j = 13 ∨ j = 14 ∨ j = 15 ∨ j = 16 ∨ j = 17 ∨ j = 18 ∨ j = 19 ∨ j = 20 ∨ j = 21 by omega) with rfl | rfl | rfl | rfl | rfl | rfl | rfl | rfl | rfl | rfl | rfl | rfl | rfl | rfl | rfl | rfl | rfl | rfl | rfl | rfl | rfl | rfl <;> rfl) (Nat.le_of_ble_eq_true rfl) (Nat.le_of_ble_eq_true rfl) dL_law_8 (fun h2 => ?_)
  refine g_dup X.ok dL_law_11 rfl ?_
  refine g_callIW (st := [.ref h2]) X.ok (c_X12_init l D cI cZ h2) (Or.inl rfl) 0 gL_law_X12_init (wl_r1 _ (by decide +kernel)) (wl_r4 _ (by decide +kernel)) (wl_r5 _ (by decide +kernel)) rfl rfl hi_X12_init ⟨Nat.le_of_ble_eq_true rfl, Nat.le_of_ble_eq_true rfl⟩ rfl rfl (Nat.le_of_ble_eq_true rfl) (Nat.le_of_ble_eq_true rfl) (Nat.le_of_ble_eq_true rfl) dL_law_12 [68] rfl rfl [0, 1, 2, 3, 4, 5, 6, 7, 8, 9, 10, 11, 12, 13, 14, 15, 16, 17, 18, 19, 20, 21, 22, 23, 24, 25, 26, 27, 28, 29, 30, 31, 32, 33, 34, 35, 36, 37, 38, 39, 40, 41, 42, 43, 44, 45, 46, 47, 48, 49, 50, 51, 52, 53, 54, 55, 56, 57, 58, 59, 60, 61, 62, 63, 64, 65, 66, 67] rfl rfl (by decide) (fun v w1 hV => ?_)
  obtain ⟨rfl, p1, p2, p3, p4, p5, p6, p7, p8, p9, p10, p11, p12, p13, p14, rfl⟩ := hV
  refine g_astore_n (lv' := [(2, .ref h2), (1, .ref h), (0, .ref b)]) X.ok dL_law_15 rfl (by decide) [0, 1, 2] rfl ?_
  refine g_iconst (v := 0) X.ok dL_law_16 (by decide) ?_
  obtain ⟨hh, ehh⟩ : ∃ hh : Nat → Nat, hh = fun i => [h, q1, q2, q3, q4, q5, q6, q7, q8, q9, q10, q11, q12, q13, q14, q15, q16, q17, q18, q19, q20, q21, q22, q23, q24, q25, q26, q27, q28, q29, q30, q31, q32, q33, q34, q35, q36, q37, q38, q39, q40, q41, q42, q43, q44, q45, q46, q47, q48, q49, q50, q51, q52, q53, q54, q55, q56, q57, q58, q59, q60, q61, q62, q63, q64, q65, q66, q67, h2, p1, p2, p3, p4, p5, p6, p7, p8, p9, p10, p11, p12, p13, p14].getD i 0 := ⟨_, rfl⟩
  refine g_istore_n (lv' := lvL b (hh 0) (hh 68) 0) X.ok dL_law_17 rfl (by decide) [3, 2, 1, 0] (by rw [ehh]; rfl) ?_
  have hS : St cI cZ hh ((List.range 83).map (cF cI cZ hh 0 0 0 0 (fun _ => 0) 0 (fun _ => 0) 0 (fun _ => 0) 0 (fun _ => 0) 0 (fun _ => 0) 0 (fun _ => 0) 0 0 (fun _ => 0) 0 (fun _ => 0) 0 (fun _ => 0) 0 (fun _ => 0) 0 (fun _ => 0) 0 (fun _ => 0) 0 0 (fun _ => 0) 0 (fun _ => 0) 0 (fun _ => 0) 0 (fun _ => 0) 0 (fun _ => 0) 0 (fun _ => 0) 0 0 (fun _ => 0) 0 (fun _ => 0) 0 (fun _ => 0) 0 (fun _ => 0) 0 (fun _ => 0) 0 (fun _ => 0) 0 0 0 0 0 0 0 (fun _ => 0) 0 1 (fun _ => 0) (fun _ => 0) (fun _ => 0) (fun _ => 0) (fun _ => 0) (fun _ => 0) (fun _ => 0) 0 (fun _ => 0) 0 0 1 0 0 0 0 0 (fun _ => 0) (fun _ => 0) (fun _ => 0) (fun _ => 0) (fun _ => 0) (fun _ => 0) (fun _ => 0) (fun _ => 0) (fun _ => 0) (fun _ => 0) (fun _ => 0) (fun _ => 0) (fun _ => 0) (fun _ => 0))) := St.mk rel_zero
  have k := law_loop (ce := 83) (sl := 3304) X hL (Nat.le_of_ble_eq_true rfl) (Nat.le_of_ble_eq_true rfl) (L + 1) 0 _ (Nat.zero_le L) (by omega) hS
  subst ehh
  exact k
end ST
