/-! ===== the call then, both sides ===== -/
theorem c_then_eq {fc fm : Nat → Int32} {t : Tb} {g : Mg} {w : Nat → Int32} {d : Nat} (X : XT fc t) (V : VT t) (Y : XM fm g) (W : VM g) (M : MT w 0 t) (Z : MM w 0 g) (hd : d ≤ 999) (hw : w 2 = nI d)
    (st st2 : Nat → Int32) (tsz : Int32) (tc : Nat → Int32) (went : Int32) (ways : Nat → Int32) (v1 v2 : Int32) :
    ∃ (r : Int32) (c : Option Nat), (∃ ts' tc', f_X11_then (nI d) (nI (tN t)) fc (nI (gN g)) fm st tsz tc v1 v2 = some (r, stx c st, ts', tc')) ∧
      (∃ went' w' ways', f_X12_then went w st2 ways v1 v2 = some (r, went', w', stx c st2, ways') ∧ ∀ x, x < 1204 → w' x = w x) ∧ (∀ i, c = some i → i < 3) := by
  have hn := V.1
  have hb : ∃ (r : Int32) (c : Option Nat), (∃ ts' tc', f_X11_then_18 (nI d) (nI (tN t)) fc (nI (gN g)) fm st tsz tc = some (r, stx c st, ts', tc')) ∧
      (∃ went' w' ways', f_X12_then_20 went w st2 ways = some (r, went', w', stx c st2, ways') ∧ ∀ x, x < 1204 → w' x = w x) ∧ (∀ i, c = some i → i < 3) := by
    refine ⟨-2, some 0, ⟨tsz, tc, ?_⟩, ⟨went, w, ways, ?_, fun _ _ => rfl⟩, fun i hi => ?_⟩
    · unfold f_X11_then_18; rw [x_bad, ob2_s]
    · unfold f_X12_then_20; rw [m_bad, ob2_s]; rfl
    · injection hi with hi; omega
  unfold f_X11_then f_X12_then
  rw [x_isClerk (by omega), m_isClerk M V, ob1_s, ob1_s]
  by_cases h1 : wthn v1 (tN t) = true
  · rw [if_pos h1, if_neg (show ¬ (1 : Int32) = 0 by decide), if_neg (show ¬ (1 : Int32) = 0 by decide), x_within, m_in, ob1_s, ob1_s]
    obtain ⟨k, rfl, hk⟩ := wthn_n h1
    have e0 : (0 : Int32).toInt = (0 : Int64).toInt := rfl
    have e60 : (60 : Int32).toInt = (60 : Int64).toInt := rfl
    rw [e0, e60]
    by_cases h2 : (0 : Int64).toInt ≤ v2.toInt ∧ v2.toInt ≤ (60 : Int64).toInt
    · rw [if_pos h2, if_neg (show ¬ (1 : Int32) = 0 by decide), if_neg (show ¬ (1 : Int32) = 0 by decide)]
      have h2 : 0 ≤ v2.toInt ∧ v2.toInt ≤ 60 := h2
      obtain ⟨N, rfl, hN, -⟩ := nat_of h2.1
      have hN : N ≤ 60 := by omega
      -- the class
      obtain ⟨f1, a1, X1⟩ := x_trial (sz := tsz) (f0 := tc) X hn
      obtain ⟨f2, a2, X2⟩ := x_days X1 V Y W (d := d) (N := N) (by omega) (by omega)
      -- the reference
      obtain ⟨w1, b1, b2⟩ := m_tries w
      have hw1 : w1 1206 = nI (d + 0) := by rw [b2, if_pos (by omega)]; exact hw
      -- `went` of the start is any word: it is not read
      have go : ∀ went : Int32, ∃ went' w' ways', f_X12_then_33 FU went w1 st2 ways (nI k) (nI N) 0 = some (nI (tD (dyT g N d t) k), went', w', st2, ways') ∧ ∀ x, x < 1204 → w' x = w1 x := by
        intro went
        have fin : ∀ (w' : Nat → Int32) (went' : Int32) (ways' : Nat → Int32), MT w' 1204 (dyT g N d t) → dSame 1204 w1 w' → ∃ went'' w'' ways'', f_X12_then_51 went' w' st2 ways' (nI k) = some (nI (tD (dyT g N d t) k), went'', w'', st2, ways'') ∧ ∀ x, x < 1204 → w'' x = w1 x := by
          intro w' went' ways' M' S'
          refine ⟨went', w', ways', ?_, fun x hx => S' x (by omega) (by omega)⟩
          unfold f_X12_then_51
          have hk' : k < tN (dyT g N d t) := by rw [(dyT_n g N d t).1]; exact hk
          rw [show (1221 : Int32) = nI 1221 from rfl, nI_add, chk_n (by omega) (by omega), nI_clamp (by omega), show 1221 + k = 1204 + 17 + k by omega, M'.gd hk']
        by_cases z : N = 0
        · subst z
          rw [show FU = 999999 + 1 from rfl, f_X12_then_33, if_pos (show nI 0 ≤ (0 : Int32) from nI_le (a := 0) (b := 0) (by omega) (by omega))]
          exact fin w1 went ways (tries_MT M hn b2) dSame.refl
        · obtain ⟨N', rfl⟩ : ∃ N', N = N' + 1 := ⟨N - 1, by omega⟩
          rw [show FU = 999999 + 1 from rfl, f_X12_then_33, if_neg (show ¬ nI (N' + 1) ≤ (0 : Int32) from nI_ge (b := N' + 1) (a := 0) (by omega) (by omega))]
          obtain ⟨w2, ways2, e1, M1, Y1, h2', h3⟩ := m_passes (v1 := 1204) (r := 1204) rfl (tries_MT M hn b2) V (tries_MM Z W.1 b2) W (by omega) (d := d + 0) (by omega) hw1 went ways
          rw [e1, ob3_s, show (0 : Int32) = nI 0 from rfl, nI_1, bnd_s]
          obtain ⟨w3, ways3, e3, M3, Y3, h4⟩ := m_then_go W (nI k) st2 (d0 := d) (N := N' + 1) (by omega) N' 1 999999 (moved t g ((d + 0) % 2 == 0)) w2 ways2 _ (by omega) (by omega) M1 (moved_V V g _) Y1 h2'
          rw [e3]
          exact fin w3 _ ways3 M3 (dSame.trans h3 h4)
      obtain ⟨went', w', ways', e, hs⟩ := go went
      refine ⟨nI (tD (dyT g N d t) k), none, ⟨nI (tN t), f2, ?_⟩, ⟨went', w', ways', ?_, fun x hx => ?_⟩, fun i hi => by cases hi⟩
      · rw [a1, ob2_s, a2, ob2_s]
        have hk' : k < tN (dyT g N d t) := by rw [(dyT_n g N d t).1]; exact hk
        have e := X2.d hk' (by rw [(dyT_n g N d t).1]; exact hn)
        rw [(dyT_n g N d t).1] at e
        rw [e, ob1_s]
        rfl
      · rw [b1, ob1_s, e]; rfl
      · rw [hs x hx, b2, if_neg (by omega)]
    · rw [if_neg h2, if_pos rfl, if_pos rfl]
      exact hb
  · rw [if_neg h1, if_pos rfl, if_pos rfl]
    exact hb
