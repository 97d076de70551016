/-! ===== the days of the call day, both sides ===== -/
theorem m_day_go {g : Mg} (W : VM g) (st : Nat → Int32) {N : Nat} (hN : N < 2 ^ 30) : ∀ (e j q d : Nat) (t : Tb) (w : Nat → Int32) (ways : Nat → Int32) (went : Nat), j + e = N → e < q → d ≤ 999 → MT w 0 t → VT t → MM w 0 g → w 2 = nI d →
    ∃ w' ways', f_X12_day_30 q (nI went) w st ways (nI N) (nI j) = f_X12_day_58 (nI (dyW g (min e (999 - d)) d t went)) w' st ways' ∧ MT w' 0 (dyT g (min e (999 - d)) d t) ∧ MM w' 0 g ∧ w' 2 = nI (d + min e (999 - d)) ∧ dSame 0 w w' := by
  intro e
  induction e with
  | zero =>
    intro j q d t w ways went hj hq hd M V Y hw
    obtain ⟨q, rfl⟩ : ∃ q', q = q' + 1 := ⟨q - 1, by omega⟩
    obtain rfl : j = N := by omega
    rw [f_X12_day_30, if_pos (nI_le (Nat.le_refl _) (by omega)), show min 0 (999 - d) = 0 by omega]
    exact ⟨w, ways, rfl, M, Y, hw, dSame.refl⟩
  | succ e ih =>
    intro j q d t w ways went hj hq hd M V Y hw
    obtain ⟨q, rfl⟩ : ∃ q', q = q' + 1 := ⟨q - 1, by omega⟩
    rw [f_X12_day_30, if_neg (nI_ge (by omega) (by omega)), show (2 : Int32) = nI 2 from rfl, chk_n (by omega) (by omega), nI_clamp (by omega), hw]
    by_cases z : d = 999
    · subst z
      rw [if_pos (show (999 : Int32) ≤ nI 999 by decide), show min (e + 1) (999 - 999) = 0 by omega]
      exact ⟨w, ways, rfl, M, Y, hw, dSame.refl⟩
    · rw [if_neg (show ¬ (999 : Int32) ≤ nI d from nI_ge (b := 999) (by omega) (by omega))]
      obtain ⟨w', ways', e1, M1, Y1, h2, h3⟩ := m_passes (v1 := 0) (r := 0) rfl M V Y W (by omega) (d := d) (by omega) hw (nI went) ways
      rw [e1, ob3_s, nI_1, bnd_s, show min (e + 1) (999 - d) = min e (999 - (d + 1)) + 1 by omega]
      obtain ⟨w2, ways2, e2, M2, Y2, h4, h5⟩ := ih (j + 1) q (d + 1) (moved t g (d % 2 == 0)) w' ways' _ (by omega) (by omega) (by omega) M1 (moved_V V g _) Y1 h2
      refine ⟨w2, ways2, e2, M2, Y2, ?_, dSame.trans h3 h5⟩
      rw [h4, show d + 1 + min e (999 - (d + 1)) = d + (min e (999 - (d + 1)) + 1) by omega]
theorem nI_sub {a b : Nat} (h : b ≤ a) : nI a - nI b = nI (a - b) := by
  have e : nI a = nI (a - b) + nI b := by rw [nI_add, Nat.sub_add_cancel h]
  rw [e, Int32.add_sub_cancel]
theorem x_passDays {fc fm : Nat → Int32} {t : Tb} {g : Mg} (X : XT fc t) (V : VT t) (Y : XM fm g) (W : VM g) {d N : Nat} (hd : d ≤ 999) (hN : N < 1000) :
    ∃ f', f_X6_passDays (nI d) (nI (tN t)) fc (nI (gN g)) fm (nI N) = some (nI (dyW g (min N (999 - d)) d t 0), nI (d + min N (999 - d)), f') ∧ XT f' (dyT g (min N (999 - d)) d t) := by
  unfold f_X6_passDays
  rw [show (999 : Int32) = nI 999 from rfl, nI_sub hd]
  have e : (if nI (999 - d) < nI N then nI (999 - d) else nI N) = nI (min N (999 - d)) := by
    by_cases z : 999 - d < N
    · rw [if_pos (nI_lt z (by omega)), show min N (999 - d) = 999 - d by omega]
    · rw [if_neg (nI_nlt (by omega) (by omega)), show min N (999 - d) = N by omega]
  rw [e, bnd_s]
  obtain ⟨f', h1, h2⟩ := x_days X V Y W (d := d) (N := min N (999 - d)) (by omega) (by omega)
  rw [h1, ob2_s, nI_add, bnd_s]
  exact ⟨f', rfl, h2⟩
