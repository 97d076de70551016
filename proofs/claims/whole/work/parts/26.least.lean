/-! ===== the call least, both sides ===== -/
theorem least_go {fc : Nat → Int32} {t : Tb} {w : Nat → Int32} (X : XT fc t) (V : VT t) (M : MT w 0 t) {par : Nat → Option Nat} {i k : Nat} (Rr : RR (tN t) (tO t) i par) (hi : i < tN t) (hk : k < tN t) (st st2 : Nat → Int32) :
    ∀ (e s qx qm : Nat) (tf fe nx cm : Nat → Int32), s + e = 21 → 1 ≤ s → e < qx → e < qm → ∃ r tf' fe' nx' cm', f_X11_least_25 (nI (tN t)) fc qx st tf (nI i) (nI k) (nI s) = some (r, st, tf') ∧ f_X12_least_25 w qm st2 fe nx cm (nI i) (nI k) (nI s) = some (r, st2, fe', nx', cm') := by
  have hn := V.1
  intro e
  induction e with
  | zero =>
    intro s qx qm tf fe nx cm hs h1 hqx hqm
    obtain ⟨qx, rfl⟩ : ∃ q', qx = q' + 1 := ⟨qx - 1, by omega⟩
    obtain ⟨qm, rfl⟩ : ∃ q', qm = q' + 1 := ⟨qm - 1, by omega⟩
    obtain rfl : s = 21 := by omega
    rw [f_X11_least_25, f_X12_least_25, if_pos (show (20 : Int32) < nI 21 by decide), if_pos (show (20 : Int32) < nI 21 by decide)]
    exact ⟨_, _, _, _, _, rfl, rfl⟩
  | succ e ih =>
    intro s qx qm tf fe nx cm hs h1 hqx hqm
    obtain ⟨qx, rfl⟩ : ∃ q', qx = q' + 1 := ⟨qx - 1, by omega⟩
    obtain ⟨qm, rfl⟩ : ∃ q', qm = q' + 1 := ⟨qm - 1, by omega⟩
    have hc : ¬ (20 : Int32) < nI s := show ¬ nI 20 < nI s from nI_nlt (by omega) (by omega)
    rw [f_X11_least_25, f_X12_least_25, if_neg hc, if_neg hc]
    obtain ⟨tf1, a1, a2, a3⟩ := x_spread X V Rr (tt := s) (by omega) (by omega) hi tf
    obtain ⟨fe1, nx1, cm1, b1, b2, b3⟩ := m_tugs (v1 := 0) (r := 0) rfl M V (by omega) Rr (tt := s) (by omega) (by omega) hi fe nx cm
    have hle := Fe_le (i := i) V Rr.2.2.2 (tt := s) (by omega) k hk
    unfold f_X10_feltBy
    rw [a1, b1, ob1_s, ob3_s, cell_in tf1 (by omega) (by omega), ob1_s, ob1_s, chk_n (by omega) (by omega), nI_clamp (by omega), a2 k hk, b2 k hk]
    by_cases z : Fe t par i s k = 0
    · rw [if_pos ((nI_le0 (by omega)).mpr z), if_pos ((nI_le0 (by omega)).mpr z), nI_1, bnd_s, bnd_s]
      exact ih (s + 1) qx qm tf1 fe1 nx1 cm1 (by omega) (by omega) (by omega) (by omega)
    · rw [if_neg (fun q => z ((nI_le0 (by omega)).mp q)), if_neg (fun q => z ((nI_le0 (by omega)).mp q))]
      exact ⟨_, _, _, _, _, rfl, rfl⟩
theorem c_least_eq {fc : Nat → Int32} {t : Tb} {w : Nat → Int32} (X : XT fc t) (V : VT t) (M : MT w 0 t) (st st2 tf fe0 nx0 cm0 : Nat → Int32) (v1 v2 : Int32) :
    ∃ (r : Int32) (c : Option Nat), (∃ tf', f_X11_least (nI (tN t)) fc st tf v1 v2 = some (r, stx c st, tf')) ∧
      (∃ fe nx cm, f_X12_least w st2 fe0 nx0 cm0 v1 v2 = some (r, stx c st2, fe, nx, cm)) ∧ (∀ i, c = some i → i < 3) := by
  have hn := V.1
  have hb : ∃ (r : Int32) (c : Option Nat), (∃ tf', f_X11_least_16 (nI (tN t)) fc st tf = some (r, stx c st, tf')) ∧
      (∃ fe nx cm, f_X12_least_16 w st2 fe0 nx0 cm0 = some (r, stx c st2, fe, nx, cm)) ∧ (∀ i, c = some i → i < 3) := by
    refine ⟨-2, some 0, ⟨tf, ?_⟩, ⟨fe0, nx0, cm0, ?_⟩, fun i hi => ?_⟩
    · unfold f_X11_least_16; rw [x_bad, ob2_s]
    · unfold f_X12_least_16; rw [m_bad, ob2_s]; rfl
    · injection hi with hi; omega
  unfold f_X11_least f_X12_least
  rw [x_isClerk (by omega), m_isClerk M V, ob1_s, ob1_s]
  by_cases h1 : wthn v1 (tN t) = true
  · rw [if_pos h1, if_neg (show ¬ (1 : Int32) = 0 by decide), if_neg (show ¬ (1 : Int32) = 0 by decide), x_isClerk (by omega), m_isClerk M V, ob1_s, ob1_s]
    obtain ⟨i, rfl, hi⟩ := wthn_n h1
    by_cases h4 : wthn v2 (tN t) = true
    · rw [if_pos h4, if_neg (show ¬ (1 : Int32) = 0 by decide), if_neg (show ¬ (1 : Int32) = 0 by decide)]
      obtain ⟨k, rfl, hk⟩ := wthn_n h4
      obtain ⟨par, Rr⟩ := reroot V.2.2 hi
      obtain ⟨r, tf', fe', nx', cm', e1, e2⟩ := least_go X V M Rr hi hk st st2 20 1 FU FU tf fe0 nx0 cm0 (by omega) (by omega) (by decide) (by decide)
      exact ⟨r, none, ⟨tf', e1⟩, ⟨fe', nx', cm', e2⟩, fun i hi => by cases hi⟩
    · rw [if_neg h4, if_pos rfl, if_pos rfl]
      exact hb
  · rw [if_neg h1, if_pos rfl, if_pos rfl]
    exact hb
