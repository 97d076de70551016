/-! ===== the call quiet, both sides ===== -/
def LSq (st st2 : Nat → Int32) (x : Option (Int32 × (Nat → Int32) × (Nat → Int32))) (m : Option (Int32 × (Nat → Int32) × (Nat → Int32) × (Nat → Int32) × (Nat → Int32))) : Prop :=
  ∃ r tf' fe' nx' cm', x = some (r, st, tf') ∧ m = some (r, st2, fe', nx', cm')
section QUIET
variable {fc : Nat → Int32} {t : Tb} {w : Nat → Int32} {st st2 : Nat → Int32} {i : Nat} {v2 : Int32}
theorem quiet_in (X : XT fc t) (V : VT t) (M : MT w 0 t) (hi : i < tN t) {s : Nat} (h1 : 1 ≤ s) (h20 : s ≤ 20)
    (kx : (Nat → Int32) → (Nat → Int32) → Int32 → Int32 → Int32 → Option (Int32 × (Nat → Int32) × (Nat → Int32)))
    (km : (Nat → Int32) → (Nat → Int32) → (Nat → Int32) → (Nat → Int32) → Int32 → Int32 → Int32 → Option (Int32 × (Nat → Int32) × (Nat → Int32) × (Nat → Int32) × (Nat → Int32)))
    (hk : ∀ tf fe nx cm, LSq st st2 (kx st tf (nI i) v2 (nI (s + 1))) (km st2 fe nx cm (nI i) v2 (nI (s + 1)))) :
    ∀ (e j qx qm : Nat) (tf fe nx cm : Nat → Int32), j + e = tN t → e < qx → e < qm → LSq st st2 (f_X11_quiet_48 (nI (tN t)) fc kx qx st tf (nI i) v2 (nI s) (nI j)) (f_X12_quiet_46 w km qm st2 fe nx cm (nI i) v2 (nI s) (nI j)) := by
  have hn := V.1
  intro e
  induction e with
  | zero =>
    intro j qx qm tf fe nx cm hs hqx hqm
    obtain ⟨qx, rfl⟩ : ∃ q', qx = q' + 1 := ⟨qx - 1, by omega⟩
    obtain ⟨qm, rfl⟩ : ∃ q', qm = q' + 1 := ⟨qm - 1, by omega⟩
    obtain rfl : j = tN t := by omega
    rw [f_X11_quiet_48, f_X12_quiet_46, chk_0 (by decide) (by decide), cl_0, M.1, if_pos (nI_le (Nat.le_refl _) (by omega))]
    unfold f_X7_size f_X11_quiet_117 f_X12_quiet_97
    rw [ob1_s, if_pos (nI_le (Nat.le_refl _) (by omega)), nI_1, bnd_s, bnd_s]
    exact hk tf fe nx cm
  | succ e ih =>
    intro j qx qm tf fe nx cm hs hqx hqm
    obtain ⟨qx, rfl⟩ : ∃ q', qx = q' + 1 := ⟨qx - 1, by omega⟩
    obtain ⟨qm, rfl⟩ : ∃ q', qm = q' + 1 := ⟨qm - 1, by omega⟩
    have hj : j < tN t := by omega
    obtain ⟨par, Rr⟩ := reroot V.2.2 hj
    obtain ⟨tf1, a1, a2, a3⟩ := x_spread X V Rr (tt := s) (by omega) (by omega) hj tf
    obtain ⟨fe1, nx1, cm1, b1, b2, b3⟩ := m_tugs (v1 := 0) (r := 0) rfl M V (by omega) Rr (tt := s) (by omega) (by omega) hj fe nx cm
    have hle := Fe_le (i := j) V Rr.2.2.2 (tt := s) (by omega)
    have hli := hle i hi
    have nxt : LSq st st2 (f_X11_quiet_111 (nI (tN t)) fc kx (f_X11_quiet_48 (nI (tN t)) fc kx qx) st tf1 (nI i) v2 (nI s) (nI j)) (f_X12_quiet_91 w km (f_X12_quiet_46 w km qm) st2 fe1 nx1 cm1 (nI i) v2 (nI s) (nI j)) := by
      unfold f_X11_quiet_111 f_X12_quiet_91
      rw [nI_1, bnd_s, bnd_s]
      exact ih (j + 1) qx qm tf1 fe1 nx1 cm1 (by omega) (by omega) (by omega)
    rw [f_X11_quiet_48, f_X12_quiet_46, chk_0 (by decide) (by decide), cl_0, M.1, if_neg (nI_ge hj (by omega))]
    unfold f_X7_size f_X10_feltBy
    rw [ob1_s, if_neg (nI_ge hj (by omega)), a1, b1, ob1_s, ob3_s, cell_in tf1 (by omega) (by omega), ob1_s, ob1_s, chk_n (by omega) (by omega), nI_clamp (by omega), a2 i hi, b2 i hi]
    by_cases z : Fe t par j s i = 0
    · rw [if_pos ((nI_le0 (by omega)).mpr z), if_pos ((nI_le0 (by omega)).mpr z)]
      exact nxt
    · rw [if_neg (fun q => z ((nI_le0 (by omega)).mp q)), if_neg (fun q => z ((nI_le0 (by omega)).mp q)), x_whoFeel hn hle a2 a3, m_whoFeels M hn hle b2, ob1_s, ob1_s]
      by_cases y : nI (fmask t par j s) &&& v2 = 0
      · rw [if_pos y, if_pos y]
        exact ⟨_, _, _, _, _, rfl, rfl⟩
      · rw [if_neg y, if_neg y]
        exact nxt
theorem quiet_go (X : XT fc t) (V : VT t) (M : MT w 0 t) (hi : i < tN t) :
    ∀ (e s qx qm : Nat) (tf fe nx cm : Nat → Int32), s + e = 21 → 1 ≤ s → e < qx → e < qm → LSq st st2 (f_X11_quiet_39 (nI (tN t)) fc qx st tf (nI i) v2 (nI s)) (f_X12_quiet_37 w qm st2 fe nx cm (nI i) v2 (nI s)) := by
  have hn := V.1
  intro e
  induction e with
  | zero =>
    intro s qx qm tf fe nx cm hs h1 hqx hqm
    obtain ⟨qx, rfl⟩ : ∃ q', qx = q' + 1 := ⟨qx - 1, by omega⟩
    obtain ⟨qm, rfl⟩ : ∃ q', qm = q' + 1 := ⟨qm - 1, by omega⟩
    obtain rfl : s = 21 := by omega
    rw [f_X11_quiet_39, f_X12_quiet_37, if_pos (show (20 : Int32) < nI 21 by decide), if_pos (show (20 : Int32) < nI 21 by decide)]
    exact ⟨_, _, _, _, _, rfl, rfl⟩
  | succ e ih =>
    intro s qx qm tf fe nx cm hs h1 hqx hqm
    obtain ⟨qx, rfl⟩ : ∃ q', qx = q' + 1 := ⟨qx - 1, by omega⟩
    obtain ⟨qm, rfl⟩ : ∃ q', qm = q' + 1 := ⟨qm - 1, by omega⟩
    have hc : ¬ (20 : Int32) < nI s := show ¬ nI 20 < nI s from nI_nlt (by omega) (by omega)
    rw [f_X11_quiet_39, f_X12_quiet_37, if_neg hc, if_neg hc]
    exact quiet_in X V M hi h1 (by omega) _ _ (fun tf fe nx cm => ih (s + 1) qx qm tf fe nx cm (by omega) (by omega) (by omega) (by omega)) (tN t) 0 FU FU tf fe nx cm (by omega) (Nat.lt_of_le_of_lt hn (by decide)) (Nat.lt_of_le_of_lt hn (by decide))
end QUIET
theorem c_quiet_eq {fc : Nat → Int32} {t : Tb} {w : Nat → Int32} (X : XT fc t) (V : VT t) (M : MT w 0 t) (st st2 tf fe0 nx0 cm0 : Nat → Int32) (v1 v2 : Int32) :
    ∃ (r : Int32) (c : Option Nat), (∃ tf', f_X11_quiet (nI (tN t)) fc st tf v1 v2 = some (r, stx c st, tf')) ∧
      (∃ fe nx cm, f_X12_quiet w st2 fe0 nx0 cm0 v1 v2 = some (r, stx c st2, fe, nx, cm)) ∧ (∀ i, c = some i → i < 3) := by
  have hn := V.1
  have hb : ∃ (r : Int32) (c : Option Nat), (∃ tf', f_X11_quiet_30 (nI (tN t)) fc st tf = some (r, stx c st, tf')) ∧
      (∃ fe nx cm, f_X12_quiet_28 w st2 fe0 nx0 cm0 = some (r, stx c st2, fe, nx, cm)) ∧ (∀ i, c = some i → i < 3) := by
    refine ⟨-2, some 0, ⟨tf, ?_⟩, ⟨fe0, nx0, cm0, ?_⟩, fun i hi => ?_⟩
    · unfold f_X11_quiet_30; rw [x_bad, ob2_s]
    · unfold f_X12_quiet_28; rw [m_bad, ob2_s]; rfl
    · injection hi with hi; omega
  unfold f_X11_quiet f_X12_quiet f_X7_size
  rw [x_isClerk (by omega), m_isClerk M V, ob1_s, ob1_s, ob1_s]
  by_cases h1 : wthn v1 (tN t) = true
  · rw [if_pos h1, if_neg (show ¬ (1 : Int32) = 0 by decide), if_neg (show ¬ (1 : Int32) = 0 by decide), chk_0 (by decide) (by decide), cl_0, M.1, x_within, m_in, ob1_s, ob1_s, Int32.toInt_toInt64]
    obtain ⟨i, rfl, hi⟩ := wthn_n h1
    rw [show (0 : Int32).toInt = (0 : Int64).toInt from rfl]
    by_cases h2 : (0 : Int64).toInt ≤ v2.toInt ∧ v2.toInt ≤ ((1 : Int32) <<< (nI (tN t) &&& 31) - 1).toInt
    · rw [if_pos h2, if_neg (show ¬ (1 : Int32) = 0 by decide), if_neg (show ¬ (1 : Int32) = 0 by decide)]
      obtain ⟨r, tf', fe', nx', cm', e1, e2⟩ := quiet_go (st := st) (st2 := st2) (v2 := v2) X V M hi 20 1 FU FU tf fe0 nx0 cm0 (by omega) (by omega) (by decide) (by decide)
      exact ⟨r, none, ⟨tf', e1⟩, ⟨fe', nx', cm', e2⟩, fun i hi => by cases hi⟩
    · rw [if_neg h2, if_pos rfl, if_pos rfl]
      exact hb
  · rw [if_neg h1, if_pos rfl, if_pos rfl]
    exact hb
