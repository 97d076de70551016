/-! ===== the call felt, both sides ===== -/
/-- the clerks that feel -/
def fmask (t : Tb) (par : Nat → Option Nat) (i tt : Nat) : Nat := mk (fun x => decide (Fe t par i tt x ≠ 0)) (tN t)
theorem nI_le0 {a : Nat} (ha : a < 2 ^ 31) : (nI a ≤ 0) ↔ a = 0 := by
  constructor
  · intro h
    rcases Nat.eq_zero_or_pos a with z | z
    · exact z
    · exact absurd h (show ¬ nI a ≤ 0 from nI_ge (b := a) (a := 0) z ha)
  · intro h; subst h; exact nI_le (a := 0) (b := 0) (by omega) (by omega)
theorem mk_ext {p q : Nat → Bool} {n m : Nat} (h : ∀ k, (decide (k < n) && p k) = (decide (k < m) && q k)) : mk p n = mk q m := Nat.eq_of_testBit_eq (fun k => by rw [mk_bit, mk_bit, h])
theorem kb_oro (a : Nat) : nI a ||| (0 : Int32) = nI (a ||| 0) := kb_or a 0
theorem kb_orp (a i : Nat) : nI a ||| nI (2 ^ i) = nI (a ||| 2 ^ i) := kb_or a _
section FELT
variable {t : Tb} {par : Nat → Option Nat} {i tt : Nat} {fe : Nat → Int32}
theorem x_whoFeel (hn : tN t ≤ 7) (hle : ∀ x, x < tN t → Fe t par i tt x ≤ 20) (h1 : ∀ x, x < tN t → fe x = nI (Fe t par i tt x)) (h2 : ∀ x, tN t ≤ x → x < 7 → fe x = 0) : f_X10_whoFeel fe = some (nI (fmask t par i tt)) := by
  have e : fmask t par i tt = mk (fun x => decide (x < tN t) && decide (Fe t par i tt x ≠ 0)) 7 := mk_ext (fun k => by
    by_cases z : k < tN t
    · rw [decide_eq_true z, decide_eq_true (show k < 7 by omega), Bool.true_and, Bool.true_and]
    · rw [decide_eq_false z, Bool.false_and, Bool.and_false])
  rw [e]
  unfold f_X10_whoFeel
  refine mask_loop (fun g a k => f_X10_whoFeel_4 fe g (nI a) k) 7 (by omega) (fun x => decide (x < tN t) && decide (Fe t par i tt x ≠ 0)) (fun a => some (nI a)) (fun g k a hk => ?_) (fun g a => ?_)
  · show f_X10_whoFeel_4 fe (g + 1) (nI a) (nI k) = _
    rw [f_X10_whoFeel_4, if_neg (show ¬ (7 : Int32) ≤ nI k from nI_ge (b := 7) hk (by omega)), cell_in fe hk (by omega), ob1_s]
    unfold f_X10_whoFeel_29
    rw [kb_shl (by omega)]
    by_cases z : k < tN t
    · rw [h1 k z]
      have hl := hle k z
      by_cases y : Fe t par i tt k = 0
      · rw [if_pos ((nI_le0 (by omega)).mpr y), show (decide (k < tN t) && decide (Fe t par i tt k ≠ 0)) = false by simp [y], if_neg (show ¬ (false = true) by decide), kb_oro, bnd_s, nI_1, bnd_s]
      · rw [if_neg (fun q => y ((nI_le0 (by omega)).mp q)), show (decide (k < tN t) && decide (Fe t par i tt k ≠ 0)) = true by simp [y, z], if_pos rfl, kb_orp, bnd_s, nI_1, bnd_s]
    · rw [h2 k (by omega) hk, if_pos (show (0 : Int32) ≤ 0 by decide), show (decide (k < tN t) && decide (Fe t par i tt k ≠ 0)) = false by simp [z], if_neg (show ¬ (false = true) by decide), kb_oro, bnd_s, nI_1, bnd_s]
  · show f_X10_whoFeel_4 fe (g + 1) (nI a) (nI 7) = _
    rw [f_X10_whoFeel_4, if_pos (show (7 : Int32) ≤ nI 7 from nI_le (a := 7) (Nat.le_refl _) (by omega))]
theorem m_whoFeels {w : Nat → Int32} (M : MT w 0 t) (hn : tN t ≤ 7) (hle : ∀ x, x < tN t → Fe t par i tt x ≤ 20) (h1 : ∀ x, x < tN t → fe x = nI (Fe t par i tt x)) : f_X12_whoFeels w fe = some (nI (fmask t par i tt)) := by
  unfold f_X12_whoFeels
  refine mask_loop (fun g a k => f_X12_whoFeels_4 w fe g (nI a) k) (tN t) hn (fun x => decide (Fe t par i tt x ≠ 0)) (fun a => some (nI a)) (fun g k a hk => ?_) (fun g a => ?_)
  · show f_X12_whoFeels_4 w fe (g + 1) (nI a) (nI k) = _
    have hl := hle k hk
    rw [f_X12_whoFeels_4, chk_0 (by decide) (by decide), cl_0, M.1, if_neg (nI_ge hk (by omega)), chk_n (by omega) (by omega), nI_clamp (by omega), h1 k hk]
    unfold f_X12_whoFeels_31
    rw [kb_shl (by omega)]
    by_cases y : Fe t par i tt k = 0
    · rw [if_pos ((nI_le0 (by omega)).mpr y), show decide (Fe t par i tt k ≠ 0) = false by simp [y], if_neg (show ¬ (false = true) by decide), kb_oro, bnd_s, nI_1, bnd_s]
    · rw [if_neg (fun q => y ((nI_le0 (by omega)).mp q)), show decide (Fe t par i tt k ≠ 0) = true by simp [y], if_pos rfl, kb_orp, bnd_s, nI_1, bnd_s]
  · show f_X12_whoFeels_4 w fe (g + 1) (nI a) (nI (tN t)) = _
    rw [f_X12_whoFeels_4, chk_0 (by decide) (by decide), cl_0, M.1, if_pos (nI_le (Nat.le_refl _) (by omega))]
end FELT
theorem c_felt_eq {fc : Nat → Int32} {t : Tb} {w : Nat → Int32} (X : XT fc t) (V : VT t) (M : MT w 0 t) (st st2 tf fe0 nx0 cm0 : Nat → Int32) (v1 v2 v3 : Int32) :
    ∃ (r : Int32) (c : Option Nat), (∃ tf', f_X11_felt (nI (tN t)) fc st tf v1 v2 v3 = some (r, stx c st, tf')) ∧
      (∃ fe nx cm, f_X12_felt w st2 fe0 nx0 cm0 v1 v2 v3 = some (r, stx c st2, fe, nx, cm)) ∧ (∀ i, c = some i → i < 3) := by
  have hn := V.1
  have hb : ∃ (r : Int32) (c : Option Nat), (∃ tf', f_X11_felt_28 (nI (tN t)) fc st tf = some (r, stx c st, tf')) ∧
      (∃ fe nx cm, f_X12_felt_33 w st2 fe0 nx0 cm0 = some (r, stx c st2, fe, nx, cm)) ∧ (∀ i, c = some i → i < 3) := by
    refine ⟨-2, some 0, ⟨tf, ?_⟩, ⟨fe0, nx0, cm0, ?_⟩, fun i hi => ?_⟩
    · unfold f_X11_felt_28; rw [x_bad, ob2_s]
    · unfold f_X12_felt_33; rw [m_bad, ob2_s]; rfl
    · injection hi with hi; omega
  unfold f_X11_felt f_X12_felt f_X11_isTug
  rw [x_isClerk (by omega), m_isClerk M V, ob1_s, ob1_s]
  by_cases h1 : wthn v1 (tN t) = true
  · rw [if_pos h1, if_neg (show ¬ (1 : Int32) = 0 by decide), if_neg (show ¬ (1 : Int32) = 0 by decide), x_within, m_in, ob1_s, ob1_s, chb_01, ob1_s]
    obtain ⟨i, rfl, hi⟩ := wthn_n h1
    rw [show (1 : Int32).toInt = (1 : Int64).toInt from rfl, show (20 : Int32).toInt = (20 : Int64).toInt from rfl]
    by_cases h2 : (1 : Int64).toInt ≤ v2.toInt ∧ v2.toInt ≤ (20 : Int64).toInt
    · rw [if_pos h2, if_neg (show ¬ (1 : Int32) = 0 by decide), if_neg (show ¬ (1 : Int32) = 0 by decide)]
      have h2 : 1 ≤ v2.toInt ∧ v2.toInt ≤ 20 := h2
      obtain ⟨tt, rfl, ht, -⟩ := nat_of (v := v2) (by omega)
      obtain ⟨par, Rr⟩ := reroot V.2.2 hi
      obtain ⟨fe, a1, a2, a3⟩ := x_spread X V Rr (tt := tt) (by omega) (by omega) hi tf
      obtain ⟨fe', nx, cm, b1, b2, b3⟩ := m_tugs (v1 := 0) (r := 0) rfl M V (by omega) Rr (tt := tt) (by omega) (by omega) hi fe0 nx0 cm0
      have hle := Fe_le (i := i) V Rr.2.2.2 (tt := tt) (by omega)
      by_cases h3 : v3 = -1
      · rw [if_pos h3, if_pos h3]
        unfold f_X11_felt_35 f_X12_felt_40
        rw [a1, b1, ob1_s, ob3_s, if_pos h3, if_pos h3, x_whoFeel hn hle a2 a3, m_whoFeels M hn hle b2, ob1_s, ob1_s]
        exact ⟨_, none, ⟨_, rfl⟩, ⟨_, _, _, rfl⟩, fun i hi => by cases hi⟩
      · rw [if_neg h3, if_neg h3, x_isClerk (by omega), m_isClerk M V, ob1_s, ob1_s]
        by_cases h4 : wthn v3 (tN t) = true
        · rw [if_pos h4, if_neg (show ¬ (1 : Int32) = 0 by decide), if_neg (show ¬ (1 : Int32) = 0 by decide)]
          obtain ⟨k, rfl, hk⟩ := wthn_n h4
          unfold f_X11_felt_35 f_X12_felt_40 f_X10_feltBy
          rw [a1, b1, ob1_s, ob3_s, if_neg h3, if_neg h3, cell_in fe (by omega) (by omega), ob1_s, ob1_s, chk_n (by omega) (by omega), nI_clamp (by omega), a2 k hk, b2 k hk]
          exact ⟨_, none, ⟨_, rfl⟩, ⟨_, _, _, rfl⟩, fun i hi => by cases hi⟩
        · rw [if_neg h4, if_pos rfl, if_pos rfl]
          exact hb
    · rw [if_neg h2, if_pos rfl, if_pos rfl]
      exact hb
  · rw [if_neg h1, if_pos rfl, if_pos rfl]
    exact hb
