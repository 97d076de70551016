/-! ===== the reference's past ===== -/
theorem m_shift_go (w0 : Nat → Int32) : ∀ (e j q : Nat) (w : Nat → Int32), j + e = 154 → e < q → (∀ x, w x = if 125 ≤ x ∧ x < 125 + j then w0 (x + 22) else w0 x) →
    ∃ w', f_X12_minds_14 q w (nI j) = f_X12_minds_48 w' ∧ ∀ x, w' x = if 125 ≤ x ∧ x < 125 + 154 then w0 (x + 22) else w0 x := by
  intro e
  induction e with
  | zero =>
    intro j q w hj hq h
    obtain ⟨q, rfl⟩ : ∃ q', q = q' + 1 := ⟨q - 1, by omega⟩
    obtain rfl : j = 154 := by omega
    rw [f_X12_minds_14, if_pos (show (154 : Int32) ≤ nI 154 by decide)]
    exact ⟨w, rfl, h⟩
  | succ e ih =>
    intro j q w hj hq h
    obtain ⟨q, rfl⟩ : ∃ q', q = q' + 1 := ⟨q - 1, by omega⟩
    rw [f_X12_minds_14, if_neg (show ¬ (154 : Int32) ≤ nI j from nI_ge (b := 154) (by omega) (by omega)), show (125 : Int32) = nI 125 from rfl, show (22 : Int32) = nI 22 from rfl, nI_add, nI_add, chk_n (by omega) (by omega), chk_n (by omega) (by omega), bnd_s, nI_1, bnd_s, nI_clamp (by omega), nI_clamp (by omega)]
    refine ih (j + 1) q _ (by omega) (by omega) (fun x => ?_)
    have ea : w (125 + j + 22) = w0 (125 + j + 22) := by rw [h, if_neg (by omega)]
    by_cases z : x = 125 + j
    · subst z
      rw [pk_us, ea, if_pos (by omega)]
    · rw [pk_un z, h x]
      by_cases y : 125 ≤ x ∧ x < 125 + j
      · rw [if_pos y, if_pos (by omega)]
      · rw [if_neg y, if_neg (by omega)]
theorem m_rec_go {b : Nat} (hb : 125 ≤ b) (hb2 : b + 22 ≤ 301) (w0 : Nat → Int32) : ∀ (e j q : Nat) (w : Nat → Int32), j + e = 21 → e < q → (∀ x, w x = if b + 1 ≤ x ∧ x < b + 1 + j then w0 (17 + (x - (b + 1))) else w0 x) →
    ∃ w', f_X12_minds_87 q w (nI b) (nI j) = f_X12_minds_118 w' ∧ ∀ x, w' x = if b + 1 ≤ x ∧ x < b + 1 + 21 then w0 (17 + (x - (b + 1))) else w0 x := by
  intro e
  induction e with
  | zero =>
    intro j q w hj hq h
    obtain ⟨q, rfl⟩ : ∃ q', q = q' + 1 := ⟨q - 1, by omega⟩
    obtain rfl : j = 21 := by omega
    rw [f_X12_minds_87, if_pos (show (21 : Int32) ≤ nI 21 by decide)]
    exact ⟨w, rfl, h⟩
  | succ e ih =>
    intro j q w hj hq h
    obtain ⟨q, rfl⟩ : ∃ q', q = q' + 1 := ⟨q - 1, by omega⟩
    rw [f_X12_minds_87, if_neg (show ¬ (21 : Int32) ≤ nI j from nI_ge (b := 21) (by omega) (by omega)), show (17 : Int32) = nI 17 from rfl, nI_add, nI_1, nI_add, chk_n (by omega) (by omega), chk_n (by omega) (by omega), bnd_s, nI_1, bnd_s, nI_clamp (by omega), nI_clamp (by omega)]
    refine ih (j + 1) q _ (by omega) (by omega) (fun x => ?_)
    have ea : w (17 + j) = w0 (17 + j) := by rw [h, if_neg (by omega)]
    by_cases z : x = b + 1 + j
    · subst z
      rw [pk_us, ea, if_pos (by omega), show b + 1 + j - (b + 1) = j by omega]
    · rw [pk_un z, h x]
      by_cases y : b + 1 ≤ x ∧ x < b + 1 + j
      · rw [if_pos y, if_pos (by omega)]
      · rw [if_neg y, if_neg (by omega)]
