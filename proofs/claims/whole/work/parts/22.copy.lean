/-! ===== ones, copies, refusals ===== -/
def ones (m : Nat) : Nat := cnt (fun j => m.testBit j) 7
theorem m_ones {m : Nat} (hm : m < 2 ^ 31) : f_X12_ones (nI m) = some (nI (ones m)) := by
  unfold f_X12_ones
  refine sum_loop (fun g a i => f_X12_ones_4 g (nI m) (nI a) i) 7 (by omega) (fun j => if m.testBit j then 1 else 0) (fun a => some (nI a)) (fun g i a hi => ?_) (fun g a => ?_)
  · show f_X12_ones_4 (g + 1) (nI m) (nI a) (nI i) = _
    rw [f_X12_ones_4, if_neg (show ¬ (7 : Int32) ≤ nI i from nI_ge (b := 7) hi (by omega)), kb_bit hm (by omega)]
    have e : (if m.testBit i = true then (1 : Int32) else 0) = nI (if m.testBit i = true then 1 else 0) := by split <;> rfl
    rw [e, nI_add, bnd_s, nI_1, bnd_s]
  · show f_X12_ones_4 (g + 1) (nI m) (nI a) (nI 7) = _
    rw [f_X12_ones_4, if_pos (show (7 : Int32) ≤ nI 7 from nI_le (a := 7) (Nat.le_refl _) (by omega))]
theorem x_ones : ∀ m, m < 128 → f_J6_bitCount_0f7a4 (nI m) = some (nI (ones m)) := by decide +kernel
theorem m_bad (st : Nat → Int32) (c : Int32) : f_X12_bad st c = some (c, upd st 0 (st 0 + 1)) := by
  unfold f_X12_bad
  rw [chk_0 (by decide) (by decide), chk_0 (by decide) (by decide), cl_0, bnd_s]
theorem copy_go {a b : Nat} (ha : a + 301 ≤ 1251) (hb : b + 301 ≤ 1251) (hd : a + 301 ≤ b ∨ b + 301 ≤ a) (w0 : Nat → Int32) : ∀ (e j q : Nat) (w : Nat → Int32), j + e = 301 → e < q → (∀ x, w x = if b ≤ x ∧ x < b + j then w0 (a + (x - b)) else w0 x) →
    ∃ w', f_X12_copy_2 q w (nI a) (nI b) (nI j) = some w' ∧ ∀ x, w' x = if b ≤ x ∧ x < b + 301 then w0 (a + (x - b)) else w0 x := by
  intro e
  induction e with
  | zero =>
    intro j q w hj hq h
    obtain ⟨q, rfl⟩ : ∃ q', q = q' + 1 := ⟨q - 1, by omega⟩
    obtain rfl : j = 301 := by omega
    rw [f_X12_copy_2, if_pos (show (301 : Int32) ≤ nI 301 from nI_le (a := 301) (Nat.le_refl _) (by omega))]
    exact ⟨w, rfl, h⟩
  | succ e ih =>
    intro j q w hj hq h
    obtain ⟨q, rfl⟩ : ∃ q', q = q' + 1 := ⟨q - 1, by omega⟩
    rw [f_X12_copy_2, if_neg (show ¬ (301 : Int32) ≤ nI j from nI_ge (b := 301) (by omega) (by omega)), nI_add, nI_add, chk_n (by omega) (by omega), chk_n (by omega) (by omega), bnd_s, nI_1, bnd_s, nI_clamp (by omega), nI_clamp (by omega)]
    refine ih (j + 1) q _ (by omega) (by omega) (fun x => ?_)
    have ea : w (a + j) = w0 (a + j) := by rw [h, if_neg (by omega)]
    by_cases z : x = b + j
    · subst z
      rw [pk_us, ea, if_pos (by omega), show b + j - b = j by omega]
    · rw [pk_un z, h x]
      by_cases y : b ≤ x ∧ x < b + j
      · rw [if_pos y, if_pos (by omega)]
      · rw [if_neg y, if_neg (by omega)]
theorem m_copy {a b : Nat} (ha : a + 301 ≤ 1251) (hb : b + 301 ≤ 1251) (hd : a + 301 ≤ b ∨ b + 301 ≤ a) (w : Nat → Int32) : ∃ w', f_X12_copy w (nI a) (nI b) = some w' ∧ ∀ x, w' x = if b ≤ x ∧ x < b + 301 then w (a + (x - b)) else w x :=
  copy_go ha hb hd w 301 0 FU w (by omega) (by decide) (fun x => by rw [if_neg (by omega)])
theorem tries_go (w0 : Nat → Int32) : ∀ (e j q : Nat) (w : Nat → Int32), j + e = 47 → e < q → (∀ x, w x = if 1204 ≤ x ∧ x < 1204 + j then w0 (x - 1204) else w0 x) →
    ∃ w', f_X12_tries_2 q w (nI j) = some w' ∧ ∀ x, w' x = if 1204 ≤ x ∧ x < 1204 + 47 then w0 (x - 1204) else w0 x := by
  intro e
  induction e with
  | zero =>
    intro j q w hj hq h
    obtain ⟨q, rfl⟩ : ∃ q', q = q' + 1 := ⟨q - 1, by omega⟩
    obtain rfl : j = 47 := by omega
    rw [f_X12_tries_2, if_pos (show (47 : Int32) ≤ nI 47 from nI_le (a := 47) (Nat.le_refl _) (by omega))]
    exact ⟨w, rfl, h⟩
  | succ e ih =>
    intro j q w hj hq h
    obtain ⟨q, rfl⟩ : ∃ q', q = q' + 1 := ⟨q - 1, by omega⟩
    rw [f_X12_tries_2, if_neg (show ¬ (47 : Int32) ≤ nI j from nI_ge (b := 47) (by omega) (by omega)), show (1204 : Int32) = nI 1204 from rfl, nI_add, chk_n (by omega) (by omega), chk_n (by omega) (by omega), bnd_s, nI_1, bnd_s, nI_clamp (by omega), nI_clamp (by omega)]
    refine ih (j + 1) q _ (by omega) (by omega) (fun x => ?_)
    have ea : w j = w0 j := by rw [h, if_neg (by omega)]
    by_cases z : x = 1204 + j
    · subst z
      rw [pk_us, ea, if_pos (by omega), show 1204 + j - 1204 = j by omega]
    · rw [pk_un z, h x]
      by_cases y : 1204 ≤ x ∧ x < 1204 + j
      · rw [if_pos y, if_pos (by omega)]
      · rw [if_neg y, if_neg (by omega)]
theorem m_tries (w : Nat → Int32) : ∃ w', f_X12_tries w = some w' ∧ ∀ x, w' x = if 1204 ≤ x ∧ x < 1204 + 47 then w (x - 1204) else w x :=
  tries_go w 47 0 FU w (by omega) (by decide) (fun x => by rw [if_neg (by omega)])
