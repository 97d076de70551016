/-! ===== the reference minds ===== -/
def mshift (n : Nat) (w : Nat → Int32) (x : Nat) : Int32 := if n = 8 ∧ 125 ≤ x ∧ x < 125 + 154 then w (x + 22) else w x
theorem m_minds59 {n : Nat} (hn : n ≤ 7) {w : Nat → Int32} (h : w 124 = nI n) : ∃ w', f_X12_minds_59 w = some w' ∧ w' 124 = nI (n + 1) ∧ w' (125 + 22 * n) = w 2 ∧ (∀ c, c < 21 → w' (125 + 22 * n + 1 + c) = w (17 + c)) ∧ ∀ x, x ≠ 124 → (x < 125 + 22 * n ∨ 125 + 22 * n + 22 ≤ x) → w' x = w x := by
  unfold f_X12_minds_59
  rw [show (124 : Int32) = nI 124 from rfl, show (125 : Int32) = nI 125 from rfl, show (22 : Int32) = nI 22 from rfl, show (2 : Int32) = nI 2 from rfl, chk_n (by omega) (by omega), nI_clamp (by omega), h, pk_mul, nI_add, bnd_s, chk_n (by omega) (by omega), chk_n (by omega) (by omega), nI_clamp (by omega), nI_clamp (by omega), bnd_s]
  obtain ⟨w1, e1, h1⟩ := m_rec_go (b := 125 + 22 * n) (by omega) (by omega) (upd w (125 + 22 * n) (w 2)) 21 0 FU (upd w (125 + 22 * n) (w 2)) (by omega) (by decide) (fun x => by rw [if_neg (by omega)])
  have e1 : f_X12_minds_87 FU (upd w (125 + 22 * n) (w 2)) (nI (125 + 22 * n)) 0 = f_X12_minds_118 w1 := e1
  rw [e1]
  unfold f_X12_minds_118
  have h2 : w1 124 = nI n := by rw [h1, if_neg (by omega), pk_un (by omega), h]
  rw [show (124 : Int32) = nI 124 from rfl, chk_n (by omega) (by omega), chk_n (by omega) (by omega), nI_clamp (by omega), h2, nI_1, bnd_s]
  refine ⟨_, rfl, pk_us, ?_, fun c hc => ?_, fun x hx hx2 => ?_⟩
  · rw [pk_un (by omega), h1, if_neg (by omega), pk_us]
  · rw [pk_un (by omega), h1, if_pos (by omega), pk_un (by omega), show 125 + 22 * n + 1 + c - (125 + 22 * n + 1) = c by omega]
  · rw [pk_un hx, h1, if_neg (by omega), pk_un (by omega)]
theorem m_minds {n : Nat} (hn : n ≤ 8) {w : Nat → Int32} (h : w 124 = nI n) : ∃ w', f_X12_minds w = some w' ∧ w' 124 = nI (min n 7 + 1) ∧ w' (125 + 22 * min n 7) = w 2 ∧ (∀ c, c < 21 → w' (125 + 22 * min n 7 + 1 + c) = w (17 + c)) ∧ ∀ x, x ≠ 124 → (x < 125 + 22 * min n 7 ∨ 301 ≤ x) → w' x = mshift n w x := by
  unfold f_X12_minds
  rw [show (124 : Int32) = nI 124 from rfl, chk_n (by omega) (by omega), nI_clamp (by omega), h]
  by_cases z : n = 8
  · subst z
    rw [if_pos (show nI 8 = (8 : Int32) from rfl)]
    obtain ⟨w1, e1, h1⟩ := m_shift_go w 154 0 FU w (by omega) (by decide) (fun x => by rw [if_neg (by omega)])
    have e1 : f_X12_minds_14 FU w 0 = f_X12_minds_48 w1 := e1
    rw [e1]
    unfold f_X12_minds_48
    have h2 : w1 124 = nI 8 := by rw [h1, if_neg (by omega), h]
    rw [show (124 : Int32) = nI 124 from rfl, chk_n (by omega) (by omega), chk_n (by omega) (by omega), nI_clamp (by omega), h2, show nI 8 - (1 : Int32) = nI 7 from rfl, bnd_s]
    obtain ⟨w2, e2, a1, a2, a3, a4⟩ := m_minds59 (n := 7) (by omega) (w := upd w1 124 (nI 7)) pk_us
    rw [e2]
    refine ⟨w2, rfl, a1, ?_, fun c hc => ?_, fun x hx hx2 => ?_⟩
    · rw [show min 8 7 = 7 from rfl, a2, pk_un (by omega), h1, if_neg (by omega)]
    · rw [show min 8 7 = 7 from rfl, a3 c hc, pk_un (by omega), h1, if_neg (by omega)]
    · rw [show min 8 7 = 7 from rfl] at hx2
      rw [a4 x hx (by omega), pk_un hx, h1]
      unfold mshift
      by_cases y : 125 ≤ x ∧ x < 125 + 154
      · rw [if_pos y, if_pos ⟨rfl, y⟩]
      · rw [if_neg y, if_neg (fun q => y q.2)]
  · rw [if_neg (show ¬ nI n = (8 : Int32) from fun q => z ((nI_eq (b := 8) (by omega) (by omega)).mp q)), show min n 7 = n by omega]
    obtain ⟨w2, e2, a1, a2, a3, a4⟩ := m_minds59 (n := n) (by omega) h
    refine ⟨w2, e2, a1, a2, a3, fun x hx hx2 => ?_⟩
    rw [a4 x hx (by omega)]
    unfold mshift
    rw [if_neg (fun q => z q.1)]
