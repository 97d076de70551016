/-! ===== the calls of and status, both sides ===== -/
theorem nat_cases5 {v : Int32} (h : 0 ≤ v.toInt ∧ v.toInt ≤ 4) : v = 0 ∨ v = 1 ∨ v = 2 ∨ v = 3 ∨ v = 4 := by
  obtain ⟨k, rfl, hk, -⟩ := nat_of h.1
  have : k = 0 ∨ k = 1 ∨ k = 2 ∨ k = 3 ∨ k = 4 := by omega
  rcases this with rfl | rfl | rfl | rfl | rfl
  · exact Or.inl rfl
  · exact Or.inr (Or.inl rfl)
  · exact Or.inr (Or.inr (Or.inl rfl))
  · exact Or.inr (Or.inr (Or.inr (Or.inl rfl)))
  · exact Or.inr (Or.inr (Or.inr (Or.inr rfl)))
theorem c_of_eq {fc : Nat → Int32} {t : Tb} {w : Nat → Int32} (X : XT fc t) (V : VT t) (M : MT w 0 t) (st st2 : Nat → Int32) (v1 v2 : Int32) :
    ∃ (r : Int32) (c : Option Nat), f_X11_of (nI (tN t)) fc st v1 v2 = some (r, stx c st) ∧ f_X12_of w st2 v1 v2 = some (r, stx c st2) ∧ (∀ i, c = some i → i < 3) := by
  have hn := V.1
  have hb : ∃ (r : Int32) (c : Option Nat), f_X11_of_32 (nI (tN t)) fc st = some (r, stx c st) ∧ f_X12_of_29 w st2 = some (r, stx c st2) ∧ (∀ i, c = some i → i < 3) := by
    refine ⟨-2, some 0, ?_, ?_, fun i hi => ?_⟩
    · unfold f_X11_of_32; rw [x_bad, ob2_s]
    · unfold f_X12_of_29; rw [m_bad, ob2_s]; rfl
    · injection hi with hi; omega
  unfold f_X11_of f_X12_of
  rw [x_isClerk (by omega), m_isClerk M V, ob1_s, ob1_s]
  by_cases h1 : wthn v1 (tN t) = true
  · rw [if_pos h1, if_neg (show ¬ (1 : Int32) = 0 by decide), if_neg (show ¬ (1 : Int32) = 0 by decide), x_within, m_in, ob1_s, ob1_s]
    obtain ⟨k, rfl, hk⟩ := wthn_n h1
    rw [show (0 : Int32).toInt = (0 : Int64).toInt from rfl, show (4 : Int32).toInt = (4 : Int64).toInt from rfl]
    by_cases h2 : (0 : Int64).toInt ≤ v2.toInt ∧ v2.toInt ≤ (4 : Int64).toInt
    · rw [if_pos h2, if_neg (show ¬ (1 : Int32) = 0 by decide), if_neg (show ¬ (1 : Int32) = 0 by decide)]
      unfold f_X12_ofClerk
      have one : ∀ (v : Int32), f_X7_get 5 (nI (tN t)) 35 fc (nI k) v2 = some v → f_X12_ofClerk w (nI k) v2 = some v → ∃ (r : Int32) (c : Option Nat), (ob1 (f_X7_get 5 (nI (tN t)) 35 fc (nI k) v2) fun r_10 => some (r_10, st)) = some (r, stx c st) ∧ (ob1 (f_X12_ofClerk w (nI k) v2) fun r_10 => some (r_10, st2)) = some (r, stx c st2) ∧ (∀ i, c = some i → i < 3) := by
        intro v e1 e2
        rw [e1, e2, ob1_s, ob1_s]
        exact ⟨v, none, rfl, rfl, fun i hi => by cases hi⟩
      have g0 := M.gk hk
      have g1 := M.gd hk
      have g2 := M.gw hk
      have g3 := M.gu hk
      have g4 := M.go hk
      rw [show 0 + 3 + k = 3 + k by omega] at g0
      rw [show 0 + 17 + k = 17 + k by omega] at g1
      rw [show 0 + 10 + k = 10 + k by omega] at g2
      rw [show 0 + 24 + k = 24 + k by omega] at g3
      rw [show 0 + 31 + k = 31 + k by omega] at g4
      have rd : ∀ a : Nat, a + k < 1251 → chk (nI a + nI k) 1251 (some (w (nI a + nI k).toNatClampNeg)) = some (w (a + k)) := fun a ha => by
        rw [nI_add, chk_n ha (by omega), nI_clamp (by omega)]
      rcases nat_cases5 h2 with rfl | rfl | rfl | rfl | rfl
      · refine one _ (X.k hk hn) ?_
        unfold f_X12_ofClerk
        rw [if_pos rfl, ← g0]; exact rd 3 (by omega)
      · refine one _ (X.d hk hn) ?_
        unfold f_X12_ofClerk
        rw [if_neg (show ¬ (1 : Int32) = 0 by decide), if_pos rfl, ← g1]; exact rd 17 (by omega)
      · refine one _ (X.w hk hn) ?_
        unfold f_X12_ofClerk
        rw [if_neg (show ¬ (2 : Int32) = 0 by decide), if_neg (show ¬ (2 : Int32) = 1 by decide), if_pos rfl, ← g2]; exact rd 10 (by omega)
      · refine one _ (X.u hk hn) ?_
        unfold f_X12_ofClerk
        rw [if_neg (show ¬ (3 : Int32) = 0 by decide), if_neg (show ¬ (3 : Int32) = 1 by decide), if_neg (show ¬ (3 : Int32) = 2 by decide), if_pos rfl, ← g3]; exact rd 24 (by omega)
      · refine one _ (X.o hk hn) ?_
        unfold f_X12_ofClerk
        rw [if_neg (show ¬ (4 : Int32) = 0 by decide), if_neg (show ¬ (4 : Int32) = 1 by decide), if_neg (show ¬ (4 : Int32) = 2 by decide), if_neg (show ¬ (4 : Int32) = 3 by decide), ← g4]; exact rd 31 (by omega)
    · rw [if_neg h2, if_pos rfl, if_pos rfl]
      exact hb
  · rw [if_neg h1, if_pos rfl, if_pos rfl]
    exact hb
theorem c_status_eq (st st2 : Nat → Int32) (hs : ∀ i, i < 3 → st2 i = st i) (v1 : Int32) :
    ∃ (r : Int32) (c : Option Nat), f_X11_status st v1 = some (r, stx c st) ∧ f_X12_status st2 v1 = some (r, stx c st2) ∧ (∀ i, c = some i → i < 3) := by
  unfold f_X11_status f_X12_status
  rw [x_within, m_in, ob1_s, ob1_s, show (0 : Int32).toInt = (0 : Int64).toInt from rfl, show (2 : Int32).toInt = (2 : Int64).toInt from rfl]
  by_cases h2 : (0 : Int64).toInt ≤ v1.toInt ∧ v1.toInt ≤ (2 : Int64).toInt
  · rw [if_pos h2, if_neg (show ¬ (1 : Int32) = 0 by decide), if_neg (show ¬ (1 : Int32) = 0 by decide)]
    have h2 : 0 ≤ v1.toInt ∧ v1.toInt ≤ 2 := h2
    obtain ⟨k, rfl, hk, -⟩ := nat_of h2.1
    rw [cell_in st (by omega) (by omega), ob1_s, chk_n (by omega) (by omega), nI_clamp (by omega), hs k (by omega)]
    exact ⟨_, none, rfl, rfl, fun i hi => by cases hi⟩
  · rw [if_neg h2, if_pos rfl, if_pos rfl, x_bad, m_bad, ob2_s, ob2_s]
    refine ⟨-1, some 0, rfl, rfl, fun i hi => ?_⟩
    injection hi with hi; omega
/-- equal statuses stay equal -/
theorem stx_eq {st st2 : Nat → Int32} (hs : ∀ i, i < 3 → st2 i = st i) {c : Option Nat} (hc : ∀ i, c = some i → i < 3) : ∀ i, i < 3 → stx c st2 i = stx c st i := by
  intro i hi
  cases c with
  | none => exact hs i hi
  | some j =>
    have hj := hc j rfl
    show upd st2 j (st2 j + 1) i = upd st j (st j + 1) i
    by_cases z : i = j
    · subst z; rw [pk_us, pk_us, hs i hi]
    · rw [pk_un z, pk_un z, hs i hi]
