/-! ===== the call caught, both sides ===== -/
theorem m_no (st : Nat → Int32) : f_X12_no st = some (-3, stx (some 1) st) := by
  unfold f_X12_no
  rw [show (1 : Int32) = nI 1 from rfl, chk_n (by omega) (by omega), chk_n (by omega) (by omega), nI_clamp (by omega), bnd_s]
  rfl
theorem m_full (st : Nat → Int32) : f_X12_full st = some (-4, stx (some 2) st) := by
  unfold f_X12_full
  rw [show (2 : Int32) = nI 2 from rfl, chk_n (by omega) (by omega), chk_n (by omega) (by omega), nI_clamp (by omega), bnd_s]
  rfl
theorem onv_nil {o : Option Nat} (ho : ∀ j, o = some j → j < 2 ^ 31) : onv o = -1 ↔ o = none := by
  cases o with
  | none => exact ⟨fun _ => rfl, fun _ => rfl⟩
  | some j =>
    constructor
    · intro h
      exact absurd h (fun h => nI_pos (ho j rfl) (by rw [show nI j = -1 from h]; decide))
    · intro h; cases h
theorem c_caught_eq {fc : Nat → Int32} {t : Tb} {w : Nat → Int32} (X : XT fc t) (V : VT t) (M : MT w 0 t) (st st2 : Nat → Int32) (v1 : Int32) :
    ∃ (r : Int32) (c : Option Nat), f_X11_caught (nI (tN t)) fc st v1 = some (r, stx c st) ∧ f_X12_caught w st2 v1 = some (r, stx c st2) ∧ (∀ i, c = some i → i < 3) := by
  have hn := V.1
  unfold f_X11_caught f_X12_caught
  rw [x_isClerk (by omega), m_isClerk M V, ob1_s, ob1_s]
  by_cases h1 : wthn v1 (tN t) = true
  · rw [if_pos h1, if_neg (show ¬ (1 : Int32) = 0 by decide), if_neg (show ¬ (1 : Int32) = 0 by decide)]
    obtain ⟨k, rfl, hk⟩ := wthn_n h1
    have g4 := M.go hk
    rw [show 0 + 31 + k = 31 + k by omega] at g4
    rw [X.o hk hn, ob1_s, show (31 : Int32) = nI 31 from rfl, nI_add, chk_n (by omega) (by omega), nI_clamp (by omega), g4]
    by_cases z : tO t k = none
    · have z' := (onv_nil (V.on31 hk)).mpr z
      rw [if_pos z', if_pos z', x_holders X V hk, m_holders M V hk, ob1_s, ob1_s]
      exact ⟨_, none, rfl, rfl, fun i hi => by cases hi⟩
    · have z' : ¬ onv (tO t k) = -1 := fun q => z ((onv_nil (V.on31 hk)).mp q)
      rw [if_neg z', if_neg z', x_no, m_no, ob2_s, ob2_s]
      refine ⟨-3, some 1, rfl, rfl, fun i hi => ?_⟩
      injection hi with hi; omega
  · rw [if_neg h1, if_pos rfl, if_pos rfl, x_bad, m_bad, ob2_s, ob2_s]
    refine ⟨-2, some 0, rfl, rfl, fun i hi => ?_⟩
    injection hi with hi; omega
