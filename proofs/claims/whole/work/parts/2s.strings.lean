/-! ===== the calls string and strings, both sides ===== -/
theorem x_bad1k (st : Nat → Int32) : f_X11_refuse st (-2) = some (-2, stx (some 0) st) := x_bad st
section ST
variable {fc fm w : Nat → Int32} {t : Tb} {g : Mg} {d : Nat}
theorem c_string_eq (X : XT fc t) (V : VT t) (Y : XM fm g) (W : VM g) (M : MT w 0 t) (Z : MM w 0 g) (hd : d ≤ 999) (hw : w 2 = nI d) (st st2 nx cm dp : Nat → Int32) (x1 x2 : Int32) :
    ∃ (r : Int32) (c : Option Nat), f_X11_string (nI d) (nI (tN t)) fc (nI (gN g)) fm st x1 x2 = some (r, stx c st) ∧ (∃ nx' cm' dp', f_X12_string w st2 nx cm dp x1 x2 = some (r, stx c st2, nx', cm', dp')) ∧ (∀ i, c = some i → i < 3) := by
  have hn := V.1
  have hb : ∃ (r : Int32) (c : Option Nat), f_X11_string_17 (nI d) (nI (tN t)) fc (nI (gN g)) fm st = some (r, stx c st) ∧ (∃ nx' cm' dp', f_X12_string_20 w st2 nx cm dp = some (r, stx c st2, nx', cm', dp')) ∧ (∀ i, c = some i → i < 3) := by
    refine ⟨-1000, some 0, ?_, ⟨nx, cm, dp, ?_⟩, fun i hi => ?_⟩
    · unfold f_X11_string_17; rw [x_bad, ob2_s]
    · unfold f_X12_string_20; rw [m_bad, ob2_s]; rfl
    · injection hi with hi; omega
  unfold f_X11_string f_X12_string
  rw [x_isClerk (by omega), m_isClerk M V, ob1_s, ob1_s]
  by_cases h1 : wthn x1 (tN t) = true
  · rw [if_pos h1, if_neg one_ne, if_neg one_ne, x_within, m_in, ob1_s, ob1_s, show (0 : Int32).toInt = (0 : Int64).toInt from rfl, show (3 : Int32).toInt = (3 : Int64).toInt from rfl]
    obtain ⟨c, rfl, hc⟩ := wthn_n h1
    by_cases h2 : (0 : Int64).toInt ≤ x2.toInt ∧ x2.toInt ≤ (3 : Int64).toInt
    · have l1 := strg_lt V c
      have es := m_string (v1 := 0) (r := 0) rfl M V (by omega) hc
      rw [if_pos h2, if_neg one_ne, if_neg one_ne, x_members X V hc, es, ob1_s, ob1_s]
      by_cases a0 : x2 = 0
      · rw [if_pos a0, if_pos a0]
        exact ⟨_, none, rfl, ⟨_, _, _, rfl⟩, fun i hi => by cases hi⟩
      · rw [if_neg a0, if_neg a0]
        by_cases a1 : x2 = 1
        · rw [if_pos a1, if_pos a1, x_weight X V (by omega), m_weighs (v1 := 0) (r := 0) rfl M V (by omega) (by omega), ob1_s, ob1_s]
          exact ⟨_, none, rfl, ⟨_, _, _, rfl⟩, fun i hi => by cases hi⟩
        · rw [if_neg a1, if_neg a1]
          by_cases a2 : x2 = 2
          · obtain ⟨nx', cm', dp', e⟩ := m_longest M V l1 nx cm dp
            rw [if_pos a2, if_pos a2, x_longest X V rfl, e, ob1_s, ob4_s, lng_eq V hc rfl]
            exact ⟨_, none, rfl, ⟨_, _, _, rfl⟩, fun i hi => by cases hi⟩
          · rw [if_neg a2, if_neg a2, x_drawn X V Y W (by omega) (by omega), m_drawn (v1 := 0) (r := 0) rfl M V Z W (by omega) (by omega) (d := d) (by omega) hw, ob1_s, ob1_s]
            exact ⟨_, none, rfl, ⟨_, _, _, rfl⟩, fun i hi => by cases hi⟩
    · rw [if_neg h2, if_pos rfl, if_pos rfl]; exact hb
  · rw [if_neg h1, if_pos rfl, if_pos rfl]; exact hb
/-- how many hooks a clerk has to do with -/
def hks (t : Tb) (k : Nat) : Nat := onN t (some k) + (if tO t k = none then 0 else 1)
theorem x_ends (X : XT fc t) (V : VT t) : f_X0_ends 5 (nI (tN t)) 35 fc = some (nI (mk (fun k => decide (hks t k < 2)) (tN t))) := by
  have hn := V.1
  unfold f_X0_ends
  refine mask_loop (fun g m k => f_X0_ends_4 5 (nI (tN t)) 35 fc g (nI m) k) (tN t) hn (fun k => decide (hks t k < 2)) (fun m => some (nI m)) (fun g k m hk => ?_) (fun g m => ?_)
  · show f_X0_ends_4 5 (nI (tN t)) 35 fc (g + 1) (nI m) (nI k) = _
    have ho := onN_le t (some k)
    have en : f_X0_howManyOn 5 (nI (tN t)) 35 fc (nI k) = some (nI (onN t (some k))) := x_onN X V (o := some k) (fun j hj => by injection hj with hj; omega)
    rw [f_X0_ends_4, x_size, ob1_s, if_neg (nI_ge hk (by omega)), en, ob1_s, X.o hk hn, ob1_s]
    have fin : ∀ h : Nat, h ≤ 8 → hks t k = h → (if (1 : Int32) < nI h then f_X0_ends_47 5 (nI (tN t)) 35 fc (f_X0_ends_4 5 (nI (tN t)) 35 fc g) (nI k) (nI m) 0 else f_X0_ends_47 5 (nI (tN t)) 35 fc (f_X0_ends_4 5 (nI (tN t)) 35 fc g) (nI k) (nI m) (1 <<< (nI k &&& 31))) = f_X0_ends_4 5 (nI (tN t)) 35 fc g (nI (m ||| (if decide (hks t k < 2) = true then 2 ^ k else 0))) (nI (k + 1)) := by
      intro h h8 e
      unfold f_X0_ends_47
      rw [e]
      by_cases z : h < 2
      · rw [if_neg (show ¬ (1 : Int32) < nI h from nI_nlt (a := 1) (by omega) (by omega)), decide_eq_true z, if_pos rfl, kb_shl (by omega), kb_orp, bnd_s, nI_1, bnd_s]
      · rw [if_pos (show (1 : Int32) < nI h from nI_lt (a := 1) (by omega) (by omega)), decide_eq_false z, if_neg Bool.false_ne_true, kb_oro, bnd_s, nI_1, bnd_s]
    unfold f_X0_ends_32
    by_cases z : tO t k = none
    · have e0 : nI (onN t (some k)) + 0 = nI (onN t (some k)) := nI_add _ 0
      rw [if_pos ((onv_nil (V.on31 hk)).mpr z), e0, bnd_s]
      exact fin _ (by omega) (by unfold hks; rw [if_pos z]; rfl)
    · rw [if_neg (fun q => z ((onv_nil (V.on31 hk)).mp q)), nI_1, bnd_s]
      exact fin _ (by omega) (by unfold hks; rw [if_neg z])
  · show f_X0_ends_4 5 (nI (tN t)) 35 fc (g + 1) (nI m) (nI (tN t)) = _
    rw [f_X0_ends_4, x_size, ob1_s, if_pos (nI_le (Nat.le_refl _) (by omega))]
theorem m_hooksOf (M : MT w 0 t) (V : VT t) {k : Nat} (hk : k < tN t) : f_X12_hooksOf w (nI k) = some (nI (hks t k)) := by
  have hn := V.1
  have g4 := M.go hk
  rw [show 0 + 31 + k = 31 + k by omega] at g4
  have en : f_X12_onIt w 0 (nI k) = some (nI (onN t (some k))) := m_onN (v1 := 0) (r := 0) rfl M V (by omega) (o := some k) (fun j hj => by injection hj with hj; omega)
  unfold f_X12_hooksOf f_X12_hooksOf_24 hks
  rw [en, ob1_s, show (31 : Int32) = nI 31 from rfl, nI_add, chk_n (by omega) (by omega), nI_clamp (by omega), g4]
  by_cases z : tO t k = none
  · have e0 : nI (onN t (some k)) + 0 = nI (onN t (some k)) := nI_add _ 0
    rw [if_pos ((onv_nil (V.on31 hk)).mpr z), if_pos z, e0]
    rfl
  · rw [if_neg (fun q => z ((onv_nil (V.on31 hk)).mp q)), if_neg z, nI_1]
theorem m_strings_go (M : MT w 0 t) (V : VT t) (st : Nat → Int32) (x1 : Int32) : ∀ (e k q : Nat), k + e = tN t → e < q → f_X12_strings_24 w q st x1 (nI (cnt (fun k => decide (tO t k = none)) k)) (nI (mk (fun k => decide (hks t k < 2)) k)) (nI k) = f_X12_strings_84 w st x1 (nI (onN t none)) (nI (mk (fun k => decide (hks t k < 2)) (tN t))) := by
  have hn := V.1
  intro e
  induction e with
  | zero =>
    intro k q hk hq
    obtain ⟨q, rfl⟩ : ∃ q', q = q' + 1 := ⟨q - 1, by omega⟩
    obtain rfl : k = tN t := by omega
    rw [f_X12_strings_24, chk_0 (by decide) (by decide), cl_0, M.1, if_pos (nI_le (Nat.le_refl _) (by omega))]
    rfl
  | succ e ih =>
    intro k q hk hq
    obtain ⟨q, rfl⟩ : ∃ q', q = q' + 1 := ⟨q - 1, by omega⟩
    have hkn : k < tN t := by omega
    have g4 := M.go hkn
    rw [show 0 + 31 + k = 31 + k by omega] at g4
    have ho := onN_le t (some k)
    have h9 : hks t k ≤ 8 := by unfold hks; split <;> omega
    rw [f_X12_strings_24, chk_0 (by decide) (by decide), cl_0, M.1, if_neg (nI_ge hkn (by omega)), show (31 : Int32) = nI 31 from rfl, nI_add, chk_n (by omega) (by omega), nI_clamp (by omega), g4]
    have tail : ∀ c : Nat, c = cnt (fun k => decide (tO t k = none)) (k + 1) → (ob1 (f_X12_hooksOf w (nI k)) fun r_6 => if 2 ≤ r_6 then (f_X12_strings_76 w (f_X12_strings_24 w q) st x1 (nI c) (nI k) (nI (mk (fun k => decide (hks t k < 2)) k)) 0) else (f_X12_strings_76 w (f_X12_strings_24 w q) st x1 (nI c) (nI k) (nI (mk (fun k => decide (hks t k < 2)) k)) (1 <<< (nI k &&& 31)))) = f_X12_strings_84 w st x1 (nI (onN t none)) (nI (mk (fun k => decide (hks t k < 2)) (tN t))) := by
      intro c hc
      rw [m_hooksOf M V hkn, ob1_s]
      unfold f_X12_strings_76
      have em : mk (fun k => decide (hks t k < 2)) (k + 1) = mk (fun k => decide (hks t k < 2)) k ||| (if decide (hks t k < 2) = true then 2 ^ k else 0) := rfl
      have e1 := ih (k + 1) q (by omega) (by omega)
      rw [em, ← hc] at e1
      by_cases z : hks t k < 2
      · rw [decide_eq_true z, if_pos rfl] at e1
        rw [if_neg (show ¬ (2 : Int32) ≤ nI (hks t k) from nI_ge (b := 2) z (by omega)), kb_shl (by omega), kb_orp, bnd_s, nI_1, bnd_s]
        exact e1
      · rw [decide_eq_false z, if_neg Bool.false_ne_true] at e1
        rw [if_pos (show (2 : Int32) ≤ nI (hks t k) from nI_le (a := 2) (by omega) (by omega)), kb_oro, bnd_s, nI_1, bnd_s]
        exact e1
    unfold f_X12_strings_55
    by_cases z : tO t k = none
    · rw [if_pos ((onv_nil (V.on31 hkn)).mpr z), nI_1, bnd_s]
      exact tail _ (by show _ = cnt (fun k => decide (tO t k = none)) k + (if decide (tO t k = none) = true then 1 else 0); rw [decide_eq_true z, if_pos rfl])
    · have e0 : nI (cnt (fun k => decide (tO t k = none)) k) + 0 = nI (cnt (fun k => decide (tO t k = none)) k) := nI_add _ 0
      rw [if_neg (fun q => z ((onv_nil (V.on31 hkn)).mp q)), e0, bnd_s]
      exact tail _ (by show _ = cnt (fun k => decide (tO t k = none)) k + (if decide (tO t k = none) = true then 1 else 0); rw [decide_eq_false z, if_neg Bool.false_ne_true]; rfl)
theorem x_howMany (X : XT fc t) (V : VT t) : f_X0_howMany 5 (nI (tN t)) 35 fc = some (nI (onN t none)) := by
  unfold f_X0_howMany
  have en : f_X0_howManyOn 5 (nI (tN t)) 35 fc (-1) = some (nI (onN t none)) := x_onN X V (o := none) (fun j hj => by cases hj)
  rw [en, ob1_s]
theorem c_strings_eq (X : XT fc t) (V : VT t) (M : MT w 0 t) (st st2 : Nat → Int32) (x1 : Int32) :
    ∃ (r : Int32) (c : Option Nat), f_X11_strings (nI (tN t)) fc st x1 = some (r, stx c st) ∧ f_X12_strings w st2 x1 = some (r, stx c st2) ∧ (∀ i, c = some i → i < 3) := by
  have hn := V.1
  unfold f_X11_strings f_X12_strings
  rw [x_within, m_in, ob1_s, ob1_s, show (0 : Int32).toInt = (0 : Int64).toInt from rfl, show (1 : Int32).toInt = (1 : Int64).toInt from rfl]
  by_cases h : (0 : Int64).toInt ≤ x1.toInt ∧ x1.toInt ≤ (1 : Int64).toInt
  · rw [if_pos h, if_neg one_ne, if_neg one_ne]
    have e := m_strings_go M V st2 x1 (tN t) 0 FU (by omega) (Nat.lt_of_le_of_lt hn (by decide))
    have e : f_X12_strings_24 w FU st2 x1 0 0 0 = f_X12_strings_84 w st2 x1 (nI (onN t none)) (nI (mk (fun k => decide (hks t k < 2)) (tN t))) := e
    rw [e]
    unfold f_X12_strings_84
    by_cases z : x1 = 0
    · rw [if_pos z, if_pos z, x_howMany X V, ob1_s]
      exact ⟨_, none, rfl, rfl, fun i hi => by cases hi⟩
    · rw [if_neg z, if_neg z, x_ends X V, ob1_s]
      exact ⟨_, none, rfl, rfl, fun i hi => by cases hi⟩
  · rw [if_neg h, if_pos rfl, if_pos rfl, x_bad, m_bad, ob2_s, ob2_s]
    refine ⟨-2, some 0, rfl, rfl, fun i hi => ?_⟩
    injection hi with hi; omega
end ST
