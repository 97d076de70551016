/-! ===== which way a string goes ===== -/
theorem oz_toInt {z : Int} (h1 : -10000 ≤ z) (h2 : z ≤ 10000) : (Int32.ofInt z).toInt = z := Int32.toInt_ofInt_of_le (by omega) (by omega)
theorem oz_nat (n : Nat) : nI n = Int32.ofInt (n : Int) := rfl
theorem oz_le {a b : Int} (h1 : -10000 ≤ a) (h2 : a ≤ 10000) (h3 : -10000 ≤ b) (h4 : b ≤ 10000) : Int32.ofInt a ≤ Int32.ofInt b ↔ a ≤ b := by
  rw [Int32.le_iff_toInt_le, oz_toInt h1 h2, oz_toInt h3 h4]
theorem oz_lt {a b : Int} (h1 : -10000 ≤ a) (h2 : a ≤ 10000) (h3 : -10000 ≤ b) (h4 : b ≤ 10000) : Int32.ofInt a < Int32.ofInt b ↔ a < b := by
  rw [Int32.lt_iff_toInt_lt, oz_toInt h1 h2, oz_toInt h3 h4]
theorem oz_eq {a b : Int} (h1 : -10000 ≤ a) (h2 : a ≤ 10000) (h3 : -10000 ≤ b) (h4 : b ≤ 10000) : Int32.ofInt a = Int32.ofInt b ↔ a = b := by
  rw [← Int32.toInt_inj, oz_toInt h1 h2, oz_toInt h3 h4]
theorem oz_abs {z : Int} (h1 : -10000 ≤ z) (h2 : z ≤ 10000) : (if 0 ≤ Int32.ofInt z then Int32.ofInt z else 0 - Int32.ofInt z) = Int32.ofInt (if 0 ≤ z then z else -z) := by
  have h : (0 : Int32) ≤ Int32.ofInt z ↔ 0 ≤ z := oz_le (a := 0) (b := z) (by omega) (by omega) h1 h2
  by_cases h0 : 0 ≤ z
  · rw [if_pos (h.mpr h0), if_pos h0]
  · rw [if_neg (fun q => h0 (h.mp q)), if_neg h0, show (0 : Int32) = Int32.ofInt 0 from rfl, ← Int32.ofInt_sub]
    congr 1
    omega
def sgz (z : Int) : Int := if z = 0 then 0 else if 0 < z then 1 else -1
theorem sig_dec : ∀ k : Nat, k < 1639 → f_J6_signum_0f7a4 (Int32.ofInt ((k : Int) - 819)) = some (Int32.ofInt (sgz ((k : Int) - 819))) := by decide +kernel
theorem x_sig {z : Int} (h1 : -819 ≤ z) (h2 : z ≤ 819) : f_J6_signum_0f7a4 (Int32.ofInt z) = some (Int32.ofInt (sgz z)) := by
  have h := sig_dec (z + 819).toNat (by omega)
  rw [show (((z + 819).toNat : Nat) : Int) - 819 = z by omega] at h
  exact h
def dirz (z : Int) (W : Nat) : Int := if (W : Int) ≤ z then 1 else if z ≤ -(W : Int) then -1 else 0
theorem dirz_3 (z : Int) (W : Nat) : dirz z W = -1 ∨ dirz z W = 0 ∨ dirz z W = 1 := by
  unfold dirz
  split
  · exact Or.inr (Or.inr rfl)
  · split
    · exact Or.inl rfl
    · exact Or.inr (Or.inl rfl)
def okd (d : Nat) (s : Int) : Bool := decide (0 ≤ (d : Int) + s ∧ (d : Int) + s ≤ 11)
theorem x_desk_dec : ∀ d, d < 12 → ∀ k : Nat, k < 3 → f_X11_isDesk (nI d + Int32.ofInt ((k : Int) - 1)) = some (if okd d ((k : Int) - 1) then 1 else 0) := by decide +kernel
theorem m_desk_dec : ∀ d, d < 12 → ∀ k : Nat, k < 3 → f_X12_in ((nI d + Int32.ofInt ((k : Int) - 1)).toInt64) 0 11 = some (if okd d ((k : Int) - 1) then 1 else 0) := by decide +kernel
theorem x_desk {d : Nat} {s : Int} (hd : d < 12) (hs : s = -1 ∨ s = 0 ∨ s = 1) : f_X11_isDesk (nI d + Int32.ofInt s) = some (if okd d s then 1 else 0) := by
  rcases hs with rfl | rfl | rfl
  · exact x_desk_dec d hd 0 (by omega)
  · exact x_desk_dec d hd 1 (by omega)
  · exact x_desk_dec d hd 2 (by omega)
theorem m_desk {d : Nat} {s : Int} (hd : d < 12) (hs : s = -1 ∨ s = 0 ∨ s = 1) : f_X12_in ((nI d + Int32.ofInt s).toInt64) 0 11 = some (if okd d s then 1 else 0) := by
  rcases hs with rfl | rfl | rfl
  · exact m_desk_dec d hd 0 (by omega)
  · exact m_desk_dec d hd 1 (by omega)
  · exact m_desk_dec d hd 2 (by omega)
def allF (p : Nat → Bool) : Nat → Nat → Bool
  | 0, _ => true
  | d + 1, c => p c && allF p d (c + 1)
theorem allF_at {p : Nat → Bool} : ∀ {d c k : Nat}, allF p d c = true → c ≤ k → k < c + d → p k = true := by
  intro d
  induction d with
  | zero => intro c k _ h1 h2; omega
  | succ d ih =>
    intro c k h h1 h2
    have h : (p c && allF p d (c + 1)) = true := h
    rw [Bool.and_eq_true] at h
    rcases Nat.lt_or_ge c k with q | q
    · exact ih h.2 (by omega) (by omega)
    · obtain rfl : c = k := by omega
      exact h.1
def fitB (t : Tb) (m : Nat) (s : Int) : Bool := allF (fun c => !(m.testBit c) || okd (tD t c) s) (tN t) 0
def wayz (t : Tb) (g : Mg) (m : Nat) (ev : Bool) : Int := if fitB t m (dirz (drz t g m ev) (wgt t m)) then dirz (drz t g m ev) (wgt t m) else 0
theorem wayz_3 (t : Tb) (g : Mg) (m : Nat) (ev : Bool) : wayz t g m ev = -1 ∨ wayz t g m ev = 0 ∨ wayz t g m ev = 1 := by
  unfold wayz
  split
  · exact dirz_3 _ _
  · exact Or.inr (Or.inl rfl)
theorem okd_0 {d : Nat} (h : d < 12) : okd d 0 = true := by unfold okd; exact decide_eq_true (by omega)
theorem wayz_ok {t : Tb} (V : VT t) (g : Mg) (m : Nat) (ev : Bool) {c : Nat} (hc : c < tN t) (hb : m.testBit c = true) : okd (tD t c) (wayz t g m ev) = true := by
  unfold wayz
  split
  · rename_i h
    have := allF_at (k := c) h (by omega) (by omega)
    rw [hb] at this
    exact this
  · exact okd_0 (V.2.1 c hc).2.1
section WY
variable {f fm w : Nat → Int32} {r : Nat} {t : Tb} {g : Mg} {v1 : Int32}
theorem x_step (X : XT f t) (V : VT t) (Y : XM fm g) (W : VM g) {m d : Nat} (hm : m < 2 ^ 31) (hd : d < 2 ^ 31) (h1 : 1 ≤ wgt t m) : f_X1_step 5 (nI (tN t)) 35 f 3 (nI (gN g)) 9 fm (nI m) (nI d) = some (Int32.ofInt (wayz t g m (d % 2 == 0))) := by
  have hn := V.1
  have hw := wgt_le V m
  have hz := drz_le V W m (d % 2 == 0)
  unfold f_X1_step
  rw [x_drawn X V Y W hm hd, ob1_s, x_weight X V hm, ob1_s, oz_abs (by omega) (by omega), oz_nat]
  generalize hzz : drz t g m (d % 2 == 0) = z at hz ⊢
  have hd0 : dirz z (wgt t m) = if (wgt t m : Int) ≤ (if 0 ≤ z then z else -z) then sgz z else 0 := by
    unfold dirz sgz
    split <;> split <;> (try split) <;> (try split) <;> (try split) <;> omega
  have hway : wayz t g m (d % 2 == 0) = if fitB t m (dirz z (wgt t m)) then dirz z (wgt t m) else 0 := by unfold wayz; rw [hzz]
  have hle := oz_le (a := (wgt t m : Int)) (b := if 0 ≤ z then z else -z) (by omega) (by omega) (by split <;> omega) (by split <;> omega)
  by_cases q : (wgt t m : Int) ≤ (if 0 ≤ z then z else -z)
  · rw [if_pos (hle.mpr q), x_sig hz.1 hz.2, ob1_s]
    rw [if_pos q] at hd0
    rw [← hd0]
    have hs := dirz_3 z (wgt t m)
    generalize dirz z (wgt t m) = s at hs hway ⊢
    have go : ∀ (e c q : Nat), c + e = tN t → e < q → f_X1_step_34 5 (nI (tN t)) 35 f 3 (nI (gN g)) 9 fm q (nI m) (Int32.ofInt s) (nI c) = some (if allF (fun c => !(m.testBit c) || okd (tD t c) s) e c then Int32.ofInt s else 0) := by
      intro e
      induction e with
      | zero =>
        intro c q hc hq
        obtain ⟨q, rfl⟩ : ∃ q', q = q' + 1 := ⟨q - 1, by omega⟩
        obtain rfl : c = tN t := by omega
        rw [f_X1_step_34, x_size, ob1_s, if_pos (nI_le (Nat.le_refl _) (by omega))]
        rfl
      | succ e ih =>
        intro c q hc hq
        obtain ⟨q, rfl⟩ : ∃ q', q = q' + 1 := ⟨q - 1, by omega⟩
        have hcn : c < tN t := by omega
        rw [f_X1_step_34, x_size, ob1_s, if_neg (nI_ge hcn (by omega)), x_hasBit hm (by omega), ob1_s]
        unfold f_X1_step_70
        rw [nI_1, bnd_s, ih (c + 1) q (by omega) (by omega), X.d hcn hn, ob1_s, x_desk (V.2.1 c hcn).2.1 hs, ob1_s, allF]
        cases m.testBit c <;> cases okd (tD t c) s <;> simp
    rw [show (0 : Int32) = nI 0 from rfl, go (tN t) 0 FU (by omega) (Nat.lt_of_le_of_lt hn (by decide)), hway]
    unfold fitB
    split <;> rfl
  · rw [if_neg (fun q2 => q (hle.mp q2)), hway, hd0, if_neg q]
    split <;> rfl
theorem m_way (hv : v1 = nI r) (M : MT w r t) (V : VT t) (Y : MM w r g) (W : VM g) (hr : r + 47 ≤ 1251) {m d : Nat} (hm : m < 2 ^ 31) (hd : d < 2 ^ 31) (hw : w (r + 2) = nI d) : f_X12_wayOf w v1 (nI m) = some (Int32.ofInt (wayz t g m (d % 2 == 0))) := by
  have hn := V.1
  have hwl := wgt_le V m
  have hz := drz_le V W m (d % 2 == 0)
  unfold f_X12_wayOf
  rw [m_drawn hv M V Y W hr hm hd hw, ob1_s, m_weighs hv M V hr hm, ob1_s, oz_nat, ← Int32.ofInt_neg]
  generalize hzz : drz t g m (d % 2 == 0) = z at hz ⊢
  have hway : wayz t g m (d % 2 == 0) = if fitB t m (dirz z (wgt t m)) then dirz z (wgt t m) else 0 := by unfold wayz; rw [hzz]
  have fin : ∀ s : Int, s = dirz z (wgt t m) → f_X12_wayOf_37 w v1 (nI m) (Int32.ofInt s) = some (Int32.ofInt (wayz t g m (d % 2 == 0))) := fun s hs0 => by
    have hs : s = -1 ∨ s = 0 ∨ s = 1 := by rw [hs0]; exact dirz_3 _ _
    rw [hway, ← hs0]
    unfold f_X12_wayOf_37
    have go : ∀ (e c q : Nat) (fl : Bool), c + e = tN t → e < q → f_X12_wayOf_45 w q v1 (nI m) (Int32.ofInt s) (if fl then 1 else 0) (nI c) = some (if fl && allF (fun c => !(m.testBit c) || okd (tD t c) s) e c then Int32.ofInt s else 0) := by
      intro e
      induction e with
      | zero =>
        intro c q fl hc hq
        obtain ⟨q, rfl⟩ : ∃ q', q = q' + 1 := ⟨q - 1, by omega⟩
        obtain rfl : c = tN t := by omega
        rw [f_X12_wayOf_45, hv, mx0, chk_n (by omega) (by omega), nI_clamp (by omega), M.1, if_pos (nI_le (Nat.le_refl _) (by omega))]
        unfold f_X12_wayOf_111
        cases fl <;> rfl
      | succ e ih =>
        intro c q fl hc hq
        obtain ⟨q, rfl⟩ : ∃ q', q = q' + 1 := ⟨q - 1, by omega⟩
        have hcn : c < tN t := by omega
        have i1 := ih (c + 1) q true (by omega) (by omega)
        have i0 := ih (c + 1) q false (by omega) (by omega)
        rw [f_X12_wayOf_45, hv, mx0, chk_n (by omega) (by omega), nI_clamp (by omega), M.1, if_neg (nI_ge hcn (by omega)), m_has hm (by omega), ob1_s, mx17, chk_n (by omega) (by omega), nI_clamp (by omega), M.gd hcn, m_desk (V.2.1 c hcn).2.1 hs, ob1_s, ← hv]
        unfold f_X12_wayOf_102 f_X12_wayOf_98 f_X12_wayOf_103
        rw [nI_1, bnd_s, bnd_s, allF]
        simp only [if_true, Bool.false_eq_true, if_false] at i1 i0
        rw [i1, i0]
        cases fl <;> cases m.testBit c <;> cases okd (tD t c) s <;> simp
    have e := go (tN t) 0 FU true (by omega) (Nat.lt_of_le_of_lt hn (by decide))
    simp only [if_true, Bool.true_and] at e
    rw [show (0 : Int32) = nI 0 from rfl] at e ⊢
    rw [e]
    unfold fitB
    split <;> rfl
  have l1 := oz_lt (a := z) (b := (wgt t m : Int)) (by omega) (by omega) (by omega) (by omega)
  have l2 := oz_lt (a := -(wgt t m : Int)) (b := z) (by omega) (by omega) (by omega) (by omega)
  by_cases q1 : z < (wgt t m : Int)
  · rw [if_pos (l1.mpr q1)]
    by_cases q2 : -(wgt t m : Int) < z
    · rw [if_pos (l2.mpr q2)]
      exact fin 0 (by unfold dirz; rw [if_neg (by omega), if_neg (by omega)])
    · rw [if_neg (fun q => q2 (l2.mp q))]
      rw [show (-1 : Int32) = Int32.ofInt (-1) from by decide]
      exact fin (-1) (by unfold dirz; rw [if_neg (by omega), if_pos (by omega)])
  · rw [if_neg (fun q => q1 (l1.mp q))]
    exact fin 1 (by unfold dirz; rw [if_pos (by omega)])
end WY
