/-! ===== the reference's days, bounds ===== -/
theorem m_in (v : Int32) {a b : Int64} : f_X12_in v.toInt64 a b = some (if a.toInt ≤ v.toInt ∧ v.toInt ≤ b.toInt then 1 else 0) := by
  have hv : v.toInt64.toInt = v.toInt := Int32.toInt_toInt64 v
  unfold f_X12_in
  have h1 : (lg_cmp v.toInt64 a < 0) ↔ v.toInt < a.toInt := by rw [lg_cmp_lt, Int64.lt_iff_toInt_lt, hv]
  have h2 : (0 < lg_cmp v.toInt64 b) ↔ b.toInt < v.toInt := by rw [lg_cmp_gt, Int64.lt_iff_toInt_lt, hv]
  by_cases x : v.toInt < a.toInt
  · rw [if_pos (h1.mpr x), if_neg (by omega)]
  · rw [if_neg (fun y => x (h1.mp y))]
    by_cases z : b.toInt < v.toInt
    · rw [if_pos (h2.mpr z), if_neg (by omega)]
    · rw [if_neg (fun y => z (h2.mp y)), if_pos ⟨by omega, by omega⟩]
/-- a word within 0..n is a natural number -/
theorem nat_of {v : Int32} (h : 0 ≤ v.toInt) : ∃ k : Nat, v = nI k ∧ (k : Int) = v.toInt ∧ k < 2 ^ 31 := by
  refine ⟨v.toInt.toNat, ?_, Int.toNat_of_nonneg h, ?_⟩
  · apply Int32.toInt_inj.mp
    rw [nI_toInt (by have := Int32.toInt_lt v; omega), Int.toNat_of_nonneg h]
  · have := Int32.toInt_lt v; omega
theorem sub1_64 {n : Nat} (hn : n < 2 ^ 31) : ((nI n - 1).toInt64).toInt = (n : Int) - 1 := by
  rw [Int32.toInt_toInt64]
  by_cases h : n = 0
  · subst h; rfl
  · obtain ⟨m, rfl⟩ : ∃ m, n = m + 1 := ⟨n - 1, by omega⟩
    rw [show nI (m + 1) - 1 = nI m from by rw [← nI_1, Int32.add_sub_cancel], nI_toInt (by omega)]
    omega
def wthn (v : Int32) (n : Nat) : Bool := decide (0 ≤ v.toInt ∧ v.toInt < (n : Int))
section ISC
variable {w : Nat → Int32}
theorem m_isClerk {t : Tb} (M : MT w 0 t) (V : VT t) (v : Int32) : f_X12_isClerk w v = some (if wthn v (tN t) = true then 1 else 0) := by
  have hn := V.1
  unfold f_X12_isClerk
  rw [chk_0 (by decide) (by decide), cl_0, M.1, m_in, ob1_s, sub1_64 (by omega)]
  have e : ((0 : Int64).toInt ≤ v.toInt ∧ v.toInt ≤ (tN t : Int) - 1) ↔ wthn v (tN t) = true := by
    unfold wthn
    rw [decide_eq_true_iff, show (0 : Int64).toInt = 0 from rfl]
    constructor <;> (intro h; omega)
  by_cases h : wthn v (tN t) = true
  · rw [if_pos (e.mpr h), if_pos h]; rfl
  · rw [if_neg (fun x => h (e.mp x)), if_neg h]; rfl
theorem m_isMagnet {g : Mg} (Y : MM w 0 g) (W : VM g) (v : Int32) : f_X12_isMagnet w v = some (if wthn v (gN g) = true then 1 else 0) := by
  have hn := W.1
  unfold f_X12_isMagnet
  rw [show (1 : Int32) = nI 1 from rfl, chk_n (by omega) (by omega), nI_clamp (by omega), show w 1 = nI (gN g) from Y.1, show nI 1 = (1 : Int32) from rfl, m_in, ob1_s, sub1_64 (by omega)]
  have e : ((0 : Int64).toInt ≤ v.toInt ∧ v.toInt ≤ (gN g : Int) - 1) ↔ wthn v (gN g) = true := by
    unfold wthn
    rw [decide_eq_true_iff, show (0 : Int64).toInt = 0 from rfl]
    constructor <;> (intro h; omega)
  by_cases h : wthn v (gN g) = true
  · rw [if_pos (e.mpr h), if_pos h]; rfl
  · rw [if_neg (fun x => h (e.mp x)), if_neg h]; rfl
end ISC
theorem wthn_n {v : Int32} {n : Nat} (h : wthn v n = true) : ∃ k, v = nI k ∧ k < n := by
  have h := of_decide_eq_true h
  obtain ⟨k, h1, h2, h3⟩ := nat_of h.1
  exact ⟨k, h1, by omega⟩
/-- what days leave of the rest -/
def dSame (r : Nat) (w w' : Nat → Int32) : Prop := ∀ x, x ≠ r + 2 → (x < r + 17 ∨ r + 31 ≤ x) → w' x = w x
theorem dSame.refl {r : Nat} {w : Nat → Int32} : dSame r w w := fun _ _ _ => rfl
theorem dSame.trans {r : Nat} {w w' w'' : Nat → Int32} (h : dSame r w w') (h' : dSame r w' w'') : dSame r w w'' := fun x a b => (h' x a b).trans (h x a b)
section MD
variable {g : Mg}
theorem m_then_go (W : VM g) (v1 : Int32) (st : Nat → Int32) {d0 N : Nat} (hN : d0 + N < 2 ^ 30) : ∀ (e j q : Nat) (t : Tb) (w : Nat → Int32) (ways : Nat → Int32) (went : Nat), j + e = N → e < q → MT w 1204 t → VT t → MM w 1204 g → w 1206 = nI (d0 + j) →
    ∃ w' ways', f_X12_then_33 q (nI went) w st ways v1 (nI N) (nI j) = f_X12_then_51 (nI (dyW g e (d0 + j) t went)) w' st ways' v1 ∧ MT w' 1204 (dyT g e (d0 + j) t) ∧ MM w' 1204 g ∧ dSame 1204 w w' := by
  intro e
  induction e with
  | zero =>
    intro j q t w ways went hj hq M V Y hw
    obtain ⟨q, rfl⟩ : ∃ q', q = q' + 1 := ⟨q - 1, by omega⟩
    obtain rfl : j = N := by omega
    rw [f_X12_then_33, if_pos (nI_le (Nat.le_refl _) (by omega))]
    exact ⟨w, ways, rfl, M, Y, dSame.refl⟩
  | succ e ih =>
    intro j q t w ways went hj hq M V Y hw
    obtain ⟨q, rfl⟩ : ∃ q', q = q' + 1 := ⟨q - 1, by omega⟩
    rw [f_X12_then_33, if_neg (nI_ge (by omega) (by omega))]
    obtain ⟨w', ways', e1, M1, Y1, h2, h3⟩ := m_passes (v1 := 1204) (r := 1204) rfl M V Y W (by omega) (d := d0 + j) (by omega) hw (nI went) ways
    rw [e1, ob3_s, nI_1, bnd_s]
    obtain ⟨w2, ways2, e2, M2, Y2, h4⟩ := ih (j + 1) q (moved t g ((d0 + j) % 2 == 0)) w' ways' _ (by omega) (by omega) M1 (moved_V V g _) Y1 h2
    exact ⟨w2, ways2, e2, M2, Y2, dSame.trans h3 h4⟩
end MD
