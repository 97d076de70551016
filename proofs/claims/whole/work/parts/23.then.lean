/-! ===== refusals, bounds, copies of the class; then ===== -/
/-- which status a call adds to, if it refuses -/
def stx : Option Nat → (Nat → Int32) → Nat → Int32
  | none, st => st
  | some i, st => upd st i (st i + 1)
theorem x_within (v a b : Int32) : f_X11_within v a b = some (if a.toInt ≤ v.toInt ∧ v.toInt ≤ b.toInt then 1 else 0) := by
  unfold f_X11_within
  have h1 : (v < a) ↔ v.toInt < a.toInt := Int32.lt_iff_toInt_lt
  have h2 : (b < v) ↔ b.toInt < v.toInt := Int32.lt_iff_toInt_lt
  by_cases x : v.toInt < a.toInt
  · rw [if_pos (h1.mpr x), if_neg (by omega)]
  · rw [if_neg (fun y => x (h1.mp y))]
    by_cases z : b.toInt < v.toInt
    · rw [if_pos (h2.mpr z), if_neg (by omega)]
    · rw [if_neg (fun y => z (h2.mp y)), if_pos ⟨by omega, by omega⟩]
theorem x_has {n : Nat} (hn : n < 2 ^ 31) (v : Int32) : f_X7_has (nI n) v = some (if wthn v n = true then 1 else 0) := by
  unfold f_X7_has
  have h1 : (v < 0) ↔ v.toInt < 0 := Int32.lt_iff_toInt_lt
  have h2 : (nI n ≤ v) ↔ (n : Int) ≤ v.toInt := by rw [Int32.le_iff_toInt_le, nI_toInt hn]
  unfold wthn
  by_cases x : v.toInt < 0
  · rw [if_pos (h1.mpr x), if_neg (by rw [decide_eq_true_iff]; omega)]
  · rw [if_neg (fun y => x (h1.mp y))]
    by_cases z : (n : Int) ≤ v.toInt
    · rw [if_pos (h2.mpr z), if_neg (by rw [decide_eq_true_iff]; omega)]
    · rw [if_neg (fun y => z (h2.mp y)), if_pos (by rw [decide_eq_true_iff]; omega)]
theorem chb_01 {α : Type} {p : Prop} [Decidable p] {k : Option α} : chb (if p then 1 else 0) k = k := by
  by_cases h : p
  · rw [if_pos h]; rfl
  · rw [if_neg h]; rfl
theorem x_isClerk {n : Nat} (hn : n < 2 ^ 31) (v : Int32) : f_X11_isClerk (nI n) v = some (if wthn v n = true then 1 else 0) := by
  unfold f_X11_isClerk
  rw [x_has hn, ob1_s, chb_01]
theorem x_isMagnet {n : Nat} (hn : n < 2 ^ 31) (v : Int32) : f_X11_isMagnet (nI n) v = some (if wthn v n = true then 1 else 0) := by
  unfold f_X11_isMagnet
  rw [x_has hn, ob1_s, chb_01]
theorem cell_in {N i : Nat} (f : Nat → Int32) (hi : i < N) (hN : N < 2 ^ 31) : f_X11_cell N f (nI i) = some (f i) := by
  unfold f_X11_cell
  rw [if_neg (nI_pos (by omega)), if_neg (nI_ge hi hN), chk_n hi hN, nI_clamp (by omega)]
theorem setc_in {N i : Nat} (f : Nat → Int32) (v : Int32) (hi : i < N) (hN : N < 2 ^ 31) : f_X11_setCell N f (nI i) v = some (upd f i v) := by
  unfold f_X11_setCell
  rw [if_neg (nI_pos (by omega)), if_neg (nI_ge hi hN), chk_n hi hN, nI_clamp (by omega), bnd_s]
theorem x_refuse {i : Nat} (hi : i < 3) (st : Nat → Int32) {c : Int32} (hc : (-2 : Int32) - c = nI i) : f_X11_refuse st c = some (c, stx (some i) st) := by
  unfold f_X11_refuse
  rw [hc, bnd_s, cell_in st hi (by omega), ob1_s, setc_in st _ hi (by omega), ob1_s]
  rfl
theorem x_bad (st : Nat → Int32) : f_X11_refuse st (-2) = some (-2, stx (some 0) st) := x_refuse (i := 0) (by omega) st rfl
theorem x_no (st : Nat → Int32) : f_X11_refuse st (-3) = some (-3, stx (some 1) st) := x_refuse (i := 1) (by omega) st rfl
theorem x_full (st : Nat → Int32) : f_X11_refuse st (-4) = some (-4, stx (some 2) st) := x_refuse (i := 2) (by omega) st rfl
theorem xcopy_go {most W s N N2 : Nat} {f2 : Nat → Int32} (hW : s * W ≤ N) (hW2 : s * W ≤ N2) (hN : N < 1000) (hN2 : N2 < 1000) (f0 : Nat → Int32) : ∀ (e j q : Nat) (f : Nat → Int32), j + e = s * W → e < q → (∀ x, f x = if x < j then f2 x else f0 x) →
    ∃ f', f_X7_copyFrom_17 (nI most) (nI W) N (nI s) N2 f2 q (nI s) f (nI j) = some (nI s, f') ∧ ∀ x, f' x = if x < s * W then f2 x else f0 x := by
  intro e
  induction e with
  | zero =>
    intro j q f hj hq h
    obtain ⟨q, rfl⟩ : ∃ q', q = q' + 1 := ⟨q - 1, by omega⟩
    obtain rfl : j = s * W := by omega
    rw [f_X7_copyFrom_17, show nI s * nI W = nI (s * W) from (pk_mul s W), if_pos (nI_le (Nat.le_refl _) (by omega))]
    exact ⟨f, rfl, h⟩
  | succ e ih =>
    intro j q f hj hq h
    obtain ⟨q, rfl⟩ : ∃ q', q = q' + 1 := ⟨q - 1, by omega⟩
    rw [f_X7_copyFrom_17, show nI s * nI W = nI (s * W) from (pk_mul s W), if_neg (nI_ge (by omega) (by omega)), cell_in f2 (by omega) (by omega), ob1_s, setc_in f _ (by omega) (by omega), ob1_s, nI_1, bnd_s]
    refine ih (j + 1) q _ (by omega) (by omega) (fun x => ?_)
    by_cases z : x = j
    · subst z
      rw [pk_us, if_pos (by omega)]
    · rw [pk_un z, h x]
      by_cases y : x < j
      · rw [if_pos y, if_pos (by omega)]
      · rw [if_neg y, if_neg (by omega)]
theorem x_copy {most W s N N2 : Nat} {sz : Int32} {f2 f0 : Nat → Int32} (hs : s ≤ most) (hm : most < 1000) (hW : s * W ≤ N) (hW2 : s * W ≤ N2) (hN : N < 1000) (hN2 : N2 < 1000) :
    ∃ f', f_X7_copyFrom (nI most) (nI W) sz N f0 (nI s) N2 f2 = some (nI s, f') ∧ ∀ x, f' x = if x < s * W then f2 x else f0 x := by
  unfold f_X7_copyFrom
  rw [if_neg (nI_nlt hs (by omega)), bnd_s]
  exact xcopy_go hW hW2 hN hN2 f0 (s * W) 0 FU f0 (by omega) (Nat.lt_of_le_of_lt hW (Nat.lt_of_lt_of_le hN (by decide))) (fun x => by rw [if_neg (by omega)])
theorem x_trial {t : Tb} {fc f0 : Nat → Int32} {sz : Int32} (X : XT fc t) (hn : tN t ≤ 7) : ∃ f', f_X7_copyFrom 7 5 sz 35 f0 (nI (tN t)) 35 fc = some (nI (tN t), f') ∧ XT f' t := by
  obtain ⟨f', h1, h2⟩ := x_copy (most := 7) (W := 5) (s := tN t) (N := 35) (N2 := 35) (sz := sz) (f2 := fc) (f0 := f0) hn (by omega) (by omega) (by omega) (by omega) (by omega)
  refine ⟨f', h1, fun i hi => ?_⟩
  have e : ∀ c, c < 5 → f' (i * 5 + c) = fc (i * 5 + c) := fun c hc => by rw [h2, if_pos (by omega)]
  rw [e 0 (by omega), e 1 (by omega), e 2 (by omega), e 3 (by omega), e 4 (by omega)]
  exact X i hi
theorem tries_MT {w w' : Nat → Int32} {t : Tb} (M : MT w 0 t) (hn : tN t ≤ 7) (h : ∀ x, w' x = if 1204 ≤ x ∧ x < 1204 + 47 then w (x - 1204) else w x) : MT w' 1204 t := by
  have e : ∀ x, x < 47 → w' (1204 + x) = w x := fun x hx => by rw [h, if_pos (by omega), show 1204 + x - 1204 = x by omega]
  refine ⟨by rw [show (1204 : Nat) = 1204 + 0 from rfl, e 0 (by omega)]; exact M.1, fun i hi => ?_⟩
  have := M.2 i hi
  rw [Nat.add_assoc, Nat.add_assoc, Nat.add_assoc, Nat.add_assoc, Nat.add_assoc, e _ (by omega), e _ (by omega), e _ (by omega), e _ (by omega), e _ (by omega)]
  simpa using this
theorem tries_MM {w w' : Nat → Int32} {g : Mg} (Y : MM w 0 g) (hn : gN g ≤ 3) (h : ∀ x, w' x = if 1204 ≤ x ∧ x < 1204 + 47 then w (x - 1204) else w x) : MM w' 1204 g := by
  have e : ∀ x, x < 47 → w' (1204 + x) = w x := fun x hx => by rw [h, if_pos (by omega), show 1204 + x - 1204 = x by omega]
  refine ⟨by rw [e 1 (by omega)]; exact Y.1, fun i hi => ?_⟩
  have := Y.2 i hi
  rw [Nat.add_assoc, Nat.add_assoc, Nat.add_assoc, e _ (by omega), e _ (by omega), e _ (by omega)]
  simpa using this
