/-! ===== how magnets pull ===== -/
def plN (p f : Nat) : Nat := if f ≤ 2 * p then 2 * p - f else 0
def hsN (p f : Nat) : Nat := if f ≤ 2 then 2 * plN p f else plN p f
def pz (k p f : Nat) (ev : Bool) : Int := match k with
  | 1 => hsN p f
  | 2 => (plN p f + 1) / 2
  | 3 => if ev then ((plN p f + 1) / 2 : Nat) else 0
  | 4 => -(plN p f : Int)
  | 5 => if 1 ≤ hsN p f then (hsN p f + 3 : Nat) else (hsN p f : Nat)
  | _ => plN p f
theorem pz_le {k p f : Nat} {ev : Bool} (hp : p < 10) : -39 ≤ pz k p f ev ∧ pz k p f ev ≤ 39 := by
  have h1 : plN p f ≤ 18 := by unfold plN; split <;> omega
  have h2 : hsN p f ≤ 36 := by unfold hsN; split <;> omega
  unfold pz
  split <;> (try split) <;> omega
theorem x_pull_dec : ∀ k, k < 6 → ∀ p, p < 10 → ∀ f, f < 12 → ∀ d, d < 2 → f_X4_pulls (nI k) (nI p) (nI f) (nI d) = some (Int32.ofInt (pz k p f (d == 0))) := by decide +kernel
theorem m_pull_dec : ∀ k, k < 6 → ∀ p, p < 10 → ∀ f, f < 12 → ∀ d, d < 2 → f_X12_pullOf (nI k) (nI p) (nI f) (nI d) = some (Int32.ofInt (pz k p f (d == 0))) := by decide +kernel
theorem rem2 {d : Nat} (hd : d < 2 ^ 31) : nI d - nI d / 2 * 2 = nI (d % 2) - nI (d % 2) / 2 * 2 := by
  have h1 : nI d - nI d / nI 2 * nI 2 = nI (d % 2) := pk_rem hd (by omega) (by omega)
  have h2 : nI (d % 2) - nI (d % 2) / nI 2 * nI 2 = nI (d % 2 % 2) := pk_rem (by omega) (by omega) (by omega)
  have h3 : d % 2 % 2 = d % 2 := by omega
  rw [h3] at h2
  exact h1.trans h2.symm
theorem x_pull {k p f d : Nat} (hk : k < 6) (hp : p < 10) (hf : f < 12) (hd : d < 2 ^ 31) : f_X4_pulls (nI k) (nI p) (nI f) (nI d) = some (Int32.ofInt (pz k p f (d % 2 == 0))) := by
  rw [← x_pull_dec k hk p hp f hf (d % 2) (by omega)]
  unfold f_X4_pulls f_X4_pulls_25
  rw [rem2 hd]
theorem m_pull {k p f d : Nat} (hk : k < 6) (hp : p < 10) (hf : f < 12) (hd : d < 2 ^ 31) : f_X12_pullOf (nI k) (nI p) (nI f) (nI d) = some (Int32.ofInt (pz k p f (d % 2 == 0))) := by
  rw [← m_pull_dec k hk p hp f hf (d % 2) (by omega)]
  unfold f_X12_pullOf
  rw [rem2 hd]
def far (a b : Nat) : Nat := if b ≤ a then a - b else b - a
def sgn (a b : Nat) : Int := if a = b then 0 else if b < a then 1 else -1
theorem x_side_dec : ∀ a, a < 12 → ∀ b, b < 12 → (if 0 ≤ nI a - nI b then nI a - nI b else 0 - (nI a - nI b)) = nI (far a b) ∧ f_J6_signum_0f7a4 (nI a - nI b) = some (Int32.ofInt (sgn a b)) ∧ far a b < 12 := by decide +kernel
theorem m_side_dec : ∀ a, a < 12 → ∀ b, b < 12 → ((nI a - nI b = 0) ↔ a = b) ∧ ((0 ≤ nI a - nI b) ↔ b ≤ a) ∧ (b ≤ a → nI a - nI b = nI (far a b)) ∧ (a < b → -(nI a - nI b) = nI (far a b)) := by decide +kernel
/-! ===== the magnets: how many, kinds, desks, powers ===== -/
abbrev Mg : Type := Nat × (Nat → Nat) × (Nat → Nat) × (Nat → Nat)
abbrev gN (g : Mg) : Nat := g.1
abbrev gK (g : Mg) : Nat → Nat := g.2.1
abbrev gD (g : Mg) : Nat → Nat := g.2.2.1
abbrev gP (g : Mg) : Nat → Nat := g.2.2.2
def VM (g : Mg) : Prop := gN g ≤ 3 ∧ ∀ i, i < gN g → gK g i < 6 ∧ gD g i < 12 ∧ 1 ≤ gP g i ∧ gP g i < 10
def XM (f : Nat → Int32) (g : Mg) : Prop := ∀ i, i < gN g → f (i * 3 + 0) = nI (gK g i) ∧ f (i * 3 + 1) = nI (gD g i) ∧ f (i * 3 + 2) = nI (gP g i)
def MM (w : Nat → Int32) (r : Nat) (g : Mg) : Prop := w (r + 1) = nI (gN g) ∧ ∀ i, i < gN g → w (r + 38 + i) = nI (gK g i) ∧ w (r + 41 + i) = nI (gD g i) ∧ w (r + 44 + i) = nI (gP g i)
theorem XM.k {f : Nat → Int32} {g : Mg} (X : XM f g) {i : Nat} (hi : i < gN g) (hn : gN g ≤ 3) : f_X7_get 3 (nI (gN g)) 9 f (nI i) 0 = some (nI (gK g i)) := by
  rw [← (X i hi).1]; exact get_in (W := 3) (c := 0) hi (by omega) (by omega) (by omega) (by omega) (by omega)
theorem XM.d {f : Nat → Int32} {g : Mg} (X : XM f g) {i : Nat} (hi : i < gN g) (hn : gN g ≤ 3) : f_X7_get 3 (nI (gN g)) 9 f (nI i) 1 = some (nI (gD g i)) := by
  rw [← (X i hi).2.1]; exact get_in (W := 3) (c := 1) hi (by omega) (by omega) (by omega) (by omega) (by omega)
theorem XM.p {f : Nat → Int32} {g : Mg} (X : XM f g) {i : Nat} (hi : i < gN g) (hn : gN g ≤ 3) : f_X7_get 3 (nI (gN g)) 9 f (nI i) 2 = some (nI (gP g i)) := by
  rw [← (X i hi).2.2]; exact get_in (W := 3) (c := 2) hi (by omega) (by omega) (by omega) (by omega) (by omega)
/-! ===== how a set of clerks is drawn ===== -/
def sumZ (g : Nat → Int) : Nat → Int
  | 0 => 0
  | n + 1 => sumZ g n + g n
theorem sumZ_congr {g g' : Nat → Int} {n : Nat} (h : ∀ k, k < n → g k = g' k) : sumZ g n = sumZ g' n := by
  induction n with
  | zero => rfl
  | succ n ih => show sumZ g n + g n = sumZ g' n + g' n; rw [ih (fun k hk => h k (by omega)), h n (by omega)]
theorem sumZ_le {g : Nat → Int} {b : Nat} {n : Nat} (h : ∀ k, k < n → -(b : Int) ≤ g k ∧ g k ≤ b) : -((n * b : Nat) : Int) ≤ sumZ g n ∧ sumZ g n ≤ (n * b : Nat) := by
  induction n with
  | zero => simp [sumZ]
  | succ n ih =>
    have h1 := ih (fun k hk => h k (by omega))
    have h2 := h n (by omega)
    rw [Nat.succ_mul, sumZ]
    omega
/-- one magnet's pull on one clerk -/
def tz (md dk k p : Nat) (ev : Bool) : Int := sgn md dk * pz k p (far md dk) ev
theorem tz_le {md dk k p : Nat} {ev : Bool} (hp : p < 10) : -((39 : Nat) : Int) ≤ tz md dk k p ev ∧ tz md dk k p ev ≤ ((39 : Nat) : Int) := by
  have h := pz_le (k := k) (f := far md dk) (ev := ev) hp
  unfold tz sgn
  split
  · simp
  · split <;> omega
def dr1 (t : Tb) (g : Mg) (ev : Bool) (c : Nat) : Int := sumZ (fun m => tz (gD g m) (tD t c) (gK g m) (gP g m) ev) (gN g)
def drz (t : Tb) (g : Mg) (m : Nat) (ev : Bool) : Int := sumZ (fun c => if m.testBit c then dr1 t g ev c else 0) (tN t)
theorem dr1_le {t : Tb} {g : Mg} (W : VM g) (ev : Bool) (c : Nat) : -((117 : Nat) : Int) ≤ dr1 t g ev c ∧ dr1 t g ev c ≤ ((117 : Nat) : Int) := by
  have h := sumZ_le (g := fun m => tz (gD g m) (tD t c) (gK g m) (gP g m) ev) (b := 39) (n := gN g) (fun k hk => tz_le (W.2 k hk).2.2.2)
  have := W.1
  unfold dr1
  omega
theorem drz_le {t : Tb} {g : Mg} (V : VT t) (W : VM g) (m : Nat) (ev : Bool) : -819 ≤ drz t g m ev ∧ drz t g m ev ≤ 819 := by
  have h := sumZ_le (g := fun c => if m.testBit c then dr1 t g ev c else 0) (b := 117) (n := tN t) (fun k hk => by
    have := dr1_le (t := t) W ev k
    show -((117 : Nat) : Int) ≤ (if m.testBit k then dr1 t g ev k else 0) ∧ (if m.testBit k then dr1 t g ev k else 0) ≤ ((117 : Nat) : Int)
    split
    · exact this
    · omega)
  have := V.1
  unfold drz
  omega
section DR
variable {f fm w : Nat → Int32} {r : Nat} {t : Tb} {g : Mg} {v1 : Int32}
theorem sumZ_itr (g : Nat → Int) (n : Nat) (a : Int) : itr (fun k a => a + g k) n 0 a = a + sumZ g n := by
  induction n with
  | zero => show a = a + 0; omega
  | succ n ih => rw [itr_s, ih, Nat.zero_add, sumZ]; omega
theorem x_drawn (X : XT f t) (V : VT t) (Y : XM fm g) (W : VM g) {m d : Nat} (hm : m < 2 ^ 31) (hd : d < 2 ^ 31) : f_X1_drawn 5 (nI (tN t)) 35 f 3 (nI (gN g)) 9 fm (nI m) (nI d) = some (Int32.ofInt (drz t g m (d % 2 == 0))) := by
  have hn := V.1
  have hg := W.1
  unfold f_X1_drawn
  have inner : ∀ (k : Int32 → Int32 → Int32 → Int32 → Option Int32) (c : Nat) (a : Int), c < tN t → m.testBit c = true → f_X1_drawn_18 5 (nI (tN t)) 35 f 3 (nI (gN g)) 9 fm k FU (nI m) (nI d) (Int32.ofInt a) (nI c) 0 = k (nI m) (nI d) (Int32.ofInt (a + dr1 t g (d % 2 == 0) c)) (nI (c + 1)) := fun k c a hc hb => by
    have e := lup0 (fun q (a : Int) j => f_X1_drawn_18 5 (nI (tN t)) 35 f 3 (nI (gN g)) 9 fm k q (nI m) (nI d) (Int32.ofInt a) (nI c) j) (gN g) (Nat.lt_of_le_of_lt hg (by decide)) (fun j a => a + tz (gD g j) (tD t c) (gK g j) (gP g j) (d % 2 == 0)) (fun a => k (nI m) (nI d) (Int32.ofInt a) (nI (c + 1))) a
      (fun q j a hj => by
        obtain ⟨k1, k2, k3, k4⟩ := W.2 j hj
        have hdk := (V.2.1 c hc).2.1
        obtain ⟨s1, s2, s3⟩ := x_side_dec (gD g j) k2 (tD t c) hdk
        show f_X1_drawn_18 5 (nI (tN t)) 35 f 3 (nI (gN g)) 9 fm k (q + 1) (nI m) (nI d) (Int32.ofInt a) (nI c) (nI j) = _
        rw [f_X1_drawn_18, x_size, ob1_s, if_neg (nI_ge hj (by omega)), x_hasBit hm (by omega), hb, ob1_s, if_neg (by decide), Y.d hj hg, ob1_s, X.d hc hn, ob1_s, bnd_s, Y.k hj hg, ob1_s, Y.p hj hg, ob1_s, s1, x_pull k1 k4 s3 hd, ob1_s, s2, ob1_s, bnd_s, nI_1, bnd_s, ← Int32.ofInt_mul, ← Int32.ofInt_add]
        rfl)
      (fun q a => by
        show f_X1_drawn_18 5 (nI (tN t)) 35 f 3 (nI (gN g)) 9 fm k (q + 1) (nI m) (nI d) (Int32.ofInt a) (nI c) (nI (gN g)) = _
        rw [f_X1_drawn_18, x_size, ob1_s, if_pos (nI_le (Nat.le_refl _) (by omega))]
        unfold f_X1_drawn_97
        rw [nI_1, bnd_s])
    rw [sumZ_itr] at e
    exact e
  have e := lup0 (fun q (a : Int) c => f_X1_drawn_6 5 (nI (tN t)) 35 f 3 (nI (gN g)) 9 fm q (nI m) (nI d) (Int32.ofInt a) c) (tN t) (Nat.lt_of_le_of_lt hn (by decide)) (fun c a => a + (if m.testBit c then dr1 t g (d % 2 == 0) c else 0)) (fun a => some (Int32.ofInt a)) 0
    (fun q c a hc => by
      show f_X1_drawn_6 5 (nI (tN t)) 35 f 3 (nI (gN g)) 9 fm (q + 1) (nI m) (nI d) (Int32.ofInt a) (nI c) = _
      rw [f_X1_drawn_6, x_size, ob1_s, if_neg (nI_ge hc (by omega))]
      cases hb : m.testBit c with
      | true => rw [inner _ c a hc hb]; simp only [if_true]
      | false =>
        rw [show FU = 999999 + 1 from rfl, f_X1_drawn_18, x_size, ob1_s]
        unfold f_X1_drawn_97
        rw [nI_1, bnd_s]
        by_cases q0 : nI (gN g) ≤ 0
        · rw [if_pos q0]; simp
        · rw [if_neg q0, x_hasBit hm (by omega), hb, ob1_s, if_pos (show (if false = true then (1 : Int32) else 0) = 0 from rfl)]; simp)
    (fun q a => by
      show f_X1_drawn_6 5 (nI (tN t)) 35 f 3 (nI (gN g)) 9 fm (q + 1) (nI m) (nI d) (Int32.ofInt a) (nI (tN t)) = _
      rw [f_X1_drawn_6, x_size, ob1_s, if_pos (nI_le (Nat.le_refl _) (by omega))])
  rw [sumZ_itr, Int.zero_add] at e
  exact e
theorem mx1 (r : Nat) : nI r + 1 = nI (r + 1) := nI_1 r
theorem mx2 (r : Nat) : nI r + 2 = nI (r + 2) := by rw [show (2 : Int32) = nI 2 from rfl, nI_add]
theorem m_drawn (hv : v1 = nI r) (M : MT w r t) (V : VT t) (Y : MM w r g) (W : VM g) (hr : r + 47 ≤ 1251) {m d : Nat} (hm : m < 2 ^ 31) (hd : d < 2 ^ 31) (hw : w (r + 2) = nI d) : f_X12_drawnBy w v1 (nI m) = some (Int32.ofInt (drz t g m (d % 2 == 0))) := by
  have hn := V.1
  have hg := W.1
  unfold f_X12_drawnBy
  have inner : ∀ (k : Int32 → Int32 → Int32 → Int32 → Option Int32) (c : Nat) (a : Int), c < tN t → m.testBit c = true → f_X12_drawnBy_21 w k FU v1 (nI m) (Int32.ofInt a) (nI c) 0 = k v1 (nI m) (Int32.ofInt (a + dr1 t g (d % 2 == 0) c)) (nI (c + 1)) := fun k c a hc hb => by
    have e := lup0 (fun q (a : Int) j => f_X12_drawnBy_21 w k q v1 (nI m) (Int32.ofInt a) (nI c) j) (gN g) (Nat.lt_of_le_of_lt hg (by decide)) (fun j a => a + tz (gD g j) (tD t c) (gK g j) (gP g j) (d % 2 == 0)) (fun a => k v1 (nI m) (Int32.ofInt a) (nI (c + 1))) a
      (fun q j a hj => by
        obtain ⟨k1, k2, k3, k4⟩ := W.2 j hj
        obtain ⟨y1, y2, y3⟩ := Y.2 j hj
        have hdk := (V.2.1 c hc).2.1
        obtain ⟨s1, s2, s3, s4⟩ := m_side_dec (gD g j) k2 (tD t c) hdk
        have s5 := (x_side_dec (gD g j) k2 (tD t c) hdk).2.2
        show f_X12_drawnBy_21 w k (q + 1) v1 (nI m) (Int32.ofInt a) (nI c) (nI j) = _
        rw [f_X12_drawnBy_21, hv, mx1, mx41, mx17, mx38, mx44, chk_n (by omega) (by omega), nI_clamp (by omega), Y.1, if_neg (nI_ge hj (by omega)), m_has hm (by omega), hb, ob1_s, if_neg (by decide), chk_n (by omega) (by omega), chk_n (by omega) (by omega), bnd_s, chk_n (by omega) (by omega), chk_n (by omega) (by omega), nI_clamp (by omega), nI_clamp (by omega), nI_clamp (by omega), nI_clamp (by omega), y1, y2, y3, M.gd hc]
        unfold f_X12_drawnBy_116 f_X12_drawnBy_127 f_X12_drawnBy_143
        rw [mx2, chk_n (by omega) (by omega), chk_n (by omega) (by omega), nI_clamp (by omega), hw, nI_1]
        by_cases h0 : gD g j = tD t c
        · rw [if_pos (s1.mpr h0), if_pos (s2.mpr (by omega)), bnd_s, bnd_s, ← hv]
          have : tz (gD g j) (tD t c) (gK g j) (gP g j) (d % 2 == 0) = 0 := by unfold tz sgn; rw [if_pos h0]; exact Int.zero_mul _
          rw [this, Int.add_zero, show (0 : Int32) = Int32.ofInt 0 from rfl, ← Int32.ofInt_add, Int.add_zero]
        · rw [if_neg (fun z => h0 (s1.mp z))]
          by_cases h1 : tD t c ≤ gD g j
          · rw [if_pos (s2.mpr h1), s3 h1, m_pull k1 k4 s5 hd, ob1_s, ← s3 h1, if_pos (s2.mpr h1), bnd_s, bnd_s, ← hv, ← Int32.ofInt_add]
            have : tz (gD g j) (tD t c) (gK g j) (gP g j) (d % 2 == 0) = pz (gK g j) (gP g j) (far (gD g j) (tD t c)) (d % 2 == 0) := by unfold tz sgn; rw [if_neg h0, if_pos (by omega)]; exact Int.one_mul _
            rw [this]
          · rw [if_neg (fun z => h1 (s2.mp z)), s4 (by omega), m_pull k1 k4 s5 hd, ob1_s, if_neg (fun z => h1 (s2.mp z)), bnd_s, bnd_s, ← hv, ← Int32.ofInt_neg, ← Int32.ofInt_add]
            have : tz (gD g j) (tD t c) (gK g j) (gP g j) (d % 2 == 0) = -pz (gK g j) (gP g j) (far (gD g j) (tD t c)) (d % 2 == 0) := by unfold tz sgn; rw [if_neg h0, if_neg (by omega)]; omega
            rw [this])
      (fun q a => by
        show f_X12_drawnBy_21 w k (q + 1) v1 (nI m) (Int32.ofInt a) (nI c) (nI (gN g)) = _
        rw [f_X12_drawnBy_21, hv, mx1, chk_n (by omega) (by omega), nI_clamp (by omega), Y.1, if_pos (nI_le (Nat.le_refl _) (by omega)), ← hv]
        unfold f_X12_drawnBy_151
        rw [nI_1, bnd_s])
    rw [sumZ_itr] at e
    exact e
  have e := lup0 (fun q (a : Int) c => f_X12_drawnBy_5 w q v1 (nI m) (Int32.ofInt a) c) (tN t) (Nat.lt_of_le_of_lt hn (by decide)) (fun c a => a + (if m.testBit c then dr1 t g (d % 2 == 0) c else 0)) (fun a => some (Int32.ofInt a)) 0
    (fun q c a hc => by
      show f_X12_drawnBy_5 w (q + 1) v1 (nI m) (Int32.ofInt a) (nI c) = _
      rw [f_X12_drawnBy_5, hv, mx0, chk_n (by omega) (by omega), nI_clamp (by omega), M.1, if_neg (nI_ge hc (by omega)), ← hv]
      cases hb : m.testBit c with
      | true => rw [inner _ c a hc hb]; simp only [if_true]
      | false =>
        rw [show FU = 999999 + 1 from rfl, f_X12_drawnBy_21, hv, mx1, chk_n (by omega) (by omega), nI_clamp (by omega), Y.1]
        unfold f_X12_drawnBy_151
        rw [nI_1, bnd_s]
        by_cases q0 : nI (gN g) ≤ 0
        · rw [if_pos q0]; simp
        · rw [if_neg q0, m_has hm (by omega), hb, ob1_s, if_pos (show (if false = true then (1 : Int32) else 0) = 0 from rfl)]; simp)
    (fun q a => by
      show f_X12_drawnBy_5 w (q + 1) v1 (nI m) (Int32.ofInt a) (nI (tN t)) = _
      rw [f_X12_drawnBy_5, hv, mx0, chk_n (by omega) (by omega), nI_clamp (by omega), M.1, if_pos (nI_le (Nat.le_refl _) (by omega))])
  rw [sumZ_itr, Int.zero_add] at e
  exact e
end DR
