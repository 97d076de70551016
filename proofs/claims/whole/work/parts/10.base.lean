/-! ===== pure: numbers, loops ===== -/
theorem le_t {a b : Nat} (h : a ≤ b) (hb : b < 2 ^ 31) : (nI a ≤ nI b) = True := eq_true (nI_le h hb)
theorem le_f {a b : Nat} (h : b < a) (ha : a < 2 ^ 31) : (nI a ≤ nI b) = False := eq_false (nI_ge h ha)
theorem lt_t {a b : Nat} (h : a < b) (hb : b < 2 ^ 31) : (nI a < nI b) = True := eq_true (nI_lt h hb)
theorem lt_f {a b : Nat} (h : b ≤ a) (ha : a < 2 ^ 31) : (nI a < nI b) = False := eq_false (nI_nlt h ha)
theorem eq_f {a b : Nat} (h : a ≠ b) (ha : a < 2 ^ 31) (hb : b < 2 ^ 31) : (nI a = nI b) = False := eq_false (fun q => h ((nI_eq ha hb).mp q))
theorem eq_t (a : Nat) : (nI a = nI a) = True := eq_true rfl
theorem eq_i {a b : Nat} (ha : a < 2 ^ 31) (hb : b < 2 ^ 31) : (nI a = nI b) = (a = b) := propext (nI_eq ha hb)
theorem lt0_f {a : Nat} (ha : a < 2 ^ 31) : (nI a < 0) = False := eq_false (nI_pos ha)
theorem ge0_t {a : Nat} (ha : a < 2 ^ 31) : (0 ≤ nI a) = True := eq_true (nI_pos' ha)
theorem nI_m1 {a : Nat} (ha : a < 2 ^ 31) : (nI a = -1) = False := eq_false (fun h => nI_pos ha (by rw [h]; decide))
theorem m1_nI {a : Nat} (ha : a < 2 ^ 31) : ((-1 : Int32) = nI a) = False := eq_false (fun h => nI_pos ha (by rw [← h]; decide))
theorem chk_n {α : Type} {k : Option α} {i n : Nat} (h : i < n) (hn : n < 2 ^ 31) : chk (nI i) n k = k := if_neg (fun q => (vp_in_nI h hn) q)
theorem bnd_s {α β : Type} (e : α) (k : α → β) : bnd e k = k e := rfl
theorem ob1_s {A1 C : Type} (a1 : A1) (k : A1 → Option C) : ob1 (some a1) k = k a1 := rfl
theorem ob2_s {A1 A2 C : Type} (a1 : A1) (a2 : A2) (k : A1 → A2 → Option C) : ob2 (some (a1, a2)) k = k a1 a2 := rfl
theorem ob3_s {A1 A2 A3 C : Type} (a1 : A1) (a2 : A2) (a3 : A3) (k : A1 → A2 → A3 → Option C) : ob3 (some (a1, a2, a3)) k = k a1 a2 a3 := rfl
theorem ob4_s {A1 A2 A3 A4 C : Type} (a1 : A1) (a2 : A2) (a3 : A3) (a4 : A4) (k : A1 → A2 → A3 → A4 → Option C) : ob4 (some (a1, a2, a3, a4)) k = k a1 a2 a3 a4 := rfl
theorem ob5_s {A1 A2 A3 A4 A5 C : Type} (a1 : A1) (a2 : A2) (a3 : A3) (a4 : A4) (a5 : A5) (k : A1 → A2 → A3 → A4 → A5 → Option C) : ob5 (some (a1, a2, a3, a4, a5)) k = k a1 a2 a3 a4 a5 := rfl
theorem ob6_s {A1 A2 A3 A4 A5 A6 C : Type} (a1 : A1) (a2 : A2) (a3 : A3) (a4 : A4) (a5 : A5) (a6 : A6) (k : A1 → A2 → A3 → A4 → A5 → A6 → Option C) : ob6 (some (a1, a2, a3, a4, a5, a6)) k = k a1 a2 a3 a4 a5 a6 := rfl
theorem ob7_s {A1 A2 A3 A4 A5 A6 A7 C : Type} (a1 : A1) (a2 : A2) (a3 : A3) (a4 : A4) (a5 : A5) (a6 : A6) (a7 : A7) (k : A1 → A2 → A3 → A4 → A5 → A6 → A7 → Option C) : ob7 (some (a1, a2, a3, a4, a5, a6, a7)) k = k a1 a2 a3 a4 a5 a6 a7 := rfl
theorem ob8_s {A1 A2 A3 A4 A5 A6 A7 A8 C : Type} (a1 : A1) (a2 : A2) (a3 : A3) (a4 : A4) (a5 : A5) (a6 : A6) (a7 : A7) (a8 : A8) (k : A1 → A2 → A3 → A4 → A5 → A6 → A7 → A8 → Option C) : ob8 (some (a1, a2, a3, a4, a5, a6, a7, a8)) k = k a1 a2 a3 a4 a5 a6 a7 a8 := rfl
theorem ob9_s {A1 A2 A3 A4 A5 A6 A7 A8 A9 C : Type} (a1 : A1) (a2 : A2) (a3 : A3) (a4 : A4) (a5 : A5) (a6 : A6) (a7 : A7) (a8 : A8) (a9 : A9) (k : A1 → A2 → A3 → A4 → A5 → A6 → A7 → A8 → A9 → Option C) : ob9 (some (a1, a2, a3, a4, a5, a6, a7, a8, a9)) k = k a1 a2 a3 a4 a5 a6 a7 a8 a9 := rfl
theorem ob10_s {A1 A2 A3 A4 A5 A6 A7 A8 A9 A10 C : Type} (a1 : A1) (a2 : A2) (a3 : A3) (a4 : A4) (a5 : A5) (a6 : A6) (a7 : A7) (a8 : A8) (a9 : A9) (a10 : A10) (k : A1 → A2 → A3 → A4 → A5 → A6 → A7 → A8 → A9 → A10 → Option C) : ob10 (some (a1, a2, a3, a4, a5, a6, a7, a8, a9, a10)) k = k a1 a2 a3 a4 a5 a6 a7 a8 a9 a10 := rfl
theorem ob11_s {A1 A2 A3 A4 A5 A6 A7 A8 A9 A10 A11 C : Type} (a1 : A1) (a2 : A2) (a3 : A3) (a4 : A4) (a5 : A5) (a6 : A6) (a7 : A7) (a8 : A8) (a9 : A9) (a10 : A10) (a11 : A11) (k : A1 → A2 → A3 → A4 → A5 → A6 → A7 → A8 → A9 → A10 → A11 → Option C) : ob11 (some (a1, a2, a3, a4, a5, a6, a7, a8, a9, a10, a11)) k = k a1 a2 a3 a4 a5 a6 a7 a8 a9 a10 a11 := rfl
theorem ob12_s {A1 A2 A3 A4 A5 A6 A7 A8 A9 A10 A11 A12 C : Type} (a1 : A1) (a2 : A2) (a3 : A3) (a4 : A4) (a5 : A5) (a6 : A6) (a7 : A7) (a8 : A8) (a9 : A9) (a10 : A10) (a11 : A11) (a12 : A12) (k : A1 → A2 → A3 → A4 → A5 → A6 → A7 → A8 → A9 → A10 → A11 → A12 → Option C) : ob12 (some (a1, a2, a3, a4, a5, a6, a7, a8, a9, a10, a11, a12)) k = k a1 a2 a3 a4 a5 a6 a7 a8 a9 a10 a11 a12 := rfl
def itr {α : Type} (step : Nat → α → α) : Nat → Nat → α → α
  | 0, _, a => a
  | d + 1, i, a => itr step d (i + 1) (step i a)
theorem itr_s {α : Type} (step : Nat → α → α) (d i : Nat) (a : α) : itr step (d + 1) i a = step (i + d) (itr step d i a) := by
  induction d generalizing i a with
  | zero => rfl
  | succ d ih =>
    show itr step (d + 1) (i + 1) (step i a) = _
    rw [ih]
    show _ = step (i + (d + 1)) (itr step d (i + 1) (step i a))
    rw [show i + 1 + d = i + (d + 1) by omega]
theorem lup {α β : Type} (F : Nat → α → Int32 → Option β) (e : Nat) (step : Nat → α → α) (ex : α → Option β) (I : Nat → α → Prop)
    (h1 : ∀ f i a, i < e → I i a → F (f + 1) a (nI i) = F f (step i a) (nI (i + 1)) ∧ I (i + 1) (step i a))
    (h2 : ∀ f a, I e a → F (f + 1) a (nI e) = ex a) : ∀ (d i : Nat) (a : α) (f : Nat), i + d = e → d < f → I i a → F f a (nI i) = ex (itr step d i a) ∧ I e (itr step d i a) := by
  intro d
  induction d with
  | zero =>
    intro i a f hi hf hI
    obtain ⟨g, rfl⟩ : ∃ g, f = g + 1 := ⟨f - 1, by omega⟩
    obtain rfl : i = e := by omega
    exact ⟨h2 g a hI, hI⟩
  | succ d ih =>
    intro i a f hi hf hI
    obtain ⟨g, rfl⟩ : ∃ g, f = g + 1 := ⟨f - 1, by omega⟩
    obtain ⟨e1, hI1⟩ := h1 g i a (by omega) hI
    rw [e1]
    exact ih (i + 1) (step i a) g (by omega) (by omega) hI1
/-- the same, without an invariant, from 0 on, with the pictures' fuel -/
theorem lup0 {α β : Type} (F : Nat → α → Int32 → Option β) (e : Nat) (he : e < FU) (step : Nat → α → α) (ex : α → Option β) (a : α)
    (h1 : ∀ f i a, i < e → F (f + 1) a (nI i) = F f (step i a) (nI (i + 1)))
    (h2 : ∀ f a, F (f + 1) a (nI e) = ex a) : F FU a 0 = ex (itr step e 0 a) :=
  (lup F e step ex (fun _ _ => True) (fun f i a h _ => ⟨h1 f i a h, trivial⟩) (fun f a _ => h2 f a) e 0 a FU (by omega) he trivial).1
theorem itr_congr {α : Type} {s1 s2 : Nat → α → α} {e : Nat} (h : ∀ i a, i < e → s1 i a = s2 i a) : ∀ (d i : Nat) (a : α), i + d ≤ e → itr s1 d i a = itr s2 d i a := by
  intro d
  induction d with
  | zero => intro i a _; rfl
  | succ d ih =>
    intro i a hi
    show itr s1 d (i + 1) (s1 i a) = itr s2 d (i + 1) (s2 i a)
    rw [h i a (by omega), ih _ _ (by omega)]
theorem itr_inv {α : Type} {s : Nat → α → α} {e : Nat} (I : Nat → α → Prop) (h : ∀ i a, i < e → I i a → I (i + 1) (s i a)) : ∀ (d i : Nat) (a : α), i + d ≤ e → I i a → I (i + d) (itr s d i a) := by
  intro d
  induction d with
  | zero => intro i a _ h0; exact h0
  | succ d ih =>
    intro i a hi h0
    have := ih (i + 1) (s i a) (by omega) (h i a (by omega) h0)
    rw [show i + (d + 1) = i + 1 + d by omega]
    exact this
