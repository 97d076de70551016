/-! ===== pure: bits ===== -/
theorem kb_or (a b : Nat) : nI a ||| nI b = nI (a ||| b) := by
  apply Int32.toBitVec_inj.1
  show BitVec.ofNat 32 a ||| BitVec.ofNat 32 b = BitVec.ofNat 32 (a ||| b)
  apply BitVec.eq_of_getLsbD_eq
  intro i hi
  simp [hi]
theorem kb_and (a b : Nat) : nI a &&& nI b = nI (a &&& b) := by
  apply Int32.toBitVec_inj.1
  show BitVec.ofNat 32 a &&& BitVec.ofNat 32 b = BitVec.ofNat 32 (a &&& b)
  apply BitVec.eq_of_getLsbD_eq
  intro i hi
  simp [hi]
theorem kb_sl : ∀ n, n < 32 → ((nI n &&& 31).toBitVec.smod 32).toNat = n := by decide +kernel
theorem kb_shl {k : Nat} (hk : k < 31) : (1 : Int32) <<< (nI k &&& 31) = nI (2 ^ k) := by
  have h := pk_shlN (n := 1) (nI k &&& 31) k (kb_sl k (by omega)) (by
    have := Nat.pow_lt_pow_right (a := 2) (by omega) (show k < 32 by omega)
    omega)
  rw [Nat.one_mul] at h
  exact h
theorem kb_shr {m k : Nat} (hm : m < 2 ^ 31) (hk : k < 32) : nI m >>> (nI k &&& 31) = nI (m / 2 ^ k) := pk_shrN hm (nI k &&& 31) k (kb_sl k hk)
theorem kb_one (n : Nat) : nI n &&& 1 = nI (n % 2) := by
  have h := kb_and n 1
  rw [Nat.and_one_is_mod] at h
  exact h
theorem kb_bit {m k : Nat} (hm : m < 2 ^ 31) (hk : k < 32) : (nI m >>> (nI k &&& 31)) &&& 1 = if m.testBit k then 1 else 0 := by
  rw [kb_shr hm hk, kb_one, Nat.testBit_eq_decide_div_mod_eq]
  rcases Nat.mod_two_eq_zero_or_one (m / 2 ^ k) with h | h <;> rw [h] <;> rfl
/-- a set of numbers below n, as bits -/
def mk (p : Nat → Bool) : Nat → Nat
  | 0 => 0
  | n + 1 => mk p n ||| (if p n then 2 ^ n else 0)
theorem mk_bit (p : Nat → Bool) (n k : Nat) : (mk p n).testBit k = (decide (k < n) && p k) := by
  induction n with
  | zero => simp [mk]
  | succ n ih =>
    rw [mk, Nat.testBit_or, ih]
    by_cases hp : p n
    · rw [if_pos hp, Nat.testBit_two_pow]
      rcases Nat.lt_trichotomy k n with h | h | h
      · simp [show k < n + 1 by omega, h, show ¬ n = k by omega]
      · subst h; simp [hp]
      · simp [show ¬ k < n + 1 by omega, show ¬ k < n by omega, show ¬ n = k by omega]
    · rw [if_neg hp]
      rcases Nat.lt_trichotomy k n with h | h | h
      · simp [show k < n + 1 by omega, h]
      · subst h; simp [hp]
      · simp [show ¬ k < n + 1 by omega, show ¬ k < n by omega]
theorem mk_lt (p : Nat → Bool) (n : Nat) : mk p n < 2 ^ n := by
  apply Nat.lt_pow_two_of_testBit
  intro i hi
  rw [mk_bit]
  simp [show ¬ i < n by omega]
theorem mk_congr {p q : Nat → Bool} {n : Nat} (h : ∀ k, k < n → p k = q k) : mk p n = mk q n := by
  induction n with
  | zero => rfl
  | succ n ih => rw [mk, mk, ih (fun k hk => h k (by omega)), h n (by omega)]
/-! ===== the table of the clerks: how many, kinds, desks, weights, rust, on whom ===== -/
abbrev Tb : Type := Nat × (Nat → Nat) × (Nat → Nat) × (Nat → Nat) × (Nat → Nat) × (Nat → Option Nat)
abbrev tN (t : Tb) : Nat := t.1
abbrev tK (t : Tb) : Nat → Nat := t.2.1
abbrev tD (t : Tb) : Nat → Nat := t.2.2.1
abbrev tW (t : Tb) : Nat → Nat := t.2.2.2.1
abbrev tU (t : Tb) : Nat → Nat := t.2.2.2.2.1
abbrev tO (t : Tb) : Nat → Option Nat := t.2.2.2.2.2
def onv (o : Option Nat) : Int32 := match o with
  | none => -1
  | some j => nI j
/-- no rings: a rank that falls along the hooks -/
def Acy (n : Nat) (on : Nat → Option Nat) : Prop := ∃ rk : Nat → Nat, ∀ i, i < n → ∀ j, on i = some j → j < n ∧ rk j < rk i
def VT (t : Tb) : Prop := tN t ≤ 7 ∧ (∀ i, i < tN t → tK t i < 6 ∧ tD t i < 12 ∧ 1 ≤ tW t i ∧ tW t i ≤ 9 ∧ tU t i ≤ 99) ∧ Acy (tN t) (tO t)
/-- the class's rows of clerks -/
def XT (f : Nat → Int32) (t : Tb) : Prop := ∀ i, i < tN t → f (i * 5 + 0) = nI (tK t i) ∧ f (i * 5 + 1) = nI (tD t i) ∧ f (i * 5 + 2) = nI (tW t i) ∧ f (i * 5 + 3) = nI (tU t i) ∧ f (i * 5 + 4) = onv (tO t i)
/-- the reference's row, from place r on -/
def MT (w : Nat → Int32) (r : Nat) (t : Tb) : Prop := w r = nI (tN t) ∧ ∀ i, i < tN t → w (r + 3 + i) = nI (tK t i) ∧ w (r + 17 + i) = nI (tD t i) ∧ w (r + 10 + i) = nI (tW t i) ∧ w (r + 24 + i) = nI (tU t i) ∧ w (r + 31 + i) = onv (tO t i)
/-! ===== reading and writing a table ===== -/
theorem x_size (a : Int32) : f_X7_size a = some a := rfl
theorem get_in {W s N : Nat} {f : Nat → Int32} {i c : Nat} (hi : i < s) (hs : s < 1000) (hc : c < W) (hW : W < 1000) (hN : i * W + c < N) (hNb : N < 2 ^ 31) : f_X7_get (nI W) (nI s) N f (nI i) (nI c) = some (f (i * W + c)) := by
  unfold f_X7_get f_X7_get_29 f_X7_get_46
  simp (disch := omega) only [lt0_f, le_f, pk_mul, nI_add, chk_n, nI_clamp, ↓reduceIte]
  rfl
theorem get_m1 {W s : Int32} {N : Nat} {f : Nat → Int32} {c : Int32} : f_X7_get W s N f (-1) c = some (-1) := by
  unfold f_X7_get f_X7_get_28 f_X7_get_29 f_X7_get_46
  rfl
theorem XT.k {f : Nat → Int32} {t : Tb} (X : XT f t) {i : Nat} (hi : i < tN t) (hn : tN t ≤ 7) : f_X7_get 5 (nI (tN t)) 35 f (nI i) 0 = some (nI (tK t i)) := by
  rw [← (X i hi).1]; exact get_in (W := 5) (c := 0) hi (by omega) (by omega) (by omega) (by omega) (by omega)
theorem XT.d {f : Nat → Int32} {t : Tb} (X : XT f t) {i : Nat} (hi : i < tN t) (hn : tN t ≤ 7) : f_X7_get 5 (nI (tN t)) 35 f (nI i) 1 = some (nI (tD t i)) := by
  rw [← (X i hi).2.1]; exact get_in (W := 5) (c := 1) hi (by omega) (by omega) (by omega) (by omega) (by omega)
theorem XT.w {f : Nat → Int32} {t : Tb} (X : XT f t) {i : Nat} (hi : i < tN t) (hn : tN t ≤ 7) : f_X7_get 5 (nI (tN t)) 35 f (nI i) 2 = some (nI (tW t i)) := by
  rw [← (X i hi).2.2.1]; exact get_in (W := 5) (c := 2) hi (by omega) (by omega) (by omega) (by omega) (by omega)
theorem XT.u {f : Nat → Int32} {t : Tb} (X : XT f t) {i : Nat} (hi : i < tN t) (hn : tN t ≤ 7) : f_X7_get 5 (nI (tN t)) 35 f (nI i) 3 = some (nI (tU t i)) := by
  rw [← (X i hi).2.2.2.1]; exact get_in (W := 5) (c := 3) hi (by omega) (by omega) (by omega) (by omega) (by omega)
theorem XT.o {f : Nat → Int32} {t : Tb} (X : XT f t) {i : Nat} (hi : i < tN t) (hn : tN t ≤ 7) : f_X7_get 5 (nI (tN t)) 35 f (nI i) 4 = some (onv (tO t i)) := by
  rw [← (X i hi).2.2.2.2]; exact get_in (W := 5) (c := 4) hi (by omega) (by omega) (by omega) (by omega) (by omega)
theorem x_hasBit {m k : Nat} (hm : m < 2 ^ 31) (hk : k < 32) : f_X11_hasBit (nI m) (nI k) = some (if m.testBit k then 1 else 0) := by
  unfold f_X11_hasBit
  rw [kb_bit hm hk]
  cases m.testBit k <;> rfl
theorem m_has {m k : Nat} (hm : m < 2 ^ 31) (hk : k < 32) : f_X12_has (nI m) (nI k) = some (if m.testBit k then 1 else 0) := by
  unfold f_X12_has
  rw [kb_bit hm hk]
  cases m.testBit k <;> rfl
/-! ===== up along the hooks ===== -/
/-- at most k hooks up from i, those of cut taken as unbent -/
def upc (cut : Nat) (on : Nat → Option Nat) : Nat → Nat → Nat
  | 0, i => i
  | k + 1, i => if cut.testBit i then i else match on i with
    | none => i
    | some j => upc cut on k j
theorem x_top_go {f : Nat → Int32} {t : Tb} (X : XT f t) (V : VT t) {cut : Nat} (hc : cut < 2 ^ 31) : ∀ (d u at' g : Nat), u + d = 7 → d < g → at' < tN t → f_X0_top_5 5 (nI (tN t)) 35 f g (nI cut) (nI at') (nI u) = some (nI (upc cut (tO t) d at')) := by
  have hn := V.1
  intro d
  induction d with
  | zero =>
    intro u at' g hu hg ha
    obtain ⟨g, rfl⟩ : ∃ g', g = g' + 1 := ⟨g - 1, by omega⟩
    obtain rfl : u = 7 := by omega
    rw [f_X0_top_5, if_pos (show (7 : Int32) ≤ nI 7 from by decide)]
    rfl
  | succ d ih =>
    intro u at' g hu hg ha
    obtain ⟨g, rfl⟩ : ∃ g', g = g' + 1 := ⟨g - 1, by omega⟩
    rw [f_X0_top_5, if_neg (show ¬ (7 : Int32) ≤ nI u from nI_ge (b := 7) (by omega) (by omega)), x_hasBit hc (by omega), ob1_s, upc]
    by_cases hb : cut.testBit at'
    · rw [if_pos hb, if_neg (show ¬ (1 : Int32) = 0 by decide), if_pos hb]
      unfold f_X0_top_30
      rw [if_pos rfl]
    · rw [if_neg hb, if_pos rfl, X.o ha hn, ob1_s, if_neg hb]
      unfold f_X0_top_30
      cases ho : tO t at' with
      | none => rw [if_pos (show onv none = -1 from rfl)]
      | some j =>
        obtain ⟨rk, hrk⟩ := V.2.2
        have hj := (hrk at' ha j ho).1
        rw [if_neg (show ¬ onv (some j) = -1 from fun h => by rw [onv, nI_m1 (by omega)] at h; exact h), bnd_s, nI_1]
        exact ih (u + 1) j g (by omega) (by omega) hj
theorem x_top {f : Nat → Int32} {t : Tb} (X : XT f t) (V : VT t) {cut c : Nat} (hc : cut < 2 ^ 31) (h : c < tN t) : f_X0_top 5 (nI (tN t)) 35 f (nI c) (nI cut) = some (nI (upc cut (tO t) 7 c)) := x_top_go X V hc 7 0 c FU rfl (by decide) h
/-! ===== rings there are none: a chain ends ===== -/
theorem pigeon : ∀ (n : Nat) (f : Nat → Nat), (∀ k, k ≤ n → f k < n) → ∃ a b, a < b ∧ b ≤ n ∧ f a = f b := by
  intro n
  induction n with
  | zero => intro f h; exact absurd (h 0 (Nat.le_refl 0)) (by omega)
  | succ n ih =>
    intro f h
    by_cases hx : ∃ a, a ≤ n ∧ f a = f (n + 1)
    · obtain ⟨a, h1, h2⟩ := hx
      exact ⟨a, n + 1, by omega, Nat.le_refl _, h2⟩
    · have hne : ∀ a, a ≤ n → f a ≠ f (n + 1) := fun a h1 h2 => hx ⟨a, h1, h2⟩
      obtain ⟨a, b, h1, h2, h3⟩ := ih (fun k => if f k = n then f (n + 1) else f k) (fun k hk => by
        have h1 := h k (by omega)
        have h2 := h (n + 1) (Nat.le_refl _)
        have h3 := hne k hk
        show (if f k = n then f (n + 1) else f k) < n
        by_cases e : f k = n
        · rw [if_pos e]; omega
        · rw [if_neg e]; omega)
      refine ⟨a, b, h1, by omega, ?_⟩
      have ha := hne a (by omega)
      have hb := hne b h2
      by_cases e1 : f a = n <;> by_cases e2 : f b = n
      · rw [e1, e2]
      · simp only [e1, e2, if_true, if_false] at h3; exact absurd h3.symm hb
      · simp only [e1, e2, if_true, if_false] at h3; exact absurd h3 ha
      · simp only [e1, e2, if_false] at h3; exact h3
/-- k hooks up, staying at the top -/
abbrev upk (on : Nat → Option Nat) : Nat → Nat → Nat := upc 0 on
theorem upk_0 (on : Nat → Option Nat) (i : Nat) : upk on 0 i = i := rfl
theorem upk_s (on : Nat → Option Nat) (k i : Nat) : upk on (k + 1) i = match on i with | none => i | some j => upk on k j := by
  show (if (0 : Nat).testBit i then i else _) = _
  rw [Nat.zero_testBit]
  rfl
theorem upk_none {on : Nat → Option Nat} {i : Nat} (h : on i = none) : ∀ k, upk on k i = i := by
  intro k
  cases k with
  | zero => rfl
  | succ k => rw [upk_s, h]
theorem upk_some {on : Nat → Option Nat} {i j : Nat} (h : on i = some j) (k : Nat) : upk on (k + 1) i = upk on k j := by
  rw [upk_s, h]
theorem upk_last {on : Nat → Option Nat} : ∀ k i, upk on (k + 1) i = match on (upk on k i) with | none => upk on k i | some j => j := by
  intro k
  induction k with
  | zero =>
    intro i
    rw [upk_s, upk_0]
    cases on i <;> rfl
  | succ k ih =>
    intro i
    cases h : on i with
    | none => rw [upk_none h, upk_none h, h]
    | some j => rw [upk_some h, upk_some h]; exact ih j
theorem upk_lt {n : Nat} {on : Nat → Option Nat} (A : Acy n on) {i : Nat} (hi : i < n) : ∀ k, upk on k i < n := by
  obtain ⟨rk, h⟩ := A
  intro k
  induction k generalizing i with
  | zero => exact hi
  | succ k ih =>
    cases ho : on i with
    | none => rw [upk_none ho]; exact hi
    | some j => rw [upk_some ho]; exact ih (h i hi j ho).1
/-- while the top isn't reached the rank falls -/
theorem upk_fall {n : Nat} {on : Nat → Option Nat} {rk : Nat → Nat} (h : ∀ i, i < n → ∀ j, on i = some j → j < n ∧ rk j < rk i) : ∀ (k i : Nat), i < n → on (upk on k i) ≠ none → ∀ a b, a < b → b ≤ k → rk (upk on b i) < rk (upk on a i) := by
  intro k i hi hk a b hab hb
  have A : Acy n on := ⟨rk, h⟩
  have step : ∀ a, a < k → rk (upk on (a + 1) i) < rk (upk on a i) := by
    intro a ha
    have hne : on (upk on a i) ≠ none := by
      intro h0
      apply hk
      have : ∀ d, upk on (a + d) i = upk on a i := by
        intro d
        induction d with
        | zero => rfl
        | succ d ih => rw [← Nat.add_assoc, upk_last, ih, h0]
      have e := this (k - a)
      rw [show a + (k - a) = k by omega] at e
      rw [e]; exact h0
    rw [upk_last]
    cases ho : on (upk on a i) with
    | none => exact absurd ho hne
    | some j => exact (h _ (upk_lt A hi a) j ho).2
  induction b with
  | zero => omega
  | succ b ih =>
    rcases Nat.lt_or_ge a b with h1 | h1
    · exact Nat.lt_trans (step b (by omega)) (ih h1 (by omega))
    · obtain rfl : a = b := by omega
      exact step a (by omega)
theorem upk_top {n : Nat} {on : Nat → Option Nat} (A : Acy n on) {i : Nat} (hi : i < n) {k : Nat} (hk : n ≤ k + 1) : on (upk on k i) = none := by
  by_cases hne : on (upk on k i) = none
  · exact hne
  · obtain ⟨rk, h⟩ := id A
    have hf := upk_fall h k i hi hne
    obtain ⟨a, b, h1, h2, h3⟩ := pigeon n (fun x => upk on x i) (fun x _ => upk_lt A hi x)
    have h3 : upk on a i = upk on b i := h3
    rcases Nat.lt_or_ge k b with h4 | h4
    · -- b = n = k + 1: a step from the last place
      obtain rfl : b = k + 1 := by omega
      have h5 : rk (upk on (k + 1) i) < rk (upk on k i) := by
        rw [upk_last]
        cases ho : on (upk on k i) with
        | none => exact absurd ho hne
        | some j => exact (h _ (upk_lt A hi k) j ho).2
      rcases Nat.lt_or_ge a k with h6 | h6
      · have := hf a k h6 (Nat.le_refl _); rw [h3] at this; omega
      · obtain rfl : a = k := by omega
        rw [h3] at h5; omega
    · have := hf a b h1 h4; rw [h3] at this; omega
theorem upk_stay {on : Nat → Option Nat} {k i : Nat} (h : on (upk on k i) = none) : ∀ d, upk on (k + d) i = upk on k i := by
  intro d
  induction d with
  | zero => rfl
  | succ d ih => rw [← Nat.add_assoc, upk_last, ih, h]
