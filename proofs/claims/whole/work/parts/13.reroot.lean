/-! ===== a forest, rooted anew at one of its places ===== -/
def RR (n : Nat) (on : Nat → Option Nat) (i : Nat) (par : Nat → Option Nat) : Prop :=
  par i = none ∧ (∀ a, a < n → ∀ b, par a = some b → b < n ∧ (on a = some b ∨ on b = some a)) ∧ (∀ a, a < n → ∀ b, on a = some b → par a = some b ∨ par b = some a) ∧ Acy n par
theorem reroot_go {n : Nat} {on : Nat → Option Nat} {rk : Nat → Nat} (h : ∀ i, i < n → ∀ j, on i = some j → j < n ∧ rk j < rk i) : ∀ (m i : Nat), rk i ≤ m → i < n → ∃ par, RR n on i par := by
  intro m
  induction m with
  | zero =>
    intro i hm hi
    cases ho : on i with
    | none => exact ⟨on, ho, fun a ha b hb => ⟨(h a ha b hb).1, Or.inl hb⟩, fun a _ b hb => Or.inl hb, rk, h⟩
    | some j => have := (h i hi j ho).2; omega
  | succ m ih =>
    intro i hm hi
    cases ho : on i with
    | none => exact ⟨on, ho, fun a ha b hb => ⟨(h a ha b hb).1, Or.inl hb⟩, fun a _ b hb => Or.inl hb, rk, h⟩
    | some j =>
      obtain ⟨hj, hrj⟩ := h i hi j ho
      obtain ⟨pj, h1, h2, h3, rk2, h4⟩ := ih j (by omega) hj
      have hij : i ≠ j := by intro e; rw [e] at hrj; omega
      have hpi : pj i = some j := by
        rcases h3 i hi j ho with e | e
        · exact e
        · rw [h1] at e; cases e
      refine ⟨fun a => if a = i then none else if a = j then some i else pj a, if_pos rfl, ?_, ?_, ?_⟩
      · intro a ha b hb
        have hb : (if a = i then none else if a = j then some i else pj a) = some b := hb
        by_cases e1 : a = i
        · rw [if_pos e1] at hb; cases hb
        · rw [if_neg e1] at hb
          by_cases e2 : a = j
          · rw [if_pos e2] at hb; cases hb; subst e2; exact ⟨hi, Or.inr ho⟩
          · rw [if_neg e2] at hb; exact h2 a ha b hb
      · intro a ha b hb
        show (if a = i then none else if a = j then some i else pj a) = some b ∨ (if b = i then none else if b = j then some i else pj b) = some a
        rcases h3 a ha b hb with e | e
        · have haj : a ≠ j := by intro q; rw [q, h1] at e; cases e
          by_cases e1 : a = i
          · subst e1
            rw [hpi] at e; cases e
            right; rw [if_neg (Ne.symm hij), if_pos rfl]
          · left; rw [if_neg e1, if_neg haj]; exact e
        · have hbj : b ≠ j := by intro q; rw [q, h1] at e; cases e
          by_cases e1 : b = i
          · subst e1
            rw [hpi] at e; cases e
            left; rw [if_neg (Ne.symm hij), if_pos rfl]
          · right; rw [if_neg e1, if_neg hbj]; exact e
      · refine ⟨fun x => @ite Nat (∃ k, upk pj k x = i) (Classical.propDecidable _) (rk2 x) (rk2 x + rk2 i + 1), ?_⟩
        intro a ha b hb
        have hb : (if a = i then none else if a = j then some i else pj a) = some b := hb
        show b < n ∧ @ite Nat (∃ k, upk pj k b = i) (Classical.propDecidable _) (rk2 b) (rk2 b + rk2 i + 1) < @ite Nat (∃ k, upk pj k a = i) (Classical.propDecidable _) (rk2 a) (rk2 a + rk2 i + 1)
        by_cases e1 : a = i
        · rw [if_pos e1] at hb; cases hb
        · rw [if_neg e1] at hb
          by_cases e2 : a = j
          · rw [if_pos e2] at hb; cases hb
            have n1 : ¬ ∃ k, upk pj k a = i := by
              rintro ⟨k, hk⟩
              rw [e2, upk_none h1] at hk
              exact hij hk.symm
            rw [if_pos ⟨0, rfl⟩, if_neg n1]
            exact ⟨hi, by omega⟩
          · rw [if_neg e2] at hb
            obtain ⟨hbn, hlt⟩ := h4 a ha b hb
            refine ⟨hbn, ?_⟩
            by_cases hq : ∃ k, upk pj k b = i
            · obtain ⟨k, hk⟩ := hq
              rw [if_pos ⟨k, hk⟩, if_pos ⟨k + 1, by rw [upk_some hb]; exact hk⟩]
              exact hlt
            · have hq2 : ¬ ∃ k, upk pj k a = i := by
                rintro ⟨k, hk⟩
                cases k with
                | zero => exact e1 hk
                | succ k => rw [upk_some hb] at hk; exact hq ⟨k, hk⟩
              rw [if_neg hq, if_neg hq2]
              omega
theorem reroot {n : Nat} {on : Nat → Option Nat} (A : Acy n on) {i : Nat} (hi : i < n) : ∃ par, RR n on i par := by
  obtain ⟨rk, h⟩ := A
  exact reroot_go h (rk i) i (Nat.le_refl _) hi
/-! ===== what is felt: along the new hooks from i on ===== -/
def fv (par : Nat → Option Nat) (go : Nat → Nat → Nat) (i t : Nat) : Nat → Nat → Nat
  | 0, x => if x = i then t else 0
  | k + 1, x => if x = i then t else match par x with
    | none => 0
    | some a => if fv par go i t k a = 0 then 0 else go a (fv par go i t k a)
theorem fv_stay {par : Nat → Option Nat} {go : Nat → Nat → Nat} {i t : Nat} : ∀ (k x : Nat), par (upk par k x) = none → fv par go i t (k + 1) x = fv par go i t k x := by
  intro k
  induction k with
  | zero =>
    intro x h
    have h : par x = none := h
    rw [fv, fv, h]
  | succ k ih =>
    intro x h
    cases hp : par x with
    | none => rw [fv, fv, hp]
    | some a =>
      rw [upk_some hp] at h
      have e := ih a h
      rw [fv, hp]
      show (if x = i then t else if fv par go i t (k + 1) a = 0 then 0 else go a (fv par go i t (k + 1) a)) = fv par go i t (k + 1) x
      rw [e, fv, hp]
def feel (par : Nat → Option Nat) (go : Nat → Nat → Nat) (i t x : Nat) : Nat := fv par go i t 7 x
theorem feel_i {par : Nat → Option Nat} {go : Nat → Nat → Nat} {i t : Nat} : feel par go i t i = t := if_pos rfl
theorem feel_none {par : Nat → Option Nat} {go : Nat → Nat → Nat} {i t x : Nat} (hx : x ≠ i) (h : par x = none) : feel par go i t x = 0 := by
  show (if x = i then t else match par x with | none => 0 | some a => _) = 0
  rw [if_neg hx, h]
theorem feel_some {n : Nat} {par : Nat → Option Nat} (A : Acy n par) (hn : n ≤ 7) {go : Nat → Nat → Nat} {i t x a : Nat} (hx : x ≠ i) (hxn : x < n) (h : par x = some a) : feel par go i t x = if feel par go i t a = 0 then 0 else go a (feel par go i t a) := by
  have ha : a < n := by obtain ⟨rk, hr⟩ := A; exact (hr x hxn a h).1
  have e : fv par go i t 7 a = fv par go i t 6 a := fv_stay 6 a (upk_top A ha (by omega))
  show (if x = i then t else match par x with | none => 0 | some a => if fv par go i t 6 a = 0 then 0 else go a (fv par go i t 6 a)) = _
  rw [if_neg hx, h]
  show (if fv par go i t 6 a = 0 then 0 else go a (fv par go i t 6 a)) = _
  rw [← e]
  rfl
/-- along the new hooks: what holds at i, and goes from one to those it leads to -/
theorem par_ind {n : Nat} {par : Nat → Option Nat} (A : Acy n par) (P : Nat → Prop) (h : ∀ x, x < n → (∀ a, par x = some a → P a) → P x) : ∀ x, x < n → P x := by
  obtain ⟨rk, hr⟩ := A
  have go : ∀ m x, rk x ≤ m → x < n → P x := by
    intro m
    induction m with
    | zero => intro x hx hn; exact h x hn (fun a ha => absurd (hr x hn a ha).2 (by omega))
    | succ m ih => intro x hx hn; exact h x hn (fun a ha => ih a (by have := (hr x hn a ha).2; omega) (hr x hn a ha).1)
  exact fun x hx => go (rk x) x (Nat.le_refl _) hx
/-! ===== what goes on from one ===== -/
def goK (k t u : Nat) : Nat := match k with
  | 0 => t - 1
  | 1 => (t - 1) - min u 4
  | 2 => t
  | 3 => ((t - 1) - min u 4) / 2
  | 4 => if 5 ≤ t then t - 1 else 0
  | _ => min 20 (2 * t)
theorem goK_le {k t u : Nat} (ht : t ≤ 20) : goK k t u ≤ 20 := by
  unfold goK
  split <;> (try split) <;> omega
theorem goK_u {k t u : Nat} : goK k t u = goK k t (min u 4) := by
  unfold goK
  split <;> (try split) <;> omega
theorem x_go_dec : ∀ k, k < 6 → ∀ t, t < 21 → ∀ u, u < 100 → 0 < t → f_X4_letsGo (nI k) (nI t) (nI u) = some (nI (goK k t u)) := by decide +kernel
theorem m_go_dec : ∀ k, k < 6 → ∀ t, t < 21 → ∀ u, u < 100 → 0 < t → f_X12_goesOn (nI k) (nI t) (nI u) = some (nI (goK k t u)) := by decide +kernel
