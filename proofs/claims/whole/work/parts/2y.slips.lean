/-! ===== the call slips: hooks that slip, the numbers ===== -/
def prN (f : Nat → Nat) : Nat → Nat
  | 0 => 1
  | n + 1 => prN f n * f n
theorem prN_congr {f g : Nat → Nat} : ∀ n, (∀ k, k < n → f k = g k) → prN f n = prN g n := by
  intro n
  induction n with
  | zero => intro _; rfl
  | succ n ih => intro h; rw [prN, prN, ih (fun k hk => h k (by omega)), h n (by omega)]
theorem sumN_add (g : Nat → Nat) (a : Nat) : ∀ b, sumN g (a + b) = sumN g a + sumN (fun m => g (a + m)) b := by
  intro b
  induction b with
  | zero => rfl
  | succ b ih =>
    show sumN g (a + b) + g (a + b) = sumN g a + (sumN (fun m => g (a + m)) b + g (a + b))
    rw [ih, Nat.add_assoc]
theorem sumN_mul (g : Nat → Nat) (c : Nat) : ∀ n, sumN (fun m => g m * c) n = sumN g n * c := by
  intro n
  induction n with
  | zero => exact (Nat.zero_mul c).symm
  | succ n ih =>
    show sumN (fun m => g m * c) n + g n * c = (sumN g n + g n) * c
    rw [ih, Nat.add_mul]
theorem prN_sum (v : Nat → Bool → Nat) : ∀ n, sumN (fun m => prN (fun k => v k (m.testBit k)) n) (2 ^ n) = prN (fun k => v k false + v k true) n := by
  intro n
  induction n with
  | zero => rfl
  | succ n ih =>
    have e2 : 2 ^ (n + 1) = 2 ^ n + 2 ^ n := by rw [Nat.pow_succ]; omega
    rw [e2, sumN_add]
    have l1 : sumN (fun m => prN (fun k => v k (m.testBit k)) (n + 1)) (2 ^ n) = sumN (fun m => prN (fun k => v k (m.testBit k)) n) (2 ^ n) * v n false := by
      rw [← sumN_mul]
      refine sum_congr (fun m hm => ?_)
      show prN (fun k => v k (m.testBit k)) n * v n (m.testBit n) = _
      rw [Nat.testBit_lt_two_pow hm]
    have l2 : sumN (fun m => prN (fun k => v k ((2 ^ n + m).testBit k)) (n + 1)) (2 ^ n) = sumN (fun m => prN (fun k => v k (m.testBit k)) n) (2 ^ n) * v n true := by
      rw [← sumN_mul]
      refine sum_congr (fun m hm => ?_)
      show prN (fun k => v k ((2 ^ n + m).testBit k)) n * v n ((2 ^ n + m).testBit n) = _
      have h1 : (2 ^ n + m).testBit n = true := by rw [Nat.testBit_two_pow_add_eq, Nat.testBit_lt_two_pow hm]; rfl
      rw [h1]
      congr 1
      refine prN_congr n (fun k hk => ?_)
      rw [Nat.testBit_two_pow_add_gt hk]
    rw [l1, l2, ih, ← Nat.mul_add]
    rfl
/-- the odds of one: whether its hook slips -/
def wsl (t : Tb) (s k : Nat) (b : Bool) : Nat := if tO t k = none then (if b then 0 else 1) else (if b then s else 10 - s)
def hkd (t : Tb) (k : Nat) : Bool := decide (tO t k ≠ none)
theorem prN_pow (t : Tb) (Q : Nat → Bool) (a : Nat) (n : Nat) (hQ : ∀ k, k < n → Q k = true → tO t k ≠ none) : prN (fun k => if tO t k = none then 1 else if Q k = true then a else 10) n = a ^ cnt Q n * 10 ^ cnt (fun k => hkd t k && !(Q k)) n := by
  induction n with
  | zero => rfl
  | succ n ih =>
    have i := ih (fun k hk => hQ k (by omega))
    show prN _ n * (if tO t n = none then 1 else if Q n = true then a else 10) = a ^ (cnt Q n + (if Q n = true then 1 else 0)) * 10 ^ (cnt (fun k => hkd t k && !(Q k)) n + (if (hkd t n && !(Q n)) = true then 1 else 0))
    rw [i]
    by_cases z : tO t n = none
    · have q : Q n = false := not_t (fun q => hQ n (by omega) q z)
      have q2 : hkd t n = false := decide_eq_false (fun h => h z)
      rw [if_pos z, q, q2, Nat.mul_one]
      rfl
    · have q2 : hkd t n = true := decide_eq_true z
      rw [if_neg z, q2]
      by_cases y : Q n = true
      · rw [if_pos y, if_pos y, y]
        show _ = a ^ (cnt Q n + 1) * 10 ^ (cnt (fun k => hkd t k && !(Q k)) n + 0)
        rw [Nat.pow_succ, Nat.add_zero]
        rw [Nat.mul_assoc, Nat.mul_comm (10 ^ _) a, ← Nat.mul_assoc]
      · rw [if_neg y, if_neg y, not_t y]
        show _ = a ^ (cnt Q n + 0) * 10 ^ (cnt (fun k => hkd t k && !(Q k)) n + 1)
        rw [Nat.add_zero, Nat.pow_succ, Nat.mul_assoc]
/-! how a cut changes what is felt -/
section SL
variable {t : Tb} {par : Nat → Option Nat} {i : Nat}
/-- whose hook joins x to the next one on the way to i -/
def own (t : Tb) (par : Nat → Option Nat) (x : Nat) : Nat := if tO t x = par x then x else (par x).getD 0
def parM (t : Tb) (par : Nat → Option Nat) (m : Nat) (x : Nat) : Option Nat := if m.testBit (own t par x) then none else par x
theorem RR_cut (V : VT t) (Rr : RR (tN t) (tO t) i par) (m : Nat) : RR (tN (cutT t m)) (tO (cutT t m)) i (parM t par m) := by
  obtain ⟨r1, r2, r3, rk, r4⟩ := Rr
  obtain ⟨rk0, h0⟩ := V.2.2
  refine ⟨?_, fun a ha b hb => ?_, fun a ha b hb => ?_, ⟨rk, fun x hx j hj => ?_⟩⟩
  · show (if m.testBit (own t par i) then none else par i) = none
    rw [r1]; split <;> rfl
  · have ha : a < tN t := ha
    have hb : (if m.testBit (own t par a) then none else par a) = some b := hb
    by_cases z : m.testBit (own t par a) = true
    · rw [if_pos z] at hb; cases hb
    · rw [if_neg z] at hb
      have h := r2 a ha b hb
      refine ⟨h.1, ?_⟩
      show (if m.testBit a then none else tO t a) = some b ∨ (if m.testBit b then none else tO t b) = some a
      by_cases y : tO t a = some b
      · have eo : own t par a = a := by unfold own; rw [if_pos (by rw [y, hb])]
        rw [eo] at z
        exact Or.inl (by rw [if_neg z]; exact y)
      · have eo : own t par a = b := by unfold own; rw [hb, if_neg y]; rfl
        rw [eo] at z
        rcases h.2 with q | q
        · exact absurd q y
        · exact Or.inr (by rw [if_neg z]; exact q)
  · have ha : a < tN t := ha
    have hb : (if m.testBit a then none else tO t a) = some b := hb
    by_cases z : m.testBit a = true
    · rw [if_pos z] at hb; cases hb
    · rw [if_neg z] at hb
      rcases r3 a ha b hb with q | q
      · have eo : own t par a = a := by unfold own; rw [if_pos (by rw [hb, q])]
        exact Or.inl (by show (if m.testBit (own t par a) then none else par a) = some b; rw [eo, if_neg z]; exact q)
      · have hba : ¬ tO t b = some a := fun y => by
          have h1 := h0 a ha b hb
          have h2 := h0 b h1.1 a y
          omega
        have eo : own t par b = a := by unfold own; rw [q, if_neg hba]; rfl
        exact Or.inr (by show (if m.testBit (own t par b) then none else par b) = some a; rw [eo, if_neg z]; exact q)
  · have hj : (if m.testBit (own t par x) then none else par x) = some j := hj
    by_cases z : m.testBit (own t par x) = true
    · rw [if_pos z] at hj; cases hj
    · rw [if_neg z] at hj; exact r4 x hx j hj
theorem cnt_new {Q : Nat → Bool} {o : Nat} : ∀ n, o < n → Q o = false → cnt (fun k => Q k || decide (k = o)) n = cnt Q n + 1 := by
  intro n
  induction n with
  | zero => intro h; omega
  | succ n ih =>
    intro h hq
    show cnt (fun k => Q k || decide (k = o)) n + (if (Q n || decide (n = o)) = true then 1 else 0) = cnt Q n + (if Q n = true then 1 else 0) + 1
    by_cases z : n = o
    · have e : cnt (fun k => Q k || decide (k = o)) n = cnt Q n := sum_congr (fun k hk => by
        show (if (Q k || decide (k = o)) = true then 1 else 0) = (if Q k = true then 1 else 0)
        rw [decide_eq_false (show ¬ k = o by omega), Bool.or_false])
      rw [e, decide_eq_true z, Bool.or_true, z, hq]
      rfl
    · rw [ih (by omega) hq, decide_eq_false z, Bool.or_false]
      omega
/-- the way from x to i: the hooks it goes along -/
def Way (t : Tb) (par : Nat → Option Nat) (i tt x : Nat) (Q : Nat → Bool) : Prop :=
  (∀ k, Q k = true → k < tN t ∧ tO t k ≠ none ∧ FDn par i k ≤ FDn par i x ∧ ∀ b, tO t k = some b → FDn par i b ≤ FDn par i x) ∧ cnt Q (tN t) + 1 = FDn par i x ∧
  ∀ m, Fe (cutT t m) (parM t par m) i tt x = if allN (fun k => !(Q k && m.testBit k)) (tN t) = true then Fe t par i tt x else 0
theorem way_ex (V : VT t) (Rr : RR (tN t) (tO t) i par) (hi : i < tN t) (tt : Nat) : ∀ x, x < tN t → FDn par i x ≠ 0 → ∃ Q, Way t par i tt x Q := by
  have hn := V.1
  have A := Rr.2.2.2
  refine par_ind A (fun x => FDn par i x ≠ 0 → ∃ Q, Way t par i tt x Q) (fun x hx ih hF => ?_)
  by_cases q : x = i
  · refine ⟨fun _ => false, fun k hk => absurd hk Bool.false_ne_true, ?_, fun m => ?_⟩
    · have h0 : ∀ n, cnt (fun _ => false) n = 0 := fun n => by
        induction n with
        | zero => rfl
        | succ n ih => show cnt (fun _ => false) n + 0 = 0; rw [ih]
      rw [h0, q]; exact feel_i.symm
    · rw [if_pos ((allN_iff (fun k => !((fun x => false) k && m.testBit k)) (tN t)).mpr (fun k _ => rfl)), q]
      exact feel_i.trans feel_i.symm
  · cases hp : par x with
    | none => exact absurd (feel_none q hp) hF
    | some a =>
      have e := FDn_some A hn q hx hp
      by_cases z : FDn par i a = 0
      · rw [if_pos z] at e; exact absurd e hF
      · rw [if_neg z] at e
        obtain ⟨Q, w1, w2, w3⟩ := ih a hp z
        obtain ⟨ha, hor⟩ := Rr.2.1 x hx a hp
        have ho : own t par x < tN t ∧ tO t (own t par x) ≠ none ∧ FDn par i (own t par x) ≤ FDn par i x ∧ (∀ b, tO t (own t par x) = some b → FDn par i b ≤ FDn par i x) ∧ ((own t par x = x) ∨ tO t (own t par x) = some x) := by
          by_cases y : tO t x = some a
          · have eo : own t par x = x := by unfold own; rw [if_pos (by rw [y, hp])]
            rw [eo]
            refine ⟨hx, (by rw [y]; exact fun q => (by cases q)), Nat.le_refl _, fun b hb => ?_, Or.inl rfl⟩
            rw [y] at hb; injection hb with hb
            rw [← hb]; omega
          · have eo : own t par x = a := by unfold own; rw [hp, if_neg y]; rfl
            rcases hor with q2 | q2
            · exact absurd q2 y
            · rw [eo]
              refine ⟨ha, (by rw [q2]; exact fun q => (by cases q)), by omega, fun b hb => ?_, Or.inr q2⟩
              rw [q2] at hb; injection hb with hb
              rw [← hb]; exact Nat.le_refl _
        have hnew : Q (own t par x) = false := not_t (fun hq => by
          obtain ⟨-, -, u1, u2⟩ := w1 _ hq
          rcases ho.2.2.2.2 with y | y
          · rw [y] at u1; omega
          · have := u2 x y; omega)
        refine ⟨fun k => Q k || decide (k = own t par x), fun k hk => ?_, ?_, fun m => ?_⟩
        · have hk : (Q k || decide (k = own t par x)) = true := hk
          rw [Bool.or_eq_true] at hk
          rcases hk with hk | hk
          · obtain ⟨u1, u2, u3, u4⟩ := w1 k hk
            exact ⟨u1, u2, by omega, fun b hb => by have := u4 b hb; omega⟩
          · have hk := of_decide_eq_true hk
            rw [hk]
            exact ⟨ho.1, ho.2.1, ho.2.2.1, ho.2.2.2.1⟩
        · rw [cnt_new (tN t) ho.1 hnew, w2]; omega
        · have Am : Acy (tN t) (parM t par m) := (RR_cut V Rr m).2.2.2
          have ex : Fe t par i tt x = if Fe t par i tt a = 0 then 0 else gT t a (Fe t par i tt a) := feel_some A hn q hx hp
          by_cases y : m.testBit (own t par x) = true
          · have hpm : parM t par m x = none := if_pos y
            have e0 : Fe (cutT t m) (parM t par m) i tt x = 0 := feel_none q hpm
            rw [e0, if_neg (fun h => ?_)]
            have := (allN_iff _ _).mp h (own t par x) ho.1
            have : (!((Q (own t par x) || decide (own t par x = own t par x)) && m.testBit (own t par x))) = true := this
            rw [y, decide_eq_true rfl, Bool.or_true] at this
            exact Bool.noConfusion (show false = true from this)
          · have hpm : parM t par m x = some a := by show (if m.testBit (own t par x) then none else par x) = some a; rw [if_neg y]; exact hp
            have e1 : Fe (cutT t m) (parM t par m) i tt x = if Fe (cutT t m) (parM t par m) i tt a = 0 then 0 else gT (cutT t m) a (Fe (cutT t m) (parM t par m) i tt a) := feel_some Am hn q hx hpm
            have e2 := w3 m
            have eg : ∀ v, gT (cutT t m) a v = gT t a v := fun v => rfl
            have eall : allN (fun k => !((Q k || decide (k = own t par x)) && m.testBit k)) (tN t) = allN (fun k => !(Q k && m.testBit k)) (tN t) := bool_ext (by
              rw [allN_iff, allN_iff]
              constructor
              · intro h k hk
                have := h k hk
                have this : (!((Q k || decide (k = own t par x)) && m.testBit k)) = true := this
                show (!(Q k && m.testBit k)) = true
                cases hq : Q k with
                | false => rfl
                | true => rw [hq, Bool.true_or] at this; exact this
              · intro h k hk
                have := h k hk
                have this : (!(Q k && m.testBit k)) = true := this
                show (!((Q k || decide (k = own t par x)) && m.testBit k)) = true
                by_cases u : k = own t par x
                · rw [u, not_t y, Bool.and_false]; rfl
                · rw [decide_eq_false u, Bool.or_false]; exact this)
            rw [e1, e2, eall, ex]
            by_cases u : allN (fun k => !(Q k && m.testBit k)) (tN t) = true
            · rw [if_pos u, if_pos u, eg]
            · rw [if_neg u, if_neg u, if_pos rfl]
theorem Fe_FD (V : VT t) (Rr : RR (tN t) (tO t) i par) (hi : i < tN t) (tt : Nat) : ∀ x, x < tN t → Fe t par i tt x ≠ 0 → FDn par i x ≠ 0 := by
  have hn := V.1
  have A := Rr.2.2.2
  refine par_ind A (fun x => Fe t par i tt x ≠ 0 → FDn par i x ≠ 0) (fun x hx ih hF => ?_)
  by_cases q : x = i
  · rw [q, show FDn par i i = 1 from feel_i]; omega
  · cases hp : par x with
    | none => exact absurd (feel_none q hp) hF
    | some a =>
      have e : Fe t par i tt x = if Fe t par i tt a = 0 then 0 else gT t a (Fe t par i tt a) := feel_some A hn q hx hp
      by_cases z : Fe t par i tt a = 0
      · rw [if_pos z] at e; exact absurd e hF
      · have := ih a hp z
        rw [FDn_some A hn q hx hp, if_neg this]; omega
/-- no felt tug comes out of nothing: with cuts neither -/
theorem Fe_cut0 (V : VT t) (Rr : RR (tN t) (tO t) i par) (hi : i < tN t) (tt m : Nat) : ∀ x, x < tN t → Fe t par i tt x = 0 → Fe (cutT t m) (parM t par m) i tt x = 0 := by
  have hn := V.1
  have A := Rr.2.2.2
  intro x hx h0
  by_cases z : FDn par i x = 0
  · -- no way at all
    have Am : Acy (tN t) (parM t par m) := (RR_cut V Rr m).2.2.2
    have go : ∀ x, x < tN t → FDn par i x = 0 → Fe (cutT t m) (parM t par m) i tt x = 0 := by
      refine par_ind A (fun x => FDn par i x = 0 → Fe (cutT t m) (parM t par m) i tt x = 0) (fun x hx ih hF => ?_)
      by_cases q : x = i
      · rw [q, show FDn par i i = 1 from feel_i] at hF; omega
      · cases hp : parM t par m x with
        | none => exact feel_none q hp
        | some a =>
          have hpx : par x = some a := by
            have hp : (if m.testBit (own t par x) then none else par x) = some a := hp
            by_cases y : m.testBit (own t par x) = true
            · rw [if_pos y] at hp; cases hp
            · rw [if_neg y] at hp; exact hp
          have e := FDn_some A hn q hx hpx
          have ha : FDn par i a = 0 := by
            by_cases u : FDn par i a = 0
            · exact u
            · rw [if_neg u] at e; omega
          have e1 : Fe (cutT t m) (parM t par m) i tt x = if Fe (cutT t m) (parM t par m) i tt a = 0 then 0 else gT (cutT t m) a (Fe (cutT t m) (parM t par m) i tt a) := feel_some Am hn q hx hp
          rw [e1, ih a hpx ha, if_pos rfl]
    exact go x hx z
  · obtain ⟨Q, -, -, w3⟩ := way_ex V Rr hi tt x hx z
    rw [w3 m, h0]
    split <;> rfl
end SL
