/-! ===== counts, sums, sets of bits ===== -/
def sumN (g : Nat → Nat) : Nat → Nat
  | 0 => 0
  | n + 1 => sumN g n + g n
theorem sum_itr (g : Nat → Nat) (n : Nat) : itr (fun k a => a + g k) n 0 0 = sumN g n := by
  induction n with
  | zero => rfl
  | succ n ih => rw [itr_s, ih, Nat.zero_add]; rfl
theorem sum_le {g : Nat → Nat} {b : Nat} {n : Nat} (h : ∀ k, k < n → g k ≤ b) : sumN g n ≤ n * b := by
  induction n with
  | zero => exact Nat.zero_le _
  | succ n ih =>
    have h1 := ih (fun k hk => h k (by omega))
    have h2 := h n (by omega)
    show sumN g n + g n ≤ (n + 1) * b
    rw [Nat.succ_mul]; omega
theorem sum_congr {g g' : Nat → Nat} {n : Nat} (h : ∀ k, k < n → g k = g' k) : sumN g n = sumN g' n := by
  induction n with
  | zero => rfl
  | succ n ih => show sumN g n + g n = sumN g' n + g' n; rw [ih (fun k hk => h k (by omega)), h n (by omega)]
theorem sum_ge {g : Nat → Nat} {n k : Nat} (hk : k < n) : g k ≤ sumN g n := by
  induction n with
  | zero => omega
  | succ n ih =>
    show g k ≤ sumN g n + g n
    rcases Nat.lt_or_ge k n with h | h
    · have := ih h; omega
    · obtain rfl : k = n := by omega
      omega
abbrev cnt (p : Nat → Bool) (n : Nat) : Nat := sumN (fun k => if p k then 1 else 0) n
theorem cnt_le (p : Nat → Bool) (n : Nat) : cnt p n ≤ n := by
  have := sum_le (g := fun k => if p k then 1 else 0) (b := 1) (n := n) (fun k _ => by show (if p k then 1 else 0) ≤ 1; split <;> omega)
  rw [Nat.mul_one] at this
  exact this
theorem mask_loop {β : Type} (F : Nat → Nat → Int32 → Option β) (n : Nat) (hn : n ≤ 7) (p : Nat → Bool) (ex : Nat → Option β)
    (h1 : ∀ g i a, i < n → F (g + 1) a (nI i) = F g (a ||| (if p i then 2 ^ i else 0)) (nI (i + 1))) (h2 : ∀ g a, F (g + 1) a (nI n) = ex a) : F FU 0 0 = ex (mk p n) := by
  have e := lup0 F n (Nat.lt_of_le_of_lt hn (by decide)) (fun i a => a ||| (if p i then 2 ^ i else 0)) ex 0 h1 h2
  rw [mk_itr] at e
  exact e
theorem sum_loop {β : Type} (F : Nat → Nat → Int32 → Option β) (n : Nat) (hn : n ≤ 7) (g' : Nat → Nat) (ex : Nat → Option β)
    (h1 : ∀ g i a, i < n → F (g + 1) a (nI i) = F g (a + g' i) (nI (i + 1))) (h2 : ∀ g a, F (g + 1) a (nI n) = ex a) : F FU 0 0 = ex (sumN g' n) := by
  have e := lup0 F n (Nat.lt_of_le_of_lt hn (by decide)) (fun i a => a + g' i) ex 0 h1 h2
  rw [sum_itr] at e
  exact e
theorem chk_0 {α : Type} {k : Option α} {n : Nat} (h : 0 < n) (hn : n < 2 ^ 31) : chk 0 n k = k := chk_n (i := 0) h hn
theorem cl_0 : (0 : Int32).toNatClampNeg = 0 := by decide
theorem mz (i : Nat) (c : Int32) (k : Nat) (h : c = nI k) : c + nI i = nI (k + i) := by rw [h, nI_add]
theorem mz31 (i : Nat) : (31 : Int32) + nI i = nI (31 + i) := mz i 31 31 rfl
theorem MT.g0o {w : Nat → Int32} {t : Tb} (M : MT w 0 t) {i : Nat} (hi : i < tN t) : w (31 + i) = onv (tO t i) := by
  have := M.go hi
  rwa [Nat.zero_add] at this
/-! ===== how many are on one ===== -/
section HM
variable {f w : Nat → Int32} {r : Nat} {t : Tb} {v1 : Int32}
def onN (t : Tb) (o : Option Nat) : Nat := cnt (fun k => decide (tO t k = o)) (tN t)
theorem onN_le (t : Tb) (o : Option Nat) : onN t o ≤ tN t := cnt_le _ _
theorem onv_eq {o o' : Option Nat} (h : ∀ j, o = some j → j < 2 ^ 31) (h' : ∀ j, o' = some j → j < 2 ^ 31) : (onv o = onv o') ↔ o = o' := by
  cases o' with
  | none => exact onv_m1 h
  | some k => exact onv_nI h (h' k rfl)
theorem x_onN (X : XT f t) (V : VT t) {o : Option Nat} (ho : ∀ j, o = some j → j < 2 ^ 31) : f_X0_howManyOn 5 (nI (tN t)) 35 f (onv o) = some (nI (onN t o)) := by
  have hn := V.1
  unfold f_X0_howManyOn
  refine sum_loop (fun g (a : Nat) k => f_X0_howManyOn_4 5 (nI (tN t)) 35 f g (onv o) (nI a) k) (tN t) hn _ (fun a => some (nI a)) (fun g i a hi => ?_) (fun g a => ?_)
  · show f_X0_howManyOn_4 5 (nI (tN t)) 35 f (g + 1) (onv o) (nI a) (nI i) = _
    rw [f_X0_howManyOn_4, x_size, ob1_s, if_neg (nI_ge hi (by omega)), X.o hi hn, ob1_s]
    unfold f_X0_howManyOn_28
    by_cases e : tO t i = o
    · rw [if_pos (by rw [e]), show (1 : Int32) = nI 1 from rfl, nI_add, bnd_s, nI_add, bnd_s]
      simp only [e, decide_true, if_true]
    · rw [if_neg (fun q => e ((onv_eq (V.on31 hi) ho).mp q)), show (0 : Int32) = nI 0 from rfl, nI_add, bnd_s, nI_1, bnd_s]
      simp only [e, decide_false, Bool.false_eq_true, if_false]
  · show f_X0_howManyOn_4 5 (nI (tN t)) 35 f (g + 1) (onv o) (nI a) (nI (tN t)) = _
    rw [f_X0_howManyOn_4, x_size, ob1_s, if_pos (nI_le (Nat.le_refl _) (by omega))]
theorem m_onN (hv : v1 = nI r) (M : MT w r t) (V : VT t) (hr : r + 47 ≤ 1251) {o : Option Nat} (ho : ∀ j, o = some j → j < 2 ^ 31) : f_X12_onIt w v1 (onv o) = some (nI (onN t o)) := by
  have hn := V.1
  unfold f_X12_onIt
  refine sum_loop (fun g (a : Nat) k => f_X12_onIt_5 w g v1 (onv o) (nI a) k) (tN t) hn _ (fun a => some (nI a)) (fun g i a hi => ?_) (fun g a => ?_)
  · show f_X12_onIt_5 w (g + 1) v1 (onv o) (nI a) (nI i) = _
    rw [f_X12_onIt_5, hv, mx0, mx31, chk_n (by omega) (by omega), chk_n (by omega) (by omega), nI_clamp (by omega), nI_clamp (by omega), M.1, M.go hi, if_neg (nI_ge hi (by omega))]
    unfold f_X12_onIt_40
    by_cases e : tO t i = o
    · rw [if_pos (by rw [e]), show (1 : Int32) = nI 1 from rfl, nI_add, bnd_s, nI_add, bnd_s]
      simp only [e, decide_true, if_true]
    · rw [if_neg (fun q => e ((onv_eq (V.on31 hi) ho).mp q)), show (0 : Int32) = nI 0 from rfl, nI_add, bnd_s, nI_1, bnd_s]
      simp only [e, decide_false, Bool.false_eq_true, if_false]
  · show f_X12_onIt_5 w (g + 1) v1 (onv o) (nI a) (nI (tN t)) = _
    rw [f_X12_onIt_5, hv, mx0, chk_n (by omega) (by omega), nI_clamp (by omega), M.1, if_pos (nI_le (Nat.le_refl _) (by omega))]
/-! ===== whether one hangs over another ===== -/
def over (on : Nat → Option Nat) (i : Nat) : Nat → Nat → Bool
  | 0, _ => false
  | k + 1, j => if j = i then true else match on j with
    | none => false
    | some j' => over on i k j'
def ovr (t : Tb) (i j : Nat) : Bool := over (tO t) i 7 j
theorem x_over_go (X : XT f t) (V : VT t) {i : Nat} (hi : i < tN t) : ∀ (d u j g : Nat), u + d = 7 → d < g → j < tN t → f_X0_hangsOn_5 5 (nI (tN t)) 35 f g (nI i) (nI j) (nI u) = some (if over (tO t) i d j then 1 else 0) := by
  have hn := V.1
  intro d
  induction d with
  | zero =>
    intro u j g hu hg hj
    obtain ⟨g, rfl⟩ : ∃ g', g = g' + 1 := ⟨g - 1, by omega⟩
    obtain rfl : u = 7 := by omega
    rw [f_X0_hangsOn_5, if_pos (show (7 : Int32) ≤ nI 7 by decide)]
    rfl
  | succ d ih =>
    intro u j g hu hg hj
    obtain ⟨g, rfl⟩ : ∃ g', g = g' + 1 := ⟨g - 1, by omega⟩
    rw [f_X0_hangsOn_5, if_neg (show ¬ (7 : Int32) ≤ nI u from nI_ge (b := 7) (by omega) (by omega)), if_neg (fun q => by rw [nI_m1 (by omega)] at q; exact q), over]
    by_cases e : j = i
    · rw [if_pos (by rw [e]), if_pos e]; rfl
    · rw [if_neg (fun q => e ((nI_eq (by omega) (by omega)).mp q)), if_neg e, X.o hj hn, ob1_s, nI_1, bnd_s]
      cases ho : tO t j with
      | none =>
        obtain ⟨g, rfl⟩ : ∃ g', g = g' + 1 := ⟨g - 1, by omega⟩
        show f_X0_hangsOn_5 5 (nI (tN t)) 35 f (g + 1) (nI i) (onv none) (nI (u + 1)) = some 0
        rw [f_X0_hangsOn_5]
        by_cases q : (7 : Int32) ≤ nI (u + 1)
        · rw [if_pos q]
        · rw [if_neg q, if_pos (show onv none = -1 from rfl)]
      | some j' => exact ih (u + 1) j' g (by omega) (by omega) (V.on hj ho)
theorem x_over (X : XT f t) (V : VT t) {i j : Nat} (hi : i < tN t) (hj : j < tN t) : f_X0_hangsOn 5 (nI (tN t)) 35 f (nI j) (nI i) = some (if ovr t i j then 1 else 0) := x_over_go X V hi 7 0 j FU rfl (by decide) hj
theorem m_over_go (hv : v1 = nI r) (M : MT w r t) (V : VT t) (hr : r + 47 ≤ 1251) {i : Nat} (hi : i < tN t) : ∀ (k j g : Nat), j < tN t → tO t (upk (tO t) k j) = none → k + 1 < g → f_X12_isOver_3 w g v1 (nI i) (nI j) = some (if over (tO t) i (k + 1) j then 1 else 0) := by
  have hn := V.1
  intro k
  induction k with
  | zero =>
    intro j g hj h hg
    obtain ⟨g, rfl⟩ : ∃ g', g = g' + 1 := ⟨g - 1, by omega⟩
    have h : tO t j = none := h
    rw [f_X12_isOver_3, if_neg (fun q => by rw [nI_m1 (by omega)] at q; exact q), over, h]
    unfold f_X12_isOver_32
    by_cases e : j = i
    · rw [if_pos (by rw [e]), if_pos e, if_pos (by rw [e])]; rfl
    · rw [if_neg (fun q => e ((nI_eq (by omega) (by omega)).mp q)), if_neg e, hv, mx31, chk_n (by omega) (by omega), nI_clamp (by omega), M.go hj, h, bnd_s]
      obtain ⟨g, rfl⟩ : ∃ g', g = g' + 1 := ⟨g - 1, by omega⟩
      rw [f_X12_isOver_3, if_pos (show onv none = -1 from rfl)]
      unfold f_X12_isOver_32
      rw [if_neg (fun q => by rw [onv, m1_nI (by omega)] at q; exact q)]
      rfl
  | succ k ih =>
    intro j g hj h hg
    obtain ⟨g, rfl⟩ : ∃ g', g = g' + 1 := ⟨g - 1, by omega⟩
    rw [f_X12_isOver_3, if_neg (fun q => by rw [nI_m1 (by omega)] at q; exact q), over]
    by_cases e : j = i
    · unfold f_X12_isOver_32
      rw [if_pos (by rw [e]), if_pos e, if_pos (by rw [e])]; rfl
    · rw [if_neg (fun q => e ((nI_eq (by omega) (by omega)).mp q)), if_neg e, hv, mx31, chk_n (by omega) (by omega), nI_clamp (by omega), M.go hj, bnd_s, ← hv]
      cases ho : tO t j with
      | none =>
        obtain ⟨g, rfl⟩ : ∃ g', g = g' + 1 := ⟨g - 1, by omega⟩
        rw [f_X12_isOver_3, if_pos (show onv none = -1 from rfl)]
        unfold f_X12_isOver_32
        rw [if_neg (fun q => by rw [onv, m1_nI (by omega)] at q; exact q)]
        rfl
      | some j' =>
        rw [upk_some ho] at h
        exact ih j' g (V.on hj ho) h (by omega)
theorem m_over (hv : v1 = nI r) (M : MT w r t) (V : VT t) (hr : r + 47 ≤ 1251) {i j : Nat} (hi : i < tN t) (hj : j < tN t) : f_X12_isOver w v1 (nI i) (nI j) = some (if ovr t i j then 1 else 0) :=
  m_over_go hv M V hr hi 6 j FU hj (upk_top V.2.2 hj (by have := V.1; omega)) (by decide)
/-! ===== on whom one may be hooked ===== -/
def hold (t : Tb) (i j : Nat) : Bool := !(ovr t i j) && decide (onN t (some j) < 2)
def holders (t : Tb) (i : Nat) : Nat := mk (fun j => hold t i j) (tN t)
theorem x_two (X : XT f t) (V : VT t) {j : Nat} (hj : j < tN t) : f_X0_holdsTwo 5 (nI (tN t)) 35 f (nI j) = some (if onN t (some j) < 2 then 0 else 1) := by
  have hn := V.1
  have h := onN_le t (some j)
  unfold f_X0_holdsTwo
  rw [show nI j = onv (some j) from rfl, x_onN X V (fun q hq => by cases hq; omega), ob1_s]
  by_cases e : onN t (some j) < 2
  · rw [if_pos (show nI (onN t (some j)) < (2 : Int32) from nI_lt (b := 2) e (by omega)), if_pos e]
  · rw [if_neg (show ¬ nI (onN t (some j)) < (2 : Int32) from nI_nlt (b := 2) (by omega) (by omega)), if_neg e]
theorem x_can (X : XT f t) (V : VT t) {i j : Nat} (hi : i < tN t) (hj : j < tN t) : f_X0_canHold 5 (nI (tN t)) 35 f (nI j) (nI i) = some (if hold t i j then 1 else 0) := by
  unfold f_X0_canHold hold
  rw [x_over X V hi hj, ob1_s]
  cases ovr t i j with
  | true => rfl
  | false =>
    rw [x_two X V hj]
    by_cases e : onN t (some j) < 2
    · simp only [e, if_true, decide_true]; rfl
    · simp only [e, if_false, decide_false]; rfl
theorem x_holders (X : XT f t) (V : VT t) {i : Nat} (hi : i < tN t) : f_X0_holdersFor 5 (nI (tN t)) 35 f (nI i) = some (nI (holders t i)) := by
  have hn := V.1
  unfold f_X0_holdersFor
  refine mask_loop (fun g (a : Nat) k => f_X0_holdersFor_4 5 (nI (tN t)) 35 f g (nI i) (nI a) k) (tN t) hn _ (fun a => some (nI a)) (fun g j a hj => ?_) (fun g a => ?_)
  · show f_X0_holdersFor_4 5 (nI (tN t)) 35 f (g + 1) (nI i) (nI a) (nI j) = _
    rw [f_X0_holdersFor_4, x_size, ob1_s, if_neg (nI_ge hj (by omega)), x_can X V hi hj, ob1_s]
    unfold f_X0_holdersFor_29
    cases hold t i j with
    | true => rw [if_neg (by decide), kb_shl (by omega), kb_or, bnd_s, nI_1, bnd_s]; rfl
    | false => rw [if_pos (show (if false = true then (1 : Int32) else 0) = 0 from rfl), show (0 : Int32) = nI 0 from rfl, kb_or, bnd_s, nI_1, bnd_s]; rfl
  · show f_X0_holdersFor_4 5 (nI (tN t)) 35 f (g + 1) (nI i) (nI a) (nI (tN t)) = _
    rw [f_X0_holdersFor_4, x_size, ob1_s, if_pos (nI_le (Nat.le_refl _) (by omega))]
theorem m_holders (M : MT w 0 t) (V : VT t) {i : Nat} (hi : i < tN t) : f_X12_caughtBy w (nI i) = some (nI (holders t i)) := by
  have hn := V.1
  unfold f_X12_caughtBy
  refine mask_loop (fun g (a : Nat) k => f_X12_caughtBy_4 w g (nI i) (nI a) k) (tN t) hn _ (fun a => some (nI a)) (fun g j a hj => ?_) (fun g a => ?_)
  · show f_X12_caughtBy_4 w (g + 1) (nI i) (nI a) (nI j) = _
    have h2 := onN_le t (some j)
    rw [f_X12_caughtBy_4, chk_0 (by omega) (by omega), cl_0, M.1, if_neg (nI_ge hj (by omega)), m_over (v1 := 0) (r := 0) rfl M V (by omega) hi hj, ob1_s, show nI j = onv (some j) from rfl, m_onN (v1 := 0) (r := 0) rfl M V (by omega) (fun q hq => by cases hq; omega), ob1_s]
    unfold f_X12_caughtBy_41 f_X12_caughtBy_42 hold
    cases ovr t i j with
    | true => rw [if_neg (by decide), show (0 : Int32) = nI 0 from rfl, kb_or, bnd_s, show onv (some j) = nI j from rfl, nI_1, bnd_s]; rfl
    | false =>
      rw [if_pos (show (if false = true then (1 : Int32) else 0) = 0 from rfl)]
      by_cases e : onN t (some j) < 2
      · rw [if_neg (show ¬ (2 : Int32) ≤ nI (onN t (some j)) from nI_ge (b := 2) e (by omega)), show onv (some j) = nI j from rfl, kb_shl (by omega), kb_or, bnd_s, nI_1, bnd_s]
        simp only [e, decide_true]; rfl
      · rw [if_pos (show (2 : Int32) ≤ nI (onN t (some j)) from nI_le (a := 2) (by omega) (by omega)), show onv (some j) = nI j from rfl, show (0 : Int32) = nI 0 from rfl, kb_or, bnd_s, nI_1, bnd_s]
        simp only [e, decide_false]; rfl
  · show f_X12_caughtBy_4 w (g + 1) (nI i) (nI a) (nI (tN t)) = _
    rw [f_X12_caughtBy_4, chk_0 (by omega) (by omega), cl_0, M.1, if_pos (nI_le (Nat.le_refl _) (by omega))]
/-! ===== what a set of clerks weighs ===== -/
def wgt (t : Tb) (m : Nat) : Nat := sumN (fun k => if m.testBit k then tW t k else 0) (tN t)
theorem wgt_le (V : VT t) (m : Nat) : wgt t m ≤ 63 := by
  have h := sum_le (g := fun k => if m.testBit k then tW t k else 0) (b := 9) (n := tN t) (fun k hk => by
    have := (V.2.1 k hk).2.2.2.1
    show (if m.testBit k then tW t k else 0) ≤ 9
    split <;> omega)
  have := V.1
  unfold wgt
  omega
theorem x_weight (X : XT f t) (V : VT t) {m : Nat} (hm : m < 2 ^ 31) : f_X0_weight 5 (nI (tN t)) 35 f (nI m) = some (nI (wgt t m)) := by
  have hn := V.1
  unfold f_X0_weight
  refine sum_loop (fun g (a : Nat) k => f_X0_weight_4 5 (nI (tN t)) 35 f g (nI m) (nI a) k) (tN t) hn _ (fun a => some (nI a)) (fun g i a hi => ?_) (fun g a => ?_)
  · show f_X0_weight_4 5 (nI (tN t)) 35 f (g + 1) (nI m) (nI a) (nI i) = _
    rw [f_X0_weight_4, x_size, ob1_s, if_neg (nI_ge hi (by omega)), x_hasBit hm (by omega), ob1_s]
    unfold f_X0_weight_31
    cases m.testBit i with
    | true => rw [if_neg (by decide), X.w hi hn, ob1_s, nI_add, bnd_s, nI_1, bnd_s]; rfl
    | false => rw [if_pos (show (if false = true then (1 : Int32) else 0) = 0 from rfl), show (0 : Int32) = nI 0 from rfl, nI_add, bnd_s, nI_1, bnd_s]; rfl
  · show f_X0_weight_4 5 (nI (tN t)) 35 f (g + 1) (nI m) (nI a) (nI (tN t)) = _
    rw [f_X0_weight_4, x_size, ob1_s, if_pos (nI_le (Nat.le_refl _) (by omega))]
theorem m_weighs (hv : v1 = nI r) (M : MT w r t) (V : VT t) (hr : r + 47 ≤ 1251) {m : Nat} (hm : m < 2 ^ 31) : f_X12_weighs w v1 (nI m) = some (nI (wgt t m)) := by
  have hn := V.1
  unfold f_X12_weighs
  refine sum_loop (fun g (a : Nat) k => f_X12_weighs_5 w g v1 (nI m) (nI a) k) (tN t) hn _ (fun a => some (nI a)) (fun g i a hi => ?_) (fun g a => ?_)
  · show f_X12_weighs_5 w (g + 1) v1 (nI m) (nI a) (nI i) = _
    rw [f_X12_weighs_5, hv, mx0, chk_n (by omega) (by omega), nI_clamp (by omega), M.1, if_neg (nI_ge hi (by omega)), m_has hm (by omega), ob1_s]
    unfold f_X12_weighs_44
    cases m.testBit i with
    | true => rw [if_neg (by decide), mx10, chk_n (by omega) (by omega), nI_clamp (by omega), M.gw hi, nI_add, bnd_s, nI_1, bnd_s]; rfl
    | false => rw [if_pos (show (if false = true then (1 : Int32) else 0) = 0 from rfl), show (0 : Int32) = nI 0 from rfl, nI_add, bnd_s, nI_1, bnd_s]; rfl
  · show f_X12_weighs_5 w (g + 1) v1 (nI m) (nI a) (nI (tN t)) = _
    rw [f_X12_weighs_5, hv, mx0, chk_n (by omega) (by omega), nI_clamp (by omega), M.1, if_pos (nI_le (Nat.le_refl _) (by omega))]
end HM
