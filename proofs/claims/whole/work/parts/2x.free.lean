/-! ===== the call free, both sides ===== -/
theorem allN_s (p : Nat → Bool) (n : Nat) : allN p (n + 1) = (allN p n && p n) := by
  unfold allN
  rw [itr_s, Nat.zero_add]
theorem allN_iff (p : Nat → Bool) : ∀ n, allN p n = true ↔ ∀ k, k < n → p k = true := by
  intro n
  induction n with
  | zero => exact ⟨fun _ k hk => absurd hk (Nat.not_lt_zero k), fun _ => rfl⟩
  | succ n ih =>
    rw [allN_s, Bool.and_eq_true, ih]
    constructor
    · intro h k hk
      rcases Nat.lt_or_ge k n with q | q
      · exact h.1 k q
      · obtain rfl : k = n := by omega
        exact h.2
    · intro h
      exact ⟨fun k hk => h k (by omega), h n (by omega)⟩
theorem itr_and (p : Nat → Bool) : ∀ (e j : Nat) (b : Bool), itr (fun i b => b && p i) e j b = (b && itr (fun i b => b && p i) e j true) := by
  intro e j b
  cases b with
  | false => rw [itr_false]; rfl
  | true => rw [Bool.true_and]
theorem bool_ext {a b : Bool} (h : a = true ↔ b = true) : a = b := by
  cases a <;> cases b
  · rfl
  · exact absurd (h.mpr rfl) Bool.false_ne_true
  · exact absurd (h.mp rfl) Bool.false_ne_true
  · rfl
theorem not_t {a : Bool} (h : ¬ a = true) : a = false := by
  cases a with
  | false => rfl
  | true => exact absurd rfl h
/-- the hooks of those of m unbent -/
def cutT (t : Tb) (m : Nat) : Tb := (tN t, tK t, tD t, tW t, tU t, fun i => if m.testBit i then none else tO t i)
theorem cutT_V {t : Tb} (V : VT t) (m : Nat) : VT (cutT t m) := by
  refine ⟨V.1, V.2.1, ?_⟩
  obtain ⟨rk, h⟩ := V.2.2
  refine ⟨rk, fun i hi j hj => ?_⟩
  have hj : (if m.testBit i then none else tO t i) = some j := hj
  by_cases z : m.testBit i = true
  · rw [if_pos z] at hj; cases hj
  · rw [if_neg z] at hj; exact h i hi j hj
theorem upc_cut (t : Tb) (m : Nat) : ∀ k i, upc m (tO t) k i = upk (tO (cutT t m)) k i := by
  intro k
  induction k with
  | zero => intro i; rfl
  | succ k ih =>
    intro i
    rw [upk_s]
    show (if m.testBit i then i else match tO t i with | none => i | some j => upc m (tO t) k j) = match (if m.testBit i then none else tO t i) with | none => i | some j => upk (tO (cutT t m)) k j
    by_cases z : m.testBit i = true
    · rw [if_pos z, if_pos z]
    · rw [if_neg z, if_neg z]
      cases tO t i with
      | none => rfl
      | some j => exact ih j
/-- what the first k of them bring to T -/
def pwt (t : Tb) (m T : Nat) (k : Nat) : Nat := sumN (fun c => if topo (cutT t m) c = T then tW t c else 0) k
def lgt (t : Tb) (m L : Nat) : Bool := allN (fun k => decide (wgt (cutT t m) (strg (cutT t m) k) ≤ L)) (tN t)
theorem pwt_s (t : Tb) (m T k : Nat) : pwt t m T (k + 1) = pwt t m T k + (if topo (cutT t m) k = T then tW t k else 0) := rfl
theorem pwt_mono (t : Tb) (m T : Nat) : ∀ d k, pwt t m T k ≤ pwt t m T (k + d) := by
  intro d
  induction d with
  | zero => intro k; exact Nat.le_refl _
  | succ d ih => intro k; rw [← Nat.add_assoc, pwt_s]; exact Nat.le_trans (ih k) (Nat.le_add_right _ _)
theorem pwt_wgt (t : Tb) (m : Nat) {k : Nat} : wgt (cutT t m) (strg (cutT t m) k) = pwt t m (topo (cutT t m) k) (tN t) := by
  unfold wgt pwt
  refine sum_congr (fun c hc => ?_)
  have hc : c < tN t := hc
  rw [strg_bit]
  have : decide (c < tN (cutT t m)) = true := decide_eq_true hc
  rw [this, Bool.true_and]
  by_cases z : topo (cutT t m) c = topo (cutT t m) k
  · rw [decide_eq_true z, if_pos rfl, if_pos z]; rfl
  · rw [decide_eq_false z, if_neg Bool.false_ne_true, if_neg z]
theorem lgt_iff (t : Tb) (m L : Nat) : allN (fun k => decide (pwt t m (topo (cutT t m) k) (k + 1) ≤ L)) (tN t) = lgt t m L := by
  apply bool_ext
  unfold lgt
  rw [allN_iff, allN_iff]
  constructor
  · intro h k hk
    apply decide_eq_true
    rw [pwt_wgt]
    have go : ∀ N, N ≤ tN t → ∀ T, pwt t m T N ≤ L := by
      intro N
      induction N with
      | zero => intro _ T; exact Nat.zero_le _
      | succ N ih =>
        intro hN T
        by_cases z : topo (cutT t m) N = T
        · have := of_decide_eq_true (h N (by omega)); rw [z] at this; exact this
        · rw [pwt_s, if_neg z]; exact ih (by omega) T
    exact go (tN t) (Nat.le_refl _) _
  · intro h k hk
    apply decide_eq_true
    have h1 := of_decide_eq_true (h k hk)
    rw [pwt_wgt] at h1
    have h2 := pwt_mono t m (topo (cutT t m) k) (tN t - (k + 1)) (k + 1)
    rw [show k + 1 + (tN t - (k + 1)) = tN t by omega] at h2
    omega
section FR
variable {fc w : Nat → Int32} {t : Tb}
theorem pwt_le (V : VT t) (m T k : Nat) (hk : k ≤ tN t) : pwt t m T k ≤ 63 := by
  have hn := V.1
  have : pwt t m T k ≤ k * 9 := sum_le (fun c hc => by
    show (if topo (cutT t m) c = T then tW t c else 0) ≤ 9
    by_cases z : topo (cutT t m) c = T
    · rw [if_pos z]; exact (V.2.1 c (by omega)).2.2.2.1
    · rw [if_neg z]; omega)
  omega
theorem x_light_go (X : XT fc t) (V : VT t) {m L : Nat} (hm : m < 128) (hL : L < 2 ^ 31) : ∀ (e k q : Nat) (ws : Nat → Int32), k + e = tN t → e < q → (∀ T, T < 7 → ws T = nI (pwt t m T k)) →
    ∃ ws', f_X8_isLight_29 5 (nI (tN t)) 35 fc q ws (nI m) (nI L) (nI k) = some (b2i (itr (fun k b => b && decide (pwt t m (topo (cutT t m) k) (k + 1) ≤ L)) e k true), ws') := by
  have hn := V.1
  intro e
  induction e with
  | zero =>
    intro k q ws hk hq h
    obtain ⟨q, rfl⟩ : ∃ q', q = q' + 1 := ⟨q - 1, by omega⟩
    obtain rfl : k = tN t := by omega
    rw [f_X8_isLight_29, x_size, ob1_s, if_pos (nI_le (Nat.le_refl _) (by omega))]
    exact ⟨ws, rfl⟩
  | succ e ih =>
    intro k q ws hk hq h
    obtain ⟨q, rfl⟩ : ∃ q', q = q' + 1 := ⟨q - 1, by omega⟩
    have hkn : k < tN t := by omega
    have et : upc m (tO t) 7 k = topo (cutT t m) k := upc_cut t m 7 k
    have ht : topo (cutT t m) k < tN t := topo_lt (cutT_V V m) hkn
    have p1 := pwt_le V m (topo (cutT t m) k) (k + 1) (by omega)
    have ps := pwt_s t m (topo (cutT t m) k) k
    rw [if_pos rfl] at ps
    rw [f_X8_isLight_29, x_size, ob1_s, if_neg (nI_ge hkn (by omega)), x_top X V (by omega) hkn, ob1_s, et, cell_in ws (by omega) (by omega), ob1_s, X.w hkn hn, ob1_s, h _ (by omega), nI_add, setc_in ws _ (by omega) (by omega), ob1_s, cell_in _ (by omega) (by omega), ob1_s, pk_us, ← ps]
    show ∃ ws', _ = some (b2i (itr (fun k b => b && decide (pwt t m (topo (cutT t m) k) (k + 1) ≤ L)) e (k + 1) (true && decide (pwt t m (topo (cutT t m) k) (k + 1) ≤ L))), ws')
    by_cases z : pwt t m (topo (cutT t m) k) (k + 1) ≤ L
    · rw [if_pos (nI_le z hL), nI_1, bnd_s, decide_eq_true z]
      refine ih (k + 1) q _ (by omega) (by omega) (fun T hT => ?_)
      by_cases y : T = topo (cutT t m) k
      · rw [y, pk_us]
      · rw [pk_un y, h T hT, pwt_s, if_neg (fun q => y q.symm)]; rfl
    · rw [if_neg (nI_ge (by omega) (by omega)), decide_eq_false z, Bool.and_false, itr_false]
      exact ⟨_, rfl⟩
theorem x_light (X : XT fc t) (V : VT t) {m L : Nat} (hm : m < 128) (hL : L < 2 ^ 31) (ws : Nat → Int32) : ∃ ws', f_X8_isLight ws 5 (nI (tN t)) 35 fc (nI m) (nI L) = some (b2i (lgt t m L), ws') := by
  have hn := V.1
  have clr : ∀ (e j q : Nat) (ws : Nat → Int32), j + e = 7 → e < q → (∀ T, T < j → ws T = 0) → ∃ ws', f_X8_isLight_3 5 (nI (tN t)) 35 fc q ws (nI m) (nI L) (nI j) = f_X8_isLight_26 5 (nI (tN t)) 35 fc ws' (nI m) (nI L) ∧ ∀ T, T < 7 → ws' T = 0 := by
    intro e
    induction e with
    | zero =>
      intro j q ws hj hq h
      obtain ⟨q, rfl⟩ : ∃ q', q = q' + 1 := ⟨q - 1, by omega⟩
      obtain rfl : j = 7 := by omega
      rw [f_X8_isLight_3, if_pos (show (7 : Int32) ≤ nI 7 by decide)]
      exact ⟨ws, rfl, h⟩
    | succ e ih =>
      intro j q ws hj hq h
      obtain ⟨q, rfl⟩ : ∃ q', q = q' + 1 := ⟨q - 1, by omega⟩
      rw [f_X8_isLight_3, if_neg (show ¬ (7 : Int32) ≤ nI j from nI_ge (b := 7) (by omega) (by omega)), setc_in ws _ (by omega) (by omega), ob1_s, nI_1, bnd_s]
      refine ih (j + 1) q _ (by omega) (by omega) (fun T hT => ?_)
      by_cases z : T = j
      · rw [z, pk_us]
      · rw [pk_un z]; exact h T (by omega)
  obtain ⟨ws1, e1, h1⟩ := clr 7 0 FU ws (by omega) (by decide) (fun T hT => absurd hT (Nat.not_lt_zero T))
  have e1 : f_X8_isLight_3 5 (nI (tN t)) 35 fc FU ws (nI m) (nI L) 0 = f_X8_isLight_26 5 (nI (tN t)) 35 fc ws1 (nI m) (nI L) := e1
  obtain ⟨ws2, e2⟩ := x_light_go X V hm hL (tN t) 0 FU ws1 (by omega) (Nat.lt_of_le_of_lt hn (by decide)) (fun T hT => (h1 T hT))
  unfold f_X8_isLight
  rw [e1]
  unfold f_X8_isLight_26
  refine ⟨ws2, e2.trans ?_⟩
  rw [← lgt_iff]
  rfl
/-- the hooked ones -/
def hkm (t : Tb) : Nat := mk (fun k => decide (tO t k ≠ none)) (tN t)
def bcn : Option Nat → Nat
  | none => 8
  | some b => ones b
def fst1 (t : Tb) (L c : Nat) (o : Option Nat) : Option Nat := if (decide (c &&& hkm t = c) && decide (ones c < bcn o)) && lgt t c L then some c else o
theorem ones_le (m : Nat) : ones m ≤ 7 := cnt_le _ _
def okO (o : Option Nat) : Prop := ∀ b, o = some b → b < 128
theorem bcn_le (o : Option Nat) : bcn o ≤ 8 := by
  cases o with
  | none => exact Nat.le_refl _
  | some b => exact Nat.le_trans (ones_le b) (by omega)
theorem x_free_go (X : XT fc t) (V : VT t) {L : Nat} (hL : L < 2 ^ 31) : ∀ (e c q : Nat) (o : Option Nat) (ws : Nat → Int32), c + e = hkm t + 1 → e < q → ∃ ws', f_X8_fewestUnbent_54 5 (nI (tN t)) 35 fc q ws (nI L) (onv o) (nI (bcn o)) (nI (hkm t)) (nI c) = some (onv (itr (fst1 t L) e c o), ws') := by
  have hn := V.1
  have hH : hkm t < 128 := Nat.lt_of_lt_of_le (mk_lt _ _) (Nat.pow_le_pow_right (by omega) hn)
  intro e
  induction e with
  | zero =>
    intro c q o ws hc hq
    obtain ⟨q, rfl⟩ : ∃ q', q = q' + 1 := ⟨q - 1, by omega⟩
    obtain rfl : c = hkm t + 1 := by omega
    rw [f_X8_fewestUnbent_54, if_pos (nI_lt (by omega) (by omega))]
    exact ⟨ws, rfl⟩
  | succ e ih =>
    intro c q o ws hc hq
    obtain ⟨q, rfl⟩ : ∃ q', q = q' + 1 := ⟨q - 1, by omega⟩
    have hb := bcn_le o
    have ho := ones_le c
    have ha : c &&& hkm t < 2 ^ 31 := Nat.lt_of_le_of_lt Nat.and_le_left (by omega)
    rw [f_X8_fewestUnbent_54, if_neg (nI_nlt (by omega) (by omega)), kb_and]
    show ∃ ws', _ = some (onv (itr (fst1 t L) e (c + 1) (fst1 t L c o)), ws')
    unfold f_X8_fewestUnbent_85 f_X8_fewestUnbent_86 f_X8_fewestUnbent_114
    by_cases z : c &&& hkm t = c
    · rw [if_pos (by rw [z]), x_ones c (by omega), ob1_s]
      by_cases y : ones c < bcn o
      · obtain ⟨ws1, e1⟩ := x_light X V (m := c) (by omega) hL ws
        rw [if_neg (nI_ge y (by omega)), if_neg one_ne, e1, ob2_s]
        by_cases u : lgt t c L = true
        · have ef : fst1 t L c o = some c := by unfold fst1; rw [decide_eq_true z, decide_eq_true y, u]; rfl
          rw [if_neg (b2i_1 u), ob1_s, nI_1, bnd_s, ef]
          exact ih (c + 1) q (some c) ws1 (by omega) (by omega)
        · have ef : fst1 t L c o = o := by unfold fst1; rw [not_t u, Bool.and_false, if_neg Bool.false_ne_true]
          rw [if_pos (b2i_0.mpr (not_t u)), nI_1, bnd_s, ef]
          exact ih (c + 1) q o ws1 (by omega) (by omega)
      · have ef : fst1 t L c o = o := by unfold fst1; rw [decide_eq_false y, Bool.and_false, Bool.false_and, if_neg Bool.false_ne_true]
        rw [if_pos (nI_le (by omega) (by omega)), if_pos rfl, nI_1, bnd_s, ef]
        exact ih (c + 1) q o ws (by omega) (by omega)
    · have ef : fst1 t L c o = o := by unfold fst1; rw [decide_eq_false z, Bool.false_and, Bool.false_and, if_neg Bool.false_ne_true]
      rw [if_neg (fun q => z ((nI_eq ha (by omega)).mp q)), if_pos rfl, nI_1, bnd_s, ef]
      exact ih (c + 1) q o ws (by omega) (by omega)
theorem x_fewestU (X : XT fc t) (V : VT t) {L : Nat} (hL : L < 2 ^ 31) (ws : Nat → Int32) : ∃ ws', f_X8_fewestUnbent ws 5 (nI (tN t)) 35 fc (nI L) = some (onv (itr (fst1 t L) (hkm t + 1) 0 none), ws') := by
  have hn := V.1
  have hH : hkm t < 128 := Nat.lt_of_lt_of_le (mk_lt _ _) (Nat.pow_le_pow_right (by omega) hn)
  unfold f_X8_fewestUnbent
  have e := mask_loop (fun g m k => f_X8_fewestUnbent_12 5 (nI (tN t)) 35 fc g ws (nI L) (-1) 8 (nI m) k) (tN t) hn (fun k => decide (tO t k ≠ none)) (fun m => f_X8_fewestUnbent_51 5 (nI (tN t)) 35 fc ws (nI L) (-1) 8 (nI m)) (fun g k m hk => ?_) (fun g m => ?_)
  · have e : f_X8_fewestUnbent_12 5 (nI (tN t)) 35 fc FU ws (nI L) (-1) 8 0 0 = f_X8_fewestUnbent_51 5 (nI (tN t)) 35 fc ws (nI L) (-1) 8 (nI (hkm t)) := e
    rw [e]
    unfold f_X8_fewestUnbent_51
    exact x_free_go X V hL (hkm t + 1) 0 FU none ws (by omega) (Nat.lt_of_le_of_lt (show hkm t + 1 ≤ 128 by omega) (by decide))
  · show f_X8_fewestUnbent_12 5 (nI (tN t)) 35 fc (g + 1) ws (nI L) (-1) 8 (nI m) (nI k) = _
    rw [f_X8_fewestUnbent_12, x_size, ob1_s, if_neg (nI_ge hk (by omega)), X.o hk hn, ob1_s]
    unfold f_X8_fewestUnbent_42
    by_cases z : tO t k = none
    · rw [if_pos ((onv_nil (V.on31 hk)).mpr z), decide_eq_false (fun q => q z), if_neg Bool.false_ne_true, kb_oro, bnd_s, nI_1, bnd_s]
    · rw [if_neg (fun q => z ((onv_nil (V.on31 hk)).mp q)), decide_eq_true z, if_pos rfl, kb_shl (by omega), kb_orp, bnd_s, nI_1, bnd_s]
  · show f_X8_fewestUnbent_12 5 (nI (tN t)) 35 fc (g + 1) ws (nI L) (-1) 8 (nI m) (nI (tN t)) = _
    rw [f_X8_fewestUnbent_12, x_size, ob1_s, if_pos (nI_le (Nat.le_refl _) (by omega))]
/-! the reference -/
def subH (t : Tb) (c k : Nat) : Bool := !(c.testBit k) || decide (tO t k ≠ none)
theorem sub_iff {c : Nat} (hc : c < 2 ^ tN t) : allN (subH t c) (tN t) = decide (c &&& hkm t = c) := by
  apply bool_ext
  rw [allN_iff, decide_eq_true_iff]
  constructor
  · intro h
    apply Nat.eq_of_testBit_eq
    intro k
    rw [Nat.testBit_and, hkm, mk_bit]
    by_cases y : c.testBit k = true
    · have hk : k < tN t := by
        rcases Nat.lt_or_ge k (tN t) with q | q
        · exact q
        · have := Nat.testBit_lt_two_pow (Nat.lt_of_lt_of_le hc (Nat.pow_le_pow_right (by omega) q))
          rw [this] at y; exact absurd y Bool.false_ne_true
      have := h k hk
      unfold subH at this
      rw [y] at this ⊢
      rw [decide_eq_true hk, Bool.true_and, Bool.true_and]
      exact this
    · rw [not_t y, Bool.false_and]
  · intro h k hk
    unfold subH
    by_cases y : c.testBit k = true
    · have e : (c &&& hkm t).testBit k = true := by rw [h]; exact y
      rw [Nat.testBit_and, hkm, mk_bit, y, decide_eq_true hk, Bool.true_and, Bool.true_and] at e
      rw [e, Bool.or_true]
    · rw [not_t y]; rfl
theorem m_free_sub (k23 : (Nat → Int32) → (Nat → Int32) → Int32 → Int32 → Int32 → Option (Int32 × (Nat → Int32) × (Nat → Int32))) (M : MT w 0 t) (V : VT t) (st : Nat → Int32) (v1 v2 : Int32) {c : Nat} (hc : c < 128) (b : Bool) : f_X12_free_61 k23 FU w st v1 v2 (nI c) (b2i b) 0 = f_X12_free_113 k23 w st v1 v2 (nI c) (b2i (b && allN (subH t c) (tN t))) := by
  have hn := V.1
  have e := lup0 (fun q x k => f_X12_free_61 k23 q w st v1 v2 (nI c) (b2i x) k) (tN t) (Nat.lt_of_le_of_lt hn (by decide)) (fun k x => x && subH t c k) (fun x => f_X12_free_113 k23 w st v1 v2 (nI c) (b2i x)) b (fun q k x hk => ?_) (fun q x => ?_)
  · have e : f_X12_free_61 k23 FU w st v1 v2 (nI c) (b2i b) 0 = f_X12_free_113 k23 w st v1 v2 (nI c) (b2i (itr (fun k x => x && subH t c k) (tN t) 0 b)) := e
    rw [e, itr_and]
    rfl
  · show f_X12_free_61 k23 (q + 1) w st v1 v2 (nI c) (b2i x) (nI k) = _
    have g4 := M.go hk
    rw [show 0 + 31 + k = 31 + k by omega] at g4
    rw [f_X12_free_61, chk_0 (by decide) (by decide), cl_0, M.1, if_neg (nI_ge hk (by omega))]
    unfold f_X12_free_104 f_X12_free_100 f_X12_free_105
    cases x with
    | false => rw [if_pos (b2i_0.mpr rfl), nI_1, bnd_s]; rfl
    | true =>
      rw [if_neg (show ¬ b2i true = 0 by decide), m_has (by omega) (by omega), ob1_s, Bool.true_and]
      unfold subH
      by_cases y : c.testBit k = true
      · rw [if_pos y, if_neg one_ne, show (31 : Int32) = nI 31 from rfl, nI_add, chk_n (by omega) (by omega), nI_clamp (by omega), g4, y]
        by_cases z : tO t k = none
        · rw [if_pos ((onv_nil (V.on31 hk)).mpr z), nI_1, bnd_s, decide_eq_false (fun q => q z)]; rfl
        · rw [if_neg (fun q => z ((onv_nil (V.on31 hk)).mp q)), nI_1, bnd_s, decide_eq_true z]; rfl
      · rw [if_neg y, if_pos rfl, nI_1, bnd_s, not_t y]; rfl
  · show f_X12_free_61 k23 (q + 1) w st v1 v2 (nI c) (b2i x) (nI (tN t)) = _
    rw [f_X12_free_61, chk_0 (by decide) (by decide), cl_0, M.1, if_pos (nI_le (Nat.le_refl _) (by omega))]
/-- the reference unbends them in what it tries -/
theorem m_cut_go (V : VT t) {c : Nat} (hc : c < 128) (k23 : (Nat → Int32) → (Nat → Int32) → Int32 → Int32 → Int32 → Option (Int32 × (Nat → Int32) × (Nat → Int32))) (w0 st : Nat → Int32) (M0 : MT w0 0 t) (v1 v2 v4 : Int32) : ∀ (e k q : Nat) (w : Nat → Int32), k + e = tN t → e < q → (∀ x, x < 1204 → w x = w0 x) → MT w 1204 (cutT t (c &&& (2 ^ k - 1))) →
    ∃ w', f_X12_free_125 k23 q w st v1 v2 (nI c) v4 (nI k) = f_X12_free_176 k23 w' st v1 v2 (nI c) v4 ∧ (∀ x, x < 1204 → w' x = w0 x) ∧ MT w' 1204 (cutT t (c &&& (2 ^ tN t - 1))) := by
  have hn := V.1
  intro e
  induction e with
  | zero =>
    intro k q w hk hq hw M
    obtain ⟨q, rfl⟩ : ∃ q', q = q' + 1 := ⟨q - 1, by omega⟩
    obtain rfl : k = tN t := by omega
    rw [f_X12_free_125, chk_0 (by decide) (by decide), cl_0, hw 0 (by omega), M0.1, if_pos (nI_le (Nat.le_refl _) (by omega))]
    exact ⟨w, rfl, hw, M⟩
  | succ e ih =>
    intro k q w hk hq hw M
    obtain ⟨q, rfl⟩ : ∃ q', q = q' + 1 := ⟨q - 1, by omega⟩
    have hkn : k < tN t := by omega
    have g4 := M0.go hkn
    rw [show 0 + 31 + k = 31 + k by omega] at g4
    rw [f_X12_free_125, chk_0 (by decide) (by decide), cl_0, hw 0 (by omega), M0.1, if_neg (nI_ge hkn (by omega)), m_has (by omega) (by omega), ob1_s]
    unfold f_X12_free_169
    have ex : (1235 : Int32) + nI k = nI (1204 + 31 + k) := nI_add 1235 k
    have ey : (31 : Int32) + nI k = nI (31 + k) := nI_add 31 k
    have step : ∀ o : Option Nat, o = (if c.testBit k then none else tO t k) → MT (upd w (1204 + 31 + k) (onv o)) 1204 (cutT t (c &&& (2 ^ (k + 1) - 1))) := by
      intro o ho
      have h := MT.setO M hn k o (onv o) rfl
      refine ⟨h.1, fun i hi => ?_⟩
      have hi : i < tN t := hi
      have hh := h.2 i hi
      refine ⟨hh.1, hh.2.1, hh.2.2.1, hh.2.2.2.1, ?_⟩
      rw [hh.2.2.2.2]
      show onv (if i = k then o else if (c &&& (2 ^ k - 1)).testBit i then none else tO t i) = onv (if (c &&& (2 ^ (k + 1) - 1)).testBit i then none else tO t i)
      rw [Nat.testBit_and, Nat.testBit_and, Nat.testBit_two_pow_sub_one, Nat.testBit_two_pow_sub_one]
      by_cases z : i = k
      · rw [if_pos z, z, ho, decide_eq_true (show k < k + 1 by omega), Bool.and_true]
      · rw [if_neg z]
        by_cases y : i < k
        · rw [decide_eq_true y, decide_eq_true (show i < k + 1 by omega)]
        · rw [decide_eq_false y, decide_eq_false (show ¬ i < k + 1 by omega)]
    by_cases z : c.testBit k = true
    · rw [if_pos z, if_neg one_ne, ex, chk_n (by omega) (by omega), nI_clamp (by omega), bnd_s, nI_1, bnd_s]
      exact ih (k + 1) q _ (by omega) (by omega) (fun x hx => by rw [pk_un (by omega)]; exact hw x hx) (step none (by rw [if_pos z]))
    · rw [if_neg z, if_pos rfl, ey, chk_n (by omega) (by omega), nI_clamp (by omega), hw _ (by omega), g4, ex, chk_n (by omega) (by omega), nI_clamp (by omega), bnd_s, nI_1, bnd_s]
      exact ih (k + 1) q _ (by omega) (by omega) (fun x hx => by rw [pk_un (by omega)]; exact hw x hx) (step (tO t k) (by rw [if_neg z]))
theorem m_lights (V : VT t) {c L : Nat} (hc : c < 2 ^ tN t) (hL : L < 2 ^ 31) (k23 : (Nat → Int32) → (Nat → Int32) → Int32 → Int32 → Int32 → Option (Int32 × (Nat → Int32) × (Nat → Int32))) (st : Nat → Int32) (h0 : w 0 = nI (tN t)) (M : MT w 1204 (cutT t c)) (v2 : Int32) : f_X12_free_179 k23 FU w st (nI L) v2 (nI c) 1 0 = f_X12_free_228 k23 w st (nI L) v2 (nI c) (b2i (lgt t c L)) := by
  have hn := V.1
  have Vc := cutT_V V c
  have e := lup0 (fun q x k => f_X12_free_179 k23 q w st (nI L) v2 (nI c) (b2i x) k) (tN t) (Nat.lt_of_le_of_lt hn (by decide)) (fun k x => x && decide (wgt (cutT t c) (strg (cutT t c) k) ≤ L)) (fun x => f_X12_free_228 k23 w st (nI L) v2 (nI c) (b2i x)) true (fun q k x hk => ?_) (fun q x => ?_)
  · exact e
  · show f_X12_free_179 k23 (q + 1) w st (nI L) v2 (nI c) (b2i x) (nI k) = _
    rw [f_X12_free_179, chk_0 (by decide) (by decide), cl_0, h0, if_neg (nI_ge hk (by omega))]
    unfold f_X12_free_219 f_X12_free_220
    cases x with
    | false => rw [if_pos (b2i_0.mpr rfl), nI_1, bnd_s]; rfl
    | true =>
      have l1 := strg_lt Vc k
      have l2 := wgt_le Vc (strg (cutT t c) k)
      have es : f_X12_stringOf w 1204 (nI k) = some (nI (strg (cutT t c) k)) := m_string (v1 := 1204) (r := 1204) rfl M Vc (by omega) hk
      have ew : f_X12_weighs w 1204 (nI (strg (cutT t c) k)) = some (nI (wgt (cutT t c) (strg (cutT t c) k))) := m_weighs (v1 := 1204) (r := 1204) rfl M Vc (by omega) (by omega)
      rw [if_neg (show ¬ b2i true = 0 by decide), es, ob1_s, ew, ob1_s, Bool.true_and]
      by_cases z : wgt (cutT t c) (strg (cutT t c) k) ≤ L
      · rw [if_neg (nI_nlt z hL), nI_1, bnd_s, decide_eq_true z]; rfl
      · rw [if_pos (nI_lt (by omega) (by omega)), nI_1, bnd_s, decide_eq_false z]; rfl
  · show f_X12_free_179 k23 (q + 1) w st (nI L) v2 (nI c) (b2i x) (nI (tN t)) = _
    rw [f_X12_free_179, chk_0 (by decide) (by decide), cl_0, h0, if_pos (nI_le (Nat.le_refl _) (by omega))]
theorem and_full {c n : Nat} (h : c < 2 ^ n) : c &&& (2 ^ n - 1) = c := by
  rw [Nat.and_two_pow_sub_one_eq_mod, Nat.mod_eq_of_lt h]
theorem m_free_go (V : VT t) {L : Nat} (hL : L < 2 ^ 31) (w0 st : Nat → Int32) (M0 : MT w0 0 t) : ∀ (e c q : Nat) (o : Option Nat) (w : Nat → Int32), c + e = 2 ^ tN t → e < q → okO o → (∀ x, x < 1204 → w x = w0 x) → ∃ w', f_X12_free_23 q w st (nI L) (onv o) (nI c) = some (onv (itr (fst1 t L) e c o), w', st) ∧ ∀ x, x < 1204 → w' x = w0 x := by
  have hn := V.1
  have h7 : 2 ^ tN t ≤ 128 := Nat.pow_le_pow_right (by omega) hn
  intro e
  induction e with
  | zero =>
    intro c q o w hc hq ho hw
    obtain ⟨q, rfl⟩ : ∃ q', q = q' + 1 := ⟨q - 1, by omega⟩
    obtain rfl : c = 2 ^ tN t := by omega
    rw [f_X12_free_23, chk_0 (by decide) (by decide), cl_0, hw 0 (by omega), M0.1, kb_shl (by omega), if_pos (nI_le (Nat.le_refl _) (by omega))]
    exact ⟨w, rfl, hw⟩
  | succ e ih =>
    intro c q o w hc hq ho hw
    obtain ⟨q, rfl⟩ : ∃ q', q = q' + 1 := ⟨q - 1, by omega⟩
    have hcc : c < 2 ^ tN t := by omega
    have Mw : MT w 0 t := MT.fr M0 hn (fun x _ _ _ _ => hw x (by omega))
    have hoc := ones_le c
    -- from the first test on
    have rest : ∀ b : Bool, b = decide (ones c < bcn o) → ∃ w', f_X12_free_56 (f_X12_free_23 q) w st (nI L) (onv o) (nI c) (b2i b) = some (onv (itr (fst1 t L) e (c + 1) (fst1 t L c o)), w', st) ∧ ∀ x, x < 1204 → w' x = w0 x := by
      intro b hb
      unfold f_X12_free_56
      rw [m_free_sub (f_X12_free_23 q) Mw V st (nI L) (onv o) (show c < 128 by omega) b, sub_iff hcc, hb]
      unfold f_X12_free_113 f_X12_free_239
      by_cases z : (decide (ones c < bcn o) && decide (c &&& hkm t = c)) = true
      · rw [if_neg (b2i_1 z), z]
        obtain ⟨w1, t1, t2⟩ := m_tries w
        have M1 : MT w1 1204 (cutT t (c &&& (2 ^ 0 - 1))) := by
          have h := tries_MT Mw hn t2
          refine ⟨h.1, fun i hi => ?_⟩
          have hi : i < tN t := hi
          have hh := h.2 i hi
          refine ⟨hh.1, hh.2.1, hh.2.2.1, hh.2.2.2.1, ?_⟩
          rw [hh.2.2.2.2]
          show onv (tO t i) = onv (if (c &&& (2 ^ 0 - 1)).testBit i then none else tO t i)
          rw [show c &&& (2 ^ 0 - 1) = 0 from Nat.and_zero c, Nat.zero_testBit, if_neg Bool.false_ne_true]
        obtain ⟨w2, e2, hw2, M2⟩ := m_cut_go V (show c < 128 by omega) (f_X12_free_23 q) w0 st M0 (nI L) (onv o) 1 (tN t) 0 FU w1 (by omega) (Nat.lt_of_le_of_lt hn (by decide)) (fun x hx => by rw [t2, if_neg (by omega)]; exact hw x hx) M1
        have e2 : f_X12_free_125 (f_X12_free_23 q) FU w1 st (nI L) (onv o) (nI c) (b2i true) 0 = f_X12_free_176 (f_X12_free_23 q) w2 st (nI L) (onv o) (nI c) 1 := e2
        rw [and_full hcc] at M2
        rw [t1, ob1_s, e2]
        unfold f_X12_free_176
        rw [m_lights V hcc hL (f_X12_free_23 q) st ((hw2 0 (by omega)).trans M0.1) M2 (onv o)]
        unfold f_X12_free_228 f_X12_free_238 f_X12_free_239
        rw [Bool.and_eq_true] at z
        by_cases y : lgt t c L = true
        · have ef : fst1 t L c o = some c := by unfold fst1; rw [z.1, z.2, y]; rfl
          rw [if_neg (b2i_1 y), nI_1, bnd_s, ef]
          exact ih (c + 1) q (some c) w2 (by omega) (by omega) (fun b hb => by injection hb with hb; omega) hw2
        · have ef : fst1 t L c o = o := by unfold fst1; rw [not_t y, Bool.and_false, if_neg Bool.false_ne_true]
          rw [if_pos (b2i_0.mpr (not_t y)), nI_1, bnd_s, ef]
          exact ih (c + 1) q o w2 (by omega) (by omega) ho hw2
      · have ef : fst1 t L c o = o := by unfold fst1; rw [Bool.and_comm (decide (c &&& hkm t = c)), not_t z, Bool.false_and, if_neg Bool.false_ne_true]
        rw [if_pos (b2i_0.mpr (not_t z)), nI_1, bnd_s, ef]
        exact ih (c + 1) q o w (by omega) (by omega) ho hw
    rw [f_X12_free_23, chk_0 (by decide) (by decide), cl_0, hw 0 (by omega), M0.1, kb_shl (by omega), if_neg (nI_ge hcc (by omega))]
    show ∃ w', _ = some (onv (itr (fst1 t L) e (c + 1) (fst1 t L c o)), w', st) ∧ _
    unfold f_X12_free_51
    cases ho2 : o with
    | none =>
      rw [if_pos (show onv none = -1 from rfl)]
      have := rest true (by rw [ho2]; exact (decide_eq_true (show ones c < 8 by omega)).symm)
      rw [ho2] at this
      exact this
    | some b =>
      have hb := ho b ho2
      have hob := ones_le b
      rw [if_neg (show ¬ onv (some b) = -1 from fun q => by
        have q : nI b = -1 := q
        rw [nI_m1 (by omega)] at q; exact q), m_ones (by omega), ob1_s]
      have em : f_X12_ones (onv (some b)) = some (nI (ones b)) := m_ones (m := b) (by omega)
      rw [em, ob1_s]
      by_cases z : ones c < ones b
      · rw [if_neg (nI_ge z (by omega))]
        have := rest true (by rw [ho2]; exact (decide_eq_true (show ones c < ones b from z)).symm)
        rw [ho2] at this
        exact this
      · rw [if_pos (nI_le (by omega) (by omega))]
        have := rest false (by rw [ho2]; exact (decide_eq_false (show ¬ ones c < ones b from z)).symm)
        rw [ho2] at this
        exact this
theorem free_same (V : VT t) (L : Nat) : itr (fst1 t L) (2 ^ tN t) 0 none = itr (fst1 t L) (hkm t + 1) 0 none := by
  have hH : hkm t < 2 ^ tN t := mk_lt _ _
  rw [show 2 ^ tN t = (hkm t + 1) + (2 ^ tN t - (hkm t + 1)) by omega, itr_add]
  have idl : ∀ (e c : Nat) (o : Option Nat), hkm t < c → itr (fst1 t L) e c o = o := by
    intro e
    induction e with
    | zero => intro c o _; rfl
    | succ e ih =>
      intro c o hc
      show itr (fst1 t L) e (c + 1) (fst1 t L c o) = o
      have ef : fst1 t L c o = o := by
        unfold fst1
        have : ¬ c &&& hkm t = c := fun q => by
          have := Nat.and_le_right (n := c) (m := hkm t)
          omega
        rw [decide_eq_false this, Bool.false_and, Bool.false_and, if_neg Bool.false_ne_true]
      rw [ef]
      exact ih (c + 1) o (by omega)
  exact idl _ _ _ (by omega)
theorem c_free_eq (X : XT fc t) (V : VT t) (M : MT w 0 t) (st st2 ws : Nat → Int32) (x1 : Int32) :
    ∃ (r : Int32) (c : Option Nat), (∃ ws', f_X11_free (nI (tN t)) fc st ws x1 = some (r, stx c st, ws')) ∧ (∃ w', f_X12_free w st2 x1 = some (r, w', stx c st2) ∧ ∀ x, x < 1204 → w' x = w x) ∧ (∀ i, c = some i → i < 3) := by
  have hn := V.1
  unfold f_X11_free f_X12_free
  rw [x_within, m_in, ob1_s, ob1_s, show (1 : Int32).toInt = (1 : Int64).toInt from rfl, show (63 : Int32).toInt = (63 : Int64).toInt from rfl]
  by_cases h : (1 : Int64).toInt ≤ x1.toInt ∧ x1.toInt ≤ (63 : Int64).toInt
  · rw [if_pos h, if_neg one_ne, if_neg one_ne]
    have h : 1 ≤ x1.toInt ∧ x1.toInt ≤ 63 := h
    obtain ⟨L, rfl, hL, hL2⟩ := nat_of (show 0 ≤ x1.toInt by omega)
    obtain ⟨ws', e1⟩ := x_fewestU X V hL2 ws
    obtain ⟨w', e2, hw⟩ := m_free_go V hL2 w st2 M (2 ^ tN t) 0 FU none w (by omega) (Nat.lt_of_le_of_lt (Nat.pow_le_pow_right (by omega) hn) (by decide)) (fun b hb => by cases hb) (fun _ _ => rfl)
    have e2 : f_X12_free_23 FU w st2 (nI L) (-1) 0 = some (onv (itr (fst1 t L) (2 ^ tN t) 0 none), w', st2) := e2
    rw [e1, ob2_s, e2, free_same V]
    exact ⟨_, none, ⟨ws', rfl⟩, ⟨w', rfl, hw⟩, fun i hi => by cases hi⟩
  · rw [if_neg h, if_pos rfl, if_pos rfl, x_bad, m_bad, ob2_s, ob2_s]
    refine ⟨-2, some 0, ⟨_, rfl⟩, ⟨w, rfl, fun _ _ => rfl⟩, fun i hi => ?_⟩
    injection hi with hi; omega
end FR
