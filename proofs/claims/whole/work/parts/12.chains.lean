/-! ===== places in the reference's row ===== -/
theorem mx0 (r : Nat) : nI r + 0 = nI r := by rw [show (0 : Int32) = nI 0 from rfl, nI_add]; rfl
theorem mx (r i : Nat) (c : Int32) (k : Nat) (h : c = nI k) : (nI r + c) + nI i = nI (r + k + i) := by rw [h, nI_add, nI_add]
theorem mx3 (r i : Nat) : (nI r + 3) + nI i = nI (r + 3 + i) := mx r i 3 3 rfl
theorem mx10 (r i : Nat) : (nI r + 10) + nI i = nI (r + 10 + i) := mx r i 10 10 rfl
theorem mx17 (r i : Nat) : (nI r + 17) + nI i = nI (r + 17 + i) := mx r i 17 17 rfl
theorem mx24 (r i : Nat) : (nI r + 24) + nI i = nI (r + 24 + i) := mx r i 24 24 rfl
theorem mx31 (r i : Nat) : (nI r + 31) + nI i = nI (r + 31 + i) := mx r i 31 31 rfl
theorem mx38 (r i : Nat) : (nI r + 38) + nI i = nI (r + 38 + i) := mx r i 38 38 rfl
theorem mx41 (r i : Nat) : (nI r + 41) + nI i = nI (r + 41 + i) := mx r i 41 41 rfl
theorem mx44 (r i : Nat) : (nI r + 44) + nI i = nI (r + 44 + i) := mx r i 44 44 rfl
section MS
variable {w : Nat → Int32} {r : Nat} {t : Tb} {v1 : Int32}
theorem MT.gk (M : MT w r t) {i : Nat} (hi : i < tN t) : w (r + 3 + i) = nI (tK t i) := (M.2 i hi).1
theorem MT.gd (M : MT w r t) {i : Nat} (hi : i < tN t) : w (r + 17 + i) = nI (tD t i) := (M.2 i hi).2.1
theorem MT.gw (M : MT w r t) {i : Nat} (hi : i < tN t) : w (r + 10 + i) = nI (tW t i) := (M.2 i hi).2.2.1
theorem MT.gu (M : MT w r t) {i : Nat} (hi : i < tN t) : w (r + 24 + i) = nI (tU t i) := (M.2 i hi).2.2.2.1
theorem MT.go (M : MT w r t) {i : Nat} (hi : i < tN t) : w (r + 31 + i) = onv (tO t i) := (M.2 i hi).2.2.2.2
theorem onv_m1 {o : Option Nat} (h : ∀ j, o = some j → j < 2 ^ 31) : (onv o = -1) ↔ o = none := by
  cases o with
  | none => exact ⟨fun _ => rfl, fun _ => rfl⟩
  | some j => exact ⟨fun q => by rw [onv, nI_m1 (h j rfl)] at q; exact q.elim, fun q => by cases q⟩
theorem onv_nI {o : Option Nat} (h : ∀ j, o = some j → j < 2 ^ 31) {k : Nat} (hk : k < 2 ^ 31) : (onv o = nI k) ↔ o = some k := by
  cases o with
  | none => exact ⟨fun q => by rw [onv, m1_nI hk] at q; exact q.elim, fun q => by cases q⟩
  | some j => exact ⟨fun q => by rw [(nI_eq (h j rfl) hk).mp q], fun q => by cases q; rfl⟩
theorem VT.on (V : VT t) {i : Nat} (hi : i < tN t) {j : Nat} (h : tO t i = some j) : j < tN t := by
  obtain ⟨rk, hrk⟩ := V.2.2
  exact (hrk i hi j h).1
theorem VT.on31 (V : VT t) {i : Nat} (hi : i < tN t) : ∀ j, tO t i = some j → j < 2 ^ 31 := fun j h => by
  have := V.on hi h
  have := V.1
  omega
/-! ===== the reference: up to the top ===== -/
theorem m_top_s (hv : v1 = nI r) (M : MT w r t) (V : VT t) (hr : r + 47 ≤ 1251) (g i : Nat) (hi : i < tN t) : f_X12_topOf_2 w (g + 1) v1 (nI i) = match tO t i with | none => some (nI i) | some j => f_X12_topOf_2 w g v1 (nI j) := by
  have hn := V.1
  subst hv
  rw [f_X12_topOf_2, mx31, chk_n (by omega) (by omega), nI_clamp (by omega), M.go hi]
  cases ho : tO t i with
  | none => rw [if_pos (show onv none = -1 from rfl)]
  | some j =>
    have hj := V.on hi ho
    rw [if_neg (fun q => by rw [onv, nI_m1 (by omega)] at q; exact q), chk_n (by omega) (by omega), bnd_s]
    rfl
theorem m_top_go (hv : v1 = nI r) (M : MT w r t) (V : VT t) (hr : r + 47 ≤ 1251) : ∀ (k i g : Nat), i < tN t → tO t (upk (tO t) k i) = none → k < g → f_X12_topOf_2 w g v1 (nI i) = some (nI (upk (tO t) k i)) := by
  intro k
  induction k with
  | zero =>
    intro i g hi h hg
    obtain ⟨g, rfl⟩ : ∃ g', g = g' + 1 := ⟨g - 1, by omega⟩
    rw [m_top_s hv M V hr g i hi, show tO t i = none from h]
    rfl
  | succ k ih =>
    intro i g hi h hg
    obtain ⟨g, rfl⟩ : ∃ g', g = g' + 1 := ⟨g - 1, by omega⟩
    rw [m_top_s hv M V hr g i hi]
    cases ho : tO t i with
    | none => rw [upk_none ho]
    | some j =>
      rw [upk_some ho] at h ⊢
      exact ih j g (V.on hi ho) h (by omega)
/-- the top of i's string -/
def topo (t : Tb) (i : Nat) : Nat := upk (tO t) 7 i
theorem topo_lt (V : VT t) {i : Nat} (hi : i < tN t) : topo t i < tN t := upk_lt V.2.2 hi 7
theorem topo_none (V : VT t) {i : Nat} (hi : i < tN t) : tO t (topo t i) = none := upk_top V.2.2 hi (by have := V.1; omega)
theorem m_top (hv : v1 = nI r) (M : MT w r t) (V : VT t) (hr : r + 47 ≤ 1251) {i : Nat} (hi : i < tN t) : f_X12_topOf w v1 (nI i) = some (nI (topo t i)) := m_top_go hv M V hr 7 i FU hi (topo_none V hi) (by decide)
theorem x_topo {f : Nat → Int32} (X : XT f t) (V : VT t) {c : Nat} (h : c < tN t) : f_X0_top 5 (nI (tN t)) 35 f (nI c) 0 = some (nI (topo t c)) := x_top (cut := 0) X V (by omega) h
/-! ===== the string of one: its clerks ===== -/
def strg (t : Tb) (i : Nat) : Nat := mk (fun k => decide (topo t k = topo t i)) (tN t)
theorem strg_lt (V : VT t) (i : Nat) : strg t i < 128 := Nat.lt_of_lt_of_le (mk_lt _ _) (by
  have := Nat.pow_le_pow_right (n := 2) (by omega) V.1
  exact this)
theorem strg_bit (t : Tb) (i k : Nat) : (strg t i).testBit k = (decide (k < tN t) && decide (topo t k = topo t i)) := mk_bit _ _ _
theorem mk_itr (p : Nat → Bool) (n : Nat) : itr (fun k a => a ||| (if p k then 2 ^ k else 0)) n 0 0 = mk p n := by
  induction n with
  | zero => rfl
  | succ n ih => rw [itr_s, ih, Nat.zero_add]; rfl
theorem or_pow_lt {a k : Nat} (ha : a < 2 ^ 30) (hk : k < 30) : a ||| 2 ^ k < 2 ^ 30 := Nat.or_lt_two_pow ha (Nat.pow_lt_pow_right (by omega) hk)
theorem x_members {f : Nat → Int32} (X : XT f t) (V : VT t) {c : Nat} (h : c < tN t) : f_X0_members 5 (nI (tN t)) 35 f (nI c) = some (nI (strg t c)) := by
  have hn := V.1
  have hc := topo_lt V h
  unfold f_X0_members
  rw [x_topo X V h, ob1_s]
  have e := lup0 (fun g (a : Nat) k => f_X0_members_12 5 (nI (tN t)) 35 f g (nI (topo t c)) (nI a) k) (tN t) (Nat.lt_of_le_of_lt hn (by decide)) (fun k a => a ||| (if decide (topo t k = topo t c) then 2 ^ k else 0)) (fun a => some (nI a)) 0
    (fun g i a hi => by
      have hti := topo_lt V hi
      show f_X0_members_12 5 (nI (tN t)) 35 f (g + 1) (nI (topo t c)) (nI a) (nI i) = _
      rw [f_X0_members_12, x_size, ob1_s, if_neg (nI_ge hi (by omega)), x_topo X V hi, ob1_s]
      unfold f_X0_members_41
      by_cases e : topo t i = topo t c
      · rw [if_pos (by rw [e]), kb_shl (by omega), kb_or, bnd_s, bnd_s, nI_1]
        simp only [e, decide_true, if_true]
      · rw [if_neg (fun q => e ((nI_eq (by omega) (by omega)).mp q)), show (0 : Int32) = nI 0 from rfl, kb_or, bnd_s, bnd_s, nI_1]
        simp only [e, decide_false, Bool.false_eq_true, if_false])
    (fun g a => by
      show f_X0_members_12 5 (nI (tN t)) 35 f (g + 1) (nI (topo t c)) (nI a) (nI (tN t)) = _
      rw [f_X0_members_12, x_size, ob1_s, if_pos (nI_le (Nat.le_refl _) (by omega))])
  rw [mk_itr] at e
  exact e
theorem m_string (hv : v1 = nI r) (M : MT w r t) (V : VT t) (hr : r + 47 ≤ 1251) {c : Nat} (h : c < tN t) : f_X12_stringOf w v1 (nI c) = some (nI (strg t c)) := by
  have hn := V.1
  have hc := topo_lt V h
  unfold f_X12_stringOf
  have e := lup0 (fun g (a : Nat) k => f_X12_stringOf_5 w g v1 (nI c) (nI a) k) (tN t) (Nat.lt_of_le_of_lt hn (by decide)) (fun k a => a ||| (if decide (topo t k = topo t c) then 2 ^ k else 0)) (fun a => some (nI a)) 0
    (fun g i a hi => by
      have hti := topo_lt V hi
      show f_X12_stringOf_5 w (g + 1) v1 (nI c) (nI a) (nI i) = _
      rw [f_X12_stringOf_5, m_top hv M V hr hi, m_top hv M V hr h, hv, mx0, chk_n (by omega) (by omega), nI_clamp (by omega), M.1, if_neg (nI_ge hi (by omega)), ob1_s, ob1_s]
      unfold f_X12_stringOf_43
      by_cases e : topo t i = topo t c
      · rw [if_pos (by rw [e]), kb_shl (by omega), kb_or, bnd_s, bnd_s, nI_1]
        simp only [e, decide_true, if_true]
      · rw [if_neg (fun q => e ((nI_eq (by omega) (by omega)).mp q)), show (0 : Int32) = nI 0 from rfl, kb_or, bnd_s, bnd_s, nI_1]
        simp only [e, decide_false, Bool.false_eq_true, if_false])
    (fun g a => by
      show f_X12_stringOf_5 w (g + 1) v1 (nI c) (nI a) (nI (tN t)) = _
      rw [f_X12_stringOf_5, hv, mx0, chk_n (by omega) (by omega), nI_clamp (by omega), M.1, if_pos (nI_le (Nat.le_refl _) (by omega))])
  rw [mk_itr] at e
  exact e
end MS
