/-! ===== lunch, both sides ===== -/
theorem gl_app (v : Nat) : ∀ (l : List Nat) (j : Nat), j ≤ l.length → gl (l ++ [v]) j = if j = l.length then v else gl l j := by
  intro l
  induction l with
  | nil =>
    intro j h
    have h : j ≤ 0 := h
    obtain rfl : j = 0 := by omega
    rfl
  | cons x t ih =>
    intro j h
    have h : j ≤ t.length + 1 := h
    cases j with
    | zero => rfl
    | succ j =>
      have e := ih j (by omega)
      show gl (t ++ [v]) j = if j + 1 = t.length + 1 then v else gl t j
      rw [e]
      by_cases z : j = t.length
      · rw [if_pos z, if_pos (by omega)]
      · rw [if_neg z, if_neg (by omega)]
theorem sum_app (v : Nat) : ∀ l : List Nat, (l ++ [v]).sum = l.sum + v := by
  intro l
  induction l with
  | nil => show [v].sum = 0 + v; rw [List.sum_cons, List.sum_nil, Nat.zero_add, Nat.add_zero]
  | cons x t ih =>
    show (x :: (t ++ [v])).sum = (x :: t).sum + v
    rw [List.sum_cons, ih, List.sum_cons, Nat.add_assoc]
theorem all_gl (L : Nat) : ∀ l : List Nat, (l.all fun x => Nat.ble x L) = true ↔ ∀ i, i < l.length → gl l i ≤ L := by
  intro l
  induction l with
  | nil => exact ⟨fun _ i hi => absurd hi (Nat.not_lt_zero i), fun _ => rfl⟩
  | cons x t ih =>
    rw [List.all_cons, Bool.and_eq_true, ih]
    constructor
    · intro h i hi
      cases i with
      | zero => exact Nat.le_of_ble_eq_true h.1
      | succ i => exact h.2 i (by have hi : i + 1 < t.length + 1 := hi; omega)
    · intro h
      exact ⟨Nat.ble_eq_true_of_le (h 0 (Nat.succ_pos _)), fun i hi => h (i + 1) (by show i + 1 < t.length + 1; omega)⟩
theorem sames_e {a b : Option Nat} (h : sames a b = true) : ∃ r, a = some r ∧ b = some r := by
  cases a with
  | none => exact absurd h Bool.false_ne_true
  | some x =>
    cases b with
    | none => exact absurd h Bool.false_ne_true
    | some y => exact ⟨x, rfl, by rw [Nat.eq_of_beq_eq_true (show Nat.beq x y = true from h)]⟩
theorem lun_all {z : List Nat} (hz : z ∈ comps 7 7) {L : Nat} (h1 : 1 ≤ L) (h7 : L ≤ 7) (hf : ∀ i, i < z.length → gl z i ≤ L) : ∃ r, dfsA z L = some r ∧ dpA z L = some r := by
  have hc : chkz z L = true := by
    rcases (show L = 1 ∨ L = 2 ∨ L = 3 ∨ L = 4 ∨ L = 5 ∨ L = 6 ∨ L = 7 by omega) with rfl | rfl | rfl | rfl | rfl | rfl | rfl
    · exact List.all_eq_true.mp lun_1 z hz
    · exact List.all_eq_true.mp lun_2 z hz
    · exact List.all_eq_true.mp lun_3 z hz
    · exact List.all_eq_true.mp lun_4 z hz
    · exact List.all_eq_true.mp lun_5 z hz
    · exact List.all_eq_true.mp lun_6 z hz
    · exact List.all_eq_true.mp lun_7 z hz
  unfold chkz at hc
  rw [(all_gl L z).mpr hf] at hc
  exact sames_e hc
theorem cnt_add {p q s : Nat → Bool} : ∀ n, (∀ k, k < n → p k = true → s k = true ∧ q k = false) → (∀ k, k < n → q k = true → s k = true) → cnt p n + cnt q n ≤ cnt s n := by
  intro n
  induction n with
  | zero => intro _ _; exact Nat.le_refl _
  | succ n ih =>
    intro h1 h2
    have a := ih (fun k hk => h1 k (by omega)) (fun k hk => h2 k (by omega))
    show (cnt p n + if p n then 1 else 0) + (cnt q n + if q n then 1 else 0) ≤ cnt s n + if s n then 1 else 0
    cases hp : p n with
    | true =>
      obtain ⟨b1, b2⟩ := h1 n (by omega) hp
      rw [b1, b2, if_pos rfl, if_neg Bool.false_ne_true]
      omega
    | false =>
      cases hq : q n with
      | true => rw [h2 n (by omega) hq, if_neg Bool.false_ne_true, if_pos rfl]; omega
      | false => rw [if_neg Bool.false_ne_true]; omega
/-- the parties: how many on each string, in the order of the tops -/
def szs (t : Tb) : Nat → List Nat
  | 0 => []
  | i + 1 => if tO t i = none then szs t i ++ [ones (strg t i)] else szs t i
theorem szs_len (t : Tb) : ∀ i, (szs t i).length ≤ i := by
  intro i
  induction i with
  | zero => exact Nat.le_refl _
  | succ i ih =>
    rw [szs]
    split
    · rw [List.length_append]; show (szs t i).length + 1 ≤ i + 1; omega
    · omega
theorem szs_pos (t : Tb) (V : VT t) : ∀ i, i ≤ tN t → ∀ x, x ∈ szs t i → 1 ≤ x := by
  intro i
  induction i with
  | zero => intro _ x hx; cases hx
  | succ i ih =>
    intro hi x hx
    rw [szs] at hx
    by_cases z : tO t i = none
    · rw [if_pos z] at hx
      rcases List.mem_append.mp hx with h | h
      · exact ih (by omega) x h
      · rw [List.mem_singleton.mp h]
        have h7 := V.1
        have := sum_ge (g := fun k => if (strg t i).testBit k then 1 else 0) (n := 7) (k := i) (by omega)
        have e : (if (strg t i).testBit i = true then 1 else 0) = 1 := by
          rw [strg_bit, decide_eq_true (show i < tN t by omega), decide_eq_true (show topo t i = topo t i from rfl)]; rfl
        have this : (if (strg t i).testBit i = true then 1 else 0) ≤ ones (strg t i) := this
        rw [e] at this
        exact this
    · rw [if_neg z] at hx
      exact ih (by omega) x hx
theorem szs_sum (t : Tb) : ∀ i, (szs t i).sum ≤ cnt (fun k => decide (k < tN t) && decide (topo t k < i)) 7 := by
  intro i
  induction i with
  | zero => exact Nat.zero_le _
  | succ i ih =>
    rw [szs]
    by_cases z : tO t i = none
    · rw [if_pos z, sum_app]
      have et : topo t i = i := upk_none z 7
      have h := cnt_add (p := fun k => decide (k < tN t) && decide (topo t k < i)) (q := fun k => (strg t i).testBit k) (s := fun k => decide (k < tN t) && decide (topo t k < i + 1)) 7
        (fun k _ hk => by
          have hk : (decide (k < tN t) && decide (topo t k < i)) = true := hk
          rw [Bool.and_eq_true, decide_eq_true_iff, decide_eq_true_iff] at hk
          refine ⟨?_, ?_⟩
          · show (decide (k < tN t) && decide (topo t k < i + 1)) = true
            rw [decide_eq_true hk.1, decide_eq_true (show topo t k < i + 1 by omega)]; rfl
          · show (strg t i).testBit k = false
            rw [strg_bit, et, decide_eq_false (show ¬ topo t k = i by omega), Bool.and_false])
        (fun k _ hk => by
          have hk : (strg t i).testBit k = true := hk
          rw [strg_bit, et, Bool.and_eq_true, decide_eq_true_iff, decide_eq_true_iff] at hk
          show (decide (k < tN t) && decide (topo t k < i + 1)) = true
          rw [decide_eq_true hk.1, decide_eq_true (show topo t k < i + 1 by omega)]; rfl)
      have h : cnt (fun k => decide (k < tN t) && decide (topo t k < i)) 7 + ones (strg t i) ≤ _ := h
      omega
    · rw [if_neg z]
      exact Nat.le_trans ih (cnt_mono 7 (fun k _ hk => by
        have hk : (decide (k < tN t) && decide (topo t k < i)) = true := hk
        rw [Bool.and_eq_true, decide_eq_true_iff, decide_eq_true_iff] at hk
        show (decide (k < tN t) && decide (topo t k < i + 1)) = true
        rw [decide_eq_true hk.1, decide_eq_true (show topo t k < i + 1 by omega)]; rfl))
theorem szs_in (t : Tb) (V : VT t) : szs t (tN t) ∈ comps 7 7 := by
  have h7 := V.1
  have h1 := szs_len t (tN t)
  have h2 := szs_sum t (tN t)
  have h3 := cnt_le (fun k => decide (k < tN t) && decide (topo t k < tN t)) 7
  exact comps_mem _ 7 7 (by omega) (by omega) (szs_pos t V _ (Nat.le_refl _))
section LU
variable {fc w : Nat → Int32} {t : Tb}
def SZ (szf : Nat → Int32) (l : List Nat) : Prop := ∀ j, j < l.length → szf j = nI (gl l j)
theorem SZ.app {szf : Nat → Int32} {l : List Nat} (S : SZ szf l) (v : Nat) : SZ (upd szf l.length (nI v)) (l ++ [v]) := by
  intro j hj
  have hj : j < (l ++ [v]).length := hj
  rw [List.length_append] at hj
  have hj : j < l.length + 1 := hj
  rw [gl_app v l j (by omega)]
  by_cases z : j = l.length
  · rw [if_pos z, z, pk_us]
  · rw [if_neg z, pk_un z]; exact S j (by omega)
theorem len_app (l : List Nat) (v : Nat) : (l ++ [v]).length = l.length + 1 := by rw [List.length_append]; rfl
theorem x_parties (X : XT fc t) (V : VT t) : ∀ (e i q : Nat) (szf : Nat → Int32), i + e = tN t → e < q → SZ szf (szs t i) →
    ∃ szf', f_X8_countParties_4 5 (nI (tN t)) 35 fc q szf (nI (szs t i).length) (nI i) = some (nI (szs t (tN t)).length, szf') ∧ SZ szf' (szs t (tN t)) := by
  have hn := V.1
  intro e
  induction e with
  | zero =>
    intro i q szf hi hq S
    obtain ⟨q, rfl⟩ : ∃ q', q = q' + 1 := ⟨q - 1, by omega⟩
    obtain rfl : i = tN t := by omega
    rw [f_X8_countParties_4, x_size, ob1_s, if_pos (nI_le (Nat.le_refl _) (by omega))]
    exact ⟨szf, rfl, S⟩
  | succ e ih =>
    intro i q szf hi hq S
    obtain ⟨q, rfl⟩ : ∃ q', q = q' + 1 := ⟨q - 1, by omega⟩
    have hl := szs_len t i
    have s1 : szs t (i + 1) = if tO t i = none then szs t i ++ [ones (strg t i)] else szs t i := rfl
    rw [f_X8_countParties_4, x_size, ob1_s, if_neg (nI_ge (by omega) (by omega)), X.o (by omega) hn, ob1_s]
    unfold f_X8_countParties_41
    by_cases z : tO t i = none
    · rw [if_pos z] at s1
      have h := ih (i + 1) q (upd szf (szs t i).length (nI (ones (strg t i)))) (by omega) (by omega) (by rw [s1]; exact S.app _)
      rw [s1, len_app] at h
      rw [if_pos ((onv_m1 (V.on31 (by omega))).mpr z), x_members X V (by omega), ob1_s, x_ones _ (strg_lt V i), ob1_s, setc_in szf _ (show (szs t i).length < 7 by omega) (by omega), ob1_s, nI_1, bnd_s, nI_1, bnd_s]
      exact h
    · rw [if_neg z] at s1
      have h := ih (i + 1) q szf (by omega) (by omega) (by rw [s1]; exact S)
      rw [s1] at h
      rw [if_neg (fun y => z ((onv_m1 (V.on31 (by omega))).mp y)), nI_1, bnd_s]
      exact h
theorem m_parties (V : VT t) (M : MT w 0 t) (st af uf kf : Nat → Int32) (v1 : Int32) : ∀ (e i q : Nat) (szf : Nat → Int32), i + e = tN t → e < q → SZ szf (szs t i) →
    ∃ szf', f_X12_lunch_23 w q st szf af uf kf v1 (nI (szs t i).length) (nI i) = f_X12_lunch_70 w st szf' af uf kf v1 (nI (szs t (tN t)).length) ∧ SZ szf' (szs t (tN t)) := by
  have hn := V.1
  have hw : w 0 = nI (tN t) := M.1
  intro e
  induction e with
  | zero =>
    intro i q szf hi hq S
    obtain ⟨q, rfl⟩ : ∃ q', q = q' + 1 := ⟨q - 1, by omega⟩
    obtain rfl : i = tN t := by omega
    rw [f_X12_lunch_23, chk_0 (by decide) (by decide), cl_0, hw, if_pos (nI_le (Nat.le_refl _) (by omega))]
    exact ⟨szf, rfl, S⟩
  | succ e ih =>
    intro i q szf hi hq S
    obtain ⟨q, rfl⟩ : ∃ q', q = q' + 1 := ⟨q - 1, by omega⟩
    have hl := szs_len t i
    have s1 : szs t (i + 1) = if tO t i = none then szs t i ++ [ones (strg t i)] else szs t i := rfl
    have es : f_X12_stringOf w 0 (nI i) = some (nI (strg t i)) := m_string (v1 := 0) (r := 0) rfl M V (by omega) (by omega)
    rw [f_X12_lunch_23, chk_0 (by decide) (by decide), cl_0, hw, if_neg (nI_ge (by omega) (by omega)), mz31, chk_n (by omega) (by omega), nI_clamp (by omega), M.g0o (by omega)]
    unfold f_X12_lunch_64
    by_cases z : tO t i = none
    · rw [if_pos z] at s1
      have h := ih (i + 1) q (upd szf (szs t i).length (nI (ones (strg t i)))) (by omega) (by omega) (by rw [s1]; exact S.app _)
      rw [s1, len_app] at h
      have hlt := strg_lt V i
      rw [if_pos ((onv_m1 (V.on31 (by omega))).mpr z), es, ob1_s, m_ones (by omega), ob1_s, chk_n (show (szs t i).length < 7 by omega) (by omega), nI_clamp (show (szs t i).length < 2 ^ 31 by omega), bnd_s, nI_1, bnd_s, nI_1, bnd_s]
      exact h
    · rw [if_neg z] at s1
      have h := ih (i + 1) q szf (by omega) (by omega) (by rw [s1]; exact S)
      rw [s1] at h
      rw [if_neg (fun y => z ((onv_m1 (V.on31 (by omega))).mp y)), nI_1, bnd_s]
      exact h
theorem gl_le {z : List Nat} (hz : z ∈ comps 7 7) : (z.all fun x => Nat.ble x 7) = true := by
  have h : ((comps 7 7).all fun z => z.all fun x => Nat.ble x 7) = true := by decide +kernel
  exact List.all_eq_true.mp h z hz
theorem x_fit {z : List Nat} {szf : Nat → Int32} {L : Nat} (wd sz : Int32) (Nn : Nat) (cl sit need : Nat → Int32) (v4 : Int32) (hP : z.length ≤ 7) (hL : L ≤ 7) (h7 : ∀ i, i < z.length → gl z i ≤ 7) (S : SZ szf z) : ∀ (e j q : Nat), j + e = z.length → e < q →
    ((∀ i, j ≤ i → i < z.length → gl z i ≤ L) → f_X8_fewest_16 wd sz Nn cl q szf sit need (nI L) (nI z.length) v4 (nI j) = f_X8_fewest_43 wd sz Nn cl szf sit need (nI L) v4) ∧ (¬ (∀ i, j ≤ i → i < z.length → gl z i ≤ L) → f_X8_fewest_16 wd sz Nn cl q szf sit need (nI L) (nI z.length) v4 (nI j) = some (-1, szf, sit, need)) := by
  intro e
  induction e with
  | zero =>
    intro j q hj hq
    obtain ⟨q, rfl⟩ : ∃ q', q = q' + 1 := ⟨q - 1, by omega⟩
    obtain rfl : j = z.length := by omega
    exact ⟨fun _ => by rw [f_X8_fewest_16, if_pos (nI_le (Nat.le_refl _) (by omega))], fun h => absurd (fun i h1 h2 => absurd h1 (by omega)) h⟩
  | succ e ih =>
    intro j q hj hq
    obtain ⟨q, rfl⟩ : ∃ q', q = q' + 1 := ⟨q - 1, by omega⟩
    have g7 := h7 j (by omega)
    obtain ⟨a1, a2⟩ := ih (j + 1) q (by omega) (by omega)
    rw [f_X8_fewest_16, if_neg (nI_ge (by omega) (by omega)), cell_in szf (show j < 7 by omega) (by omega), ob1_s, S j (by omega)]
    by_cases y : gl z j ≤ L
    · rw [if_pos (nI_le y (by omega)), nI_1, bnd_s]
      refine ⟨fun k => a1 (fun i h1 h2 => k i (by omega) h2), fun k => a2 (fun x => k (fun i h1 h2 => ?_))⟩
      rcases Nat.lt_or_ge j i with u | u
      · exact x i u h2
      · obtain rfl : i = j := by omega
        exact y
    · rw [if_neg (nI_ge (by omega) (by omega))]
      exact ⟨fun k => absurd (k j (Nat.le_refl _) (by omega)) y, fun _ => rfl⟩
theorem m_fit {z : List Nat} {szf : Nat → Int32} {L : Nat} (st af uf kf : Nat → Int32) (hP : z.length ≤ 7) (hL : L ≤ 7) (h7 : ∀ i, i < z.length → gl z i ≤ 7) (S : SZ szf z) : ∀ (e j q : Nat), j + e = z.length → e < q →
    ((∀ i, j ≤ i → i < z.length → gl z i ≤ L) → f_X12_lunch_72 w q st szf af uf kf (nI L) (nI z.length) (nI j) = f_X12_lunch_95 w st szf af uf kf (nI L) (nI z.length)) ∧ (¬ (∀ i, j ≤ i → i < z.length → gl z i ≤ L) → f_X12_lunch_72 w q st szf af uf kf (nI L) (nI z.length) (nI j) = some (-1, st, szf, af, uf, kf)) := by
  intro e
  induction e with
  | zero =>
    intro j q hj hq
    obtain ⟨q, rfl⟩ : ∃ q', q = q' + 1 := ⟨q - 1, by omega⟩
    obtain rfl : j = z.length := by omega
    exact ⟨fun _ => by rw [f_X12_lunch_72, if_pos (nI_le (Nat.le_refl _) (by omega))], fun h => absurd (fun i h1 h2 => absurd h1 (by omega)) h⟩
  | succ e ih =>
    intro j q hj hq
    obtain ⟨q, rfl⟩ : ∃ q', q = q' + 1 := ⟨q - 1, by omega⟩
    have g7 := h7 j (by omega)
    obtain ⟨a1, a2⟩ := ih (j + 1) q (by omega) (by omega)
    rw [f_X12_lunch_72, if_neg (nI_ge (by omega) (by omega)), chk_n (show j < 7 by omega) (by omega), nI_clamp (show j < 2 ^ 31 by omega), S j (by omega)]
    by_cases y : gl z j ≤ L
    · rw [if_pos (nI_le y (by omega)), nI_1, bnd_s]
      refine ⟨fun k => a1 (fun i h1 h2 => k i (by omega) h2), fun k => a2 (fun x => k (fun i h1 h2 => ?_))⟩
      rcases Nat.lt_or_ge j i with u | u
      · exact x i u h2
      · obtain rfl : i = j := by omega
        exact y
    · rw [if_neg (nI_ge (by omega) (by omega))]
      exact ⟨fun k => absurd (k j (Nat.le_refl _) (by omega)) y, fun _ => rfl⟩
theorem c_lunch_eq (X : XT fc t) (V : VT t) (M : MT w 0 t) (st st2 sz1 sit need sz2 af uf kf : Nat → Int32) (h1 : sit 0 = 0) (h2 : need 0 = 0) (x1 : Int32) :
    ∃ (r : Int32) (c : Option Nat) (sz1' sit' need' sz2' af' uf' kf' : Nat → Int32), f_X11_lunch (nI (tN t)) fc st sz1 sit need x1 = some (r, stx c st, sz1', sit', need') ∧ f_X12_lunch w st2 sz2 af uf kf x1 = some (r, stx c st2, sz2', af', uf', kf') ∧ (∀ i, c = some i → i < 3) ∧ sit' 0 = 0 ∧ need' 0 = 0 := by
  have hn := V.1
  unfold f_X11_lunch f_X12_lunch
  rw [x_within, m_in, ob1_s, ob1_s, show (1 : Int32).toInt = (1 : Int64).toInt from rfl, show (7 : Int32).toInt = (7 : Int64).toInt from rfl]
  by_cases h : (1 : Int64).toInt ≤ x1.toInt ∧ x1.toInt ≤ (7 : Int64).toInt
  · rw [if_pos h, if_neg one_ne, if_neg one_ne]
    have h : 1 ≤ x1.toInt ∧ x1.toInt ≤ 7 := h
    obtain ⟨L, rfl, hLi, -⟩ := nat_of (show 0 ≤ x1.toInt by omega)
    have hL1 : 1 ≤ L := by omega
    have hL7 : L ≤ 7 := by omega
    have hz := szs_in t V
    have hl := szs_len t (tN t)
    have h7 := (all_gl 7 _).mp (gl_le hz)
    obtain ⟨szf1, e1, S1⟩ := x_parties X V (tN t) 0 FU sz1 (by omega) (Nat.lt_of_le_of_lt hn (by decide)) (fun j hj => absurd hj (Nat.not_lt_zero j))
    obtain ⟨szf2, e2, S2⟩ := m_parties V M st2 af uf kf (nI L) (tN t) 0 FU sz2 (by omega) (Nat.lt_of_le_of_lt hn (by decide)) (fun j hj => absurd hj (Nat.not_lt_zero j))
    have e1 : f_X8_countParties sz1 5 (nI (tN t)) 35 fc = some (nI (szs t (tN t)).length, szf1) := e1
    have e2 : f_X12_lunch_23 w FU st2 sz2 af uf kf (nI L) 0 0 = f_X12_lunch_70 w st2 szf2 af uf kf (nI L) (nI (szs t (tN t)).length) := e2
    rw [e2]
    unfold f_X8_fewest f_X12_lunch_70
    rw [e1, ob2_s, kb_shl (by omega)]
    generalize szs t (tN t) = z at *
    have hpw : 2 ^ z.length ≤ 128 := Nat.pow_le_pow_right (n := 2) (by omega) (show z.length ≤ 7 by omega)
    have hpp : 0 < 2 ^ z.length := Nat.pow_pos (by omega)
    have eT : nI (2 ^ z.length) - 1 = nI (2 ^ z.length - 1) := nI_sub (b := 1) (by omega)
    have f1 := x_fit (5 : Int32) (nI (tN t)) 35 fc sit need (nI (2 ^ z.length - 1)) (show z.length ≤ 7 by omega) hL7 h7 S1 z.length 0 FU (by omega) (Nat.lt_of_le_of_lt (show z.length ≤ 7 by omega) (by decide))
    have f2 := m_fit (w := w) st2 af uf kf (show z.length ≤ 7 by omega) hL7 h7 S2 z.length 0 FU (by omega) (Nat.lt_of_le_of_lt (show z.length ≤ 7 by omega) (by decide))
    rw [eT, bnd_s]
    by_cases fit : ∀ i, 0 ≤ i → i < z.length → gl z i ≤ L
    · obtain ⟨r, r1, r2⟩ := lun_all hz hL1 hL7 (fun i hi => fit i (Nat.zero_le _) hi)
      obtain ⟨af', uf', kf', g2⟩ := m_fewest (show z.length ≤ 7 by omega) hL7 S2 af uf kf r1
      obtain ⟨sit', need', g1, k1, k2⟩ := x_dp (5 : Int32) (nI (tN t)) 35 fc (show z.length ≤ 7 by omega) (show 2 ^ z.length - 1 < 2 ^ z.length by omega) hL7 S1 129 FU 1 0 0 sit need r (by decide) (Nat.le_refl _) (by omega) (by decide) (by decide) (fun i hi => by rw [show i = 0 by omega, h1]; rfl) (fun i hi => by rw [show i = 0 by omega, h2]; rfl) r2
      have g1 : f_X8_fewest_46 5 (nI (tN t)) 35 fc FU szf1 sit need (nI L) (nI (2 ^ z.length - 1)) 1 = some (nI r, szf1, sit', need') := g1
      have q1 : f_X8_fewest_16 5 (nI (tN t)) 35 fc FU szf1 sit need (nI L) (nI z.length) (nI (2 ^ z.length - 1)) 0 = _ := f1.1 fit
      have q2 : f_X12_lunch_72 w FU st2 szf2 af uf kf (nI L) (nI z.length) 0 = _ := f2.1 fit
      rw [q1, q2]
      unfold f_X8_fewest_43 f_X12_lunch_95
      rw [g1, g2, ob4_s, ob4_s]
      exact ⟨nI r, none, _, _, _, _, _, _, _, rfl, rfl, fun i hi => (by cases hi), k1.trans h1, k2.trans h2⟩
    · have q1 : f_X8_fewest_16 5 (nI (tN t)) 35 fc FU szf1 sit need (nI L) (nI z.length) (nI (2 ^ z.length - 1)) 0 = _ := f1.2 fit
      have q2 : f_X12_lunch_72 w FU st2 szf2 af uf kf (nI L) (nI z.length) 0 = _ := f2.2 fit
      rw [q1, q2, ob4_s]
      exact ⟨-1, none, _, _, _, _, _, _, _, rfl, rfl, fun i hi => (by cases hi), h1, h2⟩
  · rw [if_neg h, if_pos rfl, if_pos rfl, x_bad, m_bad, ob2_s, ob2_s]
    refine ⟨-2, some 0, _, _, _, _, _, _, _, rfl, rfl, fun i hi => ?_, h1, h2⟩
    injection hi with hi; omega
end LU
