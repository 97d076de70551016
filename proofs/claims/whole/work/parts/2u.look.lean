/-! ===== the calls look and ask, both sides ===== -/
def cnE (m : Nat) (vf : Nat → Int32) (k : Nat) : Nat := cnt (fun j => m.testBit k && (m.testBit j && decide (vf k = vf j))) 6
def grt (m : Nat) (vf : Nat → Int32) : Nat := mxN (cnE m vf) 6
theorem cnE_le (m : Nat) (vf : Nat → Int32) (k : Nat) : cnE m vf k ≤ 6 := cnt_le _ _
theorem grt_le (m : Nat) (vf : Nat → Int32) : grt m vf ≤ 6 := mxN_le (fun k _ => cnE_le m vf k)
theorem cnE_no {m : Nat} (vf : Nat → Int32) {k : Nat} (h : ¬ m.testBit k = true) : cnE m vf k = 0 := by
  have h' : m.testBit k = false := by cases e : m.testBit k with
    | false => rfl
    | true => exact absurd e h
  unfold cnE
  simp only [h', Bool.false_and]
  rfl
section GR
variable {tv vf : Nat → Int32} {m : Nat}
theorem x_most (h : ∀ i, i < 6 → tv i = vf i) (hm : m < 64) : f_X3_mostAlike tv (nI m) = some (nI (grt m vf)) := by
  unfold f_X3_mostAlike
  have stp : ∀ (g k v : Nat), k < 6 → v ≤ 6 → f_X3_mostAlike_16 tv (f_X3_mostAlike_4 tv g) FU (nI m) (nI v) (nI k) 0 0 = f_X3_mostAlike_4 tv g (nI m) (nI (max v (cnE m vf k))) (nI (k + 1)) := by
    intro g k v hk hv
    have hc := cnE_le m vf k
    have fin : ∀ c, c = cnE m vf k → f_X3_mostAlike_88 tv (f_X3_mostAlike_4 tv g) (nI m) (nI v) (nI k) (nI c) = f_X3_mostAlike_4 tv g (nI m) (nI (max v (cnE m vf k))) (nI (k + 1)) := by
      intro c e
      unfold f_X3_mostAlike_88
      rw [e]
      by_cases z : v < cnE m vf k
      · rw [if_pos (nI_lt z (by omega)), bnd_s, nI_1, bnd_s, show max v (cnE m vf k) = cnE m vf k by omega]
      · rw [if_neg (nI_nlt (by omega) (by omega)), bnd_s, nI_1, bnd_s, show max v (cnE m vf k) = v by omega]
    by_cases z : m.testBit k = true
    · have e := sum_loop (fun q a j => f_X3_mostAlike_16 tv (f_X3_mostAlike_4 tv g) q (nI m) (nI v) (nI k) (nI a) j) 6 (by omega) (fun j => if m.testBit k && (m.testBit j && decide (vf k = vf j)) then 1 else 0) (fun a => f_X3_mostAlike_88 tv (f_X3_mostAlike_4 tv g) (nI m) (nI v) (nI k) (nI a)) (fun q j a hj => ?_) (fun q a => ?_)
      · have e : f_X3_mostAlike_16 tv (f_X3_mostAlike_4 tv g) FU (nI m) (nI v) (nI k) 0 0 = f_X3_mostAlike_88 tv (f_X3_mostAlike_4 tv g) (nI m) (nI v) (nI k) (nI (cnE m vf k)) := e
        rw [e]
        exact fin _ rfl
      · show f_X3_mostAlike_16 tv (f_X3_mostAlike_4 tv g) (q + 1) (nI m) (nI v) (nI k) (nI a) (nI j) = _
        have e0 : nI a + 0 = nI (a + 0) := nI_add a 0
        rw [f_X3_mostAlike_16, if_neg (show ¬ (6 : Int32) ≤ nI j from nI_ge (b := 6) hj (by omega)), x_hasBit (by omega) (by omega), ob1_s, if_pos z, if_neg one_ne, x_hasBit (by omega) (by omega), ob1_s]
        unfold f_X3_mostAlike_64 f_X3_mostAlike_65 f_X3_mostAlike_79
        rw [z, Bool.true_and]
        by_cases y : m.testBit j = true
        · rw [if_pos y, if_neg one_ne, cell_in tv hk (by omega), ob1_s, cell_in tv hj (by omega), ob1_s, h k hk, h j hj, y, Bool.true_and]
          by_cases u : vf k = vf j
          · rw [if_pos u, if_neg one_ne, nI_1, bnd_s, nI_1, bnd_s, decide_eq_true u, if_pos rfl]
          · rw [if_neg u, if_pos rfl, e0, bnd_s, nI_1, bnd_s, decide_eq_false u, if_neg Bool.false_ne_true]
        · rw [if_neg y, if_pos rfl, if_pos rfl, e0, bnd_s, nI_1, bnd_s, if_neg (show ¬ (m.testBit j && decide (vf k = vf j)) = true from fun q => y (by rw [Bool.and_eq_true] at q; exact q.1))]
      · show f_X3_mostAlike_16 tv (f_X3_mostAlike_4 tv g) (q + 1) (nI m) (nI v) (nI k) (nI a) (nI 6) = _
        rw [f_X3_mostAlike_16, if_pos (show (6 : Int32) ≤ nI 6 by decide)]
    · rw [show FU = 999999 + 1 from rfl, f_X3_mostAlike_16, if_neg (show ¬ (6 : Int32) ≤ 0 by decide), x_hasBit (by omega) (by omega), ob1_s, if_neg z, if_pos rfl]
      exact fin 0 (cnE_no vf z).symm
  refine (lup (fun q v k => f_X3_mostAlike_4 tv q (nI m) (nI v) k) 6 (fun k v => max v (cnE m vf k)) (fun v => some (nI v)) (fun _ v => v ≤ 6) (fun q k v hk hv => ⟨?_, Nat.max_le.mpr ⟨hv, cnE_le m vf k⟩⟩) (fun q v _ => ?_) 6 0 0 FU (by omega) (by decide) (by omega)).1
  · show f_X3_mostAlike_4 tv (q + 1) (nI m) (nI v) (nI k) = _
    rw [f_X3_mostAlike_4, if_neg (show ¬ (6 : Int32) ≤ nI k from nI_ge (b := 6) hk (by omega)), stp q k v hk hv]
  · show f_X3_mostAlike_4 tv (q + 1) (nI m) (nI v) (nI 6) = _
    rw [f_X3_mostAlike_4, if_pos (show (6 : Int32) ≤ nI 6 by decide)]
theorem m_great (h : ∀ i, i < 6 → tv i = vf i) (hm : m < 64) : f_X12_greatest tv (nI m) = some (nI (grt m vf)) := by
  unfold f_X12_greatest
  have stp : ∀ (g k v : Nat), k < 6 → v ≤ 6 → f_X12_greatest_16 tv (f_X12_greatest_4 tv g) FU (nI m) (nI v) (nI k) 0 0 = f_X12_greatest_4 tv g (nI m) (nI (max v (cnE m vf k))) (nI (k + 1)) := by
    intro g k v hk hv
    have hc := cnE_le m vf k
    have e := sum_loop (fun q a j => f_X12_greatest_16 tv (f_X12_greatest_4 tv g) q (nI m) (nI v) (nI k) (nI a) j) 6 (by omega) (fun j => if m.testBit k && (m.testBit j && decide (vf k = vf j)) then 1 else 0) (fun a => f_X12_greatest_72 tv (f_X12_greatest_4 tv g) (nI m) (nI v) (nI k) (nI a)) (fun q j a hj => ?_) (fun q a => ?_)
    · have e : f_X12_greatest_16 tv (f_X12_greatest_4 tv g) FU (nI m) (nI v) (nI k) 0 0 = f_X12_greatest_72 tv (f_X12_greatest_4 tv g) (nI m) (nI v) (nI k) (nI (cnE m vf k)) := e
      rw [e]
      unfold f_X12_greatest_72 f_X12_greatest_84
      by_cases z : cnE m vf k ≤ v
      · rw [if_pos (nI_le z (by omega)), nI_1, bnd_s, show max v (cnE m vf k) = v by omega]
      · rw [if_neg (nI_ge (by omega) (by omega)), nI_1, bnd_s, show max v (cnE m vf k) = cnE m vf k by omega]
    · show f_X12_greatest_16 tv (f_X12_greatest_4 tv g) (q + 1) (nI m) (nI v) (nI k) (nI a) (nI j) = _
      have e0 : nI a + 0 = nI (a + 0) := nI_add a 0
      rw [f_X12_greatest_16, if_neg (show ¬ (6 : Int32) ≤ nI j from nI_ge (b := 6) hj (by omega)), m_has (by omega) (by omega), ob1_s]
      unfold f_X12_greatest_62 f_X12_greatest_63
      by_cases z : m.testBit k = true
      · rw [if_pos z, if_neg one_ne, m_has (by omega) (by omega), ob1_s, z, Bool.true_and]
        by_cases y : m.testBit j = true
        · rw [if_pos y, if_neg one_ne, chk_n hk (by omega), chk_n hj (by omega), nI_clamp (by omega), nI_clamp (by omega), h k hk, h j hj, y, Bool.true_and]
          by_cases u : vf k = vf j
          · rw [if_pos u, nI_1, bnd_s, nI_1, bnd_s, decide_eq_true u, if_pos rfl]
          · rw [if_neg u, e0, bnd_s, nI_1, bnd_s, decide_eq_false u, if_neg Bool.false_ne_true]
        · rw [if_neg y, if_pos rfl, e0, bnd_s, nI_1, bnd_s, if_neg (show ¬ (m.testBit j && decide (vf k = vf j)) = true from fun q => y (by rw [Bool.and_eq_true] at q; exact q.1))]
      · rw [if_neg z, if_pos rfl, e0, bnd_s, nI_1, bnd_s, if_neg (show ¬ (m.testBit k && (m.testBit j && decide (vf k = vf j))) = true from fun q => z (by rw [Bool.and_eq_true] at q; exact q.1))]
    · show f_X12_greatest_16 tv (f_X12_greatest_4 tv g) (q + 1) (nI m) (nI v) (nI k) (nI a) (nI 6) = _
      rw [f_X12_greatest_16, if_pos (show (6 : Int32) ≤ nI 6 by decide)]
  refine (lup (fun q v k => f_X12_greatest_4 tv q (nI m) (nI v) k) 6 (fun k v => max v (cnE m vf k)) (fun v => some (nI v)) (fun _ v => v ≤ 6) (fun q k v hk hv => ⟨?_, Nat.max_le.mpr ⟨hv, cnE_le m vf k⟩⟩) (fun q v _ => ?_) 6 0 0 FU (by omega) (by decide) (by omega)).1
  · show f_X12_greatest_4 tv (q + 1) (nI m) (nI v) (nI k) = _
    rw [f_X12_greatest_4, if_neg (show ¬ (6 : Int32) ≤ nI k from nI_ge (b := 6) hk (by omega)), stp q k v hk hv]
  · show f_X12_greatest_4 tv (q + 1) (nI m) (nI v) (nI 6) = _
    rw [f_X12_greatest_4, if_pos (show (6 : Int32) ≤ nI 6 by decide)]
end GR
/-- one candidate looked at -/
def scn (G cd : Nat → Nat) (c : Nat) (p : Option Nat × Nat) : Option Nat × Nat := if p.2 ≤ G c then p else (some (cd c), G c)
theorem scn_le {G cd : Nat → Nat} {B : Nat} : ∀ (e c : Nat) (p : Option Nat × Nat), p.2 ≤ B → (itr (scn G cd) e c p).2 ≤ B := by
  intro e
  induction e with
  | zero => intro c p h; exact h
  | succ e ih =>
    intro c p h
    refine ih (c + 1) (scn G cd c p) ?_
    unfold scn
    by_cases z : p.2 ≤ G c
    · rw [if_pos z]; exact h
    · rw [if_neg z]; show G c ≤ B; omega
theorem scn_0 {G cd : Nat → Nat} : ∀ (e c : Nat) (o : Option Nat), itr (scn G cd) e c (o, 0) = (o, 0) := by
  intro e
  induction e with
  | zero => intro c o; rfl
  | succ e ih =>
    intro c o
    show itr (scn G cd) e (c + 1) (scn G cd c (o, 0)) = _
    have : scn G cd c (o, 0) = (o, 0) := if_pos (Nat.zero_le _)
    rw [this, ih]
theorem scn_first {G cd : Nat → Nat} {a b : Nat} (e c : Nat) (ha : G c < a) (hb : G c < b) : itr (scn G cd) (e + 1) c (none, a) = itr (scn G cd) (e + 1) c (none, b) := by
  show itr (scn G cd) e (c + 1) (scn G cd c (none, a)) = itr (scn G cd) e (c + 1) (scn G cd c (none, b))
  have h1 : scn G cd c (none, a) = (some (cd c), G c) := if_neg (by show ¬ a ≤ G c; omega)
  have h2 : scn G cd c (none, b) = (some (cd c), G c) := if_neg (by show ¬ b ≤ G c; omega)
  rw [h1, h2]
noncomputable def vlk (c : Nat) (k : Nat) : Int32 := LG (nI k) (nI (c / 10)) (nI (c % 10))
noncomputable def Glk (m c : Nat) : Nat := grt m (vlk c)
section LK
variable {m : Nat}
theorem x_lk_fill (k16 : (Nat → Int32) → Int32 → Int32 → Int32 → Int32 → Option (Int32 × (Nat → Int32))) (k26 : (Nat → Int32) → Int32 → Int32 → Int32 → Int32 → Int32 → Option (Int32 × (Nat → Int32))) (v1 v2 v3 : Int32) {T u : Nat} (h1 : 1 ≤ T) (h2 : T ≤ 20) (hu : u ≤ 9) : ∀ (e j q : Nat) (tv : Nat → Int32), j + e = 6 → e < q → (∀ i, i < j → tv i = vlk (10 * T + u) i) →
    ∃ tv', f_X3_nextLook_36 k16 k26 q tv v1 v2 v3 (nI T) (nI u) (nI j) = f_X3_nextLook_67 k16 k26 tv' v1 v2 v3 (nI T) (nI u) ∧ ∀ i, i < 6 → tv' i = vlk (10 * T + u) i := by
  intro e
  induction e with
  | zero =>
    intro j q tv hj hq h
    obtain ⟨q, rfl⟩ : ∃ q', q = q' + 1 := ⟨q - 1, by omega⟩
    obtain rfl : j = 6 := by omega
    rw [f_X3_nextLook_36, if_pos (show (6 : Int32) ≤ nI 6 by decide)]
    exact ⟨tv, rfl, h⟩
  | succ e ih =>
    intro j q tv hj hq h
    obtain ⟨q, rfl⟩ : ∃ q', q = q' + 1 := ⟨q - 1, by omega⟩
    rw [f_X3_nextLook_36, if_neg (show ¬ (6 : Int32) ≤ nI j from nI_ge (b := 6) (by omega) (by omega)), x_LG (by omega) h1 h2 (by omega), ob1_s, setc_in tv _ (by omega) (by omega), ob1_s, nI_1, bnd_s]
    refine ih (j + 1) q _ (by omega) (by omega) (fun i hi => ?_)
    by_cases z : i = j
    · rw [z, pk_us]
      unfold vlk
      rw [show (10 * T + u) / 10 = T by omega, show (10 * T + u) % 10 = u by omega]
    · rw [pk_un z]; exact h i (by omega)
theorem x_lk_in (hm : m < 64) (k16 : (Nat → Int32) → Int32 → Int32 → Int32 → Int32 → Option (Int32 × (Nat → Int32))) {T : Nat} (h1 : 1 ≤ T) (h2 : T ≤ 20) : ∀ (e u q : Nat) (tv : Nat → Int32) (p : Option Nat × Nat), u + e = 10 → e < q → p.2 ≤ 7 →
    ∃ tv', f_X3_nextLook_26 k16 q tv (nI m) (onv p.1) (nI p.2) (nI T) (nI u) = f_X3_nextLook_98 k16 tv' (nI m) (onv (itr (scn (Glk m) (fun c => c)) e (10 * T + u) p).1) (nI (itr (scn (Glk m) (fun c => c)) e (10 * T + u) p).2) (nI T) := by
  intro e
  induction e with
  | zero =>
    intro u q tv p hu hq hp
    obtain ⟨q, rfl⟩ : ∃ q', q = q' + 1 := ⟨q - 1, by omega⟩
    obtain rfl : u = 10 := by omega
    rw [f_X3_nextLook_26, if_pos (show (9 : Int32) < nI 10 by decide)]
    exact ⟨tv, rfl⟩
  | succ e ih =>
    intro u q tv p hu hq hp
    obtain ⟨q, rfl⟩ : ∃ q', q = q' + 1 := ⟨q - 1, by omega⟩
    obtain ⟨tv1, e1, hv⟩ := x_lk_fill k16 (f_X3_nextLook_26 k16 q) (nI m) (onv p.1) (nI p.2) h1 h2 (u := u) (by omega) 6 0 FU tv (by omega) (by decide) (fun i hi => absurd hi (Nat.not_lt_zero i))
    have e1 : f_X3_nextLook_36 k16 (f_X3_nextLook_26 k16 q) FU tv (nI m) (onv p.1) (nI p.2) (nI T) (nI u) 0 = f_X3_nextLook_67 k16 (f_X3_nextLook_26 k16 q) tv1 (nI m) (onv p.1) (nI p.2) (nI T) (nI u) := e1
    rw [f_X3_nextLook_26, if_neg (show ¬ (9 : Int32) < nI u from nI_nlt (a := 9) (by omega) (by omega)), e1]
    unfold f_X3_nextLook_67 f_X3_nextLook_92
    have hg : Glk m (10 * T + u) ≤ 6 := grt_le _ _
    have em : f_X3_mostAlike tv1 (nI m) = some (nI (Glk m (10 * T + u))) := x_most hv hm
    have ec : (10 : Int32) * nI T + nI u = nI (10 * T + u) := by
      have e : (10 : Int32) * nI T = nI (10 * T) := pk_mul 10 T
      rw [e, nI_add]
    rw [em, ob1_s]
    show ∃ tv', _ = f_X3_nextLook_98 k16 tv' (nI m) (onv (itr (scn (Glk m) (fun c => c)) e (10 * T + (u + 1)) (scn (Glk m) (fun c => c) (10 * T + u) p)).1) (nI (itr (scn (Glk m) (fun c => c)) e (10 * T + (u + 1)) (scn (Glk m) (fun c => c) (10 * T + u) p)).2) (nI T)
    by_cases z : p.2 ≤ Glk m (10 * T + u)
    · have es : scn (Glk m) (fun c => c) (10 * T + u) p = p := if_pos z
      rw [if_pos (nI_le z (by omega)), nI_1, bnd_s, es]
      exact ih (u + 1) q tv1 p (by omega) (by omega) hp
    · have es : scn (Glk m) (fun c => c) (10 * T + u) p = (some (10 * T + u), Glk m (10 * T + u)) := if_neg z
      rw [if_neg (nI_ge (by omega) (by omega)), ec, bnd_s, nI_1, bnd_s, es]
      exact ih (u + 1) q tv1 (some (10 * T + u), Glk m (10 * T + u)) (by omega) (by omega) (by show Glk m (10 * T + u) ≤ 7; omega)
theorem x_lk_out (hm : m < 64) : ∀ (e T q : Nat) (tv : Nat → Int32) (p : Option Nat × Nat), T + e = 21 → 1 ≤ T → e < q → p.2 ≤ 7 →
    ∃ tv', f_X3_nextLook_16 q tv (nI m) (onv p.1) (nI p.2) (nI T) = some (onv (itr (scn (Glk m) (fun c => c)) (10 * e) (10 * T) p).1, tv') := by
  intro e
  induction e with
  | zero =>
    intro T q tv p hT h1 hq hp
    obtain ⟨q, rfl⟩ : ∃ q', q = q' + 1 := ⟨q - 1, by omega⟩
    obtain rfl : T = 21 := by omega
    rw [f_X3_nextLook_16, if_pos (show (20 : Int32) < nI 21 by decide)]
    exact ⟨tv, rfl⟩
  | succ e ih =>
    intro T q tv p hT h1 hq hp
    obtain ⟨q, rfl⟩ : ∃ q', q = q' + 1 := ⟨q - 1, by omega⟩
    obtain ⟨tv1, e1⟩ := x_lk_in hm (f_X3_nextLook_16 q) h1 (show T ≤ 20 by omega) 10 0 FU tv p (by omega) (by decide) hp
    have e1 : f_X3_nextLook_26 (f_X3_nextLook_16 q) FU tv (nI m) (onv p.1) (nI p.2) (nI T) 0 = f_X3_nextLook_98 (f_X3_nextLook_16 q) tv1 (nI m) (onv (itr (scn (Glk m) (fun c => c)) 10 (10 * T) p).1) (nI (itr (scn (Glk m) (fun c => c)) 10 (10 * T) p).2) (nI T) := e1
    rw [f_X3_nextLook_16, if_neg (show ¬ (20 : Int32) < nI T from nI_nlt (a := 20) (by omega) (by omega)), e1]
    unfold f_X3_nextLook_98
    rw [nI_1, bnd_s, show 10 * (e + 1) = 10 + 10 * e by omega, itr_add, show 10 * T + 10 = 10 * (T + 1) by omega]
    exact ih (T + 1) q tv1 _ (by omega) (by omega) (by omega) (scn_le 10 (10 * T) p hp)
theorem chz10 {α : Type} (k : Option α) : chz 10 k = k := if_neg (by decide)
theorem m_lk_fill (w st : Nat → Int32) (k32 : (Nat → Int32) → (Nat → Int32) → Int32 → Int32 → Int32 → Int32 → Option (Int32 × (Nat → Int32) × (Nat → Int32))) (v2 v3 v4 : Int32) {c : Nat} (h1 : 10 ≤ c) (h2 : c < 210) : ∀ (e j q : Nat) (tv : Nat → Int32), j + e = 6 → e < q → (∀ i, i < j → tv i = vlk c i) →
    ∃ tv', f_X12_look_47 w k32 q st tv v2 v3 v4 (nI c) (nI j) = f_X12_look_82 w k32 st tv' v2 v3 v4 (nI c) ∧ ∀ i, i < 6 → tv' i = vlk c i := by
  intro e
  induction e with
  | zero =>
    intro j q tv hj hq h
    obtain ⟨q, rfl⟩ : ∃ q', q = q' + 1 := ⟨q - 1, by omega⟩
    obtain rfl : j = 6 := by omega
    rw [f_X12_look_47, if_pos (show (6 : Int32) ≤ nI 6 by decide)]
    exact ⟨tv, rfl, h⟩
  | succ e ih =>
    intro j q tv hj hq h
    obtain ⟨q, rfl⟩ : ∃ q', q = q' + 1 := ⟨q - 1, by omega⟩
    have er : nI c - nI c / 10 * 10 = nI (c % 10) := pk_rem (a := c) (d := 10) (by omega) (by omega) (by omega)
    have ed : nI c / 10 = nI (c / 10) := pk_div (a := c) (d := 10) (by omega) (by omega) (by omega)
    rw [f_X12_look_47, if_neg (show ¬ (6 : Int32) ≤ nI j from nI_ge (b := 6) (by omega) (by omega)), chz10, chz10, er, ed, m_LG (by omega) (by omega) (by omega) (by omega), ob1_s, chk_n (by omega) (by omega), nI_clamp (by omega), bnd_s, nI_1, bnd_s]
    refine ih (j + 1) q _ (by omega) (by omega) (fun i hi => ?_)
    by_cases z : i = j
    · rw [z, pk_us]; rfl
    · rw [pk_un z]; exact h i (by omega)
theorem m_lk_go (hm : m < 64) (h0 : m ≠ 0) (w st : Nat → Int32) : ∀ (e c q : Nat) (tv : Nat → Int32) (p : Option Nat × Nat), c + e = 210 → 10 ≤ c → e < q → p.2 < 2 ^ 31 →
    ∃ tv', f_X12_look_32 w q st tv (nI m) (onv p.1) (nI p.2) (nI c) = some (onv (itr (scn (Glk m) (fun c => c)) e c p).1, st, tv') := by
  intro e
  induction e with
  | zero =>
    intro c q tv p hc h1 hq hp
    obtain ⟨q, rfl⟩ : ∃ q', q = q' + 1 := ⟨q - 1, by omega⟩
    obtain rfl : c = 210 := by omega
    rw [f_X12_look_32, if_pos (show (210 : Int32) ≤ nI 210 by decide)]
    exact ⟨tv, rfl⟩
  | succ e ih =>
    intro c q tv p hc h1 hq hp
    obtain ⟨q, rfl⟩ : ∃ q', q = q' + 1 := ⟨q - 1, by omega⟩
    obtain ⟨tv1, e1, hv⟩ := m_lk_fill w st (f_X12_look_32 w q) (nI m) (onv p.1) (nI p.2) h1 (show c < 210 by omega) 6 0 FU tv (by omega) (by decide) (fun i hi => absurd hi (Nat.not_lt_zero i))
    have e1 : f_X12_look_47 w (f_X12_look_32 w q) FU st tv (nI m) (onv p.1) (nI p.2) (nI c) 0 = f_X12_look_82 w (f_X12_look_32 w q) st tv1 (nI m) (onv p.1) (nI p.2) (nI c) := e1
    rw [f_X12_look_32, if_neg (show ¬ (210 : Int32) ≤ nI c from nI_ge (b := 210) (by omega) (by omega)), if_neg (fun q => h0 ((nI_le0 (by omega)).mp q)), e1]
    unfold f_X12_look_82 f_X12_look_102 f_X12_look_117
    have hg : Glk m c ≤ 6 := grt_le _ _
    have em : f_X12_greatest tv1 (nI m) = some (nI (Glk m c)) := m_great hv hm
    rw [em, ob1_s]
    show ∃ tv', _ = some (onv (itr (scn (Glk m) (fun c => c)) e (c + 1) (scn (Glk m) (fun c => c) c p)).1, st, tv')
    by_cases z : p.2 ≤ Glk m c
    · have es : scn (Glk m) (fun c => c) c p = p := if_pos z
      rw [if_pos (nI_le z (by omega)), if_pos (nI_le z (by omega)), nI_1, bnd_s, es]
      exact ih (c + 1) q tv1 p (by omega) (by omega) (by omega) hp
    · have es : scn (Glk m) (fun c => c) c p = (some c, Glk m c) := if_neg z
      rw [if_neg (nI_ge (by omega) (by omega)), if_neg (nI_ge (by omega) (by omega)), nI_1, bnd_s, es]
      exact ih (c + 1) q tv1 (some c, Glk m c) (by omega) (by omega) (by omega) (by show Glk m c < 2 ^ 31; omega)
theorem x_nextLook (hm : m < 64) (tv : Nat → Int32) : ∃ tv', f_X3_nextLook tv (nI m) = some (onv (itr (scn (Glk m) (fun c => c)) 200 10 (none, if m = 0 then 0 else 7)).1, tv') := by
  unfold f_X3_nextLook f_X3_nextLook_12
  by_cases z : m = 0
  · rw [if_pos (show nI m = 0 by rw [z]; rfl), if_pos z]
    exact x_lk_out hm 20 1 FU tv (none, 0) (by omega) (by omega) (by decide) (by show 0 ≤ 7; omega)
  · rw [if_neg (show ¬ nI m = 0 from fun q => z ((nI_eq (b := 0) (by omega) (by omega)).mp q)), if_neg z]
    exact x_lk_out hm 20 1 FU tv (none, 7) (by omega) (by omega) (by decide) (by show 7 ≤ 7; omega)
theorem m_nextLook (hm : m < 64) (w st tv : Nat → Int32) : ∃ tv', f_X12_look_32 w FU st tv (nI m) (-1) 1000000 10 = some (onv (itr (scn (Glk m) (fun c => c)) 200 10 (none, if m = 0 then 0 else 7)).1, st, tv') := by
  by_cases z : m = 0
  · rw [if_pos z, scn_0, show FU = 999999 + 1 from rfl, f_X12_look_32, if_neg (show ¬ (210 : Int32) ≤ 10 by decide), if_pos (show nI m ≤ 0 by rw [z]; decide)]
    exact ⟨tv, rfl⟩
  · obtain ⟨tv', e⟩ := m_lk_go hm z w st 200 10 FU tv (none, 1000000) (by omega) (by omega) (by decide) (by show 1000000 < 2 ^ 31; omega)
    have hg : Glk m 10 ≤ 6 := grt_le _ _
    rw [if_neg z, scn_first (a := 7) (b := 1000000) 199 10 (by omega) (by omega)]
    exact ⟨tv', e⟩
end LK
section LC2
variable {t : Tb} {nc w : Nat → Int32} {a : Ls}
theorem c_look_eq (V : VT t) (M : MT w 0 t) (Xb : XL 4 nc a) (Vb : VB (tN t) a) (Mb : ML 4 68 69 w a) (st st2 tv sv : Nat → Int32) (x1 : Int32) :
    ∃ (r : Int32) (c : Option Nat), (∃ tv', f_X11_look (nI (tN t)) (nI a.1) nc st tv x1 = some (r, stx c st, tv')) ∧ (∃ sv', f_X12_look w st2 sv x1 = some (r, stx c st2, sv')) ∧ (∀ i, c = some i → i < 3) := by
  have hn := V.1
  unfold f_X11_look f_X12_look
  rw [x_isClerk (by omega), m_isClerk M V, ob1_s, ob1_s]
  by_cases h1 : wthn x1 (tN t) = true
  · obtain ⟨tv', e1⟩ := x_nextLook (kmB_lt a x1) tv
    obtain ⟨sv', e2⟩ := m_nextLook (kmB_lt a x1) w st2 sv
    rw [if_pos h1, if_neg one_ne, if_neg one_ne, x_kinds Xb Vb, m_kinds Mb Vb, ob1_s, ob1_s, e1, ob2_s, e2]
    exact ⟨_, none, ⟨tv', rfl⟩, ⟨sv', rfl⟩, fun i hi => by cases hi⟩
  · rw [if_neg h1, if_pos rfl, if_pos rfl, x_bad, m_bad, ob2_s, ob2_s]
    refine ⟨-2, some 0, ⟨_, rfl⟩, ⟨_, rfl⟩, fun i hi => ?_⟩
    injection hi with hi; omega
end LC2
