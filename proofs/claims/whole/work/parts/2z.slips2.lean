/-! ===== the call slips, both sides ===== -/
theorem prN_itr (g : Nat → Nat) (n : Nat) : itr (fun k a => a * g k) n 0 1 = prN g n := by
  induction n with
  | zero => rfl
  | succ n ih => rw [itr_s, ih, Nat.zero_add]; rfl
theorem prN_zero {f : Nat → Nat} {k : Nat} : ∀ n, k < n → f k = 0 → prN f n = 0 := by
  intro n
  induction n with
  | zero => intro h; omega
  | succ n ih =>
    intro hk h
    rw [prN]
    rcases Nat.lt_or_ge k n with q | q
    · rw [ih q h, Nat.zero_mul]
    · obtain rfl : k = n := by omega
      rw [h, Nat.mul_zero]
theorem cnt_two (t : Tb) (Q : Nat → Bool) : ∀ n, cnt Q n + cnt (fun k => hkd t k && !(Q k)) n ≤ n := by
  intro n
  induction n with
  | zero => exact Nat.le_refl _
  | succ n ih =>
    show cnt Q n + (if Q n = true then 1 else 0) + (cnt (fun k => hkd t k && !(Q k)) n + (if (hkd t n && !(Q n)) = true then 1 else 0)) ≤ n + 1
    cases q : Q n with
    | true => rw [if_pos rfl, if_neg (show ¬ (hkd t n && !true) = true from fun h => by rw [Bool.not_true, Bool.and_false] at h; exact Bool.noConfusion h)]; omega
    | false => rw [if_neg Bool.false_ne_true]; split <;> omega
theorem lN0 : (0 : Int64) = lN 0 := rfl
theorem lg_le0 {p : Nat} (hp : p < 2 ^ 63) : lg_cmp (lN p) 0 ≤ 0 ↔ p = 0 := by
  constructor
  · intro h
    by_cases z : p = 0
    · exact z
    · exfalso
      have h1 : (0 : Int64) < lN p := (pk_lLT (a := 0) (by omega) hp).mpr (by omega)
      have h2 := Int32.lt_iff_toInt_lt.mp ((lg_cmp_gt (lN p) 0).mpr h1)
      have h3 := Int32.le_iff_toInt_le.mp h
      omega
  · intro h
    rw [h]; decide
theorem lg_eq0 {p : Nat} (hp : p < 2 ^ 31) : lg_cmp (lN p) 0 = 0 ↔ p = 0 := by
  rw [lg_cmp_eq, lN0, lN_eq hp (by omega)]
def euF : Nat → Nat → Nat → Option Nat
  | 0, _, _ => none
  | q + 1, x, y => if y = 0 then some x else euF q y (x % y)
def slA (a d e : Nat) : Nat := a ^ d * 10 ^ e
def slG (a d e : Nat) : Nat := Nat.gcd (slA a d e) (slA 10 d e)
def eqO (o : Option (Int64 × Int64)) (x y : Int64) : Bool := match o with
  | none => false
  | some p => decide (p.1 = x) && decide (p.2 = y)
theorem eqO_s {o : Option (Int64 × Int64)} {x y : Int64} (h : eqO o x y = true) : o = some (x, y) := by
  cases o with
  | none => exact Bool.noConfusion (show false = true from h)
  | some p =>
    have h : (decide (p.1 = x) && decide (p.2 = y)) = true := h
    rw [Bool.and_eq_true] at h
    have h1 := of_decide_eq_true h.1
    have h2 := of_decide_eq_true h.2
    rw [← h1, ← h2]
def eqE (o : Option Nat) (g : Nat) : Bool := match o with
  | none => false
  | some p => Nat.beq p g
theorem eqE_s {o : Option Nat} {g : Nat} (h : eqE o g = true) : o = some g := by
  cases o with
  | none => exact Bool.noConfusion (show false = true from h)
  | some p => rw [Nat.eq_of_beq_eq_true (show Nat.beq p g = true from h)]
noncomputable def slB (a d e : Nat) : Bool := eqO (f_X2_setPower 0 0 (nI a) 10 (nI d)) (lN (slA a d e / slG a d e)) (lN (slA 10 d e / slG a d e)) && (eqE (euF 64 (slA a d e) (slA 10 d e)) (slG a d e) && (Nat.blt 0 (slG a d e) && (Nat.blt (slG a d e) 2147483648 && (Nat.blt (slA a d e) 2147483648 && Nat.blt (slA 10 d e) 2147483648))))
theorem slB_dec : ∀ a, a < 11 → ∀ d, d < 8 → ∀ e, e < 8 - d → slB a d e = true := by decide +kernel
theorem blt_s {a b : Nat} (h : Nat.blt a b = true) : a < b := Nat.le_of_ble_eq_true h
theorem sl_dec (a : Nat) (ha : a < 11) (d : Nat) (hd : d < 8) (e : Nat) (he : e < 8) (hde : d + e < 8) : f_X2_setPower 0 0 (nI a) 10 (nI d) = some (lN (slA a d e / slG a d e), lN (slA 10 d e / slG a d e)) ∧ euF 64 (slA a d e) (slA 10 d e) = some (slG a d e) ∧ 0 < slG a d e ∧ slG a d e < 2147483648 ∧ slA a d e < 2147483648 ∧ slA 10 d e < 2147483648 := by
  have h := slB_dec a ha d hd e (by omega)
  unfold slB at h
  rw [Bool.and_eq_true, Bool.and_eq_true, Bool.and_eq_true, Bool.and_eq_true, Bool.and_eq_true] at h
  exact ⟨eqO_s h.1, eqE_s h.2.1, blt_s h.2.2.1, blt_s h.2.2.2.1, blt_s h.2.2.2.2.1, blt_s h.2.2.2.2.2⟩
noncomputable def slB0 (e : Nat) : Bool := eqO (f_X2_setPower 0 0 0 1 1) (lN (0 / slA 10 0 e)) (lN (slA 10 0 e / slA 10 0 e)) && (eqE (euF 64 0 (slA 10 0 e)) (slA 10 0 e) && (Nat.blt 0 (slA 10 0 e) && Nat.blt (slA 10 0 e) 2147483648))
theorem slB0_dec : ∀ e, e < 8 → slB0 e = true := by decide +kernel
theorem sl_dec0 (e : Nat) (he : e < 8) : f_X2_setPower 0 0 0 1 1 = some (lN (0 / slA 10 0 e), lN (slA 10 0 e / slA 10 0 e)) ∧ euF 64 0 (slA 10 0 e) = some (slA 10 0 e) ∧ 0 < slA 10 0 e ∧ slA 10 0 e < 2147483648 := by
  have h := slB0_dec e he
  unfold slB0 at h
  rw [Bool.and_eq_true, Bool.and_eq_true, Bool.and_eq_true] at h
  exact ⟨eqO_s h.1, eqE_s h.2.1, blt_s h.2.2.1, blt_s h.2.2.2⟩
theorem set_ign (x y : Int64) (a b c : Int32) : f_X2_setPower x y a b c = f_X2_setPower 0 0 a b c := rfl
section SL2
variable {t : Tb} {w : Nat → Int32} {par : Nat → Option Nat} {i : Nat}
theorem m_euc (ab be : Int64) (w st fe nx cm : Nat → Int32) (v5 v7 : Int64) : ∀ (q q' x y g : Nat), q ≤ q' → x < 2 ^ 31 → y < 2 ^ 31 → euF q x y = some g → f_X12_slips_292 q' ab be w st fe nx cm v5 v7 (lN x) (lN y) = f_X12_slips_317 ab be w st fe nx cm v5 v7 (lN g) := by
  intro q
  induction q with
  | zero => intro q' x y g _ _ _ h; cases h
  | succ q ih =>
    intro q' x y g hq hx hy h
    obtain ⟨q', rfl⟩ : ∃ p, q' = p + 1 := ⟨q' - 1, by omega⟩
    rw [euF] at h
    rw [f_X12_slips_292]
    by_cases z : y = 0
    · rw [if_pos z] at h
      injection h with h
      rw [if_pos ((lg_eq0 hy).mpr z), h]
    · rw [if_neg z] at h
      have hm : x % y < y := Nat.mod_lt _ (by omega)
      rw [if_neg (fun q => z ((lg_eq0 hy).mp q)), chzl_n (fun q => z ((lg_eq0 hy).mp ((lg_cmp_eq _ _).mpr q))), pk_lRem (by omega) (by omega) (by omega), bnd_s]
      exact ih q' y (x % y) g (by omega) hy (by omega) h
theorem m_317 (ab be : Int64) (w st fe nx cm : Nat → Int32) {S D g : Nat} (hS : S < 2147483648) (hD : D < 2147483648) (h0 : 0 < g) (hg : g < 2147483648) : f_X12_slips_317 ab be w st fe nx cm (lN S) (lN D) (lN g) = some (1, lN (S / g), lN (D / g), w, st, fe, nx, cm) := by
  unfold f_X12_slips_317
  have hz : lN g ≠ 0 := fun q => by
    have := (lN_eq (a := g) (b := 0) hg (by omega)).mp q
    omega
  rw [chzl_n hz, pk_lDiv (by omega) h0 (by omega), bnd_s, chzl_n hz, pk_lDiv (by omega) h0 (by omega), bnd_s]
theorem MT.cc {w : Nat → Int32} {r m m' : Nat} (M : MT w r (cutT t m)) (h : ∀ k, k < tN t → (if m'.testBit k then none else tO t k) = (if m.testBit k then none else tO t k)) : MT w r (cutT t m') := by
  refine ⟨M.1, fun k hk => ?_⟩
  have hh := M.2 k hk
  refine ⟨hh.1, hh.2.1, hh.2.2.1, hh.2.2.2.1, ?_⟩
  show _ = onv (if m'.testBit k then none else tO t k)
  rw [h k hk]
  exact hh.2.2.2.2
theorem bit_lo (m k j : Nat) : (m &&& (2 ^ k - 1)).testBit j = (m.testBit j && decide (j < k)) := by rw [Nat.testBit_and, Nat.testBit_two_pow_sub_one]
/-- the odds of a cut, and its table -/
theorem sl_in (V : VT t) {m s : Nat} (hs : s ≤ 10) (hm : m < 128) (k103 : Int64 → Int64 → (Nat → Int32) → (Nat → Int32) → (Nat → Int32) → (Nat → Int32) → (Nat → Int32) → Int32 → Int32 → Int32 → Int32 → Int64 → Int64 → Int32 → Option (Int32 × Int64 × Int64 × (Nat → Int32) × (Nat → Int32) × (Nat → Int32) × (Nat → Int32) × (Nat → Int32))) (ab be : Int64) (st fe nx cm : Nat → Int32) (v1 v2 v3 : Int32) (v5 v7 : Int64) (w0 : Nat → Int32) (M0 : MT w0 0 t) : ∀ (e k q p : Nat) (w : Nat → Int32), k + e = tN t → e < q → (∀ x, x < 1204 → w x = w0 x) → MT w 1204 (cutT t (m &&& (2 ^ k - 1))) →
    ∃ w', f_X12_slips_126 k103 q ab be w st fe nx cm v1 v2 v3 (nI s) v5 v7 (nI m) (lN p) (nI k) = f_X12_slips_242 k103 ab be w' st fe nx cm v1 v2 v3 (nI s) v5 v7 (nI m) (lN (itr (fun k p => p * wsl t s k (m.testBit k)) e k p)) ∧ (∀ x, x < 1204 → w' x = w0 x) ∧ MT w' 1204 (cutT t (m &&& (2 ^ tN t - 1))) := by
  have hn := V.1
  intro e
  induction e with
  | zero =>
    intro k q p w hk hq hw M
    obtain ⟨q, rfl⟩ : ∃ q', q = q' + 1 := ⟨q - 1, by omega⟩
    obtain rfl : k = tN t := by omega
    rw [f_X12_slips_126, chk_0 (by decide) (by decide), cl_0, hw 0 (by omega), M0.1, if_pos (nI_le (Nat.le_refl _) (by omega))]
    exact ⟨w, rfl, hw, M⟩
  | succ e ih =>
    intro k q p w hk hq hw M
    obtain ⟨q, rfl⟩ : ∃ q', q = q' + 1 := ⟨q - 1, by omega⟩
    have hkn : k < tN t := by omega
    have g4 := M0.go hkn
    rw [show 0 + 31 + k = 31 + k by omega] at g4
    have ey : (31 : Int32) + nI k = nI (31 + k) := nI_add 31 k
    have ex : (1235 : Int32) + nI k = nI (1204 + 31 + k) := nI_add 1235 k
    have em : ∀ c : Nat, lN p * lN c = lN (p * c) := fun c => lN_mul p c
    rw [f_X12_slips_126, chk_0 (by decide) (by decide), cl_0, hw 0 (by omega), M0.1, if_neg (nI_ge hkn (by omega)), ey, chk_n (by omega) (by omega), nI_clamp (by omega), hw _ (by omega), g4]
    show ∃ w', _ = f_X12_slips_242 k103 ab be w' st fe nx cm v1 v2 v3 (nI s) v5 v7 (nI m) (lN (itr (fun k p => p * wsl t s k (m.testBit k)) e (k + 1) (p * wsl t s k (m.testBit k)))) ∧ _
    unfold f_X12_slips_168 f_X12_slips_198 f_X12_slips_235 f_X12_slips_236
    by_cases z : tO t k = none
    · have Mk : MT w 1204 (cutT t (m &&& (2 ^ (k + 1) - 1))) := MT.cc M (fun j hj => by
        rw [bit_lo, bit_lo]
        by_cases y : j = k
        · rw [y, z]; split <;> split <;> rfl
        · by_cases u : j < k
          · rw [decide_eq_true u, decide_eq_true (show j < k + 1 by omega)]
          · rw [decide_eq_false u, decide_eq_false (show ¬ j < k + 1 by omega)])
      rw [if_pos ((onv_nil (V.on31 hkn)).mpr z), m_has (by omega) (by omega), ob1_s]
      by_cases y : m.testBit k = true
      · have ew : wsl t s k (m.testBit k) = 0 := by unfold wsl; rw [if_pos z, y]; rfl
        have e0 : lN p * 0 = lN (p * 0) := em 0
        rw [if_pos y, if_neg one_ne, e0, bnd_s, nI_1, bnd_s, ew]
        exact ih (k + 1) q _ w (by omega) (by omega) hw Mk
      · have ew : wsl t s k (m.testBit k) = 1 := by unfold wsl; rw [if_pos z, not_t y]; rfl
        have e0 : lN p * 1 = lN (p * 1) := em 1
        rw [if_neg y, if_pos rfl, e0, bnd_s, nI_1, bnd_s, ew]
        exact ih (k + 1) q _ w (by omega) (by omega) hw Mk
    · have step : ∀ o : Option Nat, o = (if m.testBit k then none else tO t k) → MT (upd w (1204 + 31 + k) (onv o)) 1204 (cutT t (m &&& (2 ^ (k + 1) - 1))) := by
        intro o ho
        have h := MT.setO M hn k o (onv o) rfl
        refine ⟨h.1, fun j hj => ?_⟩
        have hj : j < tN t := hj
        have hh := h.2 j hj
        refine ⟨hh.1, hh.2.1, hh.2.2.1, hh.2.2.2.1, ?_⟩
        rw [hh.2.2.2.2]
        show onv (if j = k then o else if (m &&& (2 ^ k - 1)).testBit j then none else tO t j) = onv (if (m &&& (2 ^ (k + 1) - 1)).testBit j then none else tO t j)
        rw [bit_lo, bit_lo]
        by_cases u : j = k
        · rw [if_pos u, u, ho, decide_eq_true (show k < k + 1 by omega), Bool.and_true]
        · rw [if_neg u]
          by_cases y : j < k
          · rw [decide_eq_true y, decide_eq_true (show j < k + 1 by omega)]
          · rw [decide_eq_false y, decide_eq_false (show ¬ j < k + 1 by omega)]
      rw [if_neg (fun q => z ((onv_nil (V.on31 hkn)).mp q)), m_has (by omega) (by omega), ob1_s]
      by_cases y : m.testBit k = true
      · have ew : wsl t s k (m.testBit k) = s := by unfold wsl; rw [if_neg z, y]; rfl
        rw [if_pos y, if_neg one_ne, nI_l (by omega), em s, bnd_s, ob1_s, if_neg one_ne, ex, chk_n (by omega) (by omega), nI_clamp (by omega), bnd_s, nI_1, bnd_s, ew]
        exact ih (k + 1) q _ _ (by omega) (by omega) (fun x hx => by rw [pk_un (by omega)]; exact hw x hx) (step none (by rw [if_pos y]))
      · have ew : wsl t s k (m.testBit k) = 10 - s := by unfold wsl; rw [if_neg z, not_t y]; rfl
        have e10 : ((10 : Int32) - nI s).toInt64 = lN (10 - s) := by
          have e : (10 : Int32) - nI s = nI (10 - s) := nI_sub (a := 10) hs
          rw [e, nI_l (by omega)]
        rw [if_neg y, if_pos rfl, e10, em (10 - s), bnd_s, ob1_s, if_pos rfl, ey, chk_n (by omega) (by omega), ex, chk_n (by omega) (by omega), nI_clamp (by omega), nI_clamp (by omega), hw _ (by omega), g4, bnd_s, nI_1, bnd_s, ew]
        exact ih (k + 1) q _ _ (by omega) (by omega) (fun x hx => by rw [pk_un (by omega)]; exact hw x hx) (step (tO t k) (by rw [if_neg y]))
/-- what one cut adds -/
def gsl (t : Tb) (par : Nat → Option Nat) (i tt x s m : Nat) : Nat := if Fe (cutT t m) (parM t par m) i tt x = 0 then 0 else prN (fun k => wsl t s k (m.testBit k)) (tN t)
theorem prN_le {f : Nat → Nat} {B : Nat} : ∀ n, (∀ k, k < n → f k ≤ B) → prN f n ≤ B ^ n := by
  intro n
  induction n with
  | zero => intro _; exact Nat.le_refl _
  | succ n ih =>
    intro h
    rw [prN, Nat.pow_succ]
    exact Nat.mul_le_mul (ih (fun k hk => h k (by omega))) (h n (by omega))
theorem wsl_le {s : Nat} (hs : s ≤ 10) (k : Nat) (b : Bool) : wsl t s k b ≤ 10 := by
  unfold wsl
  split <;> split <;> omega
theorem pr_le (V : VT t) {s : Nat} (hs : s ≤ 10) (m : Nat) : prN (fun k => wsl t s k (m.testBit k)) (tN t) ≤ 10 ^ 7 :=
  Nat.le_trans (prN_le (tN t) (fun k _ => wsl_le hs k _)) (Nat.pow_le_pow_right (by omega) V.1)
theorem sl_go (V : VT t) (Rr : RR (tN t) (tO t) i par) (hi : i < tN t) {x tt s : Nat} (hx : x < tN t) (h1 : 1 ≤ tt) (h20 : tt ≤ 20) (hs : s ≤ 10) (ab be : Int64) (st : Nat → Int32) (v7 : Int64) (w0 : Nat → Int32) (M0 : MT w0 0 t) : ∀ (e m q acc : Nat) (w fe nx cm : Nat → Int32), m + e = 2 ^ tN t → e < q → (∀ x, x < 1204 → w x = w0 x) →
    ∃ w' fe' nx' cm', f_X12_slips_103 q ab be w st fe nx cm (nI i) (nI tt) (nI x) (nI s) (lN acc) v7 (nI m) = f_X12_slips_284 ab be w' st fe' nx' cm' (lN (itr (fun m a => a + gsl t par i tt x s m) e m acc)) v7 ∧ ∀ x, x < 1204 → w' x = w0 x := by
  have hn := V.1
  have h7 : 2 ^ tN t ≤ 128 := Nat.pow_le_pow_right (by omega) hn
  intro e
  induction e with
  | zero =>
    intro m q acc w fe nx cm hm hq hw
    obtain ⟨q, rfl⟩ : ∃ q', q = q' + 1 := ⟨q - 1, by omega⟩
    obtain rfl : m = 2 ^ tN t := by omega
    rw [f_X12_slips_103, chk_0 (by decide) (by decide), cl_0, hw 0 (by omega), M0.1, kb_shl (by omega), if_pos (nI_le (Nat.le_refl _) (by omega))]
    exact ⟨w, fe, nx, cm, rfl, hw⟩
  | succ e ih =>
    intro m q acc w fe nx cm hm hq hw
    obtain ⟨q, rfl⟩ : ∃ q', q = q' + 1 := ⟨q - 1, by omega⟩
    have hmm : m < 2 ^ tN t := by omega
    have Mw : MT w 0 t := MT.fr M0 hn (fun x _ _ _ _ => hw x (by omega))
    obtain ⟨w1, t1, t2⟩ := m_tries w
    have hw1 : ∀ x, x < 1204 → w1 x = w0 x := fun x hx => by rw [t2, if_neg (by omega)]; exact hw x hx
    have M1 : MT w1 1204 (cutT t (m &&& (2 ^ 0 - 1))) := by
      have h := tries_MT Mw hn t2
      refine ⟨h.1, fun k hk => ?_⟩
      have hk : k < tN t := hk
      have hh := h.2 k hk
      refine ⟨hh.1, hh.2.1, hh.2.2.1, hh.2.2.2.1, ?_⟩
      rw [hh.2.2.2.2]
      show onv (tO t k) = onv (if (m &&& (2 ^ 0 - 1)).testBit k then none else tO t k)
      rw [bit_lo, decide_eq_false (Nat.not_lt_zero k), Bool.and_false, if_neg Bool.false_ne_true]
    obtain ⟨w2, e2, hw2, M2⟩ := sl_in V hs (show m < 128 by omega) (f_X12_slips_103 q) ab be st fe nx cm (nI i) (nI tt) (nI x) (lN acc) v7 w0 M0 (tN t) 0 FU 1 w1 (by omega) (Nat.lt_of_le_of_lt hn (by decide)) hw1 M1
    rw [prN_itr] at e2
    have e2 : f_X12_slips_126 (f_X12_slips_103 q) FU ab be w1 st fe nx cm (nI i) (nI tt) (nI x) (nI s) (lN acc) v7 (nI m) 1 0 = f_X12_slips_242 (f_X12_slips_103 q) ab be w2 st fe nx cm (nI i) (nI tt) (nI x) (nI s) (lN acc) v7 (nI m) (lN (prN (fun k => wsl t s k (m.testBit k)) (tN t))) := e2
    rw [and_full hmm] at M2
    have hp := pr_le V hs m
    rw [f_X12_slips_103, chk_0 (by decide) (by decide), cl_0, hw 0 (by omega), M0.1, kb_shl (by omega), if_neg (nI_ge hmm (by omega)), t1, ob1_s, e2]
    show ∃ w' fe' nx' cm', _ = f_X12_slips_284 ab be w' st fe' nx' cm' (lN (itr (fun m a => a + gsl t par i tt x s m) e (m + 1) (acc + gsl t par i tt x s m))) v7 ∧ _
    unfold f_X12_slips_242 f_X12_slips_275 f_X12_slips_278
    by_cases z : prN (fun k => wsl t s k (m.testBit k)) (tN t) = 0
    · have eg : gsl t par i tt x s m = 0 := by unfold gsl; rw [z]; split <;> rfl
      rw [if_pos ((lg_le0 (by omega)).mpr z), nI_1, bnd_s, eg]
      exact ih (m + 1) q acc w2 fe nx cm (by omega) (by omega) hw2
    · have Vc := cutT_V V m
      have Rc := RR_cut V Rr m
      obtain ⟨fe1, nx1, cm1, b1, b2, b3⟩ := m_tugs (t := cutT t m) (v1 := 1204) (r := 1204) rfl M2 Vc (by omega) Rc (tt := tt) h20 h1 hi fe nx cm
      have b1 : f_X12_tugs w2 fe nx cm 1204 (nI i) (nI tt) = some (fe1, nx1, cm1) := b1
      have hle := Fe_le (i := i) Vc Rc.2.2.2 h20 x hx
      have eb2 : fe1 x = nI (Fe (cutT t m) (parM t par m) i tt x) := b2 x hx
      rw [if_neg (fun q => z ((lg_le0 (by omega)).mp q)), b1, ob3_s, chk_n (by omega) (by omega), nI_clamp (by omega), eb2]
      by_cases y : Fe (cutT t m) (parM t par m) i tt x = 0
      · have eg : gsl t par i tt x s m = 0 := by unfold gsl; rw [if_pos y]
        have e0 : lN acc + 0 = lN (acc + 0) := lN_add acc 0
        rw [if_pos ((nI_le0 (by omega)).mpr y), e0, bnd_s, nI_1, bnd_s, eg]
        exact ih (m + 1) q (acc + 0) w2 fe1 nx1 cm1 (by omega) (by omega) hw2
      · have eg : gsl t par i tt x s m = prN (fun k => wsl t s k (m.testBit k)) (tN t) := by unfold gsl; rw [if_neg y]
        rw [if_neg (fun q => y ((nI_le0 (by omega)).mp q)), lN_add, bnd_s, nI_1, bnd_s, eg]
        exact ih (m + 1) q _ w2 fe1 nx1 cm1 (by omega) (by omega) hw2
def den10 (t : Tb) : Nat := prN (fun k => if tO t k = none then 1 else 10) (tN t)
theorem sl_den (V : VT t) (M : MT w 0 t) (ab be : Int64) (st fe nx cm : Nat → Int32) (v1 v2 v3 v4 : Int32) (v5 : Int64) : f_X12_slips_57 FU ab be w st fe nx cm v1 v2 v3 v4 v5 1 0 = f_X12_slips_100 ab be w st fe nx cm v1 v2 v3 v4 v5 (lN (den10 t)) := by
  have hn := V.1
  have e := lup0 (fun q a k => f_X12_slips_57 q ab be w st fe nx cm v1 v2 v3 v4 v5 (lN a) k) (tN t) (Nat.lt_of_le_of_lt hn (by decide)) (fun k a => a * (if tO t k = none then 1 else 10)) (fun a => f_X12_slips_100 ab be w st fe nx cm v1 v2 v3 v4 v5 (lN a)) 1 (fun q k a hk => ?_) (fun q a => ?_)
  · rw [prN_itr] at e; exact e
  · show f_X12_slips_57 (q + 1) ab be w st fe nx cm v1 v2 v3 v4 v5 (lN a) (nI k) = _
    have g4 := M.go hk
    rw [show 0 + 31 + k = 31 + k by omega] at g4
    rw [f_X12_slips_57, chk_0 (by decide) (by decide), cl_0, M.1, if_neg (nI_ge hk (by omega)), show (31 : Int32) = nI 31 from rfl, nI_add, chk_n (by omega) (by omega), nI_clamp (by omega), g4]
    unfold f_X12_slips_91
    by_cases z : tO t k = none
    · have e1 : lN a * 1 = lN (a * 1) := lN_mul a 1
      rw [if_pos ((onv_nil (V.on31 hk)).mpr z), e1, bnd_s, nI_1, bnd_s, if_pos z]
    · have e1 : lN a * 10 = lN (a * 10) := lN_mul a 10
      rw [if_neg (fun q => z ((onv_nil (V.on31 hk)).mp q)), e1, bnd_s, nI_1, bnd_s, if_neg z]
  · show f_X12_slips_57 (q + 1) ab be w st fe nx cm v1 v2 v3 v4 v5 (lN a) (nI (tN t)) = _
    rw [f_X12_slips_57, chk_0 (by decide) (by decide), cl_0, M.1, if_pos (nI_le (Nat.le_refl _) (by omega))]
theorem sumN_zero {g : Nat → Nat} : ∀ n, (∀ k, k < n → g k = 0) → sumN g n = 0 := by
  intro n
  induction n with
  | zero => intro _; rfl
  | succ n ih =>
    intro h
    show sumN g n + g n = 0
    rw [ih (fun k hk => h k (by omega)), h n (by omega)]
theorem den_pow (V : VT t) (Q : Nat → Bool) (hQ : ∀ k, k < tN t → Q k = true → tO t k ≠ none) : den10 t = slA 10 (cnt Q (tN t)) (cnt (fun k => hkd t k && !(Q k)) (tN t)) := by
  unfold den10 slA
  rw [← prN_pow t Q 10 (tN t) hQ]
  refine prN_congr (tN t) (fun k _ => ?_)
  split
  · rfl
  · split <;> rfl
theorem sum_way (V : VT t) {x tt s : Nat} (hs : s ≤ 10) {Q : Nat → Bool} (W : Way t par i tt x Q) (hF : Fe t par i tt x ≠ 0) : sumN (gsl t par i tt x s) (2 ^ tN t) = slA (10 - s) (cnt Q (tN t)) (cnt (fun k => hkd t k && !(Q k)) (tN t)) := by
  have hQ : ∀ k, k < tN t → Q k = true → tO t k ≠ none := fun k _ hk => (W.1 k hk).2.1
  have e : ∀ m, gsl t par i tt x s m = prN (fun k => if (Q k && m.testBit k) = true then 0 else wsl t s k (m.testBit k)) (tN t) := by
    intro m
    unfold gsl
    rw [W.2.2 m]
    by_cases z : allN (fun k => !(Q k && m.testBit k)) (tN t) = true
    · rw [if_pos z, if_neg hF]
      refine prN_congr (tN t) (fun k hk => ?_)
      have h := (allN_iff _ _).mp z k hk
      have h : (!(Q k && m.testBit k)) = true := h
      show wsl t s k (m.testBit k) = if (Q k && m.testBit k) = true then 0 else wsl t s k (m.testBit k)
      rw [if_neg (fun q => by rw [q] at h; exact Bool.noConfusion h)]
    · rw [if_neg z, if_pos rfl]
      have hex : ∃ k, k < tN t ∧ (Q k && m.testBit k) = true := Classical.byContradiction (fun hno => z ((allN_iff _ _).mpr (fun k hk => by
        show (!(Q k && m.testBit k)) = true
        cases y : (Q k && m.testBit k) with
        | false => rfl
        | true => exact absurd ⟨k, hk, y⟩ hno)))
      obtain ⟨k, hk, y⟩ := hex
      exact (prN_zero (k := k) (tN t) hk (by show (if (Q k && m.testBit k) = true then 0 else wsl t s k (m.testBit k)) = 0; rw [if_pos y])).symm
  have e2 := prN_sum (fun k b => if (Q k && b) = true then 0 else wsl t s k b) (tN t)
  rw [sum_congr (fun m _ => e m)]
  refine e2.trans ?_
  unfold slA
  rw [← prN_pow t Q (10 - s) (tN t) hQ]
  refine prN_congr (tN t) (fun k hk => ?_)
  show (if (Q k && false) = true then 0 else wsl t s k false) + (if (Q k && true) = true then 0 else wsl t s k true) = _
  rw [Bool.and_false, if_neg Bool.false_ne_true, Bool.and_true]
  unfold wsl
  by_cases z : tO t k = none
  · rw [if_pos z, if_pos z, if_pos z]
    cases Q k <;> rfl
  · rw [if_neg z, if_neg z, if_neg z]
    by_cases y : Q k = true
    · rw [if_pos y, if_pos y]; rfl
    · rw [if_neg y, if_neg y]
      show 10 - s + s = 10
      omega
end SL2
section SL3
variable {fc w : Nat → Int32} {t : Tb}
theorem c_slips_eq (X : XT fc t) (V : VT t) (M : MT w 0 t) (ab be : Int64) (st st2 tf fe nx cm : Nat → Int32) (x1 x2 x3 x4 : Int32) :
    ∃ (r : Int32) (c : Option Nat) (ab' be' : Int64), (∃ tf', f_X11_slips (nI (tN t)) fc ab be st tf x1 x2 x3 x4 = some (r, ab', be', stx c st, tf')) ∧ (∃ w' fe' nx' cm', f_X12_slips ab be w st2 fe nx cm x1 x2 x3 x4 = some (r, ab', be', w', stx c st2, fe', nx', cm') ∧ ∀ x, x < 1204 → w' x = w x) ∧ (∀ i, c = some i → i < 3) := by
  have hn := V.1
  have hb : ∃ (r : Int32) (c : Option Nat) (ab' be' : Int64), (∃ tf', f_X11_slips_34 (nI (tN t)) fc ab be st tf = some (r, ab', be', stx c st, tf')) ∧ (∃ w' fe' nx' cm', f_X12_slips_41 ab be w st2 fe nx cm = some (r, ab', be', w', stx c st2, fe', nx', cm') ∧ ∀ x, x < 1204 → w' x = w x) ∧ (∀ i, c = some i → i < 3) := by
    refine ⟨-2, some 0, ab, be, ⟨tf, ?_⟩, ⟨w, fe, nx, cm, ?_, fun _ _ => rfl⟩, fun i hi => ?_⟩
    · unfold f_X11_slips_34; rw [x_bad, ob2_s]
    · unfold f_X12_slips_41; rw [m_bad, ob2_s]; rfl
    · injection hi with hi; omega
  unfold f_X11_slips f_X12_slips
  rw [x_isClerk (by omega), m_isClerk M V, ob1_s, ob1_s]
  by_cases h1 : wthn x1 (tN t) = true
  · rw [if_pos h1, if_neg one_ne, if_neg one_ne, x_isTug, m_in, ob1_s, ob1_s]
    by_cases h2 : (1 : Int64).toInt ≤ x2.toInt ∧ x2.toInt ≤ (20 : Int64).toInt
    · rw [if_pos h2, if_neg one_ne, if_neg one_ne, x_isClerk (by omega), m_isClerk M V, ob1_s, ob1_s]
      by_cases h3 : wthn x3 (tN t) = true
      · rw [if_pos h3, if_neg one_ne, if_neg one_ne, x_within, m_in, ob1_s, ob1_s, show (0 : Int32).toInt = (0 : Int64).toInt from rfl, show (10 : Int32).toInt = (10 : Int64).toInt from rfl]
        by_cases h4 : (0 : Int64).toInt ≤ x4.toInt ∧ x4.toInt ≤ (10 : Int64).toInt
        · rw [if_pos h4, if_neg one_ne, if_neg one_ne]
          obtain ⟨i, rfl, hi⟩ := wthn_n h1
          have h2 : 1 ≤ x2.toInt ∧ x2.toInt ≤ 20 := h2
          obtain ⟨tt, rfl, ht, -⟩ := nat_of (v := x2) (by omega)
          obtain ⟨x, rfl, hx⟩ := wthn_n h3
          have h4 : 0 ≤ x4.toInt ∧ x4.toInt ≤ 10 := h4
          obtain ⟨s, rfl, hs, -⟩ := nat_of h4.1
          have hs : s ≤ 10 := by omega
          have Rr := rrp_s V hi
          obtain ⟨tf1, a1, a2, a3⟩ := x_spread X V Rr (tt := tt) (by omega) (by omega) hi tf
          have hle := Fe_le (i := i) V Rr.2.2.2 (tt := tt) (by omega) x hx
          obtain ⟨w', fe', nx', cm', e1, hw⟩ := sl_go V Rr hi hx (tt := tt) (by omega) (by omega) hs ab be st2 (lN (den10 t)) w M (2 ^ tN t) 0 FU 0 w fe nx cm (by omega) (Nat.lt_of_le_of_lt (Nat.pow_le_pow_right (by omega) hn) (by decide)) (fun _ _ => rfl)
          rw [sum_itr] at e1
          have e1 : f_X12_slips_103 FU ab be w st2 fe nx cm (nI i) (nI tt) (nI x) (nI s) 0 (lN (den10 t)) 0 = f_X12_slips_284 ab be w' st2 fe' nx' cm' (lN (sumN (gsl t (rrp t i) i tt x s) (2 ^ tN t))) (lN (den10 t)) := e1
          rw [sl_den V M]
          unfold f_X12_slips_100
          rw [e1, a1, ob1_s, x_feltBy (by omega), ob1_s, a2 x hx]
          unfold f_X12_slips_284
          by_cases z : Fe t (rrp t i) i tt x = 0
          · have eS : sumN (gsl t (rrp t i) i tt x s) (2 ^ tN t) = 0 := sumN_zero _ (fun m _ => by unfold gsl; rw [if_pos (Fe_cut0 V Rr hi tt m x hx z)])
            have eD := den_pow V (fun _ => false) (fun k _ hk => absurd hk Bool.false_ne_true)
            have c0 : cnt (fun _ => false) (tN t) = 0 := by
              have : ∀ n, cnt (fun _ => false) n = 0 := fun n => by
                induction n with
                | zero => rfl
                | succ n ih => show cnt (fun _ => false) n + 0 = 0; rw [ih]
              exact this _
            rw [c0] at eD
            have ce := cnt_le (fun k => hkd t k && !false) (tN t)
            obtain ⟨d1, d2, d3, d4⟩ := sl_dec0 (cnt (fun k => hkd t k && !false) (tN t)) (by omega)
            rw [if_pos ((nI_le0 (by omega)).mpr z), eS, eD, set_ign, d1, ob2_s, m_euc ab be w' st2 fe' nx' cm' _ _ 64 FU 0 _ _ (by decide) (by omega) d4 d2, m_317 ab be w' st2 fe' nx' cm' (by omega) d4 d3 d4]
            exact ⟨1, none, _, _, ⟨tf1, rfl⟩, ⟨w', fe', nx', cm', rfl, hw⟩, fun i hi => by cases hi⟩
          · have hFD := Fe_FD V Rr hi tt x hx z
            obtain ⟨Q, W⟩ := way_ex V Rr hi tt x hx hFD
            obtain ⟨k, e2, hk, e3⟩ := x_hb X V hi hx (FD_topo V Rr x hx hFD).symm
            have ek : cnt Q (tN t) = k := by have := e3 _ Rr; have := W.2.1; omega
            have ct := cnt_two t Q (tN t)
            have eS := sum_way V hs W z
            have eD := den_pow V Q (fun k _ hk => (W.1 k hk).2.1)
            obtain ⟨d1, d2, d3, d4, d5, d6⟩ := sl_dec (10 - s) (by omega) (cnt Q (tN t)) (by omega) (cnt (fun k => hkd t k && !(Q k)) (tN t)) (by omega) (by omega)
            have e10 : (10 : Int32) - nI s = nI (10 - s) := nI_sub (a := 10) hs
            rw [if_neg (fun q => z ((nI_le0 (by omega)).mp q)), e2, ob1_s, set_ign, e10, ← ek, d1, ob2_s, eS, eD, m_euc ab be w' st2 fe' nx' cm' _ _ 64 FU _ _ _ (by decide) d5 d6 d2, m_317 ab be w' st2 fe' nx' cm' d5 d6 d3 d4]
            exact ⟨1, none, _, _, ⟨tf1, rfl⟩, ⟨w', fe', nx', cm', rfl, hw⟩, fun i hi => by cases hi⟩
        · rw [if_neg h4, if_pos rfl, if_pos rfl]; exact hb
      · rw [if_neg h3, if_pos rfl, if_pos rfl]; exact hb
    · rw [if_neg h2, if_pos rfl, if_pos rfl]; exact hb
  · rw [if_neg h1, if_pos rfl, if_pos rfl]; exact hb
end SL3
