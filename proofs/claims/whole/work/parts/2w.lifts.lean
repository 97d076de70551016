/-! ===== the call lifts, both sides ===== -/
theorem i32_nle {x y : Int32} (h : ¬ x ≤ y) : y < x := by
  apply Int32.lt_iff_toInt_lt.mpr
  have h' : ¬ x.toInt ≤ y.toInt := fun q => h (Int32.le_iff_toInt_le.mpr q)
  omega
noncomputable def GF (p q a : Nat) : Int32 := (f_X5_firstGets (nI p) (nI q) (nI a)).getD 0
noncomputable def GS (p q b : Nat) : Int32 := (f_X5_secondGets (nI p) (nI q) (nI b)).getD 0
def smB {α : Type} : Option α → Bool
  | none => false
  | some _ => true
theorem sm_get {o : Option Int32} (h : smB o = true) : o = some (o.getD 0) := by
  cases o with
  | none => exact Bool.noConfusion (show false = true from h)
  | some v => rfl
theorem gf_dec : ∀ a, a < 64 → ∀ p, p < 10 → ∀ q, q < 10 → smB (f_X5_firstGets (nI p) (nI q) (nI a)) = true ∧ f_X12_getsBy (nI a) (nI p) (nI q) 1 = f_X5_firstGets (nI p) (nI q) (nI a) := by decide +kernel
theorem gs_dec : ∀ b, b < 64 → ∀ p, p < 10 → ∀ q, q < 10 → smB (f_X5_secondGets (nI p) (nI q) (nI b)) = true ∧ f_X12_getsBy (nI b) (nI q) (nI p) 0 = f_X5_secondGets (nI p) (nI q) (nI b) := by decide +kernel
theorem x_GF {a p q : Nat} (ha : a < 64) (hp : p < 10) (hq : q < 10) : f_X5_firstGets (nI p) (nI q) (nI a) = some (GF p q a) := sm_get (gf_dec a ha p hp q hq).1
theorem m_GF {a p q : Nat} (ha : a < 64) (hp : p < 10) (hq : q < 10) : f_X12_getsBy (nI a) (nI p) (nI q) 1 = some (GF p q a) := (gf_dec a ha p hp q hq).2.trans (x_GF ha hp hq)
theorem x_GS {b p q : Nat} (hb : b < 64) (hp : p < 10) (hq : q < 10) : f_X5_secondGets (nI p) (nI q) (nI b) = some (GS p q b) := sm_get (gs_dec b hb p hp q hq).1
theorem m_GS {b p q : Nat} (hb : b < 64) (hp : p < 10) (hq : q < 10) : f_X12_getsBy (nI b) (nI q) (nI p) 0 = some (GS p q b) := (gs_dec b hb p hp q hq).2.trans (x_GS hb hp hq)
noncomputable def rs1 (a b p q v : Nat) : Bool := decide (GF v q a ≤ GF p q a) && decide (GS p v b ≤ GS p q b)
noncomputable def rst (a b p q : Nat) : Bool := allN (rs1 a b p q) 10
noncomputable def Rl (a b c : Nat) : Bool := rst a b (c / 10) (c % 10)
section LI2
variable {a b : Nat}
theorem x_rests_go (ha : a < 64) (hb : b < 64) {p q : Nat} (hp : p < 10) (hq : q < 10) : ∀ (e v g : Nat), v + e = 10 → e < g → f_X5_rests_3 g (nI p) (nI q) (nI a) (nI b) (nI v) = some (b2i (itr (fun v x => x && rs1 a b p q v) e v true)) := by
  intro e
  induction e with
  | zero =>
    intro v g hv hg
    obtain ⟨g, rfl⟩ : ∃ g', g = g' + 1 := ⟨g - 1, by omega⟩
    obtain rfl : v = 10 := by omega
    rw [f_X5_rests_3, if_pos (show (9 : Int32) < nI 10 by decide)]
    rfl
  | succ e ih =>
    intro v g hv hg
    obtain ⟨g, rfl⟩ : ∃ g', g = g' + 1 := ⟨g - 1, by omega⟩
    rw [f_X5_rests_3, if_neg (show ¬ (9 : Int32) < nI v from nI_nlt (a := 9) (by omega) (by omega)), x_GF ha (by omega) hq, ob1_s, x_GF ha hp hq, ob1_s]
    unfold f_X5_rests_31 f_X5_rests_54
    rw [x_GS hb hp (by omega), ob1_s, x_GS hb hp hq, ob1_s, ob1_s, ob1_s]
    show _ = some (b2i (itr (fun v x => x && rs1 a b p q v) e (v + 1) (true && rs1 a b p q v)))
    rw [Bool.true_and]
    unfold rs1
    by_cases z : GF v q a ≤ GF p q a
    · rw [if_pos z, decide_eq_true z, Bool.true_and]
      by_cases y : GS p v b ≤ GS p q b
      · rw [if_pos y, if_pos rfl, if_pos rfl, nI_1, bnd_s, decide_eq_true y]
        exact ih (v + 1) g (by omega) (by omega)
      · rw [if_neg y, if_pos rfl, if_neg one_ne, decide_eq_false y]
        show some 0 = some (b2i (itr (fun i b_1 => b_1 && rs1 a b p q i) e (v + 1) false))
        rw [itr_false]; rfl
    · rw [if_neg z, decide_eq_false z, Bool.false_and]
      show _ = some (b2i (itr (fun i b_1 => b_1 && rs1 a b p q i) e (v + 1) false))
      rw [itr_false, if_neg one_ne, if_neg one_ne, ite_self]
      rfl
theorem x_rests (ha : a < 64) (hb : b < 64) {p q : Nat} (hp : p < 10) (hq : q < 10) : f_X5_rests (nI p) (nI q) (nI a) (nI b) = some (b2i (rst a b p q)) := x_rests_go ha hb hp hq 10 0 FU (by omega) (by decide)
theorem m_rests (ha : a < 64) (hb : b < 64) {p q : Nat} (hp : p < 10) (hq : q < 10) : f_X12_rests (nI a) (nI b) (nI p) (nI q) = some (b2i (rst a b p q)) := by
  unfold f_X12_rests
  exact lup0 (fun g x v => f_X12_rests_6 g (nI a) (nI b) (nI p) (nI q) (b2i x) v) 10 (by decide) (fun v x => x && rs1 a b p q v) (fun x => some (b2i x)) true
    (fun g v x hv => by
      show f_X12_rests_6 (g + 1) (nI a) (nI b) (nI p) (nI q) (b2i x) (nI v) = _
      rw [f_X12_rests_6, if_neg (show ¬ (10 : Int32) ≤ nI v from nI_ge (b := 10) hv (by omega))]
      unfold f_X12_rests_58 f_X12_rests_59
      cases x with
      | false => rw [if_pos (b2i_0.mpr rfl), nI_1, bnd_s]; rfl
      | true =>
        rw [if_neg (show ¬ b2i true = 0 by decide), m_GF ha hv hq, ob1_s, m_GF ha hp hq, ob1_s, Bool.true_and]
        unfold rs1
        by_cases z : GF v q a ≤ GF p q a
        · rw [if_neg (show ¬ GF p q a < GF v q a from fun h => absurd (Int32.lt_iff_toInt_lt.mp h) (by have := Int32.le_iff_toInt_le.mp z; omega)), m_GS hb hp hv, ob1_s, m_GS hb hp hq, ob1_s, decide_eq_true z, Bool.true_and]
          by_cases y : GS p v b ≤ GS p q b
          · rw [if_neg (show ¬ GS p q b < GS p v b from fun h => absurd (Int32.lt_iff_toInt_lt.mp h) (by have := Int32.le_iff_toInt_le.mp y; omega)), nI_1, bnd_s, decide_eq_true y]; rfl
          · rw [if_pos (show GS p q b < GS p v b from i32_nle y), nI_1, bnd_s, decide_eq_false y]; rfl
        · rw [if_pos (show GF p q a < GF v q a from i32_nle z), nI_1, bnd_s, decide_eq_false z, Bool.false_and]; rfl)
    (fun g x => by
      show f_X12_rests_6 (g + 1) (nI a) (nI b) (nI p) (nI q) (b2i x) (nI 10) = _
      rw [f_X12_rests_6, if_pos (show (10 : Int32) ≤ nI 10 by decide), chb_b])
noncomputable def lst (a b c n : Nat) : Nat := n + (if Rl a b c = true then 1 else 0)
theorem b2i_1 {x : Bool} (h : x = true) : ¬ b2i x = 0 := by rw [h]; decide
theorem x_hm_in (ha : a < 64) (hb : b < 64) (k4 : Int32 → Int32 → Int32 → Int32 → Option Int32) {p E : Nat} (hp : p < 10) (hk : ∀ n, k4 (nI a) (nI b) (nI n) (nI (p + 1)) = some (nI (itr (lst a b) E (10 * (p + 1)) n))) : ∀ (e u g n : Nat), u + e = 10 → e < g → f_X5_howMany_13 k4 g (nI a) (nI b) (nI n) (nI p) (nI u) = some (nI (itr (lst a b) (e + E) (10 * p + u) n)) := by
  intro e
  induction e with
  | zero =>
    intro u g n hu hg
    obtain ⟨g, rfl⟩ : ∃ g', g = g' + 1 := ⟨g - 1, by omega⟩
    obtain rfl : u = 10 := by omega
    rw [f_X5_howMany_13, if_pos (show (9 : Int32) < nI 10 by decide)]
    unfold f_X5_howMany_45
    rw [nI_1, bnd_s, hk, Nat.zero_add, show 10 * p + 10 = 10 * (p + 1) by omega]
  | succ e ih =>
    intro u g n hu hg
    obtain ⟨g, rfl⟩ : ∃ g', g = g' + 1 := ⟨g - 1, by omega⟩
    rw [f_X5_howMany_13, if_neg (show ¬ (9 : Int32) < nI u from nI_nlt (a := 9) (by omega) (by omega)), x_rests ha hb hp (by omega), ob1_s, show e + 1 + E = (e + E) + 1 by omega]
    show _ = some (nI (itr (lst a b) (e + E) (10 * p + (u + 1)) (lst a b (10 * p + u) n)))
    have er : Rl a b (10 * p + u) = rst a b p u := by unfold Rl; rw [show (10 * p + u) / 10 = p by omega, show (10 * p + u) % 10 = u by omega]
    unfold f_X5_howMany_37
    have e0 : nI n + 0 = nI (n + 0) := nI_add n 0
    by_cases z : rst a b p u = true
    · have el : lst a b (10 * p + u) n = n + 1 := by unfold lst; rw [er, if_pos z]
      rw [if_neg (b2i_1 z), nI_1, bnd_s, nI_1, bnd_s, el]
      exact ih (u + 1) g (n + 1) (by omega) (by omega)
    · have el : lst a b (10 * p + u) n = n + 0 := by unfold lst; rw [er, if_neg z]
      rw [if_pos (b2i_0.mpr (by cases h : rst a b p u with
        | false => rfl
        | true => exact absurd h z)), e0, bnd_s, nI_1, bnd_s, el]
      exact ih (u + 1) g (n + 0) (by omega) (by omega)
theorem x_hm_out (ha : a < 64) (hb : b < 64) : ∀ (e p g n : Nat), p + e = 10 → e < g → f_X5_howMany_4 g (nI a) (nI b) (nI n) (nI p) = some (nI (itr (lst a b) (10 * e) (10 * p) n)) := by
  intro e
  induction e with
  | zero =>
    intro p g n hp hg
    obtain ⟨g, rfl⟩ : ∃ g', g = g' + 1 := ⟨g - 1, by omega⟩
    obtain rfl : p = 10 := by omega
    rw [f_X5_howMany_4, if_pos (show (9 : Int32) < nI 10 by decide)]
    rfl
  | succ e ih =>
    intro p g n hp hg
    obtain ⟨g, rfl⟩ : ∃ g', g = g' + 1 := ⟨g - 1, by omega⟩
    rw [f_X5_howMany_4, if_neg (show ¬ (9 : Int32) < nI p from nI_nlt (a := 9) (by omega) (by omega))]
    have e1 := x_hm_in ha hb (f_X5_howMany_4 g) (p := p) (E := 10 * e) (by omega) (fun n => ih (p + 1) g n (by omega) (by omega)) 10 0 FU n (by omega) (by decide)
    rw [show 10 * (e + 1) = 10 + 10 * e by omega]
    exact e1
def srch (R : Nat → Bool) (k : Nat) : Nat → Nat → Nat → Option Nat
  | 0, _, _ => none
  | e + 1, c, n => if R c = true then (if n = k then some c else srch R k e (c + 1) (n + 1)) else srch R k e (c + 1) n
def fin5 (o : Option Nat) : Option Int32 := match o with
  | none => some (-5)
  | some c => some (nI c)
theorem x_pr_in (ha : a < 64) (hb : b < 64) (k5 : Int32 → Int32 → Int32 → Int32 → Int32 → Option Int32) {p E k : Nat} (hk31 : k < 2 ^ 31) (hp : p < 10) (hk : ∀ n, n ≤ 10 * (p + 1) → k5 (nI a) (nI b) (nI k) (nI n) (nI (p + 1)) = fin5 (srch (Rl a b) k E (10 * (p + 1)) n)) : ∀ (e u g n : Nat), u + e = 10 → e < g → n ≤ 10 * p + u → f_X5_pair_15 k5 g (nI a) (nI b) (nI k) (nI n) (nI p) (nI u) = fin5 (srch (Rl a b) k (e + E) (10 * p + u) n) := by
  intro e
  induction e with
  | zero =>
    intro u g n hu hg hn
    obtain ⟨g, rfl⟩ : ∃ g', g = g' + 1 := ⟨g - 1, by omega⟩
    obtain rfl : u = 10 := by omega
    rw [f_X5_pair_15, if_pos (show (9 : Int32) < nI 10 by decide)]
    unfold f_X5_pair_57
    rw [nI_1, bnd_s, hk n (by omega), Nat.zero_add, show 10 * p + 10 = 10 * (p + 1) by omega]
  | succ e ih =>
    intro u g n hu hg hn
    obtain ⟨g, rfl⟩ : ∃ g', g = g' + 1 := ⟨g - 1, by omega⟩
    have er : Rl a b (10 * p + u) = rst a b p u := by unfold Rl; rw [show (10 * p + u) / 10 = p by omega, show (10 * p + u) % 10 = u by omega]
    rw [f_X5_pair_15, if_neg (show ¬ (9 : Int32) < nI u from nI_nlt (a := 9) (by omega) (by omega)), x_rests ha hb hp (by omega), ob1_s, show e + 1 + E = (e + E) + 1 by omega, srch, er]
    unfold f_X5_pair_51 f_X5_pair_39
    by_cases z : rst a b p u = true
    · rw [if_neg (b2i_1 z), if_pos z]
      by_cases y : n = k
      · have ec : (10 : Int32) * nI p + nI u = nI (10 * p + u) := by
          have e : (10 : Int32) * nI p = nI (10 * p) := pk_mul 10 p
          rw [e, nI_add]
        rw [if_pos (by rw [y]), if_pos y, ec]; rfl
      · rw [if_neg (fun q => y ((nI_eq (by omega) hk31).mp q)), if_neg y, nI_1, bnd_s, nI_1, bnd_s]
        exact ih (u + 1) g (n + 1) (by omega) (by omega) (by omega)
    · rw [if_pos (b2i_0.mpr (by cases h : rst a b p u with
        | false => rfl
        | true => exact absurd h z)), if_neg z, nI_1, bnd_s]
      exact ih (u + 1) g n (by omega) (by omega) (by omega)
theorem x_pr_out (ha : a < 64) (hb : b < 64) {k : Nat} (hk31 : k < 2 ^ 31) : ∀ (e p g n : Nat), p + e = 10 → e < g → n ≤ 10 * p → f_X5_pair_5 g (nI a) (nI b) (nI k) (nI n) (nI p) = fin5 (srch (Rl a b) k (10 * e) (10 * p) n) := by
  intro e
  induction e with
  | zero =>
    intro p g n hp hg hn
    obtain ⟨g, rfl⟩ : ∃ g', g = g' + 1 := ⟨g - 1, by omega⟩
    obtain rfl : p = 10 := by omega
    rw [f_X5_pair_5, if_pos (show (9 : Int32) < nI 10 by decide)]
    rfl
  | succ e ih =>
    intro p g n hp hg hn
    obtain ⟨g, rfl⟩ : ∃ g', g = g' + 1 := ⟨g - 1, by omega⟩
    rw [f_X5_pair_5, if_neg (show ¬ (9 : Int32) < nI p from nI_nlt (a := 9) (by omega) (by omega))]
    have e1 := x_pr_in ha hb (f_X5_pair_5 g) (p := p) (E := 10 * e) hk31 (by omega) (fun n hn => ih (p + 1) g n (by omega) (by omega) hn) 10 0 FU n (by omega) (by decide) (by omega)
    rw [show 10 * (e + 1) = 10 + 10 * e by omega]
    exact e1
variable {w st : Nat → Int32}
theorem m_lf_rest (ha : a < 64) (hb : b < 64) {c : Nat} (hc : c < 100) : f_X12_rests (nI a) (nI b) (nI c / 10) (nI c - nI c / 10 * 10) = some (b2i (Rl a b c)) := by
  have er : nI c - nI c / 10 * 10 = nI (c % 10) := pk_rem (a := c) (d := 10) (by omega) (by omega) (by omega)
  have ed : nI c / 10 = nI (c / 10) := pk_div (a := c) (d := 10) (by omega) (by omega) (by omega)
  rw [er, ed, m_rests ha hb (by omega) (by omega)]
  rfl
theorem m_hm (ha : a < 64) (hb : b < 64) : ∀ (e c g n : Nat), c + e = 100 → e < g → n ≤ c → f_X12_lifts_65 w g st (-1) (nI a) (nI b) (nI n) (nI c) = some (nI (itr (lst a b) e c n), st) := by
  intro e
  induction e with
  | zero =>
    intro c g n hc hg hn
    obtain ⟨g, rfl⟩ : ∃ g', g = g' + 1 := ⟨g - 1, by omega⟩
    obtain rfl : c = 100 := by omega
    rw [f_X12_lifts_65, if_pos (show (100 : Int32) ≤ nI 100 by decide)]
    unfold f_X12_lifts_110
    rw [if_pos rfl]
    rfl
  | succ e ih =>
    intro c g n hc hg hn
    obtain ⟨g, rfl⟩ : ∃ g', g = g' + 1 := ⟨g - 1, by omega⟩
    rw [f_X12_lifts_65, if_neg (show ¬ (100 : Int32) ≤ nI c from nI_ge (b := 100) (by omega) (by omega)), chz10, chz10, m_lf_rest ha hb (by omega), ob1_s]
    show _ = some (nI (itr (lst a b) e (c + 1) (lst a b c n)), st)
    unfold f_X12_lifts_104
    by_cases z : Rl a b c = true
    · have el : lst a b c n = n + 1 := by unfold lst; rw [if_pos z]
      rw [if_neg (b2i_1 z), if_neg (show ¬ nI n = -1 from fun q => by rw [nI_m1 (by omega)] at q; exact q), nI_1, bnd_s, nI_1, bnd_s, el]
      exact ih (c + 1) g (n + 1) (by omega) (by omega) (by omega)
    · have el : lst a b c n = n := by unfold lst; rw [if_neg z]; rfl
      rw [if_pos (b2i_0.mpr (by cases h : Rl a b c with
        | false => rfl
        | true => exact absurd h z)), nI_1, bnd_s, el]
      exact ih (c + 1) g n (by omega) (by omega) (by omega)
theorem m_pr (ha : a < 64) (hb : b < 64) {k : Nat} (hk31 : k < 2 ^ 31) : ∀ (e c g n : Nat), c + e = 100 → e < g → n ≤ c → ∃ r, f_X12_lifts_65 w g st (nI k) (nI a) (nI b) (nI n) (nI c) = some (r, st) ∧ fin5 (srch (Rl a b) k e c n) = some r := by
  intro e
  induction e with
  | zero =>
    intro c g n hc hg hn
    obtain ⟨g, rfl⟩ : ∃ g', g = g' + 1 := ⟨g - 1, by omega⟩
    obtain rfl : c = 100 := by omega
    rw [f_X12_lifts_65, if_pos (show (100 : Int32) ≤ nI 100 by decide)]
    unfold f_X12_lifts_110
    rw [if_neg (show ¬ nI k = -1 from fun q => by rw [nI_m1 hk31] at q; exact q)]
    exact ⟨-5, rfl, rfl⟩
  | succ e ih =>
    intro c g n hc hg hn
    obtain ⟨g, rfl⟩ : ∃ g', g = g' + 1 := ⟨g - 1, by omega⟩
    rw [f_X12_lifts_65, if_neg (show ¬ (100 : Int32) ≤ nI c from nI_ge (b := 100) (by omega) (by omega)), chz10, chz10, m_lf_rest ha hb (by omega), ob1_s, srch]
    unfold f_X12_lifts_104
    by_cases z : Rl a b c = true
    · rw [if_neg (b2i_1 z), if_pos z]
      by_cases y : n = k
      · rw [if_pos (by rw [y]), if_pos y]
        exact ⟨nI c, rfl, rfl⟩
      · rw [if_neg (fun q => y ((nI_eq (by omega) hk31).mp q)), if_neg y, nI_1, bnd_s, nI_1, bnd_s]
        exact ih (c + 1) g (n + 1) (by omega) (by omega) (by omega)
    · rw [if_pos (b2i_0.mpr (by cases h : Rl a b c with
        | false => rfl
        | true => exact absurd h z)), if_neg z, nI_1, bnd_s]
      exact ih (c + 1) g n (by omega) (by omega) (by omega)
end LI2
section LI3
variable {fc w : Nat → Int32} {t : Tb}
theorem c_lifts_eq (X : XT fc t) (V : VT t) (M : MT w 0 t) (st st2 : Nat → Int32) (x1 x2 x3 : Int32) :
    ∃ (r : Int32) (c : Option Nat), f_X11_lifts (nI (tN t)) fc st x1 x2 x3 = some (r, stx c st) ∧ f_X12_lifts w st2 x1 x2 x3 = some (r, stx c st2) ∧ (∀ i, c = some i → i < 3) := by
  have hn := V.1
  have hb : ∃ (r : Int32) (c : Option Nat), f_X11_lifts_26 (nI (tN t)) fc st = some (r, stx c st) ∧ f_X12_lifts_26 w st2 = some (r, stx c st2) ∧ (∀ i, c = some i → i < 3) := by
    refine ⟨-10, some 0, ?_, ?_, fun i hi => ?_⟩
    · unfold f_X11_lifts_26; rw [x_bad, ob2_s]
    · unfold f_X12_lifts_26; rw [m_bad, ob2_s]; rfl
    · injection hi with hi; omega
  unfold f_X11_lifts f_X12_lifts
  rw [x_isClerk (by omega), m_isClerk M V, ob1_s, ob1_s]
  by_cases h1 : wthn x1 (tN t) = true
  · rw [if_pos h1, if_neg one_ne, if_neg one_ne, x_isClerk (by omega), m_isClerk M V, ob1_s, ob1_s]
    by_cases h2 : wthn x2 (tN t) = true
    · rw [if_pos h2, if_neg one_ne, if_neg one_ne]
      by_cases h3 : x1 = x2
      · rw [if_pos h3, if_pos h3]; exact hb
      · rw [if_neg h3, if_neg h3]
        by_cases h4 : (-1 : Int32) ≤ x3
        · rw [if_pos h4, if_pos h4]
          obtain ⟨i, rfl, hi⟩ := wthn_n h1
          obtain ⟨j, rfl, hj⟩ := wthn_n h2
          have l1 := strg_lt V i
          have l2 := strg_lt V j
          have w1 := wgt_le V (strg t i)
          have w2 := wgt_le V (strg t j)
          rw [x_members X V hi, m_string (v1 := 0) (r := 0) rfl M V (by omega) hi, ob1_s, ob1_s, x_weight X V (by omega), m_weighs (v1 := 0) (r := 0) rfl M V (by omega) (by omega), ob1_s, ob1_s, x_members X V hj, m_string (v1 := 0) (r := 0) rfl M V (by omega) hj, ob1_s, ob1_s, x_weight X V (by omega), m_weighs (v1 := 0) (r := 0) rfl M V (by omega) (by omega), ob1_s, ob1_s]
          by_cases h5 : x3 = -1
          · have e1 := x_hm_out (a := wgt t (strg t i)) (b := wgt t (strg t j)) (by omega) (by omega) 10 0 FU 0 (by omega) (by decide)
            have e1 : f_X5_howMany (nI (wgt t (strg t i))) (nI (wgt t (strg t j))) = some (nI (itr (lst (wgt t (strg t i)) (wgt t (strg t j))) 100 0 0)) := e1
            have e2 := m_hm (w := w) (st := st2) (a := wgt t (strg t i)) (b := wgt t (strg t j)) (by omega) (by omega) 100 0 FU 0 (by omega) (by decide) (by omega)
            have e2 : f_X12_lifts_65 w FU st2 (-1) (nI (wgt t (strg t i))) (nI (wgt t (strg t j))) 0 0 = some (nI (itr (lst (wgt t (strg t i)) (wgt t (strg t j))) 100 0 0), st2) := e2
            rw [if_pos h5, e1, ob1_s, h5, e2]
            exact ⟨_, none, rfl, rfl, fun i hi => by cases hi⟩
          · have h6 : 0 ≤ x3.toInt := by
              have := Int32.le_iff_toInt_le.mp h4
              have e : (-1 : Int32).toInt = -1 := by decide
              rw [e] at this
              by_cases q : x3.toInt = -1
              · exact absurd (Int32.toInt_inj.mp (q.trans e.symm)) h5
              · omega
            obtain ⟨k, rfl, -, hk⟩ := nat_of h6
            have e1 := x_pr_out (a := wgt t (strg t i)) (b := wgt t (strg t j)) (by omega) (by omega) hk 10 0 FU 0 (by omega) (by decide) (by omega)
            have e1 : f_X5_pair (nI (wgt t (strg t i))) (nI (wgt t (strg t j))) (nI k) = fin5 (srch (Rl (wgt t (strg t i)) (wgt t (strg t j))) k 100 0 0) := e1
            obtain ⟨r, e2, e3⟩ := m_pr (w := w) (st := st2) (a := wgt t (strg t i)) (b := wgt t (strg t j)) (by omega) (by omega) hk 100 0 FU 0 (by omega) (by decide) (by omega)
            have e2 : f_X12_lifts_65 w FU st2 (nI k) (nI (wgt t (strg t i))) (nI (wgt t (strg t j))) 0 0 = some (r, st2) := e2
            rw [if_neg h5, e1, e3, ob1_s, e2]
            exact ⟨_, none, rfl, rfl, fun i hi => by cases hi⟩
        · rw [if_neg h4, if_neg h4]; exact hb
    · rw [if_neg h2, if_pos rfl, if_pos rfl]; exact hb
  · rw [if_neg h1, if_pos rfl, if_pos rfl]; exact hb
end LI3
