/-! ===== the call found, both sides ===== -/
noncomputable def rrp (t : Tb) (i : Nat) : Nat → Option Nat := Classical.epsilon (fun par => RR (tN t) (tO t) i par)
theorem rrp_s {t : Tb} (V : VT t) {i : Nat} (hi : i < tN t) : RR (tN t) (tO t) i (rrp t i) := Classical.epsilon_spec (p := fun par => RR (tN t) (tO t) i par) (reroot V.2.2 hi)
noncomputable def cndA (a : Ls) (t : Tb) (i : Nat) : Bool := decide (nI (Fe t (rrp t (a.2 i 0).toNatClampNeg) (a.2 i 0).toNatClampNeg (a.2 i 1).toNatClampNeg (a.2 i 2).toNatClampNeg) = a.2 i 3)
noncomputable def agr (a : Ls) (t : Tb) : Bool := allN (cndA a t) a.1
theorem chb_b {α : Type} (b : Bool) (k : Option α) : chb (b2i b) k = k := chb_01
theorem itr_false (p : Nat → Bool) : ∀ (e j : Nat), itr (fun i b => b && p i) e j false = false := by
  intro e
  induction e with
  | zero => intro j; rfl
  | succ e ih => intro j; exact ih (j + 1)
theorem x_feltBy {fe : Nat → Int32} {k : Nat} (hk : k < 7) : f_X10_feltBy fe (nI k) = some (fe k) := by
  unfold f_X10_feltBy
  rw [cell_in fe hk (by omega), ob1_s]
section FD
variable {f fa w : Nat → Int32} {t : Tb} {a : Ls}
theorem x_agr_go (X : XT f t) (V : VT t) (Xa : XL 4 fa a) (Va : VA (tN t) a) : ∀ (e j q : Nat) (fe : Nat → Int32), j + e = a.1 → e < q → ∃ fe', f_X10_agrees_2 5 (nI (tN t)) 35 f 4 (nI a.1) 20 fa q fe (nI j) = some (b2i (itr (fun i b => b && cndA a t i) e j true), fe') := by
  have hn := V.1
  have h5 := Va.1
  intro e
  induction e with
  | zero =>
    intro j q fe hj hq
    obtain ⟨q, rfl⟩ : ∃ q', q = q' + 1 := ⟨q - 1, by omega⟩
    obtain rfl : j = a.1 := by omega
    rw [f_X10_agrees_2, x_size, ob1_s, if_pos (nI_le (Nat.le_refl _) (by omega))]
    exact ⟨fe, rfl⟩
  | succ e ih =>
    intro j q fe hj hq
    obtain ⟨q, rfl⟩ : ∃ q', q = q' + 1 := ⟨q - 1, by omega⟩
    have hja : j < a.1 := by omega
    obtain ⟨x, y, z, u, a0, a1, a2, a3, b1, b2, b3, b4, b5⟩ := Va.2 j hja
    obtain ⟨fe1, e1, g1, g2⟩ := x_spread X V (rrp_s V b1) (tt := y) b3 b2 b1 fe
    have c1 : (a.2 j 0).toNatClampNeg = x := by rw [a0, nI_clamp (by omega)]
    have c2 : (a.2 j 1).toNatClampNeg = y := by rw [a1, nI_clamp (by omega)]
    have c3 : (a.2 j 2).toNatClampNeg = z := by rw [a2, nI_clamp (by omega)]
    have ec : cndA a t j = decide (nI (Fe t (rrp t x) x y z) = a.2 j 3) := by unfold cndA; rw [c1, c2, c3]
    rw [f_X10_agrees_2, x_size, ob1_s, if_neg (nI_ge hja (by omega)), l_get4 Xa (by omega) (by omega) (by omega) hja 0 0 (by omega) rfl, ob1_s, l_get4 Xa (by omega) (by omega) (by omega) hja 1 1 (by omega) rfl, ob1_s, a0, a1, e1, ob1_s, l_get4 Xa (by omega) (by omega) (by omega) hja 2 2 (by omega) rfl, ob1_s, a2, x_feltBy (by omega), ob1_s, l_get4 Xa (by omega) (by omega) (by omega) hja 3 3 (by omega) rfl, ob1_s, g1 z b4]
    show ∃ fe', _ = some (b2i (itr (fun i b => b && cndA a t i) e (j + 1) (true && cndA a t j)), fe')
    rw [ec]
    by_cases v : nI (Fe t (rrp t x) x y z) = a.2 j 3
    · rw [if_pos v, decide_eq_true v, nI_1, bnd_s]
      exact ih (j + 1) q fe1 (by omega) (by omega)
    · rw [if_neg v, decide_eq_false v, Bool.and_false, itr_false]
      exact ⟨fe1, rfl⟩
theorem x_agr (X : XT f t) (V : VT t) (Xa : XL 4 fa a) (Va : VA (tN t) a) (fe : Nat → Int32) : ∃ fe', f_X10_agrees fe 5 (nI (tN t)) 35 f 4 (nI a.1) 20 fa = some (b2i (agr a t), fe') :=
  x_agr_go X V Xa Va a.1 0 FU fe (by omega) (Nat.lt_of_le_of_lt Va.1 (by decide))
theorem m_agr_go (M : MT w 1204 t) (V : VT t) (Ma : ML 4 47 48 w a) (Va : VA (tN t) a) : ∀ (e j q : Nat) (fe nx cm : Nat → Int32) (b : Bool), j + e = a.1 → e < q → ∃ fe' nx' cm', f_X12_areSo_4 w q fe nx cm (b2i b) (nI j) = some (b2i (itr (fun i b => b && cndA a t i) e j b), fe', nx', cm') := by
  have hn := V.1
  have h5 := Va.1
  have hc := Ma.1
  intro e
  induction e with
  | zero =>
    intro j q fe nx cm b hj hq
    obtain ⟨q, rfl⟩ : ∃ q', q = q' + 1 := ⟨q - 1, by omega⟩
    obtain rfl : j = a.1 := by omega
    rw [f_X12_areSo_4, chk_c 47 47 rfl (by omega), cl_c 47 47 rfl (by omega), hc, if_pos (nI_le (Nat.le_refl _) (by omega)), chb_b]
    exact ⟨fe, nx, cm, rfl⟩
  | succ e ih =>
    intro j q fe nx cm b hj hq
    obtain ⟨q, rfl⟩ : ∃ q', q = q' + 1 := ⟨q - 1, by omega⟩
    have hja : j < a.1 := by omega
    obtain ⟨x, y, z, u, a0, a1, a2, a3, b1, b2, b3, b4, b5⟩ := Va.2 j hja
    obtain ⟨fe1, nx1, cm1, e1, g1, g2⟩ := m_tugs (v1 := 1204) (r := 1204) rfl M V (by omega) (rrp_s V b1) (tt := y) b3 b2 b1 fe nx cm
    have c1 : (a.2 j 0).toNatClampNeg = x := by rw [a0, nI_clamp (by omega)]
    have c2 : (a.2 j 1).toNatClampNeg = y := by rw [a1, nI_clamp (by omega)]
    have c3 : (a.2 j 2).toNatClampNeg = z := by rw [a2, nI_clamp (by omega)]
    have ec : cndA a t j = decide (nI (Fe t (rrp t x) x y z) = a.2 j 3) := by unfold cndA; rw [c1, c2, c3]
    have r0 : w (48 + 4 * j) = nI x := (Ma.2 j hja 0 (by omega)).trans a0
    have r1 : w (48 + 4 * j + 1) = nI y := (Ma.2 j hja 1 (by omega)).trans a1
    have r2 : w (48 + 4 * j + 2) = nI z := (Ma.2 j hja 2 (by omega)).trans a2
    have r3 : w (48 + 4 * j + 3) = a.2 j 3 := Ma.2 j hja 3 (by omega)
    have eb : (48 : Int32) + 4 * nI j = nI (48 + 4 * j) := by
      have e : (4 : Int32) * nI j = nI (4 * j) := pk_mul 4 _
      rw [e]; exact nI_add 48 _
    rw [f_X12_areSo_4, chk_c 47 47 rfl (by omega), cl_c 47 47 rfl (by omega), hc, if_neg (nI_ge hja (by omega)), eb, bnd_s, nI_1, nI_2', nI_3', chk_n (by omega) (by omega), chk_n (by omega) (by omega), nI_clamp (by omega), nI_clamp (by omega), r0, r1, e1, ob3_s]
    show ∃ fe' nx' cm', _ = some (b2i (itr (fun i b => b && cndA a t i) e (j + 1) (b && cndA a t j)), fe', nx', cm')
    rw [ec]
    unfold f_X12_areSo_75 f_X12_areSo_76
    cases b with
    | false =>
      rw [if_pos (b2i_0.mpr rfl), nI_1, bnd_s]
      exact ih (j + 1) q fe1 nx1 cm1 false (by omega) (by omega)
    | true =>
      rw [if_neg (show ¬ b2i true = 0 by decide), chk_n (by omega) (by omega), nI_clamp (by omega), r2, chk_n (by omega) (by omega), chk_n (by omega) (by omega), nI_clamp (by omega), nI_clamp (by omega), r3, g1 z b4]
      by_cases v : nI (Fe t (rrp t x) x y z) = a.2 j 3
      · rw [if_pos v, decide_eq_true v, nI_1, bnd_s]
        exact ih (j + 1) q fe1 nx1 cm1 true (by omega) (by omega)
      · rw [if_neg v, decide_eq_false v, nI_1, bnd_s]
        exact ih (j + 1) q fe1 nx1 cm1 false (by omega) (by omega)
theorem m_agr (M : MT w 1204 t) (V : VT t) (Ma : ML 4 47 48 w a) (Va : VA (tN t) a) (fe nx cm : Nat → Int32) : ∃ fe' nx' cm', f_X12_areSo w fe nx cm = some (b2i (agr a t), fe', nx', cm') :=
  m_agr_go M V Ma Va a.1 0 FU fe nx cm true (by omega) (Nat.lt_of_le_of_lt Va.1 (by decide))
end FD
noncomputable def fnd (t : Tb) (a : Ls) (i k : Nat) : Bool := hold t i k && agr a (stO t i (some k))
noncomputable def fstep (t : Tb) (a : Ls) (i k m : Nat) : Nat := m ||| (if fnd t a i k then 2 ^ k else 0)
theorem hold_ok {t : Tb} {i k : Nat} (h : hold t i k = true) : ovr t i k = false ∧ onN t (some k) < 2 := by
  unfold hold at h
  cases ho : ovr t i k with
  | true => rw [ho] at h; exact Bool.noConfusion (show false = true from h)
  | false => rw [ho] at h; exact ⟨rfl, of_decide_eq_true h⟩
theorem holders_bit (t : Tb) (i k : Nat) : (holders t i).testBit k = (decide (k < tN t) && hold t i k) := mk_bit _ _ _
section FE
variable {fa w : Nat → Int32} {t : Tb} {a : Ls}
theorem XT.reO {f : Nat → Int32} {i : Nat} {o : Option Nat} (X : XT f (stO t i o)) (k : Option Nat) : XT (upd f (i * 5 + 4) (onv k)) (stO t i k) := by
  have h := XT.setO X i k
  refine XT.congr h rfl (fun j hj => ⟨rfl, rfl, rfl, rfl, ?_⟩)
  show (if j = i then k else tO t j) = (if j = i then k else if j = i then o else tO t j)
  by_cases z : j = i
  · rw [if_pos z, if_pos z]
  · rw [if_neg z, if_neg z, if_neg z]
theorem x_found_go (V : VT t) (Xa : XL 4 fa a) (Va : VA (tN t) a) (fc st : Nat → Int32) {i : Nat} (hi : i < tN t) : ∀ (e k q m : Nat) (tf tc : Nat → Int32), k + e = tN t → e < q → (∃ o, XT tc (stO t i o)) →
    ∃ tf' tc', f_X11_found_96 (nI (tN t)) fc (nI a.1) fa q st tf (nI (tN t)) tc (nI i) (nI m) (nI (holders t i)) (nI k) = some (nI (itr (fstep t a i) e k m), st, tf', nI (tN t), tc') := by
  have hn := V.1
  have hh : holders t i < 128 := Nat.lt_of_lt_of_le (mk_lt _ _) (Nat.pow_le_pow_right (by omega) hn)
  intro e
  induction e with
  | zero =>
    intro k q m tf tc hk hq X
    obtain ⟨q, rfl⟩ : ∃ q', q = q' + 1 := ⟨q - 1, by omega⟩
    obtain rfl : k = tN t := by omega
    rw [f_X11_found_96, x_size, ob1_s, if_pos (nI_le (Nat.le_refl _) (by omega))]
    exact ⟨tf, tc, rfl⟩
  | succ e ih =>
    intro k q m tf tc hk hq X
    obtain ⟨q, rfl⟩ : ∃ q', q = q' + 1 := ⟨q - 1, by omega⟩
    have hkn : k < tN t := by omega
    rw [f_X11_found_96, x_size, ob1_s, if_neg (nI_ge hkn (by omega)), x_hasBit (by omega) (by omega), holders_bit, decide_eq_true hkn, Bool.true_and, ob1_s]
    show ∃ tf' tc', _ = some (nI (itr (fstep t a i) e (k + 1) (fstep t a i k m)), st, tf', nI (tN t), tc')
    unfold f_X11_found_161 f_X11_found_163
    by_cases z : hold t i k = true
    · obtain ⟨z1, z2⟩ := hold_ok z
      obtain ⟨o, X⟩ := X
      have V1 : VT (stO t i (some k)) := VT.hook V hkn z1
      have X1 := X.reO (some k)
      obtain ⟨tf1, e1⟩ := x_agr X1 V1 Xa Va tf
      have e1 : f_X10_agrees tf 5 (nI (tN t)) 35 (upd tc (i * 5 + 4) (nI k)) 4 (nI a.1) 20 fa = some (b2i (agr a (stO t i (some k))), tf1) := e1
      rw [if_pos z, if_neg one_ne, c_put (C := 4) (c := 4) rfl hi hn (by omega), ob1_s, e1, ob2_s]
      have ef : fstep t a i k m = m ||| (if agr a (stO t i (some k)) then 2 ^ k else 0) := by unfold fstep fnd; rw [z, Bool.true_and]
      rw [ef]
      by_cases y : agr a (stO t i (some k)) = true
      · rw [if_pos y, if_neg (fun q => by rw [b2i_0.mp q] at y; exact Bool.noConfusion y), kb_shl (by omega), kb_orp, bnd_s, nI_1, bnd_s]
        exact ih (k + 1) q _ tf1 _ (by omega) (by omega) ⟨some k, X1⟩
      · have y' : agr a (stO t i (some k)) = false := by cases h : agr a (stO t i (some k)) with
          | false => rfl
          | true => exact absurd h y
        rw [if_neg y, if_pos (b2i_0.mpr y'), kb_oro, bnd_s, nI_1, bnd_s]
        exact ih (k + 1) q _ tf1 _ (by omega) (by omega) ⟨some k, X1⟩
    · have ef : fstep t a i k m = m := by unfold fstep fnd; rw [show hold t i k = false by cases h : hold t i k with
          | false => rfl
          | true => exact absurd h z, Bool.false_and, if_neg Bool.false_ne_true, Nat.or_zero]
      rw [if_neg z, if_pos rfl, nI_1, bnd_s, ef]
      exact ih (k + 1) q m tf tc (by omega) (by omega) X
theorem ML.hi {w w' : Nat → Int32} {W cn b : Nat} {a : Ls} (M : ML W cn b w a) (hcn : cn < 1204) (hb : b + a.1 * W ≤ 1204) (h : ∀ x, x < 1204 → w' x = w x) : ML W cn b w' a := ML.fr (m := a.1 * W) M (Nat.le_refl _) (fun x hx => h x (by omega))
theorem m_found_go (V : VT t) (Va : VA (tN t) a) (st w0 : Nat → Int32) {i : Nat} (hi : i < tN t) (M0 : MT w0 0 t) (Ma : ML 4 47 48 w0 a) : ∀ (e k q m : Nat) (w fe nx cm : Nat → Int32), k + e = tN t → e < q → (∀ x, x < 1204 → w x = w0 x) →
    ∃ w' fe' nx' cm', f_X12_found_44 q w st fe nx cm (nI i) (nI (holders t i)) (nI m) (nI k) = f_X12_found_104 w' st fe' nx' cm' (nI (itr (fstep t a i) e k m)) ∧ ∀ x, x < 1204 → w' x = w0 x := by
  have hn := V.1
  have h5 := Va.1
  have hh : holders t i < 128 := Nat.lt_of_lt_of_le (mk_lt _ _) (Nat.pow_le_pow_right (by omega) hn)
  intro e
  induction e with
  | zero =>
    intro k q m w fe nx cm hk hq hw
    obtain ⟨q, rfl⟩ : ∃ q', q = q' + 1 := ⟨q - 1, by omega⟩
    obtain rfl : k = tN t := by omega
    rw [f_X12_found_44, chk_0 (by decide) (by decide), cl_0, hw 0 (by omega), M0.1, if_pos (nI_le (Nat.le_refl _) (by omega))]
    exact ⟨w, fe, nx, cm, rfl, hw⟩
  | succ e ih =>
    intro k q m w fe nx cm hk hq hw
    obtain ⟨q, rfl⟩ : ∃ q', q = q' + 1 := ⟨q - 1, by omega⟩
    have hkn : k < tN t := by omega
    rw [f_X12_found_44, chk_0 (by decide) (by decide), cl_0, hw 0 (by omega), M0.1, if_neg (nI_ge hkn (by omega)), m_has (by omega) (by omega), holders_bit, decide_eq_true hkn, Bool.true_and, ob1_s]
    show ∃ w' fe' nx' cm', _ = f_X12_found_104 w' st fe' nx' cm' (nI (itr (fstep t a i) e (k + 1) (fstep t a i k m))) ∧ _
    unfold f_X12_found_96 f_X12_found_98
    by_cases z : hold t i k = true
    · obtain ⟨z1, z2⟩ := hold_ok z
      have V1 : VT (stO t i (some k)) := VT.hook V hkn z1
      have Mw : MT w 0 t := MT.fr M0 hn (fun x _ _ _ _ => hw x (by omega))
      obtain ⟨w1, t1, t2⟩ := m_tries w
      have M1 := MT.setO (tries_MT Mw hn t2) hn i (some k) (nI k) rfl
      have hw2 : ∀ x, x < 1204 → upd w1 (1204 + 31 + i) (nI k) x = w0 x := fun x hx => by rw [pk_un (by omega), t2, if_neg (by omega), hw x hx]
      obtain ⟨fe1, nx1, cm1, e1⟩ := m_agr M1 V1 (ML.hi Ma (by omega) (by omega) hw2) Va fe nx cm
      have ex : (1235 : Int32) + nI i = nI (1204 + 31 + i) := nI_add 1235 i
      rw [if_pos z, if_neg one_ne, t1, ob1_s, ex, chk_n (by omega) (by omega), nI_clamp (by omega), bnd_s, e1, ob4_s]
      have ef : fstep t a i k m = m ||| (if agr a (stO t i (some k)) then 2 ^ k else 0) := by unfold fstep fnd; rw [z, Bool.true_and]
      rw [ef]
      by_cases y : agr a (stO t i (some k)) = true
      · rw [if_pos y, if_neg (fun q => by rw [b2i_0.mp q] at y; exact Bool.noConfusion y), kb_shl (by omega), kb_orp, bnd_s, nI_1, bnd_s]
        exact ih (k + 1) q _ _ fe1 nx1 cm1 (by omega) (by omega) hw2
      · have y' : agr a (stO t i (some k)) = false := by cases h : agr a (stO t i (some k)) with
          | false => rfl
          | true => exact absurd h y
        rw [if_neg y, if_pos (b2i_0.mpr y'), kb_oro, bnd_s, nI_1, bnd_s]
        exact ih (k + 1) q _ _ fe1 nx1 cm1 (by omega) (by omega) hw2
    · have ef : fstep t a i k m = m := by unfold fstep fnd; rw [show hold t i k = false by cases h : hold t i k with
          | false => rfl
          | true => exact absurd h z, Bool.false_and, if_neg Bool.false_ne_true, Nat.or_zero]
      rw [if_neg z, if_pos rfl, nI_1, bnd_s, ef]
      exact ih (k + 1) q m w fe nx cm (by omega) (by omega) hw
theorem fstep_or (i : Nat) : ∀ (e k m : Nat), itr (fstep t a i) e k m = m ||| itr (fstep t a i) e k 0 := by
  intro e
  induction e with
  | zero => intro k m; exact (Nat.or_zero m).symm
  | succ e ih =>
    intro k m
    show itr (fstep t a i) e (k + 1) (fstep t a i k m) = m ||| itr (fstep t a i) e (k + 1) (fstep t a i k 0)
    rw [ih (k + 1) (fstep t a i k m), ih (k + 1) (fstep t a i k 0)]
    show (m ||| (if fnd t a i k then 2 ^ k else 0)) ||| _ = m ||| ((0 ||| (if fnd t a i k then 2 ^ k else 0)) ||| _)
    rw [Nat.zero_or, Nat.or_assoc]
theorem c_found_eq {fc : Nat → Int32} (X : XT fc t) (V : VT t) (M : MT w 0 t) (Xa : XL 4 fa a) (Va : VA (tN t) a) (Ma : ML 4 47 48 w a) (st st2 tf fe nx cm : Nat → Int32) (tsz : Int32) (tc : Nat → Int32) (x1 : Int32) :
    ∃ (r : Int32) (c : Option Nat), (∃ tf' ts' tc', f_X11_found (nI (tN t)) fc (nI a.1) fa st tf tsz tc x1 = some (r, stx c st, tf', ts', tc')) ∧
      (∃ w' fe' nx' cm', f_X12_found w st2 fe nx cm x1 = some (r, w', stx c st2, fe', nx', cm') ∧ ∀ x, x < 1204 → w' x = w x) ∧ (∀ i, c = some i → i < 3) := by
  have hn := V.1
  unfold f_X11_found f_X12_found
  rw [x_isClerk (by omega), m_isClerk M V, ob1_s, ob1_s]
  by_cases h1 : wthn x1 (tN t) = true
  · rw [if_pos h1, if_neg one_ne, if_neg one_ne]
    obtain ⟨i, rfl, hi⟩ := wthn_n h1
    have g4 := M.go hi
    rw [show 0 + 31 + i = 31 + i by omega] at g4
    rw [X.o hi hn, ob1_s, show (31 : Int32) = nI 31 from rfl, nI_add, chk_n (by omega) (by omega), nI_clamp (by omega), g4]
    by_cases z : tO t i = none
    · have z' := (onv_nil (V.on31 hi)).mpr z
      rw [if_pos z', if_pos z', m_holders M V hi, ob1_s]
      obtain ⟨f1, a1, X1⟩ := x_trial (sz := tsz) (f0 := tc) X hn
      obtain ⟨tf1, a2⟩ := x_agr X1 V Xa Va tf
      have X2 : XT f1 (stO t i none) := XT.congr X1 rfl (fun j _ => ⟨rfl, rfl, rfl, rfl, by
        show (if j = i then none else tO t j) = tO t j
        by_cases y : j = i
        · rw [if_pos y, y, z]
        · rw [if_neg y]⟩)
      obtain ⟨w1, fe1, nx1, cm1, b1, b2⟩ := m_found_go V Va st2 w hi M Ma (tN t) 0 FU 0 w fe nx cm (by omega) (Nat.lt_of_le_of_lt hn (by decide)) (fun _ _ => rfl)
      have b1 : f_X12_found_44 FU w st2 fe nx cm (nI i) (nI (holders t i)) 0 0 = f_X12_found_104 w1 st2 fe1 nx1 cm1 (nI (itr (fstep t a i) (tN t) 0 0)) := b1
      rw [b1]
      unfold f_X12_found_104
      obtain ⟨w2, t1, t2⟩ := m_tries w1
      have M1 : MT w1 0 t := MT.fr M hn (fun x _ _ _ _ => b2 x (by omega))
      have hw2 : ∀ x, x < 1204 → w2 x = w x := fun x hx => by rw [t2, if_neg (by omega), b2 x hx]
      have h5 := Va.1
      obtain ⟨fe2, nx2, cm2, b3⟩ := m_agr (tries_MT M1 hn t2) V (ML.hi Ma (by omega) (by omega) hw2) Va fe1 nx1 cm1
      rw [t1, ob1_s, b3, ob4_s, a1, ob2_s, a2, ob2_s]
      unfold f_X12_found_123 f_X11_found_80
      rw [x_holders X V hi, ob1_s]
      by_cases y : agr a t = true
      · obtain ⟨tf2, tc2, a3⟩ := x_found_go V Xa Va fc st hi (tN t) 0 FU 128 tf1 f1 (by omega) (Nat.lt_of_le_of_lt hn (by decide)) ⟨none, X2⟩
        have a3 : f_X11_found_96 (nI (tN t)) fc (nI a.1) fa FU st tf1 (nI (tN t)) f1 (nI i) 128 (nI (holders t i)) 0 = some (nI (itr (fstep t a i) (tN t) 0 128), st, tf2, nI (tN t), tc2) := a3
        rw [if_neg (fun q => by rw [b2i_0.mp q] at y; exact Bool.noConfusion y), if_neg (fun q => by rw [b2i_0.mp q] at y; exact Bool.noConfusion y), ob1_s, a3, fstep_or i (tN t) 0 128, Nat.or_comm, ← kb_or]
        exact ⟨_, none, ⟨_, _, _, rfl⟩, ⟨w2, _, _, _, rfl, hw2⟩, fun i hi => by cases hi⟩
      · have y' : agr a t = false := by cases h : agr a t with
          | false => rfl
          | true => exact absurd h y
        obtain ⟨tf2, tc2, a3⟩ := x_found_go V Xa Va fc st hi (tN t) 0 FU 0 tf1 f1 (by omega) (Nat.lt_of_le_of_lt hn (by decide)) ⟨none, X2⟩
        have a3 : f_X11_found_96 (nI (tN t)) fc (nI a.1) fa FU st tf1 (nI (tN t)) f1 (nI i) 0 (nI (holders t i)) 0 = some (nI (itr (fstep t a i) (tN t) 0 0), st, tf2, nI (tN t), tc2) := a3
        rw [if_pos (b2i_0.mpr y'), if_pos (b2i_0.mpr y'), a3, kb_oro, Nat.or_zero]
        exact ⟨_, none, ⟨_, _, _, rfl⟩, ⟨w2, _, _, _, rfl, hw2⟩, fun i hi => by cases hi⟩
    · have z' : ¬ onv (tO t i) = -1 := fun q => z ((onv_nil (V.on31 hi)).mp q)
      rw [if_neg z', if_neg z', x_no, m_no, ob2_s, ob2_s]
      refine ⟨-3, some 1, ⟨_, _, _, rfl⟩, ⟨w, _, _, _, rfl, fun _ _ => rfl⟩, fun i hi => ?_⟩
      injection hi with hi; omega
  · rw [if_neg h1, if_pos rfl, if_pos rfl, x_bad, m_bad, ob2_s, ob2_s]
    refine ⟨-2, some 0, ⟨_, _, _, rfl⟩, ⟨w, _, _, _, rfl, fun _ _ => rfl⟩, fun i hi => ?_⟩
    injection hi with hi; omega
end FE
