/-! ===== the longest way in a string, both sides ===== -/
theorem itr_mono {s : Nat → Nat → Nat} (h : ∀ k v, v ≤ s k v) : ∀ (e i a : Nat), a ≤ itr s e i a := by
  intro e
  induction e with
  | zero => intro i a; exact Nat.le_refl _
  | succ e ih => intro i a; exact Nat.le_trans (h i a) (ih (i + 1) (s i a))
theorem itr_hit {s : Nat → Nat → Nat} (h : ∀ k v, v ≤ s k v) {k c : Nat} (hk : ∀ v, c ≤ s k v) : ∀ (e i a : Nat), i ≤ k → k < i + e → c ≤ itr s e i a := by
  intro e
  induction e with
  | zero => intro i a h1 h2; omega
  | succ e ih =>
    intro i a h1 h2
    rcases Nat.lt_or_ge i k with q | q
    · exact ih (i + 1) (s i a) (by omega) (by omega)
    · obtain rfl : i = k := by omega
      exact Nat.le_trans (hk a) (itr_mono h e (i + 1) (s i a))
theorem itr_bnd {s : Nat → Nat → Nat} {R e0 : Nat} (h : ∀ k v, k < e0 → v ≤ R → s k v ≤ R) : ∀ (e i a : Nat), i + e ≤ e0 → a ≤ R → itr s e i a ≤ R := by
  intro e
  induction e with
  | zero => intro i a _ ha; exact ha
  | succ e ih => intro i a hi ha; exact ih (i + 1) (s i a) (by omega) (h i a (by omega) ha)
noncomputable def Dd (t : Tb) (i j : Nat) : Nat := FDn (rrp t i) i j
def mxN (g : Nat → Nat) (n : Nat) : Nat := itr (fun k v => max v (g k)) n 0 0
theorem mxN_ge {g : Nat → Nat} {n k : Nat} (hk : k < n) : g k ≤ mxN g n := itr_hit (s := fun k v => max v (g k)) (fun _ _ => Nat.le_max_left _ _) (k := k) (fun _ => Nat.le_max_right _ _) n 0 0 (by omega) (by omega)
theorem mxN_le {g : Nat → Nat} {n R : Nat} (h : ∀ k, k < n → g k ≤ R) : mxN g n ≤ R := itr_bnd (s := fun k v => max v (g k)) (e0 := n) (fun k v hk hv => Nat.max_le.mpr ⟨hv, h k hk⟩) n 0 0 (by omega) (Nat.zero_le _)
noncomputable def ecc (t : Tb) (i : Nat) : Nat := mxN (Dd t i) (tN t)
noncomputable def xin (t : Tb) (m i j v : Nat) : Nat := if m.testBit i && m.testBit j then max v (Dd t i j) else v
noncomputable def xout (t : Tb) (m i v : Nat) : Nat := itr (xin t m i) i 0 v
noncomputable def lngX (t : Tb) (m : Nat) : Nat := itr (xout t m) (tN t) 0 1
noncomputable def mout (t : Tb) (m i v : Nat) : Nat := if m.testBit i then max v (ecc t i) else v
noncomputable def lngM (t : Tb) (m : Nat) : Nat := itr (mout t m) (tN t) 0 0
theorem xin_mono (t : Tb) (m i k v : Nat) : v ≤ xin t m i k v := by
  unfold xin
  split
  · exact Nat.le_max_left _ _
  · exact Nat.le_refl _
theorem xout_mono (t : Tb) (m k v : Nat) : v ≤ xout t m k v := itr_mono (xin_mono t m k) k 0 v
theorem mout_mono (t : Tb) (m k v : Nat) : v ≤ mout t m k v := by
  unfold mout
  split
  · exact Nat.le_max_left _ _
  · exact Nat.le_refl _
section LG
variable {t : Tb}
theorem Dd_i (t : Tb) (i : Nat) : Dd t i i = 1 := feel_i
theorem Dd_le (V : VT t) {i x : Nat} (hi : i < tN t) (hx : x < tN t) : Dd t i x ≤ 13 := FD_le V (rrp_s V hi) hi hx
theorem ecc_le (V : VT t) {i : Nat} (hi : i < tN t) : ecc t i ≤ 13 := mxN_le (fun _ hk => Dd_le V hi hk)
theorem lng_eq (V : VT t) {c m : Nat} (hc : c < tN t) (hm : m = strg t c) : lngX t m = lngM t m := by
  have hbit : ∀ k, m.testBit k = true ↔ k < tN t ∧ topo t k = topo t c := fun k => by rw [hm, strg_bit]; simp
  have eM : ∀ i, i < tN t → m.testBit i = true → ecc t i ≤ lngM t m := fun i hi hb => itr_hit (mout_mono t m) (k := i) (fun v => by unfold mout; rw [if_pos hb]; exact Nat.le_max_right _ _) (tN t) 0 0 (by omega) (by omega)
  have eX : ∀ i j, i < tN t → j < i → m.testBit i = true → m.testBit j = true → Dd t i j ≤ lngX t m := fun i j hi hj bi bj => itr_hit (xout_mono t m) (k := i) (fun v => itr_hit (xin_mono t m i) (k := j) (fun v => by unfold xin; rw [bi, bj]; exact Nat.le_max_right _ _) i 0 v (by omega) (by omega)) (tN t) 0 1 (by omega) (by omega)
  have bc : m.testBit c = true := (hbit c).mpr ⟨hc, rfl⟩
  have l1 : 1 ≤ lngX t m := itr_mono (xout_mono t m) (tN t) 0 1
  apply Nat.le_antisymm
  · refine itr_bnd (e0 := tN t) (fun i v hi hv => itr_bnd (e0 := i) (fun j v hj hv => ?_) i 0 v (by omega) hv) (tN t) 0 1 (by omega) ?_
    · unfold xin
      by_cases z : (m.testBit i && m.testBit j) = true
      · rw [if_pos z]
        rw [Bool.and_eq_true] at z
        exact Nat.max_le.mpr ⟨hv, Nat.le_trans (mxN_ge (g := Dd t i) (show j < tN t by omega)) (eM i hi z.1)⟩
      · rw [if_neg z]; exact hv
    · have := Nat.le_trans (mxN_ge (g := Dd t c) hc) (eM c hc bc)
      rw [Dd_i] at this
      exact this
  · refine itr_bnd (e0 := tN t) (fun i v hi hv => ?_) (tN t) 0 0 (by omega) (Nat.zero_le _)
    unfold mout
    by_cases z : m.testBit i = true
    · rw [if_pos z]
      refine Nat.max_le.mpr ⟨hv, mxN_le (fun x hx => ?_)⟩
      by_cases y : Dd t i x = 0
      · omega
      · have ht := FD_topo V (rrp_s V hi) x hx y
        have bx : m.testBit x = true := (hbit x).mpr ⟨hx, ht.trans ((hbit i).mp z).2⟩
        rcases Nat.lt_trichotomy x i with q | q | q
        · exact eX i x hi q z bx
        · rw [q, Dd_i]; exact l1
        · have e : Dd t i x = Dd t x i := FD_symm V (rrp_s V hi) (rrp_s V hx) hi hx ht.symm
          rw [e]
          exact eX x i hx q bx z
    · rw [if_neg z]; exact hv
end LG
section XLG
variable {f : Nat → Int32} {t : Tb}
theorem x_longest (X : XT f t) (V : VT t) {c m : Nat} (hm : m = strg t c) : f_X0_longest 5 (nI (tN t)) 35 f (nI m) = some (nI (lngX t m)) := by
  have hn := V.1
  have hbit : ∀ k, m.testBit k = true ↔ k < tN t ∧ topo t k = topo t c := fun k => by rw [hm, strg_bit]; simp
  have hm7 : m < 128 := by rw [hm]; exact strg_lt V c
  unfold f_X0_longest
  have inr : ∀ (g i v : Nat), i < tN t → v ≤ 13 → f_X0_longest_15 5 (nI (tN t)) 35 f (f_X0_longest_4 5 (nI (tN t)) 35 f g) FU (nI m) (nI v) (nI i) 0 = f_X0_longest_58 5 (nI (tN t)) 35 f (f_X0_longest_4 5 (nI (tN t)) 35 f g) (nI m) (nI (xout t m i v)) (nI i) ∧ xout t m i v ≤ 13 := by
    intro g i v hi hv
    refine lup (fun q v j => f_X0_longest_15 5 (nI (tN t)) 35 f (f_X0_longest_4 5 (nI (tN t)) 35 f g) q (nI m) (nI v) (nI i) j) i (xin t m i) (fun v => f_X0_longest_58 5 (nI (tN t)) 35 f (f_X0_longest_4 5 (nI (tN t)) 35 f g) (nI m) (nI v) (nI i)) (fun _ v => v ≤ 13) (fun q j v hj hv => ?_) (fun q v hv => ?_) i 0 v FU (by omega) (Nat.lt_of_lt_of_le (show i < 7 by omega) (by decide)) hv
    · constructor
      · show f_X0_longest_15 5 (nI (tN t)) 35 f (f_X0_longest_4 5 (nI (tN t)) 35 f g) (q + 1) (nI m) (nI v) (nI i) (nI j) = _
        rw [f_X0_longest_15, if_neg (nI_ge hj (by omega)), x_hasBit (by omega) (by omega), ob1_s]
        unfold f_X0_longest_52 xin
        by_cases bi : m.testBit i = true
        · rw [if_pos bi, if_neg one_ne, x_hasBit (by omega) (by omega), ob1_s]
          by_cases bj : m.testBit j = true
          · obtain ⟨k, e1, hk, e2⟩ := x_hb X V hi (show j < tN t by omega) (((hbit i).mp bi).2.trans ((hbit j).mp bj).2.symm)
            have e3 : Dd t i j = k + 1 := e2 _ (rrp_s V hi)
            rw [if_pos bj, if_neg one_ne, e1, ob1_s, nI_1, bi, bj, e3]
            by_cases z : v < k + 1
            · rw [if_pos (nI_lt z (by omega)), bnd_s, nI_1, bnd_s, show (if (true && true) = true then max v (k + 1) else v) = k + 1 from (by omega : max v (k + 1) = k + 1)]
            · rw [if_neg (nI_nlt (by omega) (by omega)), bnd_s, nI_1, bnd_s, show (if (true && true) = true then max v (k + 1) else v) = v from (by omega : max v (k + 1) = v)]
          · rw [if_neg bj, if_pos rfl, nI_1, bnd_s, if_neg (show ¬ (m.testBit i && m.testBit j) = true from fun q => bj (Bool.and_eq_true _ _ ▸ q).2)]
        · rw [if_neg bi, if_pos rfl, nI_1, bnd_s, if_neg (show ¬ (m.testBit i && m.testBit j) = true from fun q => bi (Bool.and_eq_true _ _ ▸ q).1)]
      · show xin t m i j v ≤ 13
        unfold xin
        split
        · exact Nat.max_le.mpr ⟨hv, Dd_le V hi (by omega)⟩
        · exact hv
    · show f_X0_longest_15 5 (nI (tN t)) 35 f (f_X0_longest_4 5 (nI (tN t)) 35 f g) (q + 1) (nI m) (nI v) (nI i) (nI i) = _
      rw [f_X0_longest_15, if_pos (nI_le (Nat.le_refl _) (by omega))]
  refine (lup (fun q v i => f_X0_longest_4 5 (nI (tN t)) 35 f q (nI m) (nI v) i) (tN t) (xout t m) (fun v => some (nI v)) (fun _ v => v ≤ 13) (fun q i v hi hv => ?_) (fun q v hv => ?_) (tN t) 0 1 FU (by omega) (Nat.lt_of_le_of_lt hn (by decide)) (by omega)).1
  · obtain ⟨e, hb⟩ := inr q i v hi hv
    constructor
    · show f_X0_longest_4 5 (nI (tN t)) 35 f (q + 1) (nI m) (nI v) (nI i) = _
      rw [f_X0_longest_4, x_size, ob1_s, if_neg (nI_ge hi (by omega)), e]
      unfold f_X0_longest_58
      rw [nI_1, bnd_s]
    · exact hb
  · show f_X0_longest_4 5 (nI (tN t)) 35 f (q + 1) (nI m) (nI v) (nI (tN t)) = _
    rw [f_X0_longest_4, x_size, ob1_s, if_pos (nI_le (Nat.le_refl _) (by omega))]
end XLG
