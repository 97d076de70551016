/-! ===== lunch: the reference's search is the first machine ===== -/
theorem dm1 (d : Nat) : nI (d + 1) - 1 = nI d := by
  have : nI (d + 1) - nI 1 = nI (d + 1 - 1) := nI_sub (by omega)
  exact this
theorem dm2 (d : Nat) : nI d + (-1) = nI d - 1 := by rw [Int32.sub_eq_add_neg]
theorem dm3 (x : Nat) : (nI x - 1) + 1 = nI x := Int32.sub_add_cancel _ _
theorem fnd_s (L s : Nat) (k : List Nat) (ub g e : Nat) : fndR L s k ub (g + 1) e = cond (Nat.ble e ub) (cond (Nat.ble (gl k e + s) L) (some e) (cond (Nat.ble (gl k e + s) 1000) (fndR L s k ub g (e + 1)) none)) (some e) := rfl
abbrev SK : Type := (Nat → Int32) → (Nat → Int32) → (Nat → Int32) → Int32 → Int32 → Int32 → Int32 → Option (Int32 × (Nat → Int32) × (Nat → Int32) × (Nat → Int32))
theorem m_fnd {szf kf uf af : Nat → Int32} {k : List Nat} {d ub s L : Nat} (k43 : SK) (hk : ∀ i, i < 8 → kf i = nI (gl k i)) (hu : uf d = nI ub) (hub : ub ≤ 7) (hd : d < 7) (hz : szf d = nI s) (hL : L ≤ 7) (v1 v3 : Int32) : ∀ (g q e r : Nat), g ≤ q → e ≤ 8 → fndR L s k ub g e = some r →
    f_X12_fewestTables_126 szf k43 q af uf kf v1 (nI L) v3 (nI d) (nI e) = f_X12_fewestTables_163 szf k43 af uf kf v1 (nI L) v3 (nI d) (nI r) ∧ r ≤ 8 := by
  intro g
  induction g with
  | zero => intro q e r hq he h; cases h
  | succ g ih =>
    intro q e r hq he h
    obtain ⟨q, rfl⟩ : ∃ q', q = q' + 1 := ⟨q - 1, by omega⟩
    rw [fnd_s] at h
    rw [f_X12_fewestTables_126, chk_n (show d < 8 by omega) (by omega), nI_clamp (show d < 2 ^ 31 by omega), hu]
    by_cases z : e ≤ ub
    · rw [bc_t z] at h
      rw [if_neg (nI_nlt z (by omega)), chk_n (show e < 8 by omega) (by omega), chk_n (show d < 7 from hd) (by omega), nI_clamp (show e < 2 ^ 31 by omega), hk e (by omega), hz, nI_add]
      by_cases y : gl k e + s ≤ L
      · rw [bc_t y] at h
        injection h with h
        rw [if_pos (nI_le y (by omega)), h]
        exact ⟨rfl, by omega⟩
      · rw [bc_f y] at h
        by_cases x : gl k e + s ≤ 1000
        · rw [bc_t x] at h
          rw [if_neg (nI_ge (by omega) (by omega)), nI_1, bnd_s]
          exact ih q (e + 1) r (by omega) (by omega) h
        · rw [bc_f x] at h
          cases h
    · rw [bc_f z] at h
      injection h with h
      rw [if_pos (nI_lt (show ub < e by omega) (by omega)), h]
      exact ⟨rfl, by omega⟩
theorem dfs_0 (z : List Nat) (P L g : Nat) (a u k : List Nat) (best : Nat) : dfsR z P L (g + 1) a u k best 0 = some best := rfl
theorem dfs_s (z : List Nat) (P L g : Nat) (a u k : List Nat) (best d : Nat) : dfsR z P L (g + 1) a u k best (d + 1) =
      cond (Nat.ble (gl u d) 7)
        (cond (Nat.beq d P) (frc (cond (Nat.ble best (gl u d)) best (gl u d)) fun b' => dfsR z P L g a u k b' d)
          (cond (Nat.ble (gl a d) 8)
            (cond (Nat.ble (gl z d) (cond (Nat.ble 1 (gl a d)) (gl k (gl a d - 1)) 1000))
              ((fun k1 => Option.rec none (fun e0 => frc e0 fun e => cond (Nat.ble e (gl u d))
                (dfsR z P L g (sl (sl a d (e + 1)) (d + 1) 0) (sl u (d + 1) (cond (Nat.beq e (gl u d)) (e + 1) (gl u d))) (sl k1 e (gl k1 e + gl z d)) best (d + 2))
                (dfsR z P L g a u k1 best d)) (fndR L (gl z d) k1 (gl u d) 9 (gl a d)))
                (cond (Nat.ble 1 (gl a d)) (sl k (gl a d - 1) (gl k (gl a d - 1) - gl z d)) k)) none) none)) none := rfl
theorem m_dfs {z : List Nat} {szf : Nat → Int32} {P L : Nat} (hP : P ≤ 7) (hL : L ≤ 7) (hz : ∀ i, i < P → szf i = nI (gl z i)) : ∀ (g q : Nat) (a u k : List Nat) (best D : Nat) (af uf kf : Nat → Int32) (r : Nat), g ≤ q → q ≤ FU → a.length = 8 → u.length = 8 → k.length = 8 → (∀ i, i < D → af i = nI (gl a i) - 1) → (∀ i, i < D → uf i = nI (gl u i)) → (∀ i, i < 8 → kf i = nI (gl k i)) → D ≤ P + 1 → best ≤ 7 → dfsR z P L g a u k best D = some r →
    ∃ af' uf' kf', f_X12_fewestTables_43 szf q af uf kf (nI P) (nI L) (nI best) (nI D - 1) = some (nI r, af', uf', kf') := by
  intro g
  induction g with
  | zero => intro q a u k best D af uf kf r _ _ _ _ _ _ _ _ _ _ h; cases h
  | succ g ih =>
    intro q a u k best D af uf kf r hq hq2 la lu lk ha hu hk hD hb h
    obtain ⟨q, rfl⟩ : ∃ q', q = q' + 1 := ⟨q - 1, by omega⟩
    cases D with
    | zero =>
      rw [dfs_0] at h
      injection h with h
      rw [f_X12_fewestTables_43, if_pos (show nI 0 - 1 < (0 : Int32) by decide), h]
      exact ⟨_, _, _, rfl⟩
    | succ d =>
      rw [dfs_s] at h
      have hud := hu d (by omega)
      have had := ha d (by omega)
      rw [dm1, f_X12_fewestTables_43, if_neg (nI_pos (show d < 2 ^ 31 by omega))]
      by_cases u7 : gl u d ≤ 7
      · rw [bc_t u7] at h
        by_cases dp : d = P
        · rw [be_t dp, frc_s] at h
          rw [if_pos (show nI d = nI P by rw [dp]), chk_n (show d < 8 by omega) (by omega), nI_clamp (show d < 2 ^ 31 by omega), hud]
          by_cases b : best ≤ gl u d
          · rw [bc_t b] at h
            rw [if_pos (nI_le b (by omega))]
            unfold f_X12_fewestTables_76
            rw [dm2, bnd_s]
            exact ih q a u k best d af uf kf r (by omega) (by omega) la lu lk (fun i hi => ha i (by omega)) (fun i hi => hu i (by omega)) hk (by omega) hb h
          · rw [bc_f b] at h
            rw [if_neg (nI_ge (by omega) (by omega)), chk_n (show d < 8 by omega) (by omega)]
            unfold f_X12_fewestTables_76
            rw [dm2, bnd_s]
            exact ih q a u k (gl u d) d af uf kf r (by omega) (by omega) la lu lk (fun i hi => ha i (by omega)) (fun i hi => hu i (by omega)) hk (by omega) u7 h
        · rw [be_f dp] at h
          rw [if_neg (show ¬ nI d = nI P from fun y => dp ((nI_eq (by omega) (by omega)).mp y))]
          have hdP : d < P := by omega
          have hzd := hz d hdP
          have key : ∀ (k1 : List Nat) (kf1 : Nat → Int32), gl a d ≤ 8 → k1.length = 8 → (∀ i, i < 8 → kf1 i = nI (gl k1 i)) → (Option.rec none (fun e0 => frc e0 fun e => cond (Nat.ble e (gl u d))
                (dfsR z P L g (sl (sl a d (e + 1)) (d + 1) 0) (sl u (d + 1) (cond (Nat.beq e (gl u d)) (e + 1) (gl u d))) (sl k1 e (gl k1 e + gl z d)) best (d + 2))
                (dfsR z P L g a u k1 best d)) (fndR L (gl z d) k1 (gl u d) 9 (gl a d)) : Option Nat) = some r →
              ∃ af' uf' kf', f_X12_fewestTables_115 szf (f_X12_fewestTables_43 szf q) af uf kf1 (nI P) (nI L) (nI best) (nI d) = some (nI r, af', uf', kf') := by
            intro k1 kf1 a8 lk1 hk1 h
            unfold f_X12_fewestTables_115
            rw [chk_n (show d < 8 by omega) (by omega), nI_clamp (show d < 2 ^ 31 by omega), had, dm3, bnd_s]
            cases hf : fndR L (gl z d) k1 (gl u d) 9 (gl a d) with
            | none => rw [hf] at h; cases h
            | some e =>
              rw [hf] at h
              have h : (frc e fun e => cond (Nat.ble e (gl u d))
                (dfsR z P L g (sl (sl a d (e + 1)) (d + 1) 0) (sl u (d + 1) (cond (Nat.beq e (gl u d)) (e + 1) (gl u d))) (sl k1 e (gl k1 e + gl z d)) best (d + 2))
                (dfsR z P L g a u k1 best d)) = some r := h
              rw [frc_s] at h
              obtain ⟨f1, f2⟩ := m_fnd (af := af) (f_X12_fewestTables_43 szf q) hk1 hud u7 (show d < 7 by omega) hzd hL (nI P) (nI best) 9 FU (gl a d) e (by decide) a8 hf
              rw [f1]
              unfold f_X12_fewestTables_163
              rw [chk_n (show d < 8 by omega) (by omega), nI_clamp (show d < 2 ^ 31 by omega), hud]
              by_cases y : e ≤ gl u d
              · rw [bc_t y] at h
                have hc : ∀ (v : Nat) (uv : Int32), uv = nI v → dfsR z P L g (sl (sl a d (e + 1)) (d + 1) 0) (sl u (d + 1) v) (sl k1 e (gl k1 e + gl z d)) best (d + 2) = some r →
                    ∃ af' uf' kf', f_X12_fewestTables_241 szf (f_X12_fewestTables_43 szf q) (upd af d (nI e)) uf (upd kf1 e (nI (gl k1 e + gl z d))) (nI P) (nI L) (nI best) (nI d) (nI (d + 1)) uv = some (nI r, af', uf', kf') := by
                  intro v uv huv h
                  unfold f_X12_fewestTables_241 f_X12_fewestTables_253
                  rw [chk_n (show d + 1 < 8 by omega) (by omega), nI_clamp (show d + 1 < 2 ^ 31 by omega), bnd_s, nI_1, bnd_s, chk_n (show d + 1 < 8 by omega) (by omega), nI_clamp (show d + 1 < 2 ^ 31 by omega), bnd_s, ← dm1 (d + 1)]
                  refine ih q _ _ _ best (d + 2) _ _ _ r (by omega) (by omega) (by rw [sl_len, sl_len]; exact la) (by rw [sl_len]; exact lu) (by rw [sl_len]; exact lk1) (fun i hi => ?_) (fun i hi => ?_) (fun i hi => ?_) (by omega) hb h
                  · rw [gl_sl _ _ _ _ (by rw [sl_len, la]; omega)]
                    by_cases w1 : i = d + 1
                    · rw [if_pos w1, w1, pk_us]; rfl
                    · rw [if_neg w1, pk_un w1, gl_sl _ _ _ _ (by rw [la]; omega)]
                      by_cases w2 : i = d
                      · rw [if_pos w2, w2, pk_us, dm1]
                      · rw [if_neg w2, pk_un w2]; exact ha i (by omega)
                  · rw [gl_sl _ _ _ _ (by rw [lu]; omega)]
                    by_cases w1 : i = d + 1
                    · rw [if_pos w1, w1, pk_us]; exact huv
                    · rw [if_neg w1, pk_un w1]; exact hu i (by omega)
                  · rw [gl_sl _ _ _ _ (by rw [lk1]; omega)]
                    by_cases w1 : i = e
                    · rw [if_pos w1, w1, pk_us]
                    · rw [if_neg w1, pk_un w1]; exact hk1 i hi
                rw [if_pos (nI_le y (by omega)), chk_n (show d < 8 by omega) (by omega), bnd_s, chk_n (show e < 8 by omega) (by omega), chk_n (show d < 7 by omega) (by omega), chk_n (show e < 8 by omega) (by omega), nI_clamp (show e < 2 ^ 31 by omega), hk1 e (by omega), hzd, nI_add, bnd_s, chk_n (show d < 8 by omega) (by omega), nI_1, nI_1]
                by_cases x : e = gl u d
                · rw [be_t x] at h
                  rw [if_pos (show nI e = nI (gl u d) by rw [x])]
                  exact hc (e + 1) _ rfl h
                · rw [be_f x] at h
                  rw [if_neg (show ¬ nI e = nI (gl u d) from fun y => x ((nI_eq (by omega) (by omega)).mp y)), chk_n (show d < 8 by omega) (by omega)]
                  exact hc (gl u d) _ rfl h
              · rw [bc_f y] at h
                rw [if_neg (nI_ge (by omega) (by omega)), dm2, bnd_s]
                unfold f_X12_fewestTables_253
                exact ih q a u k1 best d af uf kf1 r (by omega) (by omega) la lu lk1 (fun i hi => ha i (by omega)) (fun i hi => hu i (by omega)) hk1 (by omega) hb h
          by_cases a8 : gl a d ≤ 8
          · rw [bc_t a8] at h
            rw [chk_n (show d < 8 by omega) (by omega), nI_clamp (show d < 2 ^ 31 by omega), had]
            by_cases a0 : 1 ≤ gl a d
            · obtain ⟨e0, he0⟩ : ∃ e0, gl a d = e0 + 1 := ⟨gl a d - 1, by omega⟩
              rw [bc_t a0, bc_t a0, he0, Nat.add_sub_cancel] at h
              by_cases s0 : gl z d ≤ gl k e0
              · rw [bc_t s0] at h
                rw [he0, dm1, if_neg (nI_pos (show e0 < 2 ^ 31 by omega)), chk_n (show d < 8 by omega) (by omega), chk_n (show e0 < 8 by omega) (by omega), chk_n (show d < 7 by omega) (by omega), chk_n (show e0 < 8 by omega) (by omega), nI_clamp (show e0 < 2 ^ 31 by omega), hk e0 (by omega), hzd, nI_sub s0, bnd_s]
                refine key (sl k e0 (gl k e0 - gl z d)) _ a8 (by rw [sl_len]; exact lk) (fun i hi => ?_) (by rw [he0]; exact h)
                rw [gl_sl _ _ _ _ (by rw [lk]; omega)]
                by_cases w1 : i = e0
                · rw [if_pos w1, w1, pk_us]
                · rw [if_neg w1, pk_un w1]; exact hk i hi
              · rw [bc_f s0] at h
                cases h
            · rw [bc_f a0, bc_f a0] at h
              by_cases s0 : gl z d ≤ 1000
              · rw [bc_t s0] at h
                rw [show gl a d = 0 by omega, if_pos (show nI 0 - 1 < (0 : Int32) by decide)]
                exact key k kf a8 lk hk h
              · rw [bc_f s0] at h
                cases h
          · rw [bc_f a8] at h
            cases h
      · rw [bc_f u7] at h
        cases h
theorem m_tab0 (szf : Nat → Int32) (af uf : Nat → Int32) (v1 v2 v3 v4 : Int32) : ∀ (e j q : Nat) (kf : Nat → Int32), j + e = 8 → e < q → (∀ i, i < j → kf i = 0) →
    ∃ kf', f_X12_fewestTables_22 szf q af uf kf v1 v2 v3 v4 (nI j) = f_X12_fewestTables_43 szf FU af uf kf' v1 v2 v3 v4 ∧ ∀ i, i < 8 → kf' i = 0 := by
  intro e
  induction e with
  | zero =>
    intro j q kf hj hq h
    obtain ⟨q, rfl⟩ : ∃ q', q = q' + 1 := ⟨q - 1, by omega⟩
    obtain rfl : j = 8 := by omega
    rw [f_X12_fewestTables_22, if_pos (show (8 : Int32) ≤ nI 8 by decide)]
    exact ⟨kf, rfl, h⟩
  | succ e ih =>
    intro j q kf hj hq h
    obtain ⟨q, rfl⟩ : ∃ q', q = q' + 1 := ⟨q - 1, by omega⟩
    rw [f_X12_fewestTables_22, if_neg (show ¬ (8 : Int32) ≤ nI j from nI_ge (b := 8) (by omega) (by omega)), chk_n (show j < 8 by omega) (by omega), nI_clamp (by omega), bnd_s, nI_1, bnd_s]
    refine ih (j + 1) q _ (by omega) (by omega) (fun i hi => ?_)
    by_cases y : i = j
    · rw [y, pk_us]
    · rw [pk_un y]; exact h i (by omega)
theorem m_fewest {z : List Nat} {szf : Nat → Int32} {L r : Nat} (hP : z.length ≤ 7) (hL : L ≤ 7) (hz : ∀ i, i < z.length → szf i = nI (gl z i)) (af uf kf : Nat → Int32) (h : dfsA z L = some r) :
    ∃ af' uf' kf', f_X12_fewestTables szf af uf kf (nI z.length) (nI L) = some (nI r, af', uf', kf') := by
  unfold f_X12_fewestTables
  obtain ⟨kf1, e1, h1⟩ := m_tab0 szf (upd af 0 (-1)) (upd uf 0 0) (nI z.length) (nI L) (nI z.length) 0 8 0 FU kf (by omega) (by decide) (fun i hi => absurd hi (Nat.not_lt_zero i))
  have e1 : f_X12_fewestTables_22 szf FU (upd af 0 (-1)) (upd uf 0 0) kf (nI z.length) (nI L) (nI z.length) 0 0 = f_X12_fewestTables_43 szf FU (upd af 0 (-1)) (upd uf 0 0) kf1 (nI z.length) (nI L) (nI z.length) 0 := e1
  rw [chk_0 (by decide) (by decide), bnd_s, chk_0 (by decide) (by decide), cl_0, bnd_s, e1]
  have hm := m_dfs hP hL hz 3000 FU [0, 0, 0, 0, 0, 0, 0, 0] [0, 0, 0, 0, 0, 0, 0, 0] [0, 0, 0, 0, 0, 0, 0, 0] z.length 1 (upd af 0 (-1)) (upd uf 0 0) kf1 r (by decide) (Nat.le_refl _) rfl rfl rfl
    (fun i hi => by rw [show i = 0 by omega, pk_us]; rfl) (fun i hi => by rw [show i = 0 by omega, pk_us]; rfl)
    (fun i hi => by
      rw [h1 i hi]
      rcases (show i = 0 ∨ i = 1 ∨ i = 2 ∨ i = 3 ∨ i = 4 ∨ i = 5 ∨ i = 6 ∨ i = 7 by omega) with rfl | rfl | rfl | rfl | rfl | rfl | rfl | rfl <;> rfl)
    (by omega) hP h
  exact hm
