/-! ===== lunch: the class's tables are the second machine ===== -/
theorem gt_def (x i : Nat) : gt16 x i = x / 16 ^ i % 16 := rfl
theorem gt_new {S v m i : Nat} (hS : S < 16 ^ m) (hv : v < 16) (hi : i ≤ m) : gt16 (S + v * 16 ^ m) i = if i = m then v else gt16 S i := by
  rw [gt_def, gt_def]
  by_cases z : i = m
  · rw [if_pos z, z, Nat.add_mul_div_right _ _ (Nat.pow_pos (by omega)), Nat.div_eq_of_lt hS, Nat.zero_add, Nat.mod_eq_of_lt hv]
  · obtain ⟨e, rfl⟩ : ∃ e, m = i + (e + 1) := ⟨m - i - 1, by omega⟩
    rw [if_neg z, Nat.pow_add, show v * (16 ^ i * 16 ^ (e + 1)) = (v * 16 ^ e) * 16 * 16 ^ i by rw [Nat.pow_succ]; rw [Nat.mul_comm (16 ^ i), ← Nat.mul_assoc, ← Nat.mul_assoc], Nat.add_mul_div_right _ _ (Nat.pow_pos (by omega)), Nat.add_mul_mod_self_right]
theorem lt_new {S v m : Nat} (hS : S < 16 ^ m) (hv : v < 16) : S + v * 16 ^ m < 16 ^ (m + 1) := by
  have h1 : (v + 1) * 16 ^ m ≤ 16 * 16 ^ m := Nat.mul_le_mul_right _ (by omega)
  rw [Nat.succ_mul] at h1
  rw [Nat.pow_succ, Nat.mul_comm (16 ^ m) 16]
  omega
theorem gt_lt (x i : Nat) : gt16 x i < 16 := Nat.mod_lt _ (by omega)
theorem tf_s (S N m L g s v : Nat) : tfR S N m L (g + 1) s v = cond (Nat.ble s m) (cond (Nat.beq (Nat.land s m) s) (cond (Nat.ble (gt16 S s) L)
    (frc (cond (Nat.ble v (1 + gt16 N (m - s))) v (1 + gt16 N (m - s))) fun v' => tfR S N m L g (s + 1) v') (tfR S N m L g (s + 1) v)) (tfR S N m L g (s + 1) v)) (some v) := rfl
theorem bclr1 : ∀ m, m < 128 → ∀ s, s < 128 → Nat.land s m = s → nI m &&& (nI s ^^^ (-1)) = nI (m - s) := by decide +kernel
theorem nlz_1 : ∀ m, m < 128 → 1 ≤ m → f_J6_numberOfLeadingZeros_0f7a4 (nI m) = some (31 - nI (Nat.log2 m)) := by decide +kernel
theorem nlz_2 : ∀ m, m < 128 → 1 ≤ m → nI m &&& ((1 <<< (nI (Nat.log2 m) &&& 31)) ^^^ (-1)) = nI (m - 2 ^ Nat.log2 m) ∧ 2 ^ Nat.log2 m ≤ m ∧ Nat.log2 m < 7 := by decide +kernel
theorem x_tf {S N m L : Nat} {sit need : Nat → Int32} (hm : m < 128) (hL : L ≤ 7) (hS : ∀ i, i ≤ m → sit i = nI (gt16 S i)) (hN : ∀ i, i < m → need i = nI (gt16 N i)) : ∀ (g q s v r : Nat), g ≤ q → 1 ≤ s → s ≤ 128 → v ≤ 7 → tfR S N m L g s v = some r →
    f_X8_tablesFor_6 sit need q (nI m) (nI L) (nI v) (nI s) = some (nI r) := by
  intro g
  induction g with
  | zero => intro q s v r _ _ _ _ h; cases h
  | succ g ih =>
    intro q s v r hq hs hs2 hv h
    obtain ⟨q, rfl⟩ : ∃ q', q = q' + 1 := ⟨q - 1, by omega⟩
    rw [tf_s] at h
    rw [f_X8_tablesFor_6]
    unfold f_X8_tablesFor_54
    by_cases z : s ≤ m
    · rw [bc_t z] at h
      have ea : nI s &&& nI m = nI (Nat.land s m) := kb_and s m
      have l1 : Nat.land s m ≤ s := Nat.and_le_left
      rw [if_neg (nI_nlt z (by omega)), ea]
      by_cases y : Nat.land s m = s
      · rw [be_t y] at h
        have c1 := gt_lt S s
        rw [if_pos (show nI (Nat.land s m) = nI s by rw [y]), cell_in sit (show s < 128 by omega) (by omega), ob1_s, hS s z]
        by_cases x : gt16 S s ≤ L
        · rw [bc_t x, frc_s] at h
          have c2 := gt_lt N (m - s)
          have e1 : (1 : Int32) + nI (gt16 N (m - s)) = nI (1 + gt16 N (m - s)) := nI_add 1 _
          rw [if_neg (nI_nlt x (by omega)), bclr1 m hm s (by omega) y, cell_in need (show m - s < 128 by omega) (by omega), ob1_s, hN (m - s) (by omega), e1]
          by_cases w : v ≤ 1 + gt16 N (m - s)
          · rw [bc_t w] at h
            rw [if_neg (nI_nlt w (by omega)), bnd_s, nI_1, bnd_s]
            exact ih q (s + 1) v r (by omega) (by omega) (by omega) hv h
          · rw [bc_f w] at h
            rw [if_pos (nI_lt (by omega) (by omega)), bnd_s, nI_1, bnd_s]
            exact ih q (s + 1) _ r (by omega) (by omega) (by omega) (by omega) h
        · rw [bc_f x] at h
          rw [if_pos (nI_lt (by omega) (by omega)), nI_1, bnd_s]
          exact ih q (s + 1) v r (by omega) (by omega) (by omega) hv h
      · rw [be_f y] at h
        rw [if_neg (show ¬ nI (Nat.land s m) = nI s from fun x => y ((nI_eq (by omega) (by omega)).mp x)), nI_1, bnd_s]
        exact ih q (s + 1) v r (by omega) (by omega) (by omega) hv h
    · rw [bc_f z] at h
      injection h with h
      rw [if_pos (nI_lt (by omega) (by omega)), h]
theorem dp_s (z : List Nat) (T L g m S N : Nat) : dpR z T L (g + 1) m S N = cond (Nat.ble m T)
    (frc (gt16 S (m - 2 ^ Nat.log2 m) + gl z (Nat.log2 m)) fun v => cond (Nat.ble v 15)
      (frc (S + v * 16 ^ m) fun S' => Option.rec none (fun r => cond (Nat.ble r 15) (frc (N + r * 16 ^ m) fun N' => dpR z T L g (m + 1) S' N') none) (tfR S' N m L 129 1 7)) none)
    (some (gt16 N T)) := rfl
theorem x_dp {z : List Nat} {szf : Nat → Int32} {P T L : Nat} (wd sz : Int32) (Nn : Nat) (cl : Nat → Int32) (hP : P ≤ 7) (hT : T < 2 ^ P) (hL : L ≤ 7) (hz : ∀ i, i < P → szf i = nI (gl z i)) : ∀ (g q m S N : Nat) (sit need : Nat → Int32) (r : Nat), g ≤ q → 1 ≤ m → m ≤ T + 1 → S < 16 ^ m → N < 16 ^ m → (∀ i, i < m → sit i = nI (gt16 S i)) → (∀ i, i < m → need i = nI (gt16 N i)) → dpR z T L g m S N = some r →
    ∃ sit' need', f_X8_fewest_46 wd sz Nn cl q szf sit need (nI L) (nI T) (nI m) = some (nI r, szf, sit', need') ∧ sit' 0 = sit 0 ∧ need' 0 = need 0 := by
  have hT7 : 2 ^ P ≤ 128 := Nat.pow_le_pow_right (n := 2) (by omega) hP
  intro g
  induction g with
  | zero => intro q m S N sit need r _ _ _ _ _ _ _ h; cases h
  | succ g ih =>
    intro q m S N sit need r hq hm1 hm hS hN hs hn h
    obtain ⟨q, rfl⟩ : ∃ q', q = q' + 1 := ⟨q - 1, by omega⟩
    rw [dp_s] at h
    rw [f_X8_fewest_46]
    by_cases y : m ≤ T
    · rw [bc_t y, frc_s] at h
      obtain ⟨b1, b2, b3⟩ := nlz_2 m (by omega) hm1
      have hlg : Nat.log2 m < P := (Nat.pow_lt_pow_iff_right (a := 2) (by omega)).mp (by omega)
      have hpw : 0 < 2 ^ Nat.log2 m := Nat.pow_pos (by omega)
      have e31 : (31 : Int32) - (31 - nI (Nat.log2 m)) = nI (Nat.log2 m) := by
        have : ∀ k, k < 7 → (31 : Int32) - (31 - nI k) = nI k := by decide +kernel
        exact this _ b3
      rw [if_neg (nI_nlt y (by omega)), nlz_1 m (by omega) hm1, ob1_s, e31, bnd_s, b1, cell_in sit (show m - 2 ^ Nat.log2 m < 128 by omega) (by omega), ob1_s, cell_in szf (show Nat.log2 m < 7 by omega) (by omega), ob1_s, hs (m - 2 ^ Nat.log2 m) (by omega), hz _ hlg, nI_add, setc_in sit _ (show m < 128 by omega) (by omega), ob1_s]
      generalize hv : gt16 S (m - 2 ^ Nat.log2 m) + gl z (Nat.log2 m) = v at h ⊢
      by_cases v15 : v ≤ 15
      · rw [bc_t v15, frc_s] at h
        cases hf : tfR (S + v * 16 ^ m) N m L 129 1 7 with
        | none => rw [hf] at h; cases h
        | some r1 =>
          rw [hf] at h
          have h : cond (Nat.ble r1 15) (frc (N + r1 * 16 ^ m) fun N' => dpR z T L g (m + 1) (S + v * 16 ^ m) N') none = some r := h
          by_cases r15 : r1 ≤ 15
          · rw [bc_t r15, frc_s] at h
            have hs2 : ∀ i, i < m + 1 → upd sit m (nI v) i = nI (gt16 (S + v * 16 ^ m) i) := fun i hi => by
              rw [gt_new hS (by omega) (by omega)]
              by_cases w : i = m
              · rw [if_pos w, w, pk_us]
              · rw [if_neg w, pk_un w]; exact hs i (by omega)
            have hn2 : ∀ i, i < m + 1 → upd need m (nI r1) i = nI (gt16 (N + r1 * 16 ^ m) i) := fun i hi => by
              rw [gt_new hN (by omega) (by omega)]
              by_cases w : i = m
              · rw [if_pos w, w, pk_us]
              · rw [if_neg w, pk_un w]; exact hn i (by omega)
            have et : f_X8_tablesFor (upd sit m (nI v)) need (nI m) (nI L) = some (nI r1) := x_tf (show m < 128 by omega) hL (fun i hi => hs2 i (by omega)) hn 129 FU 1 7 r1 (by decide) (Nat.le_refl _) (by decide) (Nat.le_refl _) hf
            rw [et, ob1_s, setc_in need _ (show m < 128 by omega) (by omega), ob1_s, nI_1, bnd_s]
            obtain ⟨sit', need', e1, h1, h2⟩ := ih q (m + 1) _ _ _ _ r (by omega) (by omega) (by omega) (lt_new hS (by omega)) (lt_new hN (by omega)) hs2 hn2 h
            exact ⟨sit', need', e1, by rw [h1, pk_un (by omega)], by rw [h2, pk_un (by omega)]⟩
          · rw [bc_f r15] at h; cases h
      · rw [bc_f v15] at h; cases h
    · rw [bc_f y] at h
      injection h with h
      obtain rfl : m = T + 1 := by omega
      unfold f_X8_fewest_120
      rw [if_pos (nI_lt (by omega) (by omega)), cell_in need (show T < 128 by omega) (by omega), ob1_s, hn T (by omega), h]
      exact ⟨sit, need, rfl, rfl, rfl⟩
