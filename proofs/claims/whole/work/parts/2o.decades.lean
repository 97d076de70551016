/-! ===== the call decades, both sides ===== -/
def nxs (s : Nat) : Nat := (s * 1103515245 + 12345) % 2147483648
theorem nxs_lt (s : Nat) : nxs s < 2147483648 := Nat.mod_lt _ (by decide)
theorem nx_eq {s : Nat} (hs : s < 2147483648) : ((lN s * 1103515245 + 12345) - (lN s * 1103515245 + 12345) / 2147483648 * 2147483648 : Int64) = lN (nxs s) := by
  have e1 : (lN s * 1103515245 + 12345 : Int64) = lN (s * 1103515245 + 12345) := by
    have h1 : lN s * lN 1103515245 = lN (s * 1103515245) := lN_mul s 1103515245
    have h2 : lN (s * 1103515245) + lN 12345 = lN (s * 1103515245 + 12345) := lN_add _ 12345
    exact (congrArg (fun x => x + lN 12345) h1).trans h2
  rw [e1]
  exact pk_lRem (a := s * 1103515245 + 12345) (b := 2147483648) (by omega) (by omega) (by omega)
theorem qr_eq {s a b : Nat} (hs : s < 2147483648) (ha : 0 < a) (ha2 : a < 2 ^ 31) (hb : 0 < b) (hb2 : b < 2 ^ 31) : ((lN s / lN a) - (lN s / lN a) / lN b * lN b).toInt32 = nI (s / a % b) := by
  have h : s / a ≤ s := Nat.div_le_self s a
  rw [pk_lDiv (by omega) ha (by omega), pk_lRem (by omega) hb (by omega), lN_i]
theorem pick_eq {s : Nat} (hs : s < 2147483648) : ((lN s / 1048576) - (lN s / 1048576) / 7 * 7).toInt32 = nI (s / 1048576 % 7) := qr_eq (a := 1048576) (b := 7) hs (by omega) (by omega) (by omega) (by omega)
theorem tug_eq {s : Nat} (hs : s < 2147483648) : ((lN s / 65536) - (lN s / 65536) / 20 * 20).toInt32 = nI (s / 65536 % 20) := qr_eq (a := 65536) (b := 20) hs (by omega) (by omega) (by omega) (by omega)
theorem chzl_n {α : Type} {y : Int64} {k : Option α} (h : y ≠ 0) : chzl y k = k := if_neg h
theorem m_whoF {w fe : Nat → Int32} {t : Tb} {par : Nat → Option Nat} {i tt : Nat} (h0 : w 0 = nI (tN t)) (hn : tN t ≤ 7) (hle : ∀ x, x < tN t → Fe t par i tt x ≤ 20) (h1 : ∀ x, x < tN t → fe x = nI (Fe t par i tt x)) : f_X12_whoFeels w fe = some (nI (fmask t par i tt)) := by
  unfold f_X12_whoFeels
  refine mask_loop (fun g a k => f_X12_whoFeels_4 w fe g (nI a) k) (tN t) hn (fun x => decide (Fe t par i tt x ≠ 0)) (fun a => some (nI a)) (fun g k a hk => ?_) (fun g a => ?_)
  · show f_X12_whoFeels_4 w fe (g + 1) (nI a) (nI k) = _
    have hl := hle k hk
    rw [f_X12_whoFeels_4, chk_0 (by decide) (by decide), cl_0, h0, if_neg (nI_ge hk (by omega)), chk_n (by omega) (by omega), nI_clamp (by omega), h1 k hk]
    unfold f_X12_whoFeels_31
    rw [kb_shl (by omega)]
    by_cases y : Fe t par i tt k = 0
    · rw [if_pos ((nI_le0 (by omega)).mpr y), show decide (Fe t par i tt k ≠ 0) = false by simp [y], if_neg (show ¬ (false = true) by decide), kb_oro, bnd_s, nI_1, bnd_s]
    · rw [if_neg (fun q => y ((nI_le0 (by omega)).mp q)), show decide (Fe t par i tt k ≠ 0) = true by simp [y], if_pos rfl, kb_orp, bnd_s, nI_1, bnd_s]
  · show f_X12_whoFeels_4 w fe (g + 1) (nI a) (nI (tN t)) = _
    rw [f_X12_whoFeels_4, chk_0 (by decide) (by decide), cl_0, h0, if_pos (nI_le (Nat.le_refl _) (by omega))]
section DC
variable {fc fm : Nat → Int32} {g : Mg}
theorem dec_go (Y : XM fm g) (W : VM g) (st st2 : Nat → Int32) {d n N : Nat} (hd : d ≤ 999) (hN : N ≤ 60) (hn : n ≤ 7) : ∀ (e j qx qm acc s : Nat) (went : Int32) (t : Tb) (tf tc w ways fe nx cm : Nat → Int32), j + e = N → e < qx → e < qm → s < 2147483648 → tN t = n → XT tc t → VT t → w 0 = nI n → MT w 1204 t → MM w 1204 g → w 1206 = nI (d + j) →
    ∃ r tf' tc' went' w' ways' fe' nx' cm', f_X11_decades_51 (nI d) (nI n) fc (nI (gN g)) fm qx st tf (nI n) tc (nI N) (lN s) (nI acc) (nI j) = some (r, st, tf', nI n, tc') ∧
      f_X12_decades_44 qm went w st2 ways fe nx cm (nI N) (lN s) (nI acc) (nI j) = some (r, went', w', st2, ways', fe', nx', cm') ∧ ∀ x, x < 1204 → w' x = w x := by
  intro e
  induction e with
  | zero =>
    intro j qx qm acc s went t tf tc w ways fe nx cm hj hqx hqm hs ht X V h0 M Z hw
    obtain ⟨qx, rfl⟩ : ∃ q', qx = q' + 1 := ⟨qx - 1, by omega⟩
    obtain ⟨qm, rfl⟩ : ∃ q', qm = q' + 1 := ⟨qm - 1, by omega⟩
    obtain rfl : j = N := by omega
    rw [f_X11_decades_51, f_X12_decades_44, if_pos (nI_le (Nat.le_refl _) (by omega)), if_pos (nI_le (Nat.le_refl _) (by omega))]
    exact ⟨_, _, _, _, _, _, _, _, _, rfl, rfl, fun _ _ => rfl⟩
  | succ e ih =>
    intro j qx qm acc s went t tf tc w ways fe nx cm hj hqx hqm hs ht X V h0 M Z hw
    obtain ⟨qx, rfl⟩ : ∃ q', qx = q' + 1 := ⟨qx - 1, by omega⟩
    obtain ⟨qm, rfl⟩ : ∃ q', qm = q' + 1 := ⟨qm - 1, by omega⟩
    obtain ⟨s2, hs2, enx⟩ : ∃ s2, s2 < 2147483648 ∧ ((lN s * 1103515245 + 12345) - (lN s * 1103515245 + 12345) / 2147483648 * 2147483648 : Int64) = lN s2 := ⟨nxs s, nxs_lt s, nx_eq hs⟩
    obtain ⟨pk, hpk, epk⟩ : ∃ pk, pk < 7 ∧ ((lN s2 / 1048576) - (lN s2 / 1048576) / 7 * 7).toInt32 = nI pk := ⟨s2 / 1048576 % 7, Nat.mod_lt _ (by omega), pick_eq hs2⟩
    obtain ⟨tg, htg1, htg2, etg⟩ : ∃ tg, 1 ≤ tg ∧ tg ≤ 20 ∧ ((lN s2 / 65536) - (lN s2 / 65536) / 20 * 20).toInt32 + 1 = nI tg := ⟨s2 / 65536 % 20 + 1, by omega, by have := Nat.mod_lt (s2 / 65536) (show 0 < 20 by omega); omega, by rw [tug_eq hs2, nI_1]⟩
    -- the day behind the pick, on both sides
    have day : ∀ (acc : Nat) (tf fe nx cm : Nat → Int32), ∃ r tf' tc' went' w' ways' fe' nx' cm', f_X11_decades_135 (nI d) (nI n) fc (nI (gN g)) fm (f_X11_decades_51 (nI d) (nI n) fc (nI (gN g)) fm qx) st tf (nI n) tc (nI N) (lN s2) (nI acc) (nI j) = some (r, st, tf', nI n, tc') ∧
      f_X12_decades_124 (f_X12_decades_44 qm) went w st2 ways fe nx cm (nI N) (lN s2) (nI acc) (nI j) = some (r, went', w', st2, ways', fe', nx', cm') ∧ ∀ x, x < 1204 → w' x = w x := by
      intro acc tf fe nx cm
      unfold f_X11_decades_135 f_X12_decades_124
      obtain ⟨tc1, e1, X1⟩ := x_days X V Y W (d := d + j) (N := 1) (by omega) (by omega)
      rw [ht] at e1
      have e1 : f_X1_passDays 5 (nI n) 35 tc 3 (nI (gN g)) 9 fm (nI d + nI j) 1 = some (nI (dyW g 1 (d + j) t 0), tc1) := by rw [nI_add]; exact e1
      obtain ⟨w1, ways1, e2, M1, Z1, hw1, hs1⟩ := m_passes (v1 := 1204) (r := 1204) rfl M V Z W (by omega) (d := d + j) (by omega) hw went ways
      rw [e1, ob2_s, nI_1, bnd_s, e2, ob3_s, bnd_s]
      obtain ⟨r, tf', tc', went', w', ways', fe', nx', cm', p1, p2, p3⟩ := ih (j + 1) qx qm acc s2 _ (moved t g ((d + j) % 2 == 0)) tf tc1 w1 ways1 fe nx cm (by omega) (by omega) (by omega) hs2 ht X1 (moved_V V g _) ((hs1 0 (by omega) (by omega)).trans h0) M1 Z1 hw1
      exact ⟨r, tf', tc', went', w', ways', fe', nx', cm', p1, p2, fun x hx => (p3 x hx).trans (hs1 x (by omega) (by omega))⟩
    rw [f_X11_decades_51, f_X12_decades_44, if_neg (nI_ge (by omega) (by omega)), if_neg (nI_ge (by omega) (by omega))]
    simp only [bnd_s, chzl_n (show (2147483648 : Int64) ≠ 0 by decide), chzl_n (show (1048576 : Int64) ≠ 0 by decide), chzl_n (show (65536 : Int64) ≠ 0 by decide), chzl_n (show (20 : Int64) ≠ 0 by decide), chzl_n (show (7 : Int64) ≠ 0 by decide), enx, epk, etg]
    rw [x_has (by omega), ob1_s, chk_0 (by decide) (by decide), cl_0, h0]
    by_cases z : pk < n
    · have zw : wthn (nI (pk)) n = true := by unfold wthn; rw [decide_eq_true_iff, nI_toInt (by omega)]; omega
      obtain ⟨tf1, a1, a2, a3⟩ := x_spread X V (rrp_s V (ht ▸ z)) (tt := tg) (by omega) (by omega) (ht ▸ z) tf
      obtain ⟨fe1, nx1, cm1, b1, b2, b3⟩ := m_tugs (v1 := 1204) (r := 1204) rfl M V (by omega) (rrp_s V (ht ▸ z)) (tt := tg) (by omega) (by omega) (ht ▸ z) fe nx cm
      have hle := Fe_le (i := pk) V (rrp_s V (ht ▸ z)).2.2.2 (tt := tg) (by omega)
      have fl : fmask t (rrp t (pk)) (pk) (tg) < 128 := Nat.lt_of_lt_of_le (mk_lt _ _) (Nat.pow_le_pow_right (by omega) (show tN t ≤ 7 by omega))
      rw [ht] at a1
      have b1 : f_X12_tugs w fe nx cm 1204 (nI (pk)) (nI (tg)) = some (fe1, nx1, cm1) := b1
      rw [if_pos zw, if_neg one_ne, if_neg (nI_ge z (by omega)), a1, ob1_s, b1, ob3_s, x_whoFeel (by omega) hle a2 a3, ob1_s, m_whoF (by rw [h0, ht]) (by omega) hle b2, ob1_s, x_ones _ fl, ob1_s, m_ones (by omega), ob1_s, nI_add]
      exact day _ tf1 fe1 nx1 cm1
    · have zw : ¬ wthn (nI (pk)) n = true := by unfold wthn; rw [decide_eq_true_iff, nI_toInt (by omega)]; omega
      rw [if_neg zw, if_pos rfl, if_pos (nI_le (by omega) (by omega))]
      exact day acc tf fe nx cm
theorem c_decades_eq {t : Tb} {w : Nat → Int32} {d : Nat} (X : XT fc t) (V : VT t) (Y : XM fm g) (W : VM g) (M : MT w 0 t) (Z : MM w 0 g) (hd : d ≤ 999) (hw : w 2 = nI d)
    (st st2 : Nat → Int32) (tf : Nat → Int32) (tsz : Int32) (tc : Nat → Int32) (went : Int32) (ways fe nx cm : Nat → Int32) (x1 x2 : Int32) :
    ∃ (r : Int32) (c : Option Nat), (∃ tf' ts' tc', f_X11_decades (nI d) (nI (tN t)) fc (nI (gN g)) fm st tf tsz tc x1 x2 = some (r, stx c st, tf', ts', tc')) ∧
      (∃ went' w' ways' fe' nx' cm', f_X12_decades went w st2 ways fe nx cm x1 x2 = some (r, went', w', stx c st2, ways', fe', nx', cm') ∧ ∀ x, x < 1204 → w' x = w x) ∧ (∀ i, c = some i → i < 3) := by
  have hn := V.1
  have hb : ∃ (r : Int32) (c : Option Nat), (∃ tf' ts' tc', f_X11_decades_21 (nI d) (nI (tN t)) fc (nI (gN g)) fm st tf tsz tc = some (r, stx c st, tf', ts', tc')) ∧
      (∃ went' w' ways' fe' nx' cm', f_X12_decades_24 went w st2 ways fe nx cm = some (r, went', w', stx c st2, ways', fe', nx', cm') ∧ ∀ x, x < 1204 → w' x = w x) ∧ (∀ i, c = some i → i < 3) := by
    refine ⟨-2, some 0, ⟨tf, tsz, tc, ?_⟩, ⟨went, w, ways, fe, nx, cm, ?_, fun _ _ => rfl⟩, fun i hi => ?_⟩
    · unfold f_X11_decades_21; rw [x_bad, ob2_s]
    · unfold f_X12_decades_24; rw [m_bad, ob2_s]; rfl
    · injection hi with hi; omega
  unfold f_X11_decades f_X12_decades
  rw [x_within, m_in, ob1_s, ob1_s, show (0 : Int32).toInt = (0 : Int64).toInt from rfl, show (999999 : Int32).toInt = (999999 : Int64).toInt from rfl]
  by_cases h1 : (0 : Int64).toInt ≤ x1.toInt ∧ x1.toInt ≤ (999999 : Int64).toInt
  · rw [if_pos h1, if_neg one_ne, if_neg one_ne, x_within, m_in, ob1_s, ob1_s, show (0 : Int32).toInt = (0 : Int64).toInt from rfl, show (60 : Int32).toInt = (60 : Int64).toInt from rfl]
    by_cases h2 : (0 : Int64).toInt ≤ x2.toInt ∧ x2.toInt ≤ (60 : Int64).toInt
    · rw [if_pos h2, if_neg one_ne, if_neg one_ne]
      have h1 : 0 ≤ x1.toInt ∧ x1.toInt ≤ 999999 := h1
      have h2 : 0 ≤ x2.toInt ∧ x2.toInt ≤ 60 := h2
      obtain ⟨s, rfl, hs, -⟩ := nat_of h1.1
      obtain ⟨N, rfl, hN, -⟩ := nat_of h2.1
      obtain ⟨f1, a1, X1⟩ := x_trial (sz := tsz) (f0 := tc) X hn
      obtain ⟨w1, b1, b2⟩ := m_tries w
      rw [a1, ob2_s, b1, ob1_s, nI_l (by omega), bnd_s, bnd_s]
      obtain ⟨r, tf', tc', went', w', ways', fe', nx', cm', p1, p2, p3⟩ := dec_go (fc := fc) Y W st st2 (d := d) (n := tN t) (N := N) hd (by omega) hn N 0 FU FU 0 s went t tf f1 w1 ways fe nx cm (by omega) (Nat.lt_of_le_of_lt (show N ≤ 60 by omega) (by decide)) (Nat.lt_of_le_of_lt (show N ≤ 60 by omega) (by decide)) (by omega) rfl X1 V (by rw [b2, if_neg (by omega)]; exact M.1) (tries_MT M hn b2) (tries_MM Z W.1 b2) (by rw [b2, if_pos (by omega)]; exact hw)
      exact ⟨r, none, ⟨tf', _, tc', p1⟩, ⟨went', w', ways', fe', nx', cm', p2, fun x hx => by rw [p3 x hx, b2, if_neg (by omega)]⟩, fun i hi => by cases hi⟩
    · rw [if_neg h2, if_pos rfl, if_pos rfl]; exact hb
  · rw [if_neg h1, if_pos rfl, if_pos rfl]; exact hb
end DC
