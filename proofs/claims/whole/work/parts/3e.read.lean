/-! ===== the text: reading, both sides ===== -/
section RE
variable {n : Nat} {b : Nat → Nat} {f : Nat → Int32} {dy cs : Int32} {cc : Nat → Int32} {ms : Int32} {mc : Nat → Int32} {ts ns ks ps : Int32} {d : Nat} {t : Tb} {g : Mg} {w : Nat → Int32}
theorem tok_le8 {p : Nat} : tok b n p ≤ 8 := by
  have := wof_le b (sk b n p) (wE b n p)
  unfold tok
  split
  · split
    · split <;> omega
    · split
      · split <;> omega
      · split <;> omega
  · omega
theorem tok_0 {p : Nat} : tok b n p = 0 ↔ ¬ sk b n p < n := by
  unfold tok
  by_cases z : sk b n p < n
  · rw [if_pos z]
    constructor
    · intro h
      exfalso
      split at h
      · split at h <;> omega
      · split at h
        · split at h <;> omega
        · split at h <;> omega
    · intro h; exact absurd z h
  · rw [if_neg z]
    exact ⟨fun _ => z, fun _ => rfl⟩
/-- one more item, both sides -/
theorem it_step (T : TX n b f) {p c : Nat} (hp : p ≤ n) (X : XD dy cs cc ms mc ts ns ks ps d t g) (V : VD d t g) (M : MD w d t g) (q : Nat) (hc : c ≤ 150) (a1 a2 a3 a4 a5 st nu went : Int32) (ways : Nat → Int32) (hz : tok b n p ≠ 0) :
    ∃ oc fs, CF n f (f_X9_readInto_36 (nI n) f q) (f_X9_readInto_36 (nI n) f (q + 1) a1 a2 a3 a4 a5 (nI p) dy cs cc ms mc ts ns ks ps 1 (nI c)) (nI c) oc fs ∧
      MF w (f_X12_readsItem (nI n) (nI (sk b n p)) st nu went w f ways 0) oc fs ∧ (∀ q', oc = some q' → VD q'.2.1 q'.2.2.1 q'.2.2.2 ∧ p < q'.1 ∧ q'.1 ≤ n) ∧ fs ≤ n := by
  have hn := T.1
  have hs := sk_le (b := b) hp
  have lp := plc_le (b := b) hp
  have lp3 := lp.2.2 hz
  have e0 := m_takesWord T hs.2 st
  rw [sk_sk hn hp] at e0
  have hw : sk b n p ≤ wE b n p ∧ wE b n p ≤ n := rn_le 151 (sk b n p) hs.2
  have e1 := m_wordOf T hw.1 hw.2
  obtain ⟨v, e2, -, -⟩ := x_next T hp a1 a2 a3
  have h5 := wof_le b (sk b n p) (wE b n p)
  have tw := tok_word (b := b) (n := n) (p := p)
  unfold f_X12_readsItem
  rw [f_X9_readInto_36, if_neg one_ne, if_neg (show ¬ (150 : Int32) < nI c from nI_nlt (a := 150) hc (by omega)), e2, ob4_s, e0, ob2_s, e1, ob1_s]
  rcases (show wof b (sk b n p) (wE b n p) = 0 ∨ wof b (sk b n p) (wE b n p) = 1 ∨ wof b (sk b n p) (wE b n p) = 2 ∨ wof b (sk b n p) (wE b n p) = 3 ∨ wof b (sk b n p) (wE b n p) = 4 ∨ wof b (sk b n p) (wE b n p) = 5 by omega) with h | h | h | h | h | h
  · have h3 := tw.2 h
    have hm : f_X12_readsItem_20 (nI n) f (nI (wE b n p)) (nI (sk b n p)) nu went w ways (nI 0) 0 0 = some (0, nI (wE b n p), nI (sk b n p), nu, went, w, ways) := by
      unfold f_X12_readsItem_20
      rw [if_pos rfl, if_neg (show ¬ nI 0 = (1 : Int32) by decide), if_neg (show ¬ nI 0 = (2 : Int32) by decide), if_neg (show ¬ nI 0 = (3 : Int32) by decide), if_neg (show ¬ nI 0 = (4 : Int32) by decide), if_neg (show ¬ nI 0 = (5 : Int32) by decide), m_91]
    rw [h, if_neg (show ¬ nI 0 = (1 : Int32) by decide), hm]
    rcases (show tok b n p = 1 ∨ tok b n p = 2 ∨ tok b n p = 3 by omega) with k | k | k
    · rw [k, if_neg (show ¬ nI 1 = (0 : Int32) by decide), if_pos (show nI 1 = (1 : Int32) from rfl)]
      exact ⟨none, sk b n p, ⟨_, _, _, _, _, _, _, _, _, _, _, _, _, _, rfl⟩, ⟨_, _, _, w, _, rfl, fun _ _ => rfl⟩, fun q hq => (by cases hq), hs.2⟩
    · rw [k, if_neg (show ¬ nI 2 = (0 : Int32) by decide), if_neg (show ¬ nI 2 = (1 : Int32) by decide), if_pos (show nI 2 = (2 : Int32) from rfl)]
      exact ⟨none, sk b n p, ⟨_, _, _, _, _, _, _, _, _, _, _, _, _, _, rfl⟩, ⟨_, _, _, w, _, rfl, fun _ _ => rfl⟩, fun q hq => (by cases hq), hs.2⟩
    · rw [k, if_neg (show ¬ nI 3 = (0 : Int32) by decide), if_neg (show ¬ nI 3 = (1 : Int32) by decide), if_neg (show ¬ nI 3 = (2 : Int32) by decide), if_pos (show nI 3 = (3 : Int32) from rfl)]
      exact ⟨none, sk b n p, ⟨_, _, _, _, _, _, _, _, _, _, _, _, _, _, rfl⟩, ⟨_, _, _, w, _, rfl, fun _ _ => rfl⟩, fun q hq => (by cases hq), hs.2⟩
  · obtain ⟨k, hpl⟩ := tw.1 (by omega)
    rw [h] at k
    have hm : f_X12_readsItem_20 (nI n) f (nI (wE b n p)) (nI (sk b n p)) nu went w ways (nI 1) 0 1 = some (0, nI (wE b n p), nI (sk b n p), nu, went, w, ways) := by
      unfold f_X12_readsItem_20
      rw [if_neg (show ¬ (0 : Int32) = 1 by decide)]
    rw [h, if_pos (show nI 1 = (1 : Int32) from rfl), hm, k, if_neg (show ¬ nI (3 + 1) = (0 : Int32) by decide), if_neg (show ¬ nI (3 + 1) = (1 : Int32) by decide), if_neg (show ¬ nI (3 + 1) = (2 : Int32) by decide), if_neg (show ¬ nI (3 + 1) = (3 : Int32) by decide), if_pos (show nI (3 + 1) = (4 : Int32) from rfl)]
    exact ⟨none, sk b n p, ⟨_, _, _, _, _, _, _, _, _, _, _, _, _, _, rfl⟩, ⟨_, _, _, w, _, rfl, fun _ _ => rfl⟩, fun q hq => (by cases hq), hs.2⟩
  · obtain ⟨k, hpl⟩ := tw.1 (by omega)
    rw [h] at k
    rw [hpl] at lp3
    obtain ⟨oc, fs, h1, h2, h3, h4⟩ := it_clerk T hw.2 hs.2 X V M (f_X9_readInto_36 (nI n) f q) (nI (3 + 2)) v a4 a5 (nI c) nu went ways
    unfold f_X12_readsItem_20
    rw [h, if_neg (show ¬ nI 2 = (1 : Int32) by decide), if_pos (show (0 : Int32) = 0 from rfl), if_neg (show ¬ nI 2 = (1 : Int32) by decide), if_pos (show nI 2 = (2 : Int32) from rfl), k, hpl, if_neg (show ¬ nI (3 + 2) = (0 : Int32) by decide), if_neg (show ¬ nI (3 + 2) = (1 : Int32) by decide), if_neg (show ¬ nI (3 + 2) = (2 : Int32) by decide), if_neg (show ¬ nI (3 + 2) = (3 : Int32) by decide), if_neg (show ¬ nI (3 + 2) = (4 : Int32) by decide), if_pos (show nI (3 + 2) = (5 : Int32) from rfl)]
    exact ⟨oc, fs, h1, h2, fun q' hq' => ⟨(h3 q' hq').1, Nat.lt_of_lt_of_le lp3 (h3 q' hq').2.1, (h3 q' hq').2.2⟩, h4⟩
  · obtain ⟨k, hpl⟩ := tw.1 (by omega)
    rw [h] at k
    rw [hpl] at lp3
    obtain ⟨oc, fs, h1, h2, h3, h4⟩ := it_magnet T hw.2 hs.2 X V M (f_X9_readInto_36 (nI n) f q) (nI (3 + 3)) v a4 a5 (nI c) nu went ways
    unfold f_X12_readsItem_20
    rw [h, if_neg (show ¬ nI 3 = (1 : Int32) by decide), if_pos (show (0 : Int32) = 0 from rfl), if_neg (show ¬ nI 3 = (1 : Int32) by decide), if_neg (show ¬ nI 3 = (2 : Int32) by decide), if_pos (show nI 3 = (3 : Int32) from rfl), k, hpl, if_neg (show ¬ nI (3 + 3) = (0 : Int32) by decide), if_neg (show ¬ nI (3 + 3) = (1 : Int32) by decide), if_neg (show ¬ nI (3 + 3) = (2 : Int32) by decide), if_neg (show ¬ nI (3 + 3) = (3 : Int32) by decide), if_neg (show ¬ nI (3 + 3) = (4 : Int32) by decide), if_neg (show ¬ nI (3 + 3) = (5 : Int32) by decide), if_pos (show nI (3 + 3) = (6 : Int32) from rfl)]
    exact ⟨oc, fs, h1, h2, fun q' hq' => ⟨(h3 q' hq').1, Nat.lt_of_lt_of_le lp3 (h3 q' hq').2.1, (h3 q' hq').2.2⟩, h4⟩
  · obtain ⟨k, hpl⟩ := tw.1 (by omega)
    rw [h] at k
    rw [hpl] at lp3
    obtain ⟨oc, fs, h1, h2, h3, h4⟩ := it_hook T hw.2 hs.2 X V M (f_X9_readInto_36 (nI n) f q) (nI (3 + 4)) v a4 a5 (nI c) nu went ways
    unfold f_X12_readsItem_20
    rw [h, if_neg (show ¬ nI 4 = (1 : Int32) by decide), if_pos (show (0 : Int32) = 0 from rfl), if_neg (show ¬ nI 4 = (1 : Int32) by decide), if_neg (show ¬ nI 4 = (2 : Int32) by decide), if_neg (show ¬ nI 4 = (3 : Int32) by decide), if_pos (show nI 4 = (4 : Int32) from rfl), k, hpl, if_neg (show ¬ nI (3 + 4) = (0 : Int32) by decide), if_neg (show ¬ nI (3 + 4) = (1 : Int32) by decide), if_neg (show ¬ nI (3 + 4) = (2 : Int32) by decide), if_neg (show ¬ nI (3 + 4) = (3 : Int32) by decide), if_neg (show ¬ nI (3 + 4) = (4 : Int32) by decide), if_neg (show ¬ nI (3 + 4) = (5 : Int32) by decide), if_neg (show ¬ nI (3 + 4) = (6 : Int32) by decide), if_pos (show nI (3 + 4) = (7 : Int32) from rfl)]
    exact ⟨oc, fs, h1, h2, fun q' hq' => ⟨(h3 q' hq').1, Nat.lt_of_lt_of_le lp3 (h3 q' hq').2.1, (h3 q' hq').2.2⟩, h4⟩
  · obtain ⟨k, hpl⟩ := tw.1 (by omega)
    rw [h] at k
    rw [hpl] at lp3
    obtain ⟨oc, fs, h1, h2, h3, h4⟩ := it_days T hw.2 hs.2 X V M (f_X9_readInto_36 (nI n) f q) (nI (3 + 5)) v a4 a5 (nI c) nu went ways
    unfold f_X12_readsItem_20
    rw [h, if_neg (show ¬ nI 5 = (1 : Int32) by decide), if_pos (show (0 : Int32) = 0 from rfl), if_neg (show ¬ nI 5 = (1 : Int32) by decide), if_neg (show ¬ nI 5 = (2 : Int32) by decide), if_neg (show ¬ nI 5 = (3 : Int32) by decide), if_neg (show ¬ nI 5 = (4 : Int32) by decide), if_pos (show nI 5 = (5 : Int32) from rfl), k, hpl, if_neg (show ¬ nI (3 + 5) = (0 : Int32) by decide), if_neg (show ¬ nI (3 + 5) = (1 : Int32) by decide), if_neg (show ¬ nI (3 + 5) = (2 : Int32) by decide), if_neg (show ¬ nI (3 + 5) = (3 : Int32) by decide), if_neg (show ¬ nI (3 + 5) = (4 : Int32) by decide), if_neg (show ¬ nI (3 + 5) = (5 : Int32) by decide), if_neg (show ¬ nI (3 + 5) = (6 : Int32) by decide), if_neg (show ¬ nI (3 + 5) = (7 : Int32) by decide), if_pos (show nI (3 + 5) = (8 : Int32) from rfl)]
    exact ⟨oc, fs, h1, h2, fun q' hq' => ⟨(h3 q' hq').1, Nat.lt_of_lt_of_le lp3 (h3 q' hq').2.1, (h3 q' hq').2.2⟩, h4⟩
/-- how reading ends, both sides -/
def RdEnd (E : RdR) (R : Option (Int32 × Int32 × Int32 × Int32 × Int32 × (Nat → Int32) × (Nat → Int32))) (w0 : Nat → Int32) : Prop :=
  (∃ (c : Nat) (a1 a2 a3 a4 a5 a6 dy cs : Int32) (cc : Nat → Int32) (ms : Int32) (mc : Nat → Int32) (ts ns ks ps : Int32) (d : Nat) (t : Tb) (g : Mg) (at' st nu went : Int32) (w' ways : Nat → Int32), c ≤ 150 ∧ E = some (nI c, a1, a2, a3, a4, a5, a6, dy, cs, cc, ms, mc, ts, ns, ks, ps) ∧ R = some (nI c, at', st, nu, went, w', ways) ∧ XD dy cs cc ms mc ts ns ks ps d t g ∧ VD d t g ∧ MO w' 0 (dO d t g) ∧ ∀ x, 301 ≤ x → x < 903 → w' x = w0 x) ∨
  (∃ (fs : Nat) (a1 a2 a3 a4 a5 a6 dy cs : Int32) (cc : Nat → Int32) (ms : Int32) (mc : Nat → Int32) (ts ns ks ps : Int32) (at' st nu went : Int32) (w' ways : Nat → Int32), fs ≤ 150 ∧ E = some (-10 - nI fs, a1, a2, a3, a4, a5, a6, dy, cs, cc, ms, mc, ts, ns, ks, ps) ∧ R = some (-10 - nI fs, at', st, nu, went, w', ways) ∧ ∀ x, x < 903 → w' x = w0 x)
theorem RdEnd.fr {E : RdR} {R : Option (Int32 × Int32 × Int32 × Int32 × Int32 × (Nat → Int32) × (Nat → Int32))} {w0 w1 : Nat → Int32} (h : RdEnd E R w1) (hw : ∀ x, x < 903 → w1 x = w0 x) : RdEnd E R w0 := by
  rcases h with ⟨c, a1, a2, a3, a4, a5, a6, dy, cs, cc, ms, mc, ts, ns, ks, ps, d, t, g, at', st, nu, went, w', ways, h0, h1, h2, h3, h4, h5, h6⟩ | ⟨fs, a1, a2, a3, a4, a5, a6, dy, cs, cc, ms, mc, ts, ns, ks, ps, at', st, nu, went, w', ways, h0, h1, h2, h3⟩
  · exact Or.inl ⟨c, a1, a2, a3, a4, a5, a6, dy, cs, cc, ms, mc, ts, ns, ks, ps, d, t, g, at', st, nu, went, w', ways, h0, h1, h2, h3, h4, h5, fun x x1 x2 => (h6 x x1 x2).trans (hw x x2)⟩
  · exact Or.inr ⟨fs, a1, a2, a3, a4, a5, a6, dy, cs, cc, ms, mc, ts, ns, ks, ps, at', st, nu, went, w', ways, h0, h1, h2, fun x x2 => (h3 x x2).trans (hw x x2)⟩
theorem x_fails {k : Nat} {fs : Nat} (n' : Int32) (f : Nat → Int32) (a2 a3 a4 a5 a6 dy cs : Int32) (cc : Nat → Int32) (ms : Int32) (mc : Nat → Int32) (ts ns ks ps v3 : Int32) : f_X9_readInto_36 n' f (k + 1) (nI fs) a2 a3 a4 a5 a6 dy cs cc ms mc ts ns ks ps 0 v3 = some (-10 - nI fs, nI fs, a2, a3, a4, a5, a6, dy, cs, cc, ms, mc, ts, ns, ks, ps) := by
  rw [f_X9_readInto_36, if_pos rfl]
  rfl
theorem m_fails {k : Nat} {fs : Nat} (n' : Int32) (f : Nat → Int32) (at' nu went : Int32) (w ways : Nat → Int32) (v1 : Int32) : f_X12_read_20 n' f (k + 1) at' (nI fs) nu went w ways v1 0 = some (-10 - nI fs, at', nI fs, nu, went, w, ways) := by
  rw [f_X12_read_20, if_pos rfl]
  unfold f_X12_read_67
  rw [if_pos rfl]
theorem rd_loop (T : TX n b f) : ∀ (m p c q q' : Nat) (dy cs : Int32) (cc : Nat → Int32) (ms : Int32) (mc : Nat → Int32) (ts ns ks ps : Int32) (d : Nat) (t : Tb) (g : Mg) (w : Nat → Int32) (a1 a2 a3 a4 a5 nu went : Int32) (ways : Nat → Int32), n ≤ p + m → p ≤ n → m + 1 < q → m + 1 < q' → c ≤ p → 1 ≤ c → XD dy cs cc ms mc ts ns ks ps d t g → VD d t g → MD w d t g →
    RdEnd (f_X9_readInto_36 (nI n) f q a1 a2 a3 a4 a5 (nI p) dy cs cc ms mc ts ns ks ps 1 (nI c)) (f_X12_read_20 (nI n) f q' (nI (sk b n p)) (nI (sk b n p)) nu went w ways (nI c) 1) w := by
  have hn := T.1
  have fin : ∀ (p c q q' : Nat) (dy cs : Int32) (cc : Nat → Int32) (ms : Int32) (mc : Nat → Int32) (ts ns ks ps : Int32) (d : Nat) (t : Tb) (g : Mg) (w : Nat → Int32) (a1 a2 a3 a4 a5 nu went : Int32) (ways : Nat → Int32), p ≤ n → c ≤ p → 1 ≤ c → XD dy cs cc ms mc ts ns ks ps d t g → VD d t g → MD w d t g → tok b n p = 0 →
      RdEnd (f_X9_readInto_36 (nI n) f (q + 1) a1 a2 a3 a4 a5 (nI p) dy cs cc ms mc ts ns ks ps 1 (nI c)) (f_X12_read_20 (nI n) f (q' + 1) (nI (sk b n p)) (nI (sk b n p)) nu went w ways (nI c) 1) w := by
    intro p c q q' dy cs cc ms mc ts ns ks ps d t g w a1 a2 a3 a4 a5 nu went ways hp hc h1 X V M z
    obtain ⟨v, e2, -, -⟩ := x_next T hp a1 a2 a3
    have z' := tok_0.mp z
    have hs := sk_le (b := b) hp
    obtain ⟨w', e3, hw⟩ := m_copy (a := 903) (b := 0) (by omega) (by omega) (by omega) w
    have e3 : f_X12_copy w 903 0 = some w' := e3
    rw [f_X9_readInto_36, if_neg one_ne, if_neg (show ¬ (150 : Int32) < nI c from nI_nlt (a := 150) (by omega) (by omega)), e2, ob4_s, if_pos (show nI (tok b n p) = 0 by rw [z]; rfl), f_X12_read_20, if_neg one_ne, if_neg (nI_nlt (by omega) (by omega)), if_neg (show ¬ nI c = 0 from fun q => by have := (nI_eq (b := 0) (by omega) (by omega)).mp q; omega)]
    unfold f_X12_read_67
    rw [if_neg one_ne, e3, ob1_s]
    refine Or.inl ⟨c, _, _, _, _, _, _, _, _, _, _, _, _, _, _, _, d, t, g, _, _, _, _, w', _, by omega, rfl, rfl, X, V, MO.cp V.o M.o (fun x hx => ?_), fun x x1 x2 => ?_⟩
    · rw [hw, if_pos (by omega), show 0 + x - 0 = x by omega]
    · rw [hw, if_neg (by omega)]
  intro m
  induction m with
  | zero =>
    intro p c q q' dy cs cc ms mc ts ns ks ps d t g w a1 a2 a3 a4 a5 nu went ways hm hp hq hq' hc h1 X V M
    obtain ⟨q, rfl⟩ : ∃ q0, q = q0 + 1 := ⟨q - 1, by omega⟩
    obtain ⟨q', rfl⟩ : ∃ q0, q' = q0 + 1 := ⟨q' - 1, by omega⟩
    have hs := sk_le (b := b) hp
    exact fin p c q q' dy cs cc ms mc ts ns ks ps d t g w a1 a2 a3 a4 a5 nu went ways hp hc h1 X V M (tok_0.mpr (by omega))
  | succ m ih =>
    intro p c q q' dy cs cc ms mc ts ns ks ps d t g w a1 a2 a3 a4 a5 nu went ways hm hp hq hq' hc h1 X V M
    obtain ⟨q, rfl⟩ : ∃ q0, q = q0 + 1 + 1 := ⟨q - 2, by omega⟩
    obtain ⟨q', rfl⟩ : ∃ q0, q' = q0 + 1 + 1 := ⟨q' - 2, by omega⟩
    by_cases z : tok b n p = 0
    · exact fin p c (q + 1) (q' + 1) dy cs cc ms mc ts ns ks ps d t g w a1 a2 a3 a4 a5 nu went ways hp hc h1 X V M z
    · have z' : sk b n p < n := Classical.byContradiction (fun y => z (tok_0.mpr y))
      obtain ⟨oc, fs, k1, k2, k3, k4⟩ := it_step T hp X V M (q + 1) (show c ≤ 150 by omega) a1 a2 a3 a4 a5 (nI (sk b n p)) nu went ways z
      have em : f_X12_read_20 (nI n) f (q' + 1 + 1) (nI (sk b n p)) (nI (sk b n p)) nu went w ways (nI c) 1 = f_X12_read_49 (nI n) f (f_X12_read_20 (nI n) f (q' + 1)) (nI (sk b n p)) (nI (sk b n p)) nu went w ways (nI c) 0 := by
        rw [f_X12_read_20, if_neg one_ne, if_pos (nI_lt z' (by omega))]
        unfold f_X12_read_39
        rw [if_neg (show ¬ nI c = 0 from fun q => by have := (nI_eq (b := 0) (by omega) (by omega)).mp q; omega)]
      rw [em]
      unfold f_X12_read_49
      cases oc with
      | none =>
        obtain ⟨b2, b3, b4, b5, b6, dy', cs', cc', ms', mc', ts', ns', ks', ps', k1⟩ := k1
        obtain ⟨at', nu', went', w', ways', k2, k5⟩ := k2
        rw [k1, k2, ob7_s, nI_1, bnd_s, if_pos rfl, m_fails]
        unfold f_X9_readInto_282
        rw [nI_1, bnd_s, x_fails]
        exact Or.inr ⟨fs, _, _, _, _, _, _, _, _, _, _, _, _, _, _, _, _, _, _, _, w', _, by omega, rfl, rfl, k5⟩
      | some r =>
        obtain ⟨b1, b2, b3, b4, b5, dy', cs', cc', ms', mc', ts', ns', ks', ps', k1, X'⟩ := k1
        obtain ⟨st', nu', went', w', ways', k2, M', k5⟩ := k2
        obtain ⟨V', l1, l2⟩ := k3 r rfl
        rw [k1, k2, ob7_s, nI_1, bnd_s, if_neg one_ne, m_blanks T l2, ob2_s]
        unfold f_X9_readInto_282
        rw [nI_1, bnd_s]
        exact RdEnd.fr (ih r.1 (c + 1) (q + 1) (q' + 1) _ _ _ _ _ _ _ _ _ _ _ _ w' _ _ _ _ _ _ _ _ (by omega) l2 (by omega) (by omega) (by omega) (by omega) X' V' M') k5
theorem rd_all (T : TX n b f) (a1 a2 a3 a4 a5 a6 dy cs : Int32) (cc : Nat → Int32) (ms : Int32) (mc : Nat → Int32) (ts ns ks ps at' st nu went : Int32) (w ways : Nat → Int32) :
    RdEnd (f_X9_readInto (nI n) a1 a2 a3 a4 a5 a6 f dy cs cc ms mc ts ns ks ps) (f_X12_read (nI n) at' st nu went w f ways) w := by
  have hn := T.1
  have hp := Nat.zero_le n
  have hs := sk_le (b := b) hp
  have lp := plc_le (b := b) hp
  obtain ⟨w1, ew, hw1⟩ := m_empties (b := 903) (by omega) w
  have ew : f_X12_empties w 903 = some w1 := ew
  have M1 : MD w1 0 tZ gZ := by
    refine ⟨?_, ⟨?_, fun i hi => absurd hi (Nat.not_lt_zero i)⟩, ⟨?_, fun i hi => absurd hi (Nat.not_lt_zero i)⟩, ?_, ?_, ?_, ?_⟩ <;> rw [hw1, if_pos (by omega)] <;> rfl
  have X1 : XD 0 0 cc 0 mc 0 0 0 0 0 tZ gZ := ⟨rfl, rfl, fun i hi => absurd hi (Nat.not_lt_zero i), rfl, fun i hi => absurd hi (Nat.not_lt_zero i), rfl, rfl, rfl, rfl⟩
  have V1 : VD 0 tZ gZ := ⟨VO.zero.1, VO.zero.2.1, VO.zero.2.2.1⟩
  have fr1 : ∀ x, x < 903 → w1 x = w x := fun x hx => by rw [hw1, if_neg (by omega)]
  have eb : f_X12_blanks (nI n) 0 st f = some (nI (sk b n 0), nI (sk b n 0)) := m_blanks T hp st
  have e0 := m_takesWord T hs.2 (nI (sk b n 0))
  rw [sk_sk hn hp] at e0
  have hw : sk b n 0 ≤ wE b n 0 ∧ wE b n 0 ≤ n := rn_le 151 (sk b n 0) hs.2
  have e1 := m_wordOf T hw.1 hw.2
  obtain ⟨v, e2, -, -⟩ := x_next T hp a1 a2 a3
  have e2 : f_X9_next (nI n) a1 a2 a3 0 f = some (nI (sk b n 0), nI (tok b n 0), v, nI (plc b n 0)) := e2
  have h5 := wof_le b (sk b n 0) (wE b n 0)
  have tw := tok_word (b := b) (n := n) (p := 0)
  have em : f_X12_read_20 (nI n) f FU (nI (sk b n 0)) (nI (sk b n 0)) nu went w1 ways 0 1 = f_X12_read_49 (nI n) f (f_X12_read_20 (nI n) f 999999) (nI (sk b n 0)) (nI (sk b n 0)) nu went w1 ways 0 1 := by
    rw [show FU = 999999 + 1 from rfl, f_X12_read_20, if_neg one_ne]
    unfold f_X12_read_39
    by_cases z : nI (sk b n 0) < nI n
    · rw [if_pos z, if_pos rfl]
    · rw [if_neg z, if_pos rfl, if_pos rfl]
  unfold f_X9_readInto f_X12_read
  rw [x_offEmpty, ob7_s, e2, ob4_s, ew, ob1_s, eb, ob2_s, em]
  unfold f_X12_read_49 f_X12_readsItem f_X9_readInto_32 f_X9_readInto_33
  rw [e0, ob2_s, e1, ob1_s]
  by_cases h : wof b (sk b n 0) (wE b n 0) = 1
  · obtain ⟨k, hpl⟩ := tw.1 (by omega)
    rw [h] at k
    have lp3 := lp.2.2 (by omega)
    rw [hpl] at lp3
    obtain ⟨vs, e6, -⟩ := x_stops T hw.2 (nI (sk b n 0)) (nI (3 + 1)) v
    have l2 := plc_le (b := b) hw.2
    have hs2 := sk_le (b := b) hw.2
    unfold f_X12_readsItem_20
    rw [h, k, hpl, if_pos (show nI (3 + 1) = (4 : Int32) from rfl), if_pos (show nI 1 = (1 : Int32) from rfl), if_pos (show (1 : Int32) = 1 from rfl), if_pos (show nI 1 = (1 : Int32) from rfl), m_end T hw.2, e6, ob5_s]
    by_cases z4 : tok b n (wE b n 0) = 3
    · rw [decide_eq_true z4, if_neg (show ¬ b2i true = 0 by decide), if_pos z4, ob7_s, show (0 : Int32) + 1 = nI 1 from rfl, bnd_s, if_neg one_ne, m_blanks T l2.2.1, ob2_s]
      exact RdEnd.fr (rd_loop T 150 (plc b n (wE b n 0)) 1 FU 999999 _ _ _ _ _ _ _ _ _ _ _ _ w1 _ _ _ _ _ _ _ _ (by omega) l2.2.1 (by decide) (by decide) (by omega) (Nat.le_refl _) X1 V1 M1) fr1
    · rw [decide_eq_false z4, if_pos (show b2i false = 0 by decide), if_neg z4, ob7_s, show (0 : Int32) + 1 = nI 1 from rfl, bnd_s, if_pos rfl, show (999999 : Nat) = 999998 + 1 from rfl, m_fails, show FU = 999999 + 1 from rfl, x_fails]
      exact Or.inr ⟨sk b n (wE b n 0), _, _, _, _, _, _, _, _, _, _, _, _, _, _, _, _, _, _, _, w1, _, by omega, rfl, rfl, fr1⟩
  · have k : ¬ tok b n 0 = 4 := fun q => by
      by_cases y : wof b (sk b n 0) (wE b n 0) = 0
      · have := tw.2 y; omega
      · have := (tw.1 y).1; omega
    have h8 := tok_le8 (b := b) (n := n) (p := 0)
    unfold f_X12_readsItem_20
    rw [if_neg (show ¬ nI (tok b n 0) = 4 from fun q => k ((nI_eq (b := 4) (by omega) (by omega)).mp q)), if_neg (show ¬ nI (wof b (sk b n 0) (wE b n 0)) = 1 from fun q => h ((nI_eq (b := 1) (by omega) (by omega)).mp q)), if_neg (show ¬ (1 : Int32) = 0 by decide), ob7_s, show (0 : Int32) + 1 = nI 1 from rfl, bnd_s, if_pos rfl, show (999999 : Nat) = 999998 + 1 from rfl, m_fails, show FU = 999999 + 1 from rfl, x_fails]
    exact Or.inr ⟨sk b n 0, _, _, _, _, _, _, _, _, _, _, _, _, _, _, _, _, _, _, _, w1, _, by omega, rfl, rfl, fr1⟩
theorem RT.tx {tl tx : Int32} {tb xb : Nat → Int32} (R : RT tl tb tx xb) : ∃ n b, tl = nI n ∧ tx = nI n ∧ xb = tb ∧ TX n b tb := by
  obtain ⟨n, hn, h1, h2, h3, h⟩ := R
  refine ⟨n, fun i => (tb i).toNatClampNeg, h1, h2, h3.symm, hn, fun i hi => ?_⟩
  obtain ⟨c, hc, e⟩ := h i hi
  show tb i = nI (tb i).toNatClampNeg ∧ (tb i).toNatClampNeg ≤ 127
  rw [e, nI_clamp (by omega)]
  exact ⟨rfl, hc⟩
theorem c_read_eq {o : Ofc} {tl tx : Int32} {tb xb tc nc kc pc dtc dnc dkc dpc : Nat → Int32} (X : XO dy cs cc ms mc ts tc ns nc ks kc ps pc o) (V : VO o) (M : MO w 0 o) (R : RT tl tb tx xb) (ddy dcs : Int32) (dcc : Nat → Int32) (dms : Int32) (dmc : Nat → Int32) (dts dns dks dps a1 a2 a3 a4 a5 a6 at' st nu went : Int32) (ways : Nat → Int32) :
    ∃ (r : Int32) (o' : Ofc) (dy' cs' : Int32) (cc' : Nat → Int32) (ms' : Int32) (mc' : Nat → Int32) (ts' : Int32) (tc' : Nat → Int32) (ns' : Int32) (nc' : Nat → Int32) (ks' : Int32) (kc' : Nat → Int32) (ps' : Int32) (pc' : Nat → Int32) (edy ecs : Int32) (ecc : Nat → Int32) (ems : Int32) (emc : Nat → Int32) (ets ens eks eps b1 b2 b3 b4 b5 b6 : Int32) (at2 st2 nu2 went2 : Int32) (w' ways2 : Nat → Int32), f_X11_read dy cs cc ms mc ts tc ns nc ks kc ps pc ddy dcs dcc dms dmc dts dtc dns dnc dks dkc dps dpc tl a1 a2 a3 a4 a5 a6 tb = some (r, dy', cs', cc', ms', mc', ts', tc', ns', nc', ks', kc', ps', pc', edy, ecs, ecc, ems, emc, ets, ens, eks, eps, b1, b2, b3, b4, b5, b6) ∧
      f_X12_read tx at' st nu went w xb ways = some (r, at2, st2, nu2, went2, w', ways2) ∧ XO dy' cs' cc' ms' mc' ts' tc' ns' nc' ks' kc' ps' pc' o' ∧ VO o' ∧ MO w' 0 o' ∧ ∀ x, 301 ≤ x → x < 903 → w' x = w x := by
  obtain ⟨n, b, rfl, rfl, rfl, T⟩ := RT.tx R
  unfold f_X11_read
  rcases rd_all T a1 a2 a3 a4 a5 a6 ddy dcs dcc dms dmc dts dns dks dps at' st nu went w ways with ⟨c, b1, b2, b3, b4, b5, b6, dy', cs', cc', ms', mc', ts', ns', ks', ps', d', t', g', at2, st2, nu2, went2, w', ways2, h0, h1, h2, h3, h4, h5, h6⟩ | ⟨fs, b1, b2, b3, b4, b5, b6, dy', cs', cc', ms', mc', ts', ns', ks', ps', at2, st2, nu2, went2, w', ways2, h0, h1, h2, h3⟩
  · obtain ⟨cc2, mc2, tc2, nc2, kc2, pc2, e3, X3⟩ := x_offCopy dy cs cc ms mc ts tc ns nc ks kc ps pc (XD.o h3 dtc dnc dkc dpc) h4.o
    rw [h1, h2, ob16_s, if_neg (nI_pos (by omega)), e3, ob13_s]
    exact ⟨_, _, _, _, _, _, _, _, _, _, _, _, _, _, _, _, _, _, _, _, _, _, _, _, _, _, _, _, _, _, _, _, _, _, w', _, rfl, rfl, X3, h4.o, h5, h6⟩
  · have neg : (-10 : Int32) - nI fs < 0 := by
      have h : ∀ k, k ≤ 150 → (-10 : Int32) - nI k < 0 := by decide +kernel
      exact h fs h0
    rw [h1, h2, ob16_s, if_pos neg]
    exact ⟨_, o, _, _, _, _, _, _, _, _, _, _, _, _, _, _, _, _, _, _, _, _, _, _, _, _, _, _, _, _, _, _, _, _, w', _, rfl, rfl, X, V, MO.fr V M (fun x _ x2 => h3 x (by omega)), fun x _ x2 => h3 x x2⟩
end RE
