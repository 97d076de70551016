/-! ===== the text: tokens, both sides ===== -/
section NX
variable {n : Nat} {b : Nat → Nat} {f : Nat → Int32}
/-- where the token at p begins, its run of letters and of figures -/
abbrev wE (b : Nat → Nat) (n p : Nat) : Nat := rn b n 97 122 151 (sk b n p)
abbrev dE (b : Nat → Nat) (n p : Nat) : Nat := rn b n 48 57 151 (sk b n p)
/-- the number told by the first two of the figures s .. e -/
def nmv (b : Nat → Nat) (s e : Nat) : Nat := if e ≤ s then 0 else if e = s + 1 then b s - 48 else 10 * (b s - 48) + (b (s + 1) - 48)
def tok (b : Nat → Nat) (n p : Nat) : Nat :=
  if sk b n p < n then
    (if 97 ≤ b (sk b n p) ∧ b (sk b n p) ≤ 122 then (if wof b (sk b n p) (wE b n p) = 0 then 1 else 3 + wof b (sk b n p) (wE b n p))
     else if 48 ≤ b (sk b n p) ∧ b (sk b n p) ≤ 57 then (if 2 < dE b n p - sk b n p then 1 else 2)
     else if b (sk b n p) = 59 then 3 else 1)
  else 0
def plc (b : Nat → Nat) (n p : Nat) : Nat :=
  if sk b n p < n then
    (if 97 ≤ b (sk b n p) ∧ b (sk b n p) ≤ 122 then wE b n p
     else if 48 ≤ b (sk b n p) ∧ b (sk b n p) ≤ 57 then dE b n p
     else sk b n p + 1)
  else sk b n p
theorem sk_le {p : Nat} (hp : p ≤ n) : p ≤ sk b n p ∧ sk b n p ≤ n := rn_le 151 p hp
theorem sk_sk {p : Nat} (hn : n ≤ 150) (hp : p ≤ n) : sk b n (sk b n p) = sk b n p := rn_no 151 (rn_stop 151 p (by omega))
theorem dE_sk {p : Nat} (hn : n ≤ 150) (hp : p ≤ n) : dE b n (sk b n p) = dE b n p := by unfold dE; rw [sk_sk hn hp]
theorem wE_lt {p : Nat} (h : sk b n p < n ∧ 97 ≤ b (sk b n p) ∧ b (sk b n p) ≤ 122) : sk b n p < wE b n p ∧ wE b n p ≤ n := by
  have := rn_le (b := b) (n := n) (lo := 97) (hi := 122) 150 (sk b n p + 1) (by omega)
  unfold wE
  rw [rn_yes h]
  omega
theorem dE_lt {p : Nat} (h : sk b n p < n ∧ 48 ≤ b (sk b n p) ∧ b (sk b n p) ≤ 57) : sk b n p < dE b n p ∧ dE b n p ≤ n := by
  have := rn_le (b := b) (n := n) (lo := 48) (hi := 57) 150 (sk b n p + 1) (by omega)
  unfold dE
  rw [rn_yes h]
  omega
theorem x_number (T : TX n b f) {s e : Nat} (hs : s ≤ e) (he : e ≤ n) (hd : ∀ i, s ≤ i → i < e → 48 ≤ b i ∧ b i ≤ 57) : f_X9_numberAt (nI s) (nI e) f = some (nI (nmv b s e)) := by
  have hn := T.1
  unfold f_X9_numberAt nmv
  have e2 : nI s + 2 = nI (s + 2) := nI_add s 2
  have sb : ∀ a c : Nat, 48 ≤ c → c ≤ 127 → ((10 : Int32) * nI a + nI c) - 48 = nI (10 * a + (c - 48)) := fun a c h1 h2 => by
    have e : (10 : Int32) * nI a = nI (10 * a) := pk_mul 10 a
    rw [e, nI_add]
    have : nI (10 * a + c) - nI 48 = nI (10 * a + c - 48) := nI_sub (by omega)
    rw [show 10 * a + (c - 48) = 10 * a + c - 48 by omega]
    exact this
  by_cases z0 : e ≤ s
  · rw [if_pos z0, show FU = 999999 + 1 from rfl, f_X9_numberAt_7, if_pos (nI_le z0 (by omega))]
    rfl
  · obtain ⟨t1, t2⟩ := T.2 s (by omega)
    have d1 := hd s (Nat.le_refl _) (by omega)
    have s1 : ((10 : Int32) * 0 + nI (b s)) - 48 = nI (b s - 48) := by
      have := sb 0 (b s) d1.1 (by omega)
      rw [show 10 * 0 + (b s - 48) = b s - 48 by omega] at this
      exact this
    rw [if_neg z0, show FU = 999998 + 1 + 1 from rfl, f_X9_numberAt_7, if_neg (nI_ge (by omega) (by omega)), e2, if_neg (nI_ge (by omega) (by omega)), cell_in f (by omega) (by omega), ob1_s, t1, s1, bnd_s, nI_1, bnd_s, f_X9_numberAt_7]
    by_cases z1 : e = s + 1
    · rw [if_pos (nI_le (by omega) (by omega)), if_pos z1]
    · obtain ⟨t3, t4⟩ := T.2 (s + 1) (by omega)
      have d2 := hd (s + 1) (by omega) (by omega)
      rw [if_neg (nI_ge (by omega) (by omega)), e2, if_neg (nI_ge (by omega) (by omega)), cell_in f (by omega) (by omega), ob1_s, t3, sb _ _ d2.1 (by omega), bnd_s, nI_1, bnd_s, if_neg z1, show (999998 : Nat) = 999997 + 1 from rfl, f_X9_numberAt_7]
      by_cases z2 : e ≤ s + 1 + 1
      · rw [if_pos (nI_le z2 (by omega))]
      · rw [if_neg (nI_ge (by omega) (by omega)), e2, if_pos (nI_le (by omega) (by omega))]
theorem nmv_le {s e : Nat} (he : s < e) (hd : ∀ i, s ≤ i → i < e → 48 ≤ b i ∧ b i ≤ 57) : nmv b s e ≤ 99 := by
  have d1 := hd s (Nat.le_refl _) he
  unfold nmv
  split
  · omega
  · split
    · omega
    · have d2 := hd (s + 1) (by omega) (by omega)
      omega
/-- the class's next token -/
theorem x_next (T : TX n b f) {p : Nat} (hp : p ≤ n) (a1 a2 a3 : Int32) : ∃ v, f_X9_next (nI n) a1 a2 a3 (nI p) f = some (nI (sk b n p), nI (tok b n p), v, nI (plc b n p)) ∧ (tok b n p = 2 → v = nI (nmv b (sk b n p) (dE b n p))) ∧ (tok b n p = 3 → v = a3) := by
  have hn := T.1
  have hs := sk_le (b := b) hp
  have e1 : f_X9_behind (nI n) (nI p) f 32 32 = some (nI (sk b n p)) := x_behind T (lo := 32) (hi := 32) (by omega) (by omega) hp
  unfold f_X9_next
  rw [e1, ob1_s]
  by_cases z : sk b n p < n
  · obtain ⟨t1, t2⟩ := T.2 (sk b n p) z
    rw [cell_in f (by omega) (by omega), ob1_s, if_pos (nI_lt z (by omega)), t1, x_within, nI_toInt (show b (sk b n p) < 2 ^ 31 by omega), show (97 : Int32).toInt = 97 from rfl, show (122 : Int32).toInt = 122 from rfl, ob1_s]
    unfold tok plc
    rw [if_pos z, if_pos z]
    by_cases y : 97 ≤ b (sk b n p) ∧ b (sk b n p) ≤ 122
    · obtain ⟨l1, l2⟩ := wE_lt ⟨z, y⟩
      have e2 : f_X9_behind (nI n) (nI (sk b n p)) f 97 122 = some (nI (wE b n p)) := x_behind T (lo := 97) (hi := 122) (by omega) (by omega) hs.2
      have w : ∀ k, k < 5 → f_X9_isWord (nI (sk b n p)) (nI (wE b n p)) f k = some (b2i (wdB b (sk b n p) (wE b n p) (wrd k))) := fun k hk => x_isWord T hk (by omega) l2
      rw [if_pos (show (97 : Int) ≤ (b (sk b n p) : Int) ∧ (b (sk b n p) : Int) ≤ 122 by omega), if_neg one_ne, if_pos y, if_pos y, e2, ob1_s, w 0 (by omega), ob1_s]
      unfold f_X9_next_144 wof
      cases wdB b (sk b n p) (wE b n p) (wrd 0) with
      | true => exact ⟨_, rfl, fun h => (by cases h), fun h => (by cases h)⟩
      | false =>
        rw [if_pos (b2i_0.mpr rfl), w 1 (by omega), ob1_s, if_neg Bool.false_ne_true]
        cases wdB b (sk b n p) (wE b n p) (wrd 1) with
        | true => exact ⟨_, rfl, fun h => (by cases h), fun h => (by cases h)⟩
        | false =>
          rw [if_pos (b2i_0.mpr rfl), w 2 (by omega), ob1_s, if_neg Bool.false_ne_true]
          cases wdB b (sk b n p) (wE b n p) (wrd 2) with
          | true => exact ⟨_, rfl, fun h => (by cases h), fun h => (by cases h)⟩
          | false =>
            rw [if_pos (b2i_0.mpr rfl), w 3 (by omega), ob1_s, if_neg Bool.false_ne_true]
            cases wdB b (sk b n p) (wE b n p) (wrd 3) with
            | true => exact ⟨_, rfl, fun h => (by cases h), fun h => (by cases h)⟩
            | false =>
              rw [if_pos (b2i_0.mpr rfl), w 4 (by omega), ob1_s, if_neg Bool.false_ne_true]
              cases wdB b (sk b n p) (wE b n p) (wrd 4) with
              | true => exact ⟨_, rfl, fun h => (by cases h), fun h => (by cases h)⟩
              | false => exact ⟨_, rfl, fun h => (by cases h), fun h => (by cases h)⟩
    · rw [if_neg (show ¬ ((97 : Int) ≤ (b (sk b n p) : Int) ∧ (b (sk b n p) : Int) ≤ 122) by omega), if_pos rfl, if_neg y, if_neg y, x_within, nI_toInt (show b (sk b n p) < 2 ^ 31 by omega), show (48 : Int32).toInt = 48 from rfl, show (57 : Int32).toInt = 57 from rfl, ob1_s]
      by_cases u : 48 ≤ b (sk b n p) ∧ b (sk b n p) ≤ 57
      · obtain ⟨l1, l2⟩ := dE_lt ⟨z, u⟩
        have e2 : f_X9_behind (nI n) (nI (sk b n p)) f 48 57 = some (nI (dE b n p)) := x_behind T (lo := 48) (hi := 57) (by omega) (by omega) hs.2
        have en := x_number T (s := sk b n p) (e := dE b n p) (by omega) l2 (fun i h1 h2 => (rn_in 151 (sk b n p) i h1 h2).2)
        rw [if_pos (show (48 : Int) ≤ (b (sk b n p) : Int) ∧ (b (sk b n p) : Int) ≤ 57 by omega), if_neg one_ne, if_pos u, if_pos u, e2, ob1_s, nI_sub (by omega)]
        unfold f_X9_next_192
        rw [en]
        by_cases v : 2 < dE b n p - sk b n p
        · rw [if_pos (show (2 : Int32) < nI (dE b n p - sk b n p) from nI_lt (a := 2) v (by omega)), if_pos v, ob1_s]
          exact ⟨_, rfl, fun _ => rfl, fun h => (by cases h)⟩
        · rw [if_neg (show ¬ (2 : Int32) < nI (dE b n p - sk b n p) from nI_nlt (a := 2) (by omega) (by omega)), if_neg v, ob1_s]
          exact ⟨_, rfl, fun _ => rfl, fun h => (by cases h)⟩
      · rw [if_neg (show ¬ ((48 : Int) ≤ (b (sk b n p) : Int) ∧ (b (sk b n p) : Int) ≤ 57) by omega), if_pos rfl, if_neg u, if_neg u, nI_1, bnd_s]
        unfold f_X9_next_228
        by_cases v : b (sk b n p) = 59
        · rw [if_pos (show nI (b (sk b n p)) = 59 by rw [v]; rfl), if_pos v]
          exact ⟨_, rfl, fun h => (by cases h), fun _ => rfl⟩
        · rw [if_neg (show ¬ nI (b (sk b n p)) = 59 from fun q => v ((nI_eq (b := 59) (by omega) (by omega)).mp q)), if_neg v]
          exact ⟨_, rfl, fun h => (by cases h), fun h => (by cases h)⟩
  · have es : sk b n p = n := by omega
    have ec : ∃ v, f_X11_cell 150 f (nI (sk b n p)) = some v := by
      rw [es]
      by_cases y : n < 150
      · exact ⟨_, cell_in f y (by omega)⟩
      · unfold f_X11_cell
        rw [if_neg (nI_pos (by omega)), if_pos (nI_le (by omega) (by omega))]
        exact ⟨_, rfl⟩
    obtain ⟨v, ev⟩ := ec
    rw [ev, ob1_s, if_neg (nI_nlt (by omega) (by omega))]
    unfold tok plc
    rw [if_neg z, if_neg z]
    exact ⟨_, rfl, fun h => (by cases h), fun h => (by cases h)⟩
theorem plc_le {p : Nat} (hp : p ≤ n) : p ≤ plc b n p ∧ plc b n p ≤ n ∧ (tok b n p ≠ 0 → p < plc b n p) := by
  have hs := sk_le (b := b) hp
  unfold plc tok
  by_cases z : sk b n p < n
  · rw [if_pos z, if_pos z]
    by_cases y : 97 ≤ b (sk b n p) ∧ b (sk b n p) ≤ 122
    · obtain ⟨l1, l2⟩ := wE_lt ⟨z, y⟩
      rw [if_pos y, if_pos y]
      exact ⟨by omega, l2, fun _ => by omega⟩
    · rw [if_neg y, if_neg y]
      by_cases u : 48 ≤ b (sk b n p) ∧ b (sk b n p) ≤ 57
      · obtain ⟨l1, l2⟩ := dE_lt ⟨z, u⟩
        rw [if_pos u, if_pos u]
        exact ⟨by omega, l2, fun _ => by omega⟩
      · rw [if_neg u, if_neg u]
        exact ⟨by omega, by omega, fun _ => by omega⟩
  · rw [if_neg z, if_neg z]
    exact ⟨hs.1, hs.2, fun h => absurd rfl h⟩
/-- a number within bounds stands at p -/
def nok (b : Nat → Nat) (n p : Nat) (lo hi : Int32) : Bool := decide (tok b n p = 2 ∧ lo.toInt ≤ (nmv b (sk b n p) (dE b n p) : Int) ∧ (nmv b (sk b n p) (dE b n p) : Int) ≤ hi.toInt)
theorem tok2 {p : Nat} : tok b n p = 2 ↔ (sk b n p < n ∧ 48 ≤ b (sk b n p) ∧ b (sk b n p) ≤ 57 ∧ dE b n p - sk b n p ≤ 2) := by
  unfold tok
  by_cases z : sk b n p < n
  · rw [if_pos z]
    by_cases y : 97 ≤ b (sk b n p) ∧ b (sk b n p) ≤ 122
    · rw [if_pos y]
      constructor
      · intro h
        split at h
        · cases h
        · omega
      · intro h; omega
    · rw [if_neg y]
      by_cases u : 48 ≤ b (sk b n p) ∧ b (sk b n p) ≤ 57
      · rw [if_pos u]
        by_cases v : 2 < dE b n p - sk b n p
        · rw [if_pos v]
          exact ⟨fun h => (by cases h), fun h => by omega⟩
        · rw [if_neg v]
          exact ⟨fun _ => ⟨z, u.1, u.2, by omega⟩, fun _ => rfl⟩
      · rw [if_neg u]
        constructor
        · intro h
          split at h <;> cases h
        · intro h; exact absurd ⟨h.2.1, h.2.2.1⟩ u
  · rw [if_neg z]
    exact ⟨fun h => (by cases h), fun h => absurd h.1 z⟩
theorem num_le {p : Nat} (h : tok b n p = 2) : nmv b (sk b n p) (dE b n p) ≤ 99 := by
  have h2 := tok2.mp h
  obtain ⟨l1, l2⟩ := dE_lt ⟨h2.1, h2.2.1, h2.2.2.1⟩
  exact nmv_le l1 (fun i h1 h2 => (rn_in 151 (sk b n p) i h1 h2).2)
theorem x_readNumber (T : TX n b f) {p : Nat} (hp : p ≤ n) (a1 a2 a3 lo hi : Int32) : ∃ v, f_X9_readNumber (nI n) a1 a2 a3 (nI p) f lo hi = some (b2i (nok b n p lo hi), nI (sk b n p), nI (tok b n p), v, nI (plc b n p)) ∧ (nok b n p lo hi = true → v = nI (nmv b (sk b n p) (dE b n p))) := by
  obtain ⟨v, e1, e2, e3⟩ := x_next T hp a1 a2 a3
  unfold f_X9_readNumber
  have ht : tok b n p ≤ 8 := by
    have := wof_le b (sk b n p) (wE b n p)
    unfold tok
    split
    · split
      · split <;> omega
      · split
        · split <;> omega
        · split <;> omega
    · omega
  rw [e1, ob4_s]
  by_cases z : tok b n p = 2
  · have hn := num_le z
    have ev := e2 z
    rw [if_pos (show nI (tok b n p) = 2 by rw [z]; rfl), x_within, ev, nI_toInt (show nmv b (sk b n p) (dE b n p) < 2 ^ 31 by omega), ob1_s]
    unfold nok
    by_cases y : lo.toInt ≤ (nmv b (sk b n p) (dE b n p) : Int) ∧ (nmv b (sk b n p) (dE b n p) : Int) ≤ hi.toInt
    · rw [if_pos y, if_neg one_ne, decide_eq_true ⟨z, y⟩]
      exact ⟨_, rfl, fun _ => rfl⟩
    · rw [if_neg y, if_pos rfl, decide_eq_false (fun q => y q.2)]
      exact ⟨_, rfl, fun h => absurd h Bool.false_ne_true⟩
  · rw [if_neg (show ¬ nI (tok b n p) = 2 from fun q => z ((nI_eq (b := 2) (by omega) (by omega)).mp q))]
    unfold nok
    rw [decide_eq_false (fun q => z q.1)]
    exact ⟨_, rfl, fun h => absurd h Bool.false_ne_true⟩
theorem x_stops (T : TX n b f) {p : Nat} (hp : p ≤ n) (a1 a2 a3 : Int32) : ∃ v, f_X9_stops (nI n) a1 a2 a3 (nI p) f = some (b2i (decide (tok b n p = 3)), nI (sk b n p), nI (tok b n p), v, nI (plc b n p)) ∧ (tok b n p = 3 → v = a3) := by
  obtain ⟨v, e1, e2, e3⟩ := x_next T hp a1 a2 a3
  unfold f_X9_stops
  have ht : tok b n p ≤ 8 := by
    have := wof_le b (sk b n p) (wE b n p)
    unfold tok
    split
    · split
      · split <;> omega
      · split
        · split <;> omega
        · split <;> omega
    · omega
  rw [e1, ob4_s]
  by_cases z : tok b n p = 3
  · rw [if_pos (show nI (tok b n p) = 3 by rw [z]; rfl), decide_eq_true z]
    exact ⟨_, rfl, e3⟩
  · rw [if_neg (show ¬ nI (tok b n p) = 3 from fun q => z ((nI_eq (b := 3) (by omega) (by omega)).mp q)), decide_eq_false z]
    exact ⟨_, rfl, e3⟩
/-! the reference -/
theorem m_num_go (T : TX n b f) {s : Nat} (v1 v2 : Int32) : ∀ (e p q g : Nat), p + e = n → e < q → e < g → s ≤ p → (∀ i, s ≤ i → i < p → 48 ≤ b i ∧ b i ≤ 57) → f_X12_takesNumber_9 (nI n) f q (nI p) (nI s) (nI (nmv b s p)) v1 v2 = f_X12_takesNumber_86 (nI n) f (nI (rn b n 48 57 g p)) (nI s) (nI (nmv b s (rn b n 48 57 g p))) v1 v2 := by
  have hn := T.1
  intro e
  induction e with
  | zero =>
    intro p q g hp hq hg hs hd
    obtain ⟨q, rfl⟩ : ∃ q', q = q' + 1 := ⟨q - 1, by omega⟩
    obtain rfl : p = n := by omega
    rw [f_X12_takesNumber_9, m_byteN hn (Nat.le_refl _) (by omega), ob1_s, m_in, if_neg (by decide), ob1_s, if_pos rfl, rn_no g (by omega)]
  | succ e ih =>
    intro p q g hp hq hg hs hd
    obtain ⟨q, rfl⟩ : ∃ q', q = q' + 1 := ⟨q - 1, by omega⟩
    obtain ⟨g, rfl⟩ : ∃ g', g = g' + 1 := ⟨g - 1, by omega⟩
    obtain ⟨t1, t2⟩ := T.2 p (by omega)
    rw [f_X12_takesNumber_9, m_byte T (by omega), ob1_s, m_in, nI_toInt (show b p < 2 ^ 31 by omega), show (48 : Int64).toInt = 48 from rfl, show (57 : Int64).toInt = 57 from rfl, ob1_s]
    by_cases z : 48 ≤ b p ∧ b p ≤ 57
    · have hd2 : ∀ i, s ≤ i → i < p + 1 → 48 ≤ b i ∧ b i ≤ 57 := fun i h1 h2 => by
        rcases Nat.lt_or_ge i p with y | y
        · exact hd i h1 y
        · obtain rfl : i = p := by omega
          exact z
      rw [if_pos (show (48 : Int) ≤ (b p : Int) ∧ (b p : Int) ≤ 57 by omega), if_neg one_ne, nI_sub hs, rn_yes ⟨by omega, z⟩]
      unfold f_X12_takesNumber_70
      by_cases y : 2 ≤ p - s
      · have ev : nmv b s (p + 1) = nmv b s p := by
          unfold nmv
          rw [if_neg (show ¬ p + 1 ≤ s by omega), if_neg (show ¬ p + 1 = s + 1 by omega), if_neg (show ¬ p ≤ s by omega), if_neg (show ¬ p = s + 1 by omega)]
        rw [if_pos (show (2 : Int32) ≤ nI (p - s) from nI_le (a := 2) y (by omega)), nI_1, bnd_s, ← ev]
        exact ih (p + 1) q g (by omega) (by omega) (by omega) (by omega) hd2
      · have ev : ((10 : Int32) * nI (nmv b s p) + nI (b p)) - 48 = nI (nmv b s (p + 1)) := by
          have e10 : (10 : Int32) * nI (nmv b s p) = nI (10 * nmv b s p) := pk_mul 10 _
          have e48 : nI (10 * nmv b s p + b p) - nI 48 = nI (10 * nmv b s p + b p - 48) := nI_sub (by omega)
          have ex : nmv b s (p + 1) = 10 * nmv b s p + b p - 48 := by
            unfold nmv
            rw [if_neg (show ¬ p + 1 ≤ s by omega)]
            by_cases u : p = s
            · rw [if_pos (show p + 1 = s + 1 by omega), if_pos (show p ≤ s by omega), u]; omega
            · have hs1 : p = s + 1 := by omega
              have d1 := hd s (Nat.le_refl _) (by omega)
              rw [if_neg (show ¬ p + 1 = s + 1 by omega), if_neg (show ¬ p ≤ s by omega), if_pos hs1, hs1]
              rw [hs1] at z
              omega
          rw [e10, nI_add, ex]
          exact e48
        rw [if_neg (show ¬ (2 : Int32) ≤ nI (p - s) from nI_ge (b := 2) (by omega) (by omega)), ob1_s, ev, nI_1, bnd_s]
        exact ih (p + 1) q g (by omega) (by omega) (by omega) (by omega) hd2
    · rw [if_neg (show ¬ ((48 : Int) ≤ (b p : Int) ∧ (b p : Int) ≤ 57) by omega), if_pos rfl, rn_no (g + 1) (fun q => z q.2)]
theorem m_takesNumber (T : TX n b f) {p : Nat} (hp : p ≤ n) (a1 a2 lo hi : Int32) : ∃ v, f_X12_takesNumber (nI n) (nI p) a1 a2 f lo hi = some (b2i (nok b n p lo hi), nI (dE b n p), nI (sk b n p), v) ∧ (nok b n p lo hi = true → v = nI (nmv b (sk b n p) (dE b n p)) ∧ dE b n p = plc b n p) := by
  have hn := T.1
  have hs := sk_le (b := b) hp
  have hd : sk b n p ≤ dE b n p ∧ dE b n p ≤ n := rn_le 151 (sk b n p) hs.2
  unfold f_X12_takesNumber
  have e0 : nmv b (sk b n p) (sk b n p) = 0 := if_pos (Nat.le_refl _)
  have e1 := m_num_go T (s := sk b n p) lo hi (n - sk b n p) (sk b n p) FU 151 (by omega) (Nat.lt_of_le_of_lt (show n - sk b n p ≤ 150 by omega) (by decide)) (by omega) (Nat.le_refl _) (fun i h1 h2 => by omega)
  rw [e0] at e1
  have e1 : f_X12_takesNumber_9 (nI n) f FU (nI (sk b n p)) (nI (sk b n p)) 0 lo hi = f_X12_takesNumber_86 (nI n) f (nI (dE b n p)) (nI (sk b n p)) (nI (nmv b (sk b n p) (dE b n p))) lo hi := e1
  rw [m_blanks T hp, ob2_s, e1]
  unfold f_X12_takesNumber_86
  have hdig : ∀ i, sk b n p ≤ i → i < dE b n p → 48 ≤ b i ∧ b i ≤ 57 := fun i h1 h2 => (rn_in 151 (sk b n p) i h1 h2).2
  rw [nI_sub hd.1, m_in, nI_toInt (show dE b n p - sk b n p < 2 ^ 31 by omega), show (1 : Int64).toInt = 1 from rfl, show (2 : Int64).toInt = 2 from rfl, ob1_s]
  by_cases z : sk b n p < dE b n p ∧ dE b n p - sk b n p ≤ 2
  · have h0 := hdig (sk b n p) (Nat.le_refl _) z.1
    have ht : tok b n p = 2 := tok2.mpr ⟨by omega, h0.1, h0.2, z.2⟩
    have hnv := num_le ht
    rw [if_pos (show (1 : Int) ≤ ((dE b n p - sk b n p : Nat) : Int) ∧ ((dE b n p - sk b n p : Nat) : Int) ≤ 2 by omega), if_neg one_ne, m_in, nI_toInt (show nmv b (sk b n p) (dE b n p) < 2 ^ 31 by omega), Int32.toInt_toInt64, Int32.toInt_toInt64, ob1_s]
    have ep : dE b n p = plc b n p := by
      unfold plc
      rw [if_pos (show sk b n p < n by omega), if_neg (show ¬ (97 ≤ b (sk b n p) ∧ b (sk b n p) ≤ 122) by omega), if_pos h0]
    unfold nok
    by_cases y : lo.toInt ≤ (nmv b (sk b n p) (dE b n p) : Int) ∧ (nmv b (sk b n p) (dE b n p) : Int) ≤ hi.toInt
    · rw [if_pos y, if_neg one_ne, decide_eq_true ⟨ht, y⟩]
      exact ⟨_, rfl, fun _ => ⟨rfl, ep⟩⟩
    · rw [if_neg y, if_pos rfl, decide_eq_false (fun q => y q.2)]
      exact ⟨_, rfl, fun h => absurd h Bool.false_ne_true⟩
  · have ht : ¬ tok b n p = 2 := fun q => by
      have h2 := tok2.mp q
      obtain ⟨l1, l2⟩ := dE_lt ⟨h2.1, h2.2.1, h2.2.2.1⟩
      exact z ⟨l1, h2.2.2.2⟩
    rw [if_neg (show ¬ ((1 : Int) ≤ ((dE b n p - sk b n p : Nat) : Int) ∧ ((dE b n p - sk b n p : Nat) : Int) ≤ 2) by omega), if_pos rfl]
    unfold nok
    rw [decide_eq_false (fun q => ht q.1)]
    exact ⟨_, rfl, fun h => absurd h Bool.false_ne_true⟩
theorem tok3 {p : Nat} : tok b n p = 3 ↔ (sk b n p < n ∧ b (sk b n p) = 59) := by
  unfold tok
  by_cases z : sk b n p < n
  · rw [if_pos z]
    by_cases y : 97 ≤ b (sk b n p) ∧ b (sk b n p) ≤ 122
    · rw [if_pos y]
      constructor
      · intro h
        split at h
        · cases h
        · omega
      · intro h; omega
    · rw [if_neg y]
      by_cases u : 48 ≤ b (sk b n p) ∧ b (sk b n p) ≤ 57
      · rw [if_pos u]
        constructor
        · intro h
          split at h <;> cases h
        · intro h; omega
      · rw [if_neg u]
        by_cases v : b (sk b n p) = 59
        · rw [if_pos v]; exact ⟨fun _ => ⟨z, v⟩, fun _ => rfl⟩
        · rw [if_neg v]; exact ⟨fun h => (by cases h), fun h => absurd h.2 v⟩
  · rw [if_neg z]
    exact ⟨fun h => (by cases h), fun h => absurd h.1 z⟩
theorem m_takesEnd (T : TX n b f) {p : Nat} (hp : p ≤ n) (a1 : Int32) : f_X12_takesEnd (nI n) (nI p) a1 f = some (b2i (decide (tok b n p = 3)), nI (sk b n p + 1), nI (sk b n p)) ∧ (tok b n p = 3 → sk b n p + 1 = plc b n p) := by
  have hn := T.1
  have hs := sk_le (b := b) hp
  unfold f_X12_takesEnd
  rw [m_blanks T hp, ob2_s, nI_1, bnd_s]
  by_cases z : sk b n p < n
  · obtain ⟨t1, t2⟩ := T.2 (sk b n p) z
    rw [m_byte T z, ob1_s]
    by_cases y : b (sk b n p) = 59
    · have ht : tok b n p = 3 := tok3.mpr ⟨z, y⟩
      rw [if_pos (show nI (b (sk b n p)) = 59 by rw [y]; rfl), decide_eq_true ht]
      refine ⟨rfl, fun _ => ?_⟩
      unfold plc
      rw [if_pos z, if_neg (show ¬ (97 ≤ b (sk b n p) ∧ b (sk b n p) ≤ 122) by omega), if_neg (show ¬ (48 ≤ b (sk b n p) ∧ b (sk b n p) ≤ 57) by omega)]
    · have ht : ¬ tok b n p = 3 := fun q => y (tok3.mp q).2
      rw [if_neg (show ¬ nI (b (sk b n p)) = 59 from fun q => y ((nI_eq (b := 59) (by omega) (by omega)).mp q)), decide_eq_false ht]
      exact ⟨rfl, fun h => absurd h ht⟩
  · have ht : ¬ tok b n p = 3 := fun q => z (tok3.mp q).1
    rw [m_byteN hn (by omega) (by omega), ob1_s, if_neg (by decide), decide_eq_false ht]
    exact ⟨rfl, fun h => absurd h ht⟩
/-- a word's token, on both sides -/
theorem tok_word {p : Nat} : (wof b (sk b n p) (wE b n p) ≠ 0 → tok b n p = 3 + wof b (sk b n p) (wE b n p) ∧ plc b n p = wE b n p) ∧ (wof b (sk b n p) (wE b n p) = 0 → tok b n p ≤ 3) := by
  have hne : ¬ (sk b n p < n ∧ 97 ≤ b (sk b n p) ∧ b (sk b n p) ≤ 122) → wof b (sk b n p) (wE b n p) = 0 := fun h => by
    have e : wE b n p = sk b n p := rn_no 151 h
    rw [e, wof_empty]
  constructor
  · intro h
    have hc : sk b n p < n ∧ 97 ≤ b (sk b n p) ∧ b (sk b n p) ≤ 122 := Classical.byContradiction (fun q => h (hne q))
    unfold tok plc
    rw [if_pos hc.1, if_pos hc.2, if_neg h, if_pos hc.1, if_pos hc.2]
    exact ⟨rfl, rfl⟩
  · intro h
    unfold tok
    rw [if_pos h]
    split
    · split
      · omega
      · split
        · split <;> omega
        · split <;> omega
    · omega
end NX
